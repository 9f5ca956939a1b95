/-! functional pictures, and that the bytecode keeps them (c1) -/
def B_X10_gaveEnough_8 (v1 : Int32) (v2 : Int32) (v3 : Int32) : Int32 × St → Option ((Int32 × St) ⊕ ((St) ⊕ (St)))
  | (v4, s) =>
  if (s.1 101) ≤ v4 then
    some (.inr (.inl s))
  else
    (rd s 1014 480 ((v4 * 20) + v1)).bind fun x1 =>
    if x1 = 0 then
      some (.inl ((v4 + 1), s))
    else
      (F_X1_childrenOf v4 v3 v2 s).bind fun r2 =>
      (rd s 104 24 v4).bind fun x3 =>
      (F_X0_spell r2 x3 0 0 s).bind fun s4 =>
      (rd s4 103 24 v4).bind fun x5 =>
      (F_X0_worthOf 4 x5 v3 v2 0 s4).bind fun r6 =>
      (rd r6.2 1015 480 ((v4 * 20) + v1)).bind fun x7 =>
      if r6.1 ≤ x7 then
        some (.inl ((v4 + 1), r6.2))
      else
        some (.inr (.inr r6.2))
def F_X10_gaveEnough_116 (s : St) : Option (Int32 × St) :=
  some (1, s)
def F_X10_gaveEnough_108 (s : St) : Option (Int32 × St) :=
  some (0, s)
def F_X10_gaveEnough_8 (v1 : Int32) (v2 : Int32) (v3 : Int32) (v4 : Int32) (s : St) : Option (Int32 × St) :=
  (lp (B_X10_gaveEnough_8 v1 v2 v3) FU (v4, s)).bind (Sum.elim (fun y => F_X10_gaveEnough_116 y) (fun y => F_X10_gaveEnough_108 y))
def F_X10_gaveEnough (v1 : Int32) (v2 : Int32) (s : St) : Option (Int32 × St) :=
  F_X10_gaveEnough_8 v1 v2 (v2 / 52) 0 s
theorem J_X10_gaveEnough : mj_t 17 99 = 116 ∧ mj_t 32 6 = 38 ∧ mj_t 35 75 = 110 ∧ mj_t 105 5 = 110 ∧ mj_t 113 (-105) = 8 ∧ (0 ≤ ((17 : Nat) : Int) + 99) = True ∧ (0 ≤ ((32 : Nat) : Int) + 6) = True ∧ (0 ≤ ((35 : Nat) : Int) + 75) = True ∧ (0 ≤ ((105 : Nat) : Int) + 5) = True ∧ (0 ≤ ((113 : Nat) : Int) + (-105)) = True := by and_intros <;> first | rfl | exact eq_true (by decide)
def ct_X10_gaveEnough : List (Nat × mj_Cs) := [(124, 0, 4, 1, 0, 0, c_X1_childrenOf), (131, 0, 5, 0, 0, 0, c_X0_spell), (140, 0, 6, 0, 0, 0, c_X0_worthOf)]
theorem L_X10_gaveEnough : mj_lk ct_X10_gaveEnough 124 = some (0, 4, 1, 0, 0, c_X1_childrenOf) ∧ mj_lk ct_X10_gaveEnough 131 = some (0, 5, 0, 0, 0, c_X0_spell) ∧ mj_lk ct_X10_gaveEnough 140 = some (0, 6, 0, 0, 0, c_X0_worthOf) := ⟨rfl, rfl, rfl⟩
set_option maxHeartbeats 4000000 in
set_option maxRecDepth 20000 in
theorem b_X10_gaveEnough_8 {k : Option Value → mj_H → Prop} {G : mj_K} (hG : mj_cl2 cX10_gaveEnough (TbX10 6 ((some FieldType.boolean)) ct_X10_gaveEnough) k G) {v1 : Int32} {v2 : Int32} {v3 : Int32} {P : Int32 × St → Prop} {K : (St) ⊕ (St) → Prop} (hP : ∀ x, P x → G 8 [.ref 45, .int v1, .int v2, .int v3, .int x.1] [] (mkCs x.2) 0 0) (hK0 : ∀ y, K (.inl y) → G 116 [] [] (mkCs y) 0 0) (hK1 : ∀ y, K (.inr y) → G 108 [] [] (mkCs y) 0 0) {v4 : Int32} {s : St} (hw : ok (B_X10_gaveEnough_8 v1 v2 v3 (v4, s)) (Sum.elim P K)) : G 8 [.ref 45, .int v1, .int v2, .int v3, .int v4] [] (mkCs s) 0 0 := by
  unfold B_X10_gaveEnough_8 at hw
  refine mj_run hG.1 (fun pc => pc == 8 || pc == 53 || pc == 68 || pc == 89 || pc == 108 || pc == 116) 4000 ?_
  simp only [mj_step, mj_W_s, mj_fin, List.getElem?_cons_zero, List.getElem?_cons_succ, mj_go, Nat.reduceAdd, Nat.reduceSub, Nat.reduceLT, Nat.reduceLeDiff, Nat.zero_add, Nat.reduceEqDiff, Nat.reduceBEq, ↓reduceIte, Bool.false_eq_true, List.append_nil, List.nil_append, List.cons_append, Option.toList, and_true, true_and, true_or, or_true, reduceCtorEq, List.map_nil, bI_eq0, bI_eq1, bool_ft, pk_us, vnar0, vnar1, Bool.or_false, Bool.or_true, Bool.false_or, Bool.true_or, mj_kne, eq_self, Int32.reduceLT, Int32.reduceLE, Int32.reduceAdd, Int32.reduceSub, Int32.reduceMul, not_true_eq_false, not_false_eq_true, false_implies, true_implies, D_X10_gaveEnough_0, D_X10_gaveEnough_1, mj_F_aload_n_k, mj_F_baload, mj_F_bipush_n, mj_F_getfield_i, mj_F_goto_off, mj_F_iadd, mj_F_iaload, mj_F_iconst_n, mj_F_idiv, mj_F_ifCond_ne_off, mj_F_if_icmp_ge_off, mj_F_iinc_k_n, mj_F_iload_k, mj_F_iload_n_k, mj_F_imul, mj_F_invokevirtual_i, mj_F_ireturn, mj_F_istore_k, mj_F_istore_n_k, mj_set, mj_set0, mj_unk, mj_c2, mj_kc, FT_X10, L_X10_gaveEnough, List.take_succ_cons, List.take_zero, List.drop_succ_cons, List.drop_zero, List.reverse_cons, List.reverse_nil, List.length_cons, List.length_nil, gS_C45, gCf10_2, gS_C20, gCf1_1, gCf10_14, gS_C53, sS_Ca_53, gCf10_1, gCf1_4, gS_C23, sS_Ca_23, gCf1_3, gS_C22, sS_Ca_22, gCf10_15, gS_C54, sS_Ca_54, gS_C11, J_X10_gaveEnough]
  refine ⟨fun c => ?_, fun c => ?_⟩
  · replace hw := ok_t hw c
    exact hG.2 _ _ _ _ _ _ _ _ _ (by exact trivial) (Nat.zero_le _) (Nat.zero_le _) (hK0 _ (ok_some hw :) :)
  · replace hw := ok_f hw c
    refine ⟨(ok_rd hw).1, ?_⟩
    replace hw := (ok_rd hw).2
    refine ⟨fun c => ?_, fun c => ?_⟩
    · replace hw := ok_f hw c
      refine c_X1_childrenOf_in (ok_imp (ok_bind hw) ?_)
      intro p hw
      simp only [Option.toList, List.nil_append, List.cons_append, Nat.reduceSub]
      refine mj_run hG.1 (fun pc => pc == 8 || pc == 53 || pc == 68 || pc == 89 || pc == 108 || pc == 116) 4000 ?_
      simp only [mj_step, mj_W_s, mj_fin, List.getElem?_cons_zero, List.getElem?_cons_succ, mj_go, Nat.reduceAdd, Nat.reduceSub, Nat.reduceLT, Nat.reduceLeDiff, Nat.zero_add, Nat.reduceEqDiff, Nat.reduceBEq, ↓reduceIte, Bool.false_eq_true, List.append_nil, List.nil_append, List.cons_append, Option.toList, and_true, true_and, true_or, or_true, reduceCtorEq, List.map_nil, bI_eq0, bI_eq1, bool_ft, pk_us, vnar0, vnar1, Bool.or_false, Bool.or_true, Bool.false_or, Bool.true_or, mj_kne, eq_self, Int32.reduceLT, Int32.reduceLE, Int32.reduceAdd, Int32.reduceSub, Int32.reduceMul, not_true_eq_false, not_false_eq_true, false_implies, true_implies, D_X10_gaveEnough_0, D_X10_gaveEnough_1, mj_F_aload_n_k, mj_F_baload, mj_F_bipush_n, mj_F_getfield_i, mj_F_goto_off, mj_F_iadd, mj_F_iaload, mj_F_iconst_n, mj_F_idiv, mj_F_ifCond_ne_off, mj_F_if_icmp_ge_off, mj_F_iinc_k_n, mj_F_iload_k, mj_F_iload_n_k, mj_F_imul, mj_F_invokevirtual_i, mj_F_ireturn, mj_F_istore_k, mj_F_istore_n_k, mj_set, mj_set0, mj_unk, mj_c2, mj_kc, FT_X10, L_X10_gaveEnough, List.take_succ_cons, List.take_zero, List.drop_succ_cons, List.drop_zero, List.reverse_cons, List.reverse_nil, List.length_cons, List.length_nil, gS_C45, gCf10_2, gS_C20, gCf1_1, gCf10_14, gS_C53, sS_Ca_53, gCf10_1, gCf1_4, gS_C23, sS_Ca_23, gCf1_3, gS_C22, sS_Ca_22, gCf10_15, gS_C54, sS_Ca_54, gS_C11, J_X10_gaveEnough]
      refine ⟨(ok_rd hw).1, ?_⟩
      replace hw := (ok_rd hw).2
      refine c_X0_spell_in (ok_imp (ok_bind hw) ?_)
      intro p hw
      simp only [Option.toList, List.nil_append, List.cons_append, Nat.reduceSub]
      refine mj_run hG.1 (fun pc => pc == 8 || pc == 53 || pc == 68 || pc == 89 || pc == 108 || pc == 116) 4000 ?_
      simp only [mj_step, mj_W_s, mj_fin, List.getElem?_cons_zero, List.getElem?_cons_succ, mj_go, Nat.reduceAdd, Nat.reduceSub, Nat.reduceLT, Nat.reduceLeDiff, Nat.zero_add, Nat.reduceEqDiff, Nat.reduceBEq, ↓reduceIte, Bool.false_eq_true, List.append_nil, List.nil_append, List.cons_append, Option.toList, and_true, true_and, true_or, or_true, reduceCtorEq, List.map_nil, bI_eq0, bI_eq1, bool_ft, pk_us, vnar0, vnar1, Bool.or_false, Bool.or_true, Bool.false_or, Bool.true_or, mj_kne, eq_self, Int32.reduceLT, Int32.reduceLE, Int32.reduceAdd, Int32.reduceSub, Int32.reduceMul, not_true_eq_false, not_false_eq_true, false_implies, true_implies, D_X10_gaveEnough_0, D_X10_gaveEnough_1, mj_F_aload_n_k, mj_F_baload, mj_F_bipush_n, mj_F_getfield_i, mj_F_goto_off, mj_F_iadd, mj_F_iaload, mj_F_iconst_n, mj_F_idiv, mj_F_ifCond_ne_off, mj_F_if_icmp_ge_off, mj_F_iinc_k_n, mj_F_iload_k, mj_F_iload_n_k, mj_F_imul, mj_F_invokevirtual_i, mj_F_ireturn, mj_F_istore_k, mj_F_istore_n_k, mj_set, mj_set0, mj_unk, mj_c2, mj_kc, FT_X10, L_X10_gaveEnough, List.take_succ_cons, List.take_zero, List.drop_succ_cons, List.drop_zero, List.reverse_cons, List.reverse_nil, List.length_cons, List.length_nil, gS_C45, gCf10_2, gS_C20, gCf1_1, gCf10_14, gS_C53, sS_Ca_53, gCf10_1, gCf1_4, gS_C23, sS_Ca_23, gCf1_3, gS_C22, sS_Ca_22, gCf10_15, gS_C54, sS_Ca_54, gS_C11, J_X10_gaveEnough]
      refine ⟨(ok_rd hw).1, ?_⟩
      replace hw := (ok_rd hw).2
      refine c_X0_worthOf_in (ok_imp (ok_bind hw) ?_)
      intro p hw
      simp only [Option.toList, List.nil_append, List.cons_append, Nat.reduceSub]
      refine mj_run hG.1 (fun pc => pc == 8 || pc == 53 || pc == 68 || pc == 89 || pc == 108 || pc == 116) 4000 ?_
      simp only [mj_step, mj_W_s, mj_fin, List.getElem?_cons_zero, List.getElem?_cons_succ, mj_go, Nat.reduceAdd, Nat.reduceSub, Nat.reduceLT, Nat.reduceLeDiff, Nat.zero_add, Nat.reduceEqDiff, Nat.reduceBEq, ↓reduceIte, Bool.false_eq_true, List.append_nil, List.nil_append, List.cons_append, Option.toList, and_true, true_and, true_or, or_true, reduceCtorEq, List.map_nil, bI_eq0, bI_eq1, bool_ft, pk_us, vnar0, vnar1, Bool.or_false, Bool.or_true, Bool.false_or, Bool.true_or, mj_kne, eq_self, Int32.reduceLT, Int32.reduceLE, Int32.reduceAdd, Int32.reduceSub, Int32.reduceMul, not_true_eq_false, not_false_eq_true, false_implies, true_implies, D_X10_gaveEnough_0, D_X10_gaveEnough_1, mj_F_aload_n_k, mj_F_baload, mj_F_bipush_n, mj_F_getfield_i, mj_F_goto_off, mj_F_iadd, mj_F_iaload, mj_F_iconst_n, mj_F_idiv, mj_F_ifCond_ne_off, mj_F_if_icmp_ge_off, mj_F_iinc_k_n, mj_F_iload_k, mj_F_iload_n_k, mj_F_imul, mj_F_invokevirtual_i, mj_F_ireturn, mj_F_istore_k, mj_F_istore_n_k, mj_set, mj_set0, mj_unk, mj_c2, mj_kc, FT_X10, L_X10_gaveEnough, List.take_succ_cons, List.take_zero, List.drop_succ_cons, List.drop_zero, List.reverse_cons, List.reverse_nil, List.length_cons, List.length_nil, gS_C45, gCf10_2, gS_C20, gCf1_1, gCf10_14, gS_C53, sS_Ca_53, gCf10_1, gCf1_4, gS_C23, sS_Ca_23, gCf1_3, gS_C22, sS_Ca_22, gCf10_15, gS_C54, sS_Ca_54, gS_C11, J_X10_gaveEnough]
      refine ⟨(ok_rd hw).1, ?_⟩
      replace hw := (ok_rd hw).2
      refine ⟨fun c => ?_, fun c => ?_⟩
      · replace hw := ok_t hw c
        exact hG.2 _ _ _ _ _ _ _ _ _ (by refine ⟨Or.inr rfl, ?_⟩; refine ⟨Or.inr rfl, ?_⟩; refine ⟨Or.inr rfl, ?_⟩; refine ⟨Or.inr rfl, ?_⟩; refine ⟨Or.inr rfl, ?_⟩; exact trivial) (Nat.zero_le _) (Nat.zero_le _) (hP _ (ok_some hw :) :)
      · replace hw := ok_f hw c
        exact hG.2 _ _ _ _ _ _ _ _ _ (by exact trivial) (Nat.zero_le _) (Nat.zero_le _) (hK1 _ (ok_some hw :) :)
    · replace hw := ok_t hw c
      exact hG.2 _ _ _ _ _ _ _ _ _ (by refine ⟨Or.inr rfl, ?_⟩; refine ⟨Or.inr rfl, ?_⟩; refine ⟨Or.inr rfl, ?_⟩; refine ⟨Or.inr rfl, ?_⟩; refine ⟨Or.inr rfl, ?_⟩; exact trivial) (Nat.zero_le _) (Nat.zero_le _) (hP _ (ok_some hw :) :)

set_option maxHeartbeats 4000000 in
set_option maxRecDepth 20000 in
theorem g_X10_gaveEnough_116 {k : Option Value → mj_H → Prop} {G : mj_K} (hG : mj_cl2 cX10_gaveEnough (TbX10 6 ((some FieldType.boolean)) ct_X10_gaveEnough) k G)   {s : St} (hw : ok (F_X10_gaveEnough_116 s) (fun p => k (some (.int p.1)) (mkCs p.2))) : G 116 [] [] (mkCs s) 0 0 := by
  unfold F_X10_gaveEnough_116 at hw
  refine mj_run hG.1 (fun pc => pc == 8 || pc == 53 || pc == 68 || pc == 89 || pc == 108 || pc == 116) 4000 ?_
  simp only [mj_step, mj_W_s, mj_fin, List.getElem?_cons_zero, List.getElem?_cons_succ, mj_go, Nat.reduceAdd, Nat.reduceSub, Nat.reduceLT, Nat.reduceLeDiff, Nat.zero_add, Nat.reduceEqDiff, Nat.reduceBEq, ↓reduceIte, Bool.false_eq_true, List.append_nil, List.nil_append, List.cons_append, Option.toList, and_true, true_and, true_or, or_true, reduceCtorEq, List.map_nil, bI_eq0, bI_eq1, bool_ft, pk_us, vnar0, vnar1, Bool.or_false, Bool.or_true, Bool.false_or, Bool.true_or, mj_kne, eq_self, Int32.reduceLT, Int32.reduceLE, Int32.reduceAdd, Int32.reduceSub, Int32.reduceMul, not_true_eq_false, not_false_eq_true, false_implies, true_implies, D_X10_gaveEnough_0, D_X10_gaveEnough_1, mj_F_aload_n_k, mj_F_baload, mj_F_bipush_n, mj_F_getfield_i, mj_F_goto_off, mj_F_iadd, mj_F_iaload, mj_F_iconst_n, mj_F_idiv, mj_F_ifCond_ne_off, mj_F_if_icmp_ge_off, mj_F_iinc_k_n, mj_F_iload_k, mj_F_iload_n_k, mj_F_imul, mj_F_invokevirtual_i, mj_F_ireturn, mj_F_istore_k, mj_F_istore_n_k, mj_set, mj_set0, mj_unk, mj_c2, mj_kc, FT_X10, L_X10_gaveEnough, List.take_succ_cons, List.take_zero, List.drop_succ_cons, List.drop_zero, List.reverse_cons, List.reverse_nil, List.length_cons, List.length_nil, gS_C45, gCf10_2, gS_C20, gCf1_1, gCf10_14, gS_C53, sS_Ca_53, gCf10_1, gCf1_4, gS_C23, sS_Ca_23, gCf1_3, gS_C22, sS_Ca_22, gCf10_15, gS_C54, sS_Ca_54, gS_C11, J_X10_gaveEnough]
  exact (ok_some hw :)

set_option maxHeartbeats 4000000 in
set_option maxRecDepth 20000 in
theorem g_X10_gaveEnough_108 {k : Option Value → mj_H → Prop} {G : mj_K} (hG : mj_cl2 cX10_gaveEnough (TbX10 6 ((some FieldType.boolean)) ct_X10_gaveEnough) k G)   {s : St} (hw : ok (F_X10_gaveEnough_108 s) (fun p => k (some (.int p.1)) (mkCs p.2))) : G 108 [] [] (mkCs s) 0 0 := by
  unfold F_X10_gaveEnough_108 at hw
  refine mj_run hG.1 (fun pc => pc == 8 || pc == 53 || pc == 68 || pc == 89 || pc == 108 || pc == 116) 4000 ?_
  simp only [mj_step, mj_W_s, mj_fin, List.getElem?_cons_zero, List.getElem?_cons_succ, mj_go, Nat.reduceAdd, Nat.reduceSub, Nat.reduceLT, Nat.reduceLeDiff, Nat.zero_add, Nat.reduceEqDiff, Nat.reduceBEq, ↓reduceIte, Bool.false_eq_true, List.append_nil, List.nil_append, List.cons_append, Option.toList, and_true, true_and, true_or, or_true, reduceCtorEq, List.map_nil, bI_eq0, bI_eq1, bool_ft, pk_us, vnar0, vnar1, Bool.or_false, Bool.or_true, Bool.false_or, Bool.true_or, mj_kne, eq_self, Int32.reduceLT, Int32.reduceLE, Int32.reduceAdd, Int32.reduceSub, Int32.reduceMul, not_true_eq_false, not_false_eq_true, false_implies, true_implies, D_X10_gaveEnough_0, D_X10_gaveEnough_1, mj_F_aload_n_k, mj_F_baload, mj_F_bipush_n, mj_F_getfield_i, mj_F_goto_off, mj_F_iadd, mj_F_iaload, mj_F_iconst_n, mj_F_idiv, mj_F_ifCond_ne_off, mj_F_if_icmp_ge_off, mj_F_iinc_k_n, mj_F_iload_k, mj_F_iload_n_k, mj_F_imul, mj_F_invokevirtual_i, mj_F_ireturn, mj_F_istore_k, mj_F_istore_n_k, mj_set, mj_set0, mj_unk, mj_c2, mj_kc, FT_X10, L_X10_gaveEnough, List.take_succ_cons, List.take_zero, List.drop_succ_cons, List.drop_zero, List.reverse_cons, List.reverse_nil, List.length_cons, List.length_nil, gS_C45, gCf10_2, gS_C20, gCf1_1, gCf10_14, gS_C53, sS_Ca_53, gCf10_1, gCf1_4, gS_C23, sS_Ca_23, gCf1_3, gS_C22, sS_Ca_22, gCf10_15, gS_C54, sS_Ca_54, gS_C11, J_X10_gaveEnough]
  exact (ok_some hw :)

set_option maxHeartbeats 4000000 in
theorem g_X10_gaveEnough_8 {k : Option Value → mj_H → Prop} {G : mj_K} (hG : mj_cl2 cX10_gaveEnough (TbX10 6 ((some FieldType.boolean)) ct_X10_gaveEnough) k G)   {v1 : Int32} {v2 : Int32} {v3 : Int32} {v4 : Int32} {s : St} (hw : ok (F_X10_gaveEnough_8 v1 v2 v3 v4 s) (fun p => k (some (.int p.1)) (mkCs p.2))) : G 8 [.ref 45, .int v1, .int v2, .int v3, .int v4] [] (mkCs s) 0 0 := by
  unfold F_X10_gaveEnough_8 at hw
  refine lp_ok (B_X10_gaveEnough_8 v1 v2 v3) (fun x => G 8 [.ref 45, .int v1, .int v2, .int v3, .int x.1] [] (mkCs x.2) 0 0) _ ?_ _ _ (ok_bind hw)
  rintro ⟨v4, s⟩ hb
  exact b_X10_gaveEnough_8 hG (fun _ z => z) (fun y hw => by exact hG.2 _ _ _ _ _ _ _ _ _ (by exact trivial) (Nat.zero_le _) (Nat.zero_le _) (g_X10_gaveEnough_116 hG  hw :)) (fun y hw => by exact hG.2 _ _ _ _ _ _ _ _ _ (by exact trivial) (Nat.zero_le _) (Nat.zero_le _) (g_X10_gaveEnough_108 hG  hw :)) hb

set_option maxHeartbeats 4000000 in
set_option maxRecDepth 20000 in
theorem g_X10_gaveEnough {k : Option Value → mj_H → Prop} {G : mj_K} (hG : mj_cl2 cX10_gaveEnough (TbX10 6 ((some FieldType.boolean)) ct_X10_gaveEnough) k G) {v1 : Int32} {v2 : Int32} {s : St} (hw : ok (F_X10_gaveEnough v1 v2 s) (fun p => k (some (.int p.1)) (mkCs p.2))) : G 0 [.ref 45, .int v1, .int v2] [] (mkCs s) 0 0 := by
  unfold F_X10_gaveEnough at hw
  refine mj_run hG.1 (fun pc => pc == 8 || pc == 53 || pc == 68 || pc == 89 || pc == 108 || pc == 116) 4000 ?_
  simp only [mj_step, mj_W_s, mj_fin, List.getElem?_cons_zero, List.getElem?_cons_succ, mj_go, Nat.reduceAdd, Nat.reduceSub, Nat.reduceLT, Nat.reduceLeDiff, Nat.zero_add, Nat.reduceEqDiff, Nat.reduceBEq, ↓reduceIte, Bool.false_eq_true, List.append_nil, List.nil_append, List.cons_append, Option.toList, and_true, true_and, true_or, or_true, reduceCtorEq, List.map_nil, bI_eq0, bI_eq1, bool_ft, pk_us, vnar0, vnar1, Bool.or_false, Bool.or_true, Bool.false_or, Bool.true_or, mj_kne, eq_self, Int32.reduceLT, Int32.reduceLE, Int32.reduceAdd, Int32.reduceSub, Int32.reduceMul, not_true_eq_false, not_false_eq_true, false_implies, true_implies, D_X10_gaveEnough_0, D_X10_gaveEnough_1, mj_F_aload_n_k, mj_F_baload, mj_F_bipush_n, mj_F_getfield_i, mj_F_goto_off, mj_F_iadd, mj_F_iaload, mj_F_iconst_n, mj_F_idiv, mj_F_ifCond_ne_off, mj_F_if_icmp_ge_off, mj_F_iinc_k_n, mj_F_iload_k, mj_F_iload_n_k, mj_F_imul, mj_F_invokevirtual_i, mj_F_ireturn, mj_F_istore_k, mj_F_istore_n_k, mj_set, mj_set0, mj_unk, mj_c2, mj_kc, FT_X10, L_X10_gaveEnough, List.take_succ_cons, List.take_zero, List.drop_succ_cons, List.drop_zero, List.reverse_cons, List.reverse_nil, List.length_cons, List.length_nil, gS_C45, gCf10_2, gS_C20, gCf1_1, gCf10_14, gS_C53, sS_Ca_53, gCf10_1, gCf1_4, gS_C23, sS_Ca_23, gCf1_3, gS_C22, sS_Ca_22, gCf10_15, gS_C54, sS_Ca_54, gS_C11, J_X10_gaveEnough]
  exact hG.2 _ _ _ _ _ _ _ _ _ (by refine ⟨Or.inr rfl, ?_⟩; refine ⟨Or.inr rfl, ?_⟩; refine ⟨Or.inr rfl, ?_⟩; refine ⟨Or.inr rfl, ?_⟩; refine ⟨Or.inr rfl, ?_⟩; exact trivial) (Nat.zero_le _) (Nat.zero_le _) (g_X10_gaveEnough_8 hG  hw :)

def c_X10_gaveEnough : mj_S := fun as h k => ∃ (v1 : Int32) (v2 : Int32) (s : St), as = [.ref 45, .int v1, .int v2] ∧ h = mkCs s ∧ ok (F_X10_gaveEnough v1 v2 s) (fun p => k (some (.int p.1)) (mkCs p.2))
theorem c_X10_gaveEnough_in {v1 : Int32} {v2 : Int32} {s : St} {k : Option Value → mj_H → Prop} (hw : ok (F_X10_gaveEnough v1 v2 s) (fun p => k (some (.int p.1)) (mkCs p.2))) : c_X10_gaveEnough [.ref 45, .int v1, .int v2] (mkCs s) k := ⟨v1, v2, s, rfl, rfl, hw⟩
theorem m_X10_gaveEnough (l : Launch) : mj_Met l yX10_gaveEnough cX10_gaveEnough 6 ((some FieldType.boolean)) 4 0 0 c_X10_gaveEnough := by
  refine mj_body2 false (TbX10 6 ((some FieldType.boolean)) ct_X10_gaveEnough) (by decide) rfl rfl (fun h => nomatch h) (tfX10 _ (List.forall_mem_cons.mpr ⟨cfX10_124 (m_X1_childrenOf l) (by decide), List.forall_mem_cons.mpr ⟨cfX10_131 (m_X0_spell l) (by decide), List.forall_mem_cons.mpr ⟨cfX10_140 (m_X0_worthOf l) (by decide), fun _ h => nomatch h⟩⟩⟩)) ?_
  rintro as h k ⟨v1, v2, s, rfl, rfl, hw⟩
  exact ⟨rfl, fun G hG => g_X10_gaveEnough hG hw⟩
def B_X10_raise_2 (v1 : Int32) : Int32 × St → Option ((Int32 × St) ⊕ ((St)))
  | (v2, s) =>
  if (s.1 501) ≤ v2 then
    some (.inr s)
  else
    (rd s 508 20 v2).bind fun x1 =>
    if x1 = (-1) then
      (F_X10_lowestNeed v2 s).bind fun r2 =>
      if r2 = (-1) then
        (F_X10_gaveEnough v2 v1 s).bind fun r3 =>
        if r3.1 = 0 then
          some (.inl ((v2 + 1), r3.2))
        else
          (wr r3.2 508 20 v2 v1).bind fun s4 =>
          some (.inl ((v2 + 1), s4))
      else
        some (.inl ((v2 + 1), s))
    else
      some (.inl ((v2 + 1), s))
def F_X10_raise_60 (s : St) : Option (St) :=
  some s
def F_X10_raise_2 (v1 : Int32) (v2 : Int32) (s : St) : Option (St) :=
  (lp (B_X10_raise_2 v1) FU (v2, s)).bind (fun y => F_X10_raise_60 y)
def F_X10_raise (v1 : Int32) (s : St) : Option (St) :=
  F_X10_raise_2 v1 0 s
theorem J_X10_raise : mj_t 10 50 = 60 ∧ mj_t 23 31 = 54 ∧ mj_t 32 22 = 54 ∧ mj_t 41 13 = 54 ∧ mj_t 57 (-55) = 2 ∧ (0 ≤ ((10 : Nat) : Int) + 50) = True ∧ (0 ≤ ((23 : Nat) : Int) + 31) = True ∧ (0 ≤ ((32 : Nat) : Int) + 22) = True ∧ (0 ≤ ((41 : Nat) : Int) + 13) = True ∧ (0 ≤ ((57 : Nat) : Int) + (-55)) = True := by and_intros <;> first | rfl | exact eq_true (by decide)
def ct_X10_raise : List (Nat × mj_Cs) := [(95, 0, 2, 10, 0, 0, c_X10_lowestNeed), (99, 0, 3, 10, 0, 0, c_X10_gaveEnough)]
theorem L_X10_raise : mj_lk ct_X10_raise 95 = some (0, 2, 10, 0, 0, c_X10_lowestNeed) ∧ mj_lk ct_X10_raise 99 = some (0, 3, 10, 0, 0, c_X10_gaveEnough) := ⟨rfl, rfl⟩
set_option maxHeartbeats 4000000 in
set_option maxRecDepth 20000 in
theorem b_X10_raise_2 {k : Option Value → mj_H → Prop} {G : mj_K} (hG : mj_cl2 cX10_raise (TbX10 3 (none) ct_X10_raise) k G) {v1 : Int32} {P : Int32 × St → Prop} {K : (St) → Prop} (hP : ∀ x, P x → G 2 [.ref 45, .int v1, .int x.1] [] (mkCs x.2) 0 0) (hK0 : ∀ y, K y → G 60 [] [] (mkCs y) 0 0) {v2 : Int32} {s : St} (hw : ok (B_X10_raise_2 v1 (v2, s)) (Sum.elim P K)) : G 2 [.ref 45, .int v1, .int v2] [] (mkCs s) 0 0 := by
  unfold B_X10_raise_2 at hw
  refine mj_run hG.1 (fun pc => pc == 2 || pc == 31 || pc == 41 || pc == 60) 4000 ?_
  simp only [mj_step, mj_W_s, mj_fin, List.getElem?_cons_zero, List.getElem?_cons_succ, mj_go, Nat.reduceAdd, Nat.reduceSub, Nat.reduceLT, Nat.reduceLeDiff, Nat.zero_add, Nat.reduceEqDiff, Nat.reduceBEq, ↓reduceIte, Bool.false_eq_true, List.append_nil, List.nil_append, List.cons_append, Option.toList, and_true, true_and, true_or, or_true, reduceCtorEq, List.map_nil, bI_eq0, bI_eq1, bool_ft, pk_us, vnar0, vnar1, Bool.or_false, Bool.or_true, Bool.false_or, Bool.true_or, mj_kne, eq_self, Int32.reduceLT, Int32.reduceLE, Int32.reduceAdd, Int32.reduceSub, Int32.reduceMul, not_true_eq_false, not_false_eq_true, false_implies, true_implies, D_X10_raise, mj_F_aload_n_k, mj_F_getfield_i, mj_F_goto_off, mj_F_iaload, mj_F_iastore, mj_F_iconst_n, mj_F_ifCond_eq_off, mj_F_if_icmp_ge_off, mj_F_if_icmp_ne_off, mj_F_iinc_k_n, mj_F_iload_n_k, mj_F_invokevirtual_i, mj_F_istore_n_k, mj_F_return_, mj_set, mj_set0, mj_unk, mj_c2, mj_kc, FT_X10, L_X10_raise, List.take_succ_cons, List.take_zero, List.drop_succ_cons, List.drop_zero, List.reverse_cons, List.reverse_nil, List.length_cons, List.length_nil, gS_C45, gCf10_3, gS_C35, gCf5_1, gCf5_8, gS_C42, sS_Ca_42, J_X10_raise]
  refine ⟨fun c => ?_, fun c => ?_⟩
  · replace hw := ok_t hw c
    exact hG.2 _ _ _ _ _ _ _ _ _ (by exact trivial) (Nat.zero_le _) (Nat.zero_le _) (hK0 _ (ok_some hw :) :)
  · replace hw := ok_f hw c
    refine ⟨(ok_rd hw).1, ?_⟩
    replace hw := (ok_rd hw).2
    refine ⟨fun c => ?_, fun c => ?_⟩
    · replace hw := ok_f hw c
      exact hG.2 _ _ _ _ _ _ _ _ _ (by refine ⟨Or.inr rfl, ?_⟩; refine ⟨Or.inr rfl, ?_⟩; refine ⟨Or.inr rfl, ?_⟩; exact trivial) (Nat.zero_le _) (Nat.zero_le _) (hP _ (ok_some hw :) :)
    · replace hw := ok_t hw c
      refine c_X10_lowestNeed_in (ok_imp (ok_bind hw) ?_)
      intro p hw
      simp only [Option.toList, List.nil_append, List.cons_append, Nat.reduceSub]
      refine mj_run hG.1 (fun pc => pc == 2 || pc == 31 || pc == 41 || pc == 60) 4000 ?_
      simp only [mj_step, mj_W_s, mj_fin, List.getElem?_cons_zero, List.getElem?_cons_succ, mj_go, Nat.reduceAdd, Nat.reduceSub, Nat.reduceLT, Nat.reduceLeDiff, Nat.zero_add, Nat.reduceEqDiff, Nat.reduceBEq, ↓reduceIte, Bool.false_eq_true, List.append_nil, List.nil_append, List.cons_append, Option.toList, and_true, true_and, true_or, or_true, reduceCtorEq, List.map_nil, bI_eq0, bI_eq1, bool_ft, pk_us, vnar0, vnar1, Bool.or_false, Bool.or_true, Bool.false_or, Bool.true_or, mj_kne, eq_self, Int32.reduceLT, Int32.reduceLE, Int32.reduceAdd, Int32.reduceSub, Int32.reduceMul, not_true_eq_false, not_false_eq_true, false_implies, true_implies, D_X10_raise, mj_F_aload_n_k, mj_F_getfield_i, mj_F_goto_off, mj_F_iaload, mj_F_iastore, mj_F_iconst_n, mj_F_ifCond_eq_off, mj_F_if_icmp_ge_off, mj_F_if_icmp_ne_off, mj_F_iinc_k_n, mj_F_iload_n_k, mj_F_invokevirtual_i, mj_F_istore_n_k, mj_F_return_, mj_set, mj_set0, mj_unk, mj_c2, mj_kc, FT_X10, L_X10_raise, List.take_succ_cons, List.take_zero, List.drop_succ_cons, List.drop_zero, List.reverse_cons, List.reverse_nil, List.length_cons, List.length_nil, gS_C45, gCf10_3, gS_C35, gCf5_1, gCf5_8, gS_C42, sS_Ca_42, J_X10_raise]
      refine ⟨fun c => ?_, fun c => ?_⟩
      · replace hw := ok_f hw c
        exact hG.2 _ _ _ _ _ _ _ _ _ (by refine ⟨Or.inr rfl, ?_⟩; refine ⟨Or.inr rfl, ?_⟩; refine ⟨Or.inr rfl, ?_⟩; exact trivial) (Nat.zero_le _) (Nat.zero_le _) (hP _ (ok_some hw :) :)
      · replace hw := ok_t hw c
        refine c_X10_gaveEnough_in (ok_imp (ok_bind hw) ?_)
        intro p hw
        simp only [Option.toList, List.nil_append, List.cons_append, Nat.reduceSub]
        refine mj_run hG.1 (fun pc => pc == 2 || pc == 31 || pc == 41 || pc == 60) 4000 ?_
        simp only [mj_step, mj_W_s, mj_fin, List.getElem?_cons_zero, List.getElem?_cons_succ, mj_go, Nat.reduceAdd, Nat.reduceSub, Nat.reduceLT, Nat.reduceLeDiff, Nat.zero_add, Nat.reduceEqDiff, Nat.reduceBEq, ↓reduceIte, Bool.false_eq_true, List.append_nil, List.nil_append, List.cons_append, Option.toList, and_true, true_and, true_or, or_true, reduceCtorEq, List.map_nil, bI_eq0, bI_eq1, bool_ft, pk_us, vnar0, vnar1, Bool.or_false, Bool.or_true, Bool.false_or, Bool.true_or, mj_kne, eq_self, Int32.reduceLT, Int32.reduceLE, Int32.reduceAdd, Int32.reduceSub, Int32.reduceMul, not_true_eq_false, not_false_eq_true, false_implies, true_implies, D_X10_raise, mj_F_aload_n_k, mj_F_getfield_i, mj_F_goto_off, mj_F_iaload, mj_F_iastore, mj_F_iconst_n, mj_F_ifCond_eq_off, mj_F_if_icmp_ge_off, mj_F_if_icmp_ne_off, mj_F_iinc_k_n, mj_F_iload_n_k, mj_F_invokevirtual_i, mj_F_istore_n_k, mj_F_return_, mj_set, mj_set0, mj_unk, mj_c2, mj_kc, FT_X10, L_X10_raise, List.take_succ_cons, List.take_zero, List.drop_succ_cons, List.drop_zero, List.reverse_cons, List.reverse_nil, List.length_cons, List.length_nil, gS_C45, gCf10_3, gS_C35, gCf5_1, gCf5_8, gS_C42, sS_Ca_42, J_X10_raise]
        refine ⟨fun c => ?_, fun c => ?_⟩
        · replace hw := ok_t hw c
          exact hG.2 _ _ _ _ _ _ _ _ _ (by refine ⟨Or.inr rfl, ?_⟩; refine ⟨Or.inr rfl, ?_⟩; refine ⟨Or.inr rfl, ?_⟩; exact trivial) (Nat.zero_le _) (Nat.zero_le _) (hP _ (ok_some hw :) :)
        · replace hw := ok_f hw c
          refine ⟨(ok_wr hw).1, ?_⟩
          replace hw := (ok_wr hw).2
          exact hG.2 _ _ _ _ _ _ _ _ _ (by refine ⟨Or.inr rfl, ?_⟩; refine ⟨Or.inr rfl, ?_⟩; refine ⟨Or.inr rfl, ?_⟩; exact trivial) (Nat.zero_le _) (Nat.zero_le _) (hP _ (ok_some hw :) :)

set_option maxHeartbeats 4000000 in
set_option maxRecDepth 20000 in
theorem g_X10_raise_60 {k : Option Value → mj_H → Prop} {G : mj_K} (hG : mj_cl2 cX10_raise (TbX10 3 (none) ct_X10_raise) k G)   {s : St} (hw : ok (F_X10_raise_60 s) (fun p => k none (mkCs p))) : G 60 [] [] (mkCs s) 0 0 := by
  unfold F_X10_raise_60 at hw
  refine mj_run hG.1 (fun pc => pc == 2 || pc == 31 || pc == 41 || pc == 60) 4000 ?_
  simp only [mj_step, mj_W_s, mj_fin, List.getElem?_cons_zero, List.getElem?_cons_succ, mj_go, Nat.reduceAdd, Nat.reduceSub, Nat.reduceLT, Nat.reduceLeDiff, Nat.zero_add, Nat.reduceEqDiff, Nat.reduceBEq, ↓reduceIte, Bool.false_eq_true, List.append_nil, List.nil_append, List.cons_append, Option.toList, and_true, true_and, true_or, or_true, reduceCtorEq, List.map_nil, bI_eq0, bI_eq1, bool_ft, pk_us, vnar0, vnar1, Bool.or_false, Bool.or_true, Bool.false_or, Bool.true_or, mj_kne, eq_self, Int32.reduceLT, Int32.reduceLE, Int32.reduceAdd, Int32.reduceSub, Int32.reduceMul, not_true_eq_false, not_false_eq_true, false_implies, true_implies, D_X10_raise, mj_F_aload_n_k, mj_F_getfield_i, mj_F_goto_off, mj_F_iaload, mj_F_iastore, mj_F_iconst_n, mj_F_ifCond_eq_off, mj_F_if_icmp_ge_off, mj_F_if_icmp_ne_off, mj_F_iinc_k_n, mj_F_iload_n_k, mj_F_invokevirtual_i, mj_F_istore_n_k, mj_F_return_, mj_set, mj_set0, mj_unk, mj_c2, mj_kc, FT_X10, L_X10_raise, List.take_succ_cons, List.take_zero, List.drop_succ_cons, List.drop_zero, List.reverse_cons, List.reverse_nil, List.length_cons, List.length_nil, gS_C45, gCf10_3, gS_C35, gCf5_1, gCf5_8, gS_C42, sS_Ca_42, J_X10_raise]
  exact (ok_some hw :)

set_option maxHeartbeats 4000000 in
theorem g_X10_raise_2 {k : Option Value → mj_H → Prop} {G : mj_K} (hG : mj_cl2 cX10_raise (TbX10 3 (none) ct_X10_raise) k G)   {v1 : Int32} {v2 : Int32} {s : St} (hw : ok (F_X10_raise_2 v1 v2 s) (fun p => k none (mkCs p))) : G 2 [.ref 45, .int v1, .int v2] [] (mkCs s) 0 0 := by
  unfold F_X10_raise_2 at hw
  refine lp_ok (B_X10_raise_2 v1) (fun x => G 2 [.ref 45, .int v1, .int x.1] [] (mkCs x.2) 0 0) _ ?_ _ _ (ok_bind hw)
  rintro ⟨v2, s⟩ hb
  exact b_X10_raise_2 hG (fun _ z => z) (fun y hw => by exact hG.2 _ _ _ _ _ _ _ _ _ (by exact trivial) (Nat.zero_le _) (Nat.zero_le _) (g_X10_raise_60 hG  hw :)) hb

set_option maxHeartbeats 4000000 in
set_option maxRecDepth 20000 in
theorem g_X10_raise {k : Option Value → mj_H → Prop} {G : mj_K} (hG : mj_cl2 cX10_raise (TbX10 3 (none) ct_X10_raise) k G) {v1 : Int32} {s : St} (hw : ok (F_X10_raise v1 s) (fun p => k none (mkCs p))) : G 0 [.ref 45, .int v1] [] (mkCs s) 0 0 := by
  unfold F_X10_raise at hw
  refine mj_run hG.1 (fun pc => pc == 2 || pc == 31 || pc == 41 || pc == 60) 4000 ?_
  simp only [mj_step, mj_W_s, mj_fin, List.getElem?_cons_zero, List.getElem?_cons_succ, mj_go, Nat.reduceAdd, Nat.reduceSub, Nat.reduceLT, Nat.reduceLeDiff, Nat.zero_add, Nat.reduceEqDiff, Nat.reduceBEq, ↓reduceIte, Bool.false_eq_true, List.append_nil, List.nil_append, List.cons_append, Option.toList, and_true, true_and, true_or, or_true, reduceCtorEq, List.map_nil, bI_eq0, bI_eq1, bool_ft, pk_us, vnar0, vnar1, Bool.or_false, Bool.or_true, Bool.false_or, Bool.true_or, mj_kne, eq_self, Int32.reduceLT, Int32.reduceLE, Int32.reduceAdd, Int32.reduceSub, Int32.reduceMul, not_true_eq_false, not_false_eq_true, false_implies, true_implies, D_X10_raise, mj_F_aload_n_k, mj_F_getfield_i, mj_F_goto_off, mj_F_iaload, mj_F_iastore, mj_F_iconst_n, mj_F_ifCond_eq_off, mj_F_if_icmp_ge_off, mj_F_if_icmp_ne_off, mj_F_iinc_k_n, mj_F_iload_n_k, mj_F_invokevirtual_i, mj_F_istore_n_k, mj_F_return_, mj_set, mj_set0, mj_unk, mj_c2, mj_kc, FT_X10, L_X10_raise, List.take_succ_cons, List.take_zero, List.drop_succ_cons, List.drop_zero, List.reverse_cons, List.reverse_nil, List.length_cons, List.length_nil, gS_C45, gCf10_3, gS_C35, gCf5_1, gCf5_8, gS_C42, sS_Ca_42, J_X10_raise]
  exact hG.2 _ _ _ _ _ _ _ _ _ (by refine ⟨Or.inr rfl, ?_⟩; refine ⟨Or.inr rfl, ?_⟩; refine ⟨Or.inr rfl, ?_⟩; exact trivial) (Nat.zero_le _) (Nat.zero_le _) (g_X10_raise_2 hG  hw :)

def c_X10_raise : mj_S := fun as h k => ∃ (v1 : Int32) (s : St), as = [.ref 45, .int v1] ∧ h = mkCs s ∧ ok (F_X10_raise v1 s) (fun p => k none (mkCs p))
theorem c_X10_raise_in {v1 : Int32} {s : St} {k : Option Value → mj_H → Prop} (hw : ok (F_X10_raise v1 s) (fun p => k none (mkCs p))) : c_X10_raise [.ref 45, .int v1] (mkCs s) k := ⟨v1, s, rfl, rfl, hw⟩
theorem m_X10_raise (l : Launch) : mj_Met l yX10_raise cX10_raise 3 (none) 5 0 0 c_X10_raise := by
  refine mj_body2 false (TbX10 3 (none) ct_X10_raise) (by decide) rfl rfl (fun h => nomatch h) (tfX10 _ (List.forall_mem_cons.mpr ⟨cfX10_95 (m_X10_lowestNeed l) (by decide), List.forall_mem_cons.mpr ⟨cfX10_99 (m_X10_gaveEnough l) (by decide), fun _ h => nomatch h⟩⟩)) ?_
  rintro as h k ⟨v1, s, rfl, rfl, hw⟩
  exact ⟨rfl, fun G hG => g_X10_raise hG hw⟩
def B_X11_weeks_26 (v1 : Int32) : Int32 × St → Option ((Int32 × St) ⊕ ((St)))
  | (v2, s) =>
  if v1 ≤ v2 then
    some (.inr s)
  else
    (wI s 1100 ((s.1 1100) + 1)).bind fun s1 =>
    (F_X10_bring (s1.1 1100) s1).bind fun s2 =>
    (F_X10_drive (s2.1 1100) s2).bind fun s3 =>
    (F_X10_raise (s3.1 1100) s3).bind fun s4 =>
    some (.inl ((v2 + 1), s4))
def F_X11_weeks_80 (s : St) : Option (Int32 × St) :=
  some ((s.1 1100), s)
def F_X11_weeks_26 (v1 : Int32) (v2 : Int32) (s : St) : Option (Int32 × St) :=
  (lp (B_X11_weeks_26 v1) FU (v2, s)).bind (fun y => F_X11_weeks_80 y)
def F_X11_weeks (v1 : Int32) (s : St) : Option (Int32 × St) :=
  if inb v1 0 104 = false then
    some ((-1), s)
  else
    if v1 ≤ (600 - (s.1 1100)) then
      F_X11_weeks_26 v1 0 s
    else
      some ((-1), s)
theorem J_X11_weeks : mj_t 7 15 = 22 ∧ mj_t 19 5 = 24 ∧ mj_t 28 52 = 80 ∧ mj_t 77 (-51) = 26 ∧ (0 ≤ ((7 : Nat) : Int) + 15) = True ∧ (0 ≤ ((19 : Nat) : Int) + 5) = True ∧ (0 ≤ ((28 : Nat) : Int) + 52) = True ∧ (0 ≤ ((77 : Nat) : Int) + (-51)) = True := by and_intros <;> first | rfl | exact eq_true (by decide)
def ct_X11_weeks : List (Nat × mj_Cs) := [(96, 2, 3, 11, 0, 0, c_in), (104, 0, 2, 10, 0, 0, c_X10_bring), (108, 0, 2, 10, 0, 0, c_X10_drive), (111, 0, 2, 10, 0, 0, c_X10_raise)]
theorem L_X11_weeks : mj_lk ct_X11_weeks 96 = some (2, 3, 11, 0, 0, c_in) ∧ mj_lk ct_X11_weeks 104 = some (0, 2, 10, 0, 0, c_X10_bring) ∧ mj_lk ct_X11_weeks 108 = some (0, 2, 10, 0, 0, c_X10_drive) ∧ mj_lk ct_X11_weeks 111 = some (0, 2, 10, 0, 0, c_X10_raise) := ⟨rfl, rfl, rfl, rfl⟩
set_option maxHeartbeats 4000000 in
set_option maxRecDepth 20000 in
theorem b_X11_weeks_26 {k : Option Value → mj_H → Prop} {G : mj_K} (hG : mj_cl2 cX11_weeks (TbX11 3 ((some FieldType.int)) ct_X11_weeks) k G) {v1 : Int32} {P : Int32 × St → Prop} {K : (St) → Prop} (hP : ∀ x, P x → G 26 [.ref 0, .int v1, .int x.1] [] (mkCs x.2) 0 0) (hK0 : ∀ y, K y → G 80 [.ref 0] [] (mkCs y) 0 0) {v2 : Int32} {s : St} (hw : ok (B_X11_weeks_26 v1 (v2, s)) (Sum.elim P K)) : G 26 [.ref 0, .int v1, .int v2] [] (mkCs s) 0 0 := by
  unfold B_X11_weeks_26 at hw
  refine mj_run hG.1 (fun pc => pc == 26 || pc == 52 || pc == 63 || pc == 74 || pc == 80) 4000 ?_
  simp only [mj_step, mj_W_s, mj_fin, List.getElem?_cons_zero, List.getElem?_cons_succ, mj_go, Nat.reduceAdd, Nat.reduceSub, Nat.reduceLT, Nat.reduceLeDiff, Nat.zero_add, Nat.reduceEqDiff, Nat.reduceBEq, ↓reduceIte, Bool.false_eq_true, List.append_nil, List.nil_append, List.cons_append, Option.toList, and_true, true_and, true_or, or_true, reduceCtorEq, List.map_nil, bI_eq0, bI_eq1, bool_ft, pk_us, vnar0, vnar1, Bool.or_false, Bool.or_true, Bool.false_or, Bool.true_or, mj_kne, eq_self, Int32.reduceLT, Int32.reduceLE, Int32.reduceAdd, Int32.reduceSub, Int32.reduceMul, not_true_eq_false, not_false_eq_true, false_implies, true_implies, D_X11_weeks, mj_F_aload_n_k, mj_F_bipush_n, mj_F_dup, mj_F_getfield_i, mj_F_goto_off, mj_F_iadd, mj_F_iconst_n, mj_F_ifCond_eq_off, mj_F_if_icmp_ge_off, mj_F_if_icmp_le_off, mj_F_iinc_k_n, mj_F_iload_n_k, mj_F_invokestatic_i, mj_F_invokevirtual_i, mj_F_ireturn, mj_F_istore_n_k, mj_F_isub, mj_F_putfield_i, mj_F_sipush_n, mj_set, mj_set0, mj_unk, mj_c2, mj_kc, FT_X11, PT_X11, L_X11_weeks, List.take_succ_cons, List.take_zero, List.drop_succ_cons, List.drop_zero, List.reverse_cons, List.reverse_nil, List.length_cons, List.length_nil, gS_C0, gCf11_0, sS_Cf_11_0, gCf11len, gCf11_6, c_in_eq, gS_C45, J_X11_weeks]
  refine ⟨fun c => ?_, fun c => ?_⟩
  · replace hw := ok_t hw c
    exact hG.2 _ _ _ _ _ _ _ _ _ (by refine ⟨Or.inr rfl, ?_⟩; exact trivial) (Nat.zero_le _) (Nat.zero_le _) (hK0 _ (ok_some hw :) :)
  · replace hw := ok_f hw c
    replace hw := ok_wI hw
    refine c_X10_bring_in (ok_imp (ok_bind hw) ?_)
    intro p hw
    simp only [Option.toList, List.nil_append, List.cons_append, Nat.reduceSub]
    refine mj_run hG.1 (fun pc => pc == 26 || pc == 52 || pc == 63 || pc == 74 || pc == 80) 4000 ?_
    simp only [mj_step, mj_W_s, mj_fin, List.getElem?_cons_zero, List.getElem?_cons_succ, mj_go, Nat.reduceAdd, Nat.reduceSub, Nat.reduceLT, Nat.reduceLeDiff, Nat.zero_add, Nat.reduceEqDiff, Nat.reduceBEq, ↓reduceIte, Bool.false_eq_true, List.append_nil, List.nil_append, List.cons_append, Option.toList, and_true, true_and, true_or, or_true, reduceCtorEq, List.map_nil, bI_eq0, bI_eq1, bool_ft, pk_us, vnar0, vnar1, Bool.or_false, Bool.or_true, Bool.false_or, Bool.true_or, mj_kne, eq_self, Int32.reduceLT, Int32.reduceLE, Int32.reduceAdd, Int32.reduceSub, Int32.reduceMul, not_true_eq_false, not_false_eq_true, false_implies, true_implies, D_X11_weeks, mj_F_aload_n_k, mj_F_bipush_n, mj_F_dup, mj_F_getfield_i, mj_F_goto_off, mj_F_iadd, mj_F_iconst_n, mj_F_ifCond_eq_off, mj_F_if_icmp_ge_off, mj_F_if_icmp_le_off, mj_F_iinc_k_n, mj_F_iload_n_k, mj_F_invokestatic_i, mj_F_invokevirtual_i, mj_F_ireturn, mj_F_istore_n_k, mj_F_isub, mj_F_putfield_i, mj_F_sipush_n, mj_set, mj_set0, mj_unk, mj_c2, mj_kc, FT_X11, PT_X11, L_X11_weeks, List.take_succ_cons, List.take_zero, List.drop_succ_cons, List.drop_zero, List.reverse_cons, List.reverse_nil, List.length_cons, List.length_nil, gS_C0, gCf11_0, sS_Cf_11_0, gCf11len, gCf11_6, c_in_eq, gS_C45, J_X11_weeks]
    refine c_X10_drive_in (ok_imp (ok_bind hw) ?_)
    intro p hw
    simp only [Option.toList, List.nil_append, List.cons_append, Nat.reduceSub]
    refine mj_run hG.1 (fun pc => pc == 26 || pc == 52 || pc == 63 || pc == 74 || pc == 80) 4000 ?_
    simp only [mj_step, mj_W_s, mj_fin, List.getElem?_cons_zero, List.getElem?_cons_succ, mj_go, Nat.reduceAdd, Nat.reduceSub, Nat.reduceLT, Nat.reduceLeDiff, Nat.zero_add, Nat.reduceEqDiff, Nat.reduceBEq, ↓reduceIte, Bool.false_eq_true, List.append_nil, List.nil_append, List.cons_append, Option.toList, and_true, true_and, true_or, or_true, reduceCtorEq, List.map_nil, bI_eq0, bI_eq1, bool_ft, pk_us, vnar0, vnar1, Bool.or_false, Bool.or_true, Bool.false_or, Bool.true_or, mj_kne, eq_self, Int32.reduceLT, Int32.reduceLE, Int32.reduceAdd, Int32.reduceSub, Int32.reduceMul, not_true_eq_false, not_false_eq_true, false_implies, true_implies, D_X11_weeks, mj_F_aload_n_k, mj_F_bipush_n, mj_F_dup, mj_F_getfield_i, mj_F_goto_off, mj_F_iadd, mj_F_iconst_n, mj_F_ifCond_eq_off, mj_F_if_icmp_ge_off, mj_F_if_icmp_le_off, mj_F_iinc_k_n, mj_F_iload_n_k, mj_F_invokestatic_i, mj_F_invokevirtual_i, mj_F_ireturn, mj_F_istore_n_k, mj_F_isub, mj_F_putfield_i, mj_F_sipush_n, mj_set, mj_set0, mj_unk, mj_c2, mj_kc, FT_X11, PT_X11, L_X11_weeks, List.take_succ_cons, List.take_zero, List.drop_succ_cons, List.drop_zero, List.reverse_cons, List.reverse_nil, List.length_cons, List.length_nil, gS_C0, gCf11_0, sS_Cf_11_0, gCf11len, gCf11_6, c_in_eq, gS_C45, J_X11_weeks]
    refine c_X10_raise_in (ok_imp (ok_bind hw) ?_)
    intro p hw
    simp only [Option.toList, List.nil_append, List.cons_append, Nat.reduceSub]
    refine mj_run hG.1 (fun pc => pc == 26 || pc == 52 || pc == 63 || pc == 74 || pc == 80) 4000 ?_
    simp only [mj_step, mj_W_s, mj_fin, List.getElem?_cons_zero, List.getElem?_cons_succ, mj_go, Nat.reduceAdd, Nat.reduceSub, Nat.reduceLT, Nat.reduceLeDiff, Nat.zero_add, Nat.reduceEqDiff, Nat.reduceBEq, ↓reduceIte, Bool.false_eq_true, List.append_nil, List.nil_append, List.cons_append, Option.toList, and_true, true_and, true_or, or_true, reduceCtorEq, List.map_nil, bI_eq0, bI_eq1, bool_ft, pk_us, vnar0, vnar1, Bool.or_false, Bool.or_true, Bool.false_or, Bool.true_or, mj_kne, eq_self, Int32.reduceLT, Int32.reduceLE, Int32.reduceAdd, Int32.reduceSub, Int32.reduceMul, not_true_eq_false, not_false_eq_true, false_implies, true_implies, D_X11_weeks, mj_F_aload_n_k, mj_F_bipush_n, mj_F_dup, mj_F_getfield_i, mj_F_goto_off, mj_F_iadd, mj_F_iconst_n, mj_F_ifCond_eq_off, mj_F_if_icmp_ge_off, mj_F_if_icmp_le_off, mj_F_iinc_k_n, mj_F_iload_n_k, mj_F_invokestatic_i, mj_F_invokevirtual_i, mj_F_ireturn, mj_F_istore_n_k, mj_F_isub, mj_F_putfield_i, mj_F_sipush_n, mj_set, mj_set0, mj_unk, mj_c2, mj_kc, FT_X11, PT_X11, L_X11_weeks, List.take_succ_cons, List.take_zero, List.drop_succ_cons, List.drop_zero, List.reverse_cons, List.reverse_nil, List.length_cons, List.length_nil, gS_C0, gCf11_0, sS_Cf_11_0, gCf11len, gCf11_6, c_in_eq, gS_C45, J_X11_weeks]
    exact hG.2 _ _ _ _ _ _ _ _ _ (by refine ⟨Or.inr rfl, ?_⟩; refine ⟨Or.inr rfl, ?_⟩; refine ⟨Or.inr rfl, ?_⟩; exact trivial) (Nat.zero_le _) (Nat.zero_le _) (hP _ (ok_some hw :) :)

set_option maxHeartbeats 4000000 in
set_option maxRecDepth 20000 in
theorem g_X11_weeks_80 {k : Option Value → mj_H → Prop} {G : mj_K} (hG : mj_cl2 cX11_weeks (TbX11 3 ((some FieldType.int)) ct_X11_weeks) k G)   {s : St} (hw : ok (F_X11_weeks_80 s) (fun p => k (some (.int p.1)) (mkCs p.2))) : G 80 [.ref 0] [] (mkCs s) 0 0 := by
  unfold F_X11_weeks_80 at hw
  refine mj_run hG.1 (fun pc => pc == 26 || pc == 52 || pc == 63 || pc == 74 || pc == 80) 4000 ?_
  simp only [mj_step, mj_W_s, mj_fin, List.getElem?_cons_zero, List.getElem?_cons_succ, mj_go, Nat.reduceAdd, Nat.reduceSub, Nat.reduceLT, Nat.reduceLeDiff, Nat.zero_add, Nat.reduceEqDiff, Nat.reduceBEq, ↓reduceIte, Bool.false_eq_true, List.append_nil, List.nil_append, List.cons_append, Option.toList, and_true, true_and, true_or, or_true, reduceCtorEq, List.map_nil, bI_eq0, bI_eq1, bool_ft, pk_us, vnar0, vnar1, Bool.or_false, Bool.or_true, Bool.false_or, Bool.true_or, mj_kne, eq_self, Int32.reduceLT, Int32.reduceLE, Int32.reduceAdd, Int32.reduceSub, Int32.reduceMul, not_true_eq_false, not_false_eq_true, false_implies, true_implies, D_X11_weeks, mj_F_aload_n_k, mj_F_bipush_n, mj_F_dup, mj_F_getfield_i, mj_F_goto_off, mj_F_iadd, mj_F_iconst_n, mj_F_ifCond_eq_off, mj_F_if_icmp_ge_off, mj_F_if_icmp_le_off, mj_F_iinc_k_n, mj_F_iload_n_k, mj_F_invokestatic_i, mj_F_invokevirtual_i, mj_F_ireturn, mj_F_istore_n_k, mj_F_isub, mj_F_putfield_i, mj_F_sipush_n, mj_set, mj_set0, mj_unk, mj_c2, mj_kc, FT_X11, PT_X11, L_X11_weeks, List.take_succ_cons, List.take_zero, List.drop_succ_cons, List.drop_zero, List.reverse_cons, List.reverse_nil, List.length_cons, List.length_nil, gS_C0, gCf11_0, sS_Cf_11_0, gCf11len, gCf11_6, c_in_eq, gS_C45, J_X11_weeks]
  exact (ok_some hw :)

set_option maxHeartbeats 4000000 in
theorem g_X11_weeks_26 {k : Option Value → mj_H → Prop} {G : mj_K} (hG : mj_cl2 cX11_weeks (TbX11 3 ((some FieldType.int)) ct_X11_weeks) k G)   {v1 : Int32} {v2 : Int32} {s : St} (hw : ok (F_X11_weeks_26 v1 v2 s) (fun p => k (some (.int p.1)) (mkCs p.2))) : G 26 [.ref 0, .int v1, .int v2] [] (mkCs s) 0 0 := by
  unfold F_X11_weeks_26 at hw
  refine lp_ok (B_X11_weeks_26 v1) (fun x => G 26 [.ref 0, .int v1, .int x.1] [] (mkCs x.2) 0 0) _ ?_ _ _ (ok_bind hw)
  rintro ⟨v2, s⟩ hb
  exact b_X11_weeks_26 hG (fun _ z => z) (fun y hw => by exact hG.2 _ _ _ _ _ _ _ _ _ (by refine ⟨Or.inr rfl, ?_⟩; exact trivial) (Nat.zero_le _) (Nat.zero_le _) (g_X11_weeks_80 hG  hw :)) hb

set_option maxHeartbeats 4000000 in
set_option maxRecDepth 20000 in
theorem g_X11_weeks {k : Option Value → mj_H → Prop} {G : mj_K} (hG : mj_cl2 cX11_weeks (TbX11 3 ((some FieldType.int)) ct_X11_weeks) k G) {v1 : Int32} {s : St} (hw : ok (F_X11_weeks v1 s) (fun p => k (some (.int p.1)) (mkCs p.2))) : G 0 [.ref 0, .int v1] [] (mkCs s) 0 0 := by
  unfold F_X11_weeks at hw
  refine mj_run hG.1 (fun pc => pc == 26 || pc == 52 || pc == 63 || pc == 74 || pc == 80) 4000 ?_
  simp only [mj_step, mj_W_s, mj_fin, List.getElem?_cons_zero, List.getElem?_cons_succ, mj_go, Nat.reduceAdd, Nat.reduceSub, Nat.reduceLT, Nat.reduceLeDiff, Nat.zero_add, Nat.reduceEqDiff, Nat.reduceBEq, ↓reduceIte, Bool.false_eq_true, List.append_nil, List.nil_append, List.cons_append, Option.toList, and_true, true_and, true_or, or_true, reduceCtorEq, List.map_nil, bI_eq0, bI_eq1, bool_ft, pk_us, vnar0, vnar1, Bool.or_false, Bool.or_true, Bool.false_or, Bool.true_or, mj_kne, eq_self, Int32.reduceLT, Int32.reduceLE, Int32.reduceAdd, Int32.reduceSub, Int32.reduceMul, not_true_eq_false, not_false_eq_true, false_implies, true_implies, D_X11_weeks, mj_F_aload_n_k, mj_F_bipush_n, mj_F_dup, mj_F_getfield_i, mj_F_goto_off, mj_F_iadd, mj_F_iconst_n, mj_F_ifCond_eq_off, mj_F_if_icmp_ge_off, mj_F_if_icmp_le_off, mj_F_iinc_k_n, mj_F_iload_n_k, mj_F_invokestatic_i, mj_F_invokevirtual_i, mj_F_ireturn, mj_F_istore_n_k, mj_F_isub, mj_F_putfield_i, mj_F_sipush_n, mj_set, mj_set0, mj_unk, mj_c2, mj_kc, FT_X11, PT_X11, L_X11_weeks, List.take_succ_cons, List.take_zero, List.drop_succ_cons, List.drop_zero, List.reverse_cons, List.reverse_nil, List.length_cons, List.length_nil, gS_C0, gCf11_0, sS_Cf_11_0, gCf11len, gCf11_6, c_in_eq, gS_C45, J_X11_weeks]
  refine ⟨fun c => ?_, fun c => ?_⟩
  · replace hw := ok_t hw c
    exact (ok_some hw :)
  · replace hw := ok_f hw c
    refine ⟨fun c => ?_, fun c => ?_⟩
    · replace hw := ok_t hw c
      exact hG.2 _ _ _ _ _ _ _ _ _ (by refine ⟨Or.inr rfl, ?_⟩; refine ⟨Or.inr rfl, ?_⟩; refine ⟨Or.inr rfl, ?_⟩; exact trivial) (Nat.zero_le _) (Nat.zero_le _) (g_X11_weeks_26 hG  hw :)
    · replace hw := ok_f hw c
      exact (ok_some hw :)

def c_X11_weeks : mj_S := fun as h k => ∃ (v1 : Int32) (s : St), as = [.ref 0, .int v1] ∧ h = mkCs s ∧ ok (F_X11_weeks v1 s) (fun p => k (some (.int p.1)) (mkCs p.2))
theorem c_X11_weeks_in {v1 : Int32} {s : St} {k : Option Value → mj_H → Prop} (hw : ok (F_X11_weeks v1 s) (fun p => k (some (.int p.1)) (mkCs p.2))) : c_X11_weeks [.ref 0, .int v1] (mkCs s) k := ⟨v1, s, rfl, rfl, hw⟩
theorem m_X11_weeks (l : Launch) : mj_Met l yX11_weeks cX11_weeks 3 ((some FieldType.int)) 6 0 0 c_X11_weeks := by
  refine mj_body2 false (TbX11 3 ((some FieldType.int)) ct_X11_weeks) (by decide) rfl rfl (fun h => nomatch h) (tfX11 _ (List.forall_mem_cons.mpr ⟨cfX11_96 (m_X11_within l) (by decide), List.forall_mem_cons.mpr ⟨cfX11_104 (m_X10_bring l) (by decide), List.forall_mem_cons.mpr ⟨cfX11_108 (m_X10_drive l) (by decide), List.forall_mem_cons.mpr ⟨cfX11_111 (m_X10_raise l) (by decide), fun _ h => nomatch h⟩⟩⟩⟩)) ?_
  rintro as h k ⟨v1, s, rfl, rfl, hw⟩
  exact ⟨rfl, fun G hG => g_X11_weeks hG hw⟩
def B_X2_paint_7 (v2 : Int32) (v3 : Int32) (v4 : Int32) : Int32 × St → Option ((Int32 × St) ⊕ ((St)))
  | (v5, s) =>
  if v2 < v5 then
    some (.inr s)
  else
    if 120 ≤ v5 then
      some (.inr s)
    else
      (wr s 200 120 v5 v3).bind fun s1 =>
      (wr s1 201 120 v5 v4).bind fun s2 =>
      some (.inl ((v5 + 1), s2))
def B_X2_paint_46  : Int32 × St → Option ((Int32 × St) ⊕ ((St)))
  | (v5, s) =>
  if 240 ≤ v5 then
    some (.inr s)
  else
    (wr s 204 240 v5 0).bind fun s3 =>
    some (.inl ((v5 + 1), s3))
def F_X2_paint_70 (s : St) : Option (St) :=
  some s
def F_X2_paint_46 (v5 : Int32) (s : St) : Option (St) :=
  (lp (B_X2_paint_46 ) FU (v5, s)).bind (fun y => F_X2_paint_70 y)
def F_X2_paint_43 (s : St) : Option (St) :=
  F_X2_paint_46 0 s
def F_X2_paint_7 (v2 : Int32) (v3 : Int32) (v4 : Int32) (v5 : Int32) (s : St) : Option (St) :=
  (lp (B_X2_paint_7 v2 v3 v4) FU (v5, s)).bind (fun y => F_X2_paint_43 y)
def F_X2_paint (v1 : Int32) (v2 : Int32) (v3 : Int32) (v4 : Int32) (s : St) : Option (St) :=
  F_X2_paint_7 v2 v3 v4 (zmx v1 0) s
theorem J_X2_paint : mj_t 10 33 = 43 ∧ mj_t 17 26 = 43 ∧ mj_t 40 (-33) = 7 ∧ mj_t 53 17 = 70 ∧ mj_t 67 (-21) = 46 ∧ (0 ≤ ((10 : Nat) : Int) + 33) = True ∧ (0 ≤ ((17 : Nat) : Int) + 26) = True ∧ (0 ≤ ((40 : Nat) : Int) + (-33)) = True ∧ (0 ≤ ((53 : Nat) : Int) + 17) = True ∧ (0 ≤ ((67 : Nat) : Int) + (-21)) = True := by and_intros <;> first | rfl | exact eq_true (by decide)
set_option maxHeartbeats 4000000 in
set_option maxRecDepth 20000 in
theorem b_X2_paint_7 {k : Option Value → mj_H → Prop} {G : mj_K} (hG : mj_cl2 cX2_paint (TbX2 6 (none) []) k G) (hM : mj_ml cX2_paint yX2_paint.cls G) {v2 : Int32} {v3 : Int32} {v4 : Int32} {P : Int32 × St → Prop} {K : (St) → Prop} (hP : ∀ x, P x → G 7 [.ref 1, mj_unk, .int v2, .int v3, .int v4, .int x.1] [] (mkCs x.2) 0 0) (hK0 : ∀ y, K y → G 43 [.ref 1] [] (mkCs y) 0 0) {v5 : Int32} {s : St} (hw : ok (B_X2_paint_7 v2 v3 v4 (v5, s)) (Sum.elim P K)) : G 7 [.ref 1, mj_unk, .int v2, .int v3, .int v4, .int v5] [] (mkCs s) 0 0 := by
  unfold B_X2_paint_7 at hw
  refine mj_run hG.1 (fun pc => pc == 2 || pc == 7 || pc == 43 || pc == 46 || pc == 70) 4000 ?_
  simp only [mj_step, mj_W_s, mj_fin, List.getElem?_cons_zero, List.getElem?_cons_succ, mj_go, Nat.reduceAdd, Nat.reduceSub, Nat.reduceLT, Nat.reduceLeDiff, Nat.zero_add, Nat.reduceEqDiff, Nat.reduceBEq, ↓reduceIte, Bool.false_eq_true, List.append_nil, List.nil_append, List.cons_append, Option.toList, and_true, true_and, true_or, or_true, reduceCtorEq, List.map_nil, bI_eq0, bI_eq1, bool_ft, pk_us, vnar0, vnar1, Bool.or_false, Bool.or_true, Bool.false_or, Bool.true_or, mj_kne, eq_self, Int32.reduceLT, Int32.reduceLE, Int32.reduceAdd, Int32.reduceSub, Int32.reduceMul, not_true_eq_false, not_false_eq_true, false_implies, true_implies, D_X2_paint, mj_F_aload_n_k, mj_F_arraylength, mj_F_bastore, mj_F_bipush_n, mj_F_getfield_i, mj_F_goto_off, mj_F_iastore, mj_F_iconst_n, mj_F_if_icmp_ge_off, mj_F_if_icmp_gt_off, mj_F_iinc_k_n, mj_F_iload_k, mj_F_iload_n_k, mj_F_invokestatic_i, mj_F_istore_k, mj_F_return_, mj_set, mj_set0, mj_unk, mj_c2, mj_kc, FT_X2, List.take_succ_cons, List.take_zero, List.drop_succ_cons, List.drop_zero, List.reverse_cons, List.reverse_nil, List.length_cons, List.length_nil, gS_C1, gCf2_0, gS_C2, sS_Ca_2, gCf2_1, gS_C3, sS_Ca_3, gCf2_4, gS_C6, sS_Ca_6, mj_nk, mj_isA, J_X2_paint]
  refine ⟨fun c => ?_, fun c => ?_⟩
  · replace hw := ok_t hw c
    exact hG.2 _ _ _ _ _ _ _ _ _ (by refine ⟨Or.inr rfl, ?_⟩; exact trivial) (Nat.zero_le _) (Nat.zero_le _) (hK0 _ (ok_some hw :) :)
  · replace hw := ok_f hw c
    refine ⟨fun c => ?_, fun c => ?_⟩
    · replace hw := ok_t hw c
      exact hG.2 _ _ _ _ _ _ _ _ _ (by refine ⟨Or.inr rfl, ?_⟩; exact trivial) (Nat.zero_le _) (Nat.zero_le _) (hK0 _ (ok_some hw :) :)
    · replace hw := ok_f hw c
      refine ⟨(ok_wr hw).1, ?_⟩
      replace hw := (ok_wr hw).2
      refine ⟨(ok_wr hw).1, ?_⟩
      replace hw := (ok_wr hw).2
      exact hG.2 _ _ _ _ _ _ _ _ _ (by refine ⟨Or.inr rfl, ?_⟩; refine ⟨Or.inl rfl, ?_⟩; refine ⟨Or.inr rfl, ?_⟩; refine ⟨Or.inr rfl, ?_⟩; refine ⟨Or.inr rfl, ?_⟩; refine ⟨Or.inr rfl, ?_⟩; exact trivial) (Nat.zero_le _) (Nat.zero_le _) (hP _ (ok_some hw :) :)

set_option maxHeartbeats 4000000 in
set_option maxRecDepth 20000 in
theorem b_X2_paint_46 {k : Option Value → mj_H → Prop} {G : mj_K} (hG : mj_cl2 cX2_paint (TbX2 6 (none) []) k G) (hM : mj_ml cX2_paint yX2_paint.cls G)  {P : Int32 × St → Prop} {K : (St) → Prop} (hP : ∀ x, P x → G 46 [.ref 1, mj_unk, mj_unk, mj_unk, mj_unk, .int x.1] [] (mkCs x.2) 0 0) (hK0 : ∀ y, K y → G 70 [] [] (mkCs y) 0 0) {v5 : Int32} {s : St} (hw : ok (B_X2_paint_46  (v5, s)) (Sum.elim P K)) : G 46 [.ref 1, mj_unk, mj_unk, mj_unk, mj_unk, .int v5] [] (mkCs s) 0 0 := by
  unfold B_X2_paint_46 at hw
  refine mj_run hG.1 (fun pc => pc == 2 || pc == 7 || pc == 43 || pc == 46 || pc == 70) 4000 ?_
  simp only [mj_step, mj_W_s, mj_fin, List.getElem?_cons_zero, List.getElem?_cons_succ, mj_go, Nat.reduceAdd, Nat.reduceSub, Nat.reduceLT, Nat.reduceLeDiff, Nat.zero_add, Nat.reduceEqDiff, Nat.reduceBEq, ↓reduceIte, Bool.false_eq_true, List.append_nil, List.nil_append, List.cons_append, Option.toList, and_true, true_and, true_or, or_true, reduceCtorEq, List.map_nil, bI_eq0, bI_eq1, bool_ft, pk_us, vnar0, vnar1, Bool.or_false, Bool.or_true, Bool.false_or, Bool.true_or, mj_kne, eq_self, Int32.reduceLT, Int32.reduceLE, Int32.reduceAdd, Int32.reduceSub, Int32.reduceMul, not_true_eq_false, not_false_eq_true, false_implies, true_implies, D_X2_paint, mj_F_aload_n_k, mj_F_arraylength, mj_F_bastore, mj_F_bipush_n, mj_F_getfield_i, mj_F_goto_off, mj_F_iastore, mj_F_iconst_n, mj_F_if_icmp_ge_off, mj_F_if_icmp_gt_off, mj_F_iinc_k_n, mj_F_iload_k, mj_F_iload_n_k, mj_F_invokestatic_i, mj_F_istore_k, mj_F_return_, mj_set, mj_set0, mj_unk, mj_c2, mj_kc, FT_X2, List.take_succ_cons, List.take_zero, List.drop_succ_cons, List.drop_zero, List.reverse_cons, List.reverse_nil, List.length_cons, List.length_nil, gS_C1, gCf2_0, gS_C2, sS_Ca_2, gCf2_1, gS_C3, sS_Ca_3, gCf2_4, gS_C6, sS_Ca_6, mj_nk, mj_isA, J_X2_paint]
  refine ⟨fun c => ?_, fun c => ?_⟩
  · replace hw := ok_t hw c
    exact hG.2 _ _ _ _ _ _ _ _ _ (by exact trivial) (Nat.zero_le _) (Nat.zero_le _) (hK0 _ (ok_some hw :) :)
  · replace hw := ok_f hw c
    refine ⟨(ok_wr hw).1, ?_⟩
    replace hw := (ok_wr hw).2
    exact hG.2 _ _ _ _ _ _ _ _ _ (by refine ⟨Or.inr rfl, ?_⟩; refine ⟨Or.inl rfl, ?_⟩; refine ⟨Or.inl rfl, ?_⟩; refine ⟨Or.inl rfl, ?_⟩; refine ⟨Or.inl rfl, ?_⟩; refine ⟨Or.inr rfl, ?_⟩; exact trivial) (Nat.zero_le _) (Nat.zero_le _) (hP _ (ok_some hw :) :)

set_option maxHeartbeats 4000000 in
set_option maxRecDepth 20000 in
theorem g_X2_paint_70 {k : Option Value → mj_H → Prop} {G : mj_K} (hG : mj_cl2 cX2_paint (TbX2 6 (none) []) k G) (hM : mj_ml cX2_paint yX2_paint.cls G)   {s : St} (hw : ok (F_X2_paint_70 s) (fun p => k none (mkCs p))) : G 70 [] [] (mkCs s) 0 0 := by
  unfold F_X2_paint_70 at hw
  refine mj_run hG.1 (fun pc => pc == 2 || pc == 7 || pc == 43 || pc == 46 || pc == 70) 4000 ?_
  simp only [mj_step, mj_W_s, mj_fin, List.getElem?_cons_zero, List.getElem?_cons_succ, mj_go, Nat.reduceAdd, Nat.reduceSub, Nat.reduceLT, Nat.reduceLeDiff, Nat.zero_add, Nat.reduceEqDiff, Nat.reduceBEq, ↓reduceIte, Bool.false_eq_true, List.append_nil, List.nil_append, List.cons_append, Option.toList, and_true, true_and, true_or, or_true, reduceCtorEq, List.map_nil, bI_eq0, bI_eq1, bool_ft, pk_us, vnar0, vnar1, Bool.or_false, Bool.or_true, Bool.false_or, Bool.true_or, mj_kne, eq_self, Int32.reduceLT, Int32.reduceLE, Int32.reduceAdd, Int32.reduceSub, Int32.reduceMul, not_true_eq_false, not_false_eq_true, false_implies, true_implies, D_X2_paint, mj_F_aload_n_k, mj_F_arraylength, mj_F_bastore, mj_F_bipush_n, mj_F_getfield_i, mj_F_goto_off, mj_F_iastore, mj_F_iconst_n, mj_F_if_icmp_ge_off, mj_F_if_icmp_gt_off, mj_F_iinc_k_n, mj_F_iload_k, mj_F_iload_n_k, mj_F_invokestatic_i, mj_F_istore_k, mj_F_return_, mj_set, mj_set0, mj_unk, mj_c2, mj_kc, FT_X2, List.take_succ_cons, List.take_zero, List.drop_succ_cons, List.drop_zero, List.reverse_cons, List.reverse_nil, List.length_cons, List.length_nil, gS_C1, gCf2_0, gS_C2, sS_Ca_2, gCf2_1, gS_C3, sS_Ca_3, gCf2_4, gS_C6, sS_Ca_6, mj_nk, mj_isA, J_X2_paint]
  exact (ok_some hw :)

set_option maxHeartbeats 4000000 in
theorem g_X2_paint_46 {k : Option Value → mj_H → Prop} {G : mj_K} (hG : mj_cl2 cX2_paint (TbX2 6 (none) []) k G) (hM : mj_ml cX2_paint yX2_paint.cls G)   {v5 : Int32} {s : St} (hw : ok (F_X2_paint_46 v5 s) (fun p => k none (mkCs p))) : G 46 [.ref 1, mj_unk, mj_unk, mj_unk, mj_unk, .int v5] [] (mkCs s) 0 0 := by
  unfold F_X2_paint_46 at hw
  refine lp_ok (B_X2_paint_46 ) (fun x => G 46 [.ref 1, mj_unk, mj_unk, mj_unk, mj_unk, .int x.1] [] (mkCs x.2) 0 0) _ ?_ _ _ (ok_bind hw)
  rintro ⟨v5, s⟩ hb
  exact b_X2_paint_46 hG hM (fun _ z => z) (fun y hw => by exact hG.2 _ _ _ _ _ _ _ _ _ (by exact trivial) (Nat.zero_le _) (Nat.zero_le _) (g_X2_paint_70 hG hM  hw :)) hb

set_option maxHeartbeats 4000000 in
set_option maxRecDepth 20000 in
theorem g_X2_paint_43 {k : Option Value → mj_H → Prop} {G : mj_K} (hG : mj_cl2 cX2_paint (TbX2 6 (none) []) k G) (hM : mj_ml cX2_paint yX2_paint.cls G)   {s : St} (hw : ok (F_X2_paint_43 s) (fun p => k none (mkCs p))) : G 43 [.ref 1] [] (mkCs s) 0 0 := by
  unfold F_X2_paint_43 at hw
  refine mj_run hG.1 (fun pc => pc == 2 || pc == 7 || pc == 43 || pc == 46 || pc == 70) 4000 ?_
  simp only [mj_step, mj_W_s, mj_fin, List.getElem?_cons_zero, List.getElem?_cons_succ, mj_go, Nat.reduceAdd, Nat.reduceSub, Nat.reduceLT, Nat.reduceLeDiff, Nat.zero_add, Nat.reduceEqDiff, Nat.reduceBEq, ↓reduceIte, Bool.false_eq_true, List.append_nil, List.nil_append, List.cons_append, Option.toList, and_true, true_and, true_or, or_true, reduceCtorEq, List.map_nil, bI_eq0, bI_eq1, bool_ft, pk_us, vnar0, vnar1, Bool.or_false, Bool.or_true, Bool.false_or, Bool.true_or, mj_kne, eq_self, Int32.reduceLT, Int32.reduceLE, Int32.reduceAdd, Int32.reduceSub, Int32.reduceMul, not_true_eq_false, not_false_eq_true, false_implies, true_implies, D_X2_paint, mj_F_aload_n_k, mj_F_arraylength, mj_F_bastore, mj_F_bipush_n, mj_F_getfield_i, mj_F_goto_off, mj_F_iastore, mj_F_iconst_n, mj_F_if_icmp_ge_off, mj_F_if_icmp_gt_off, mj_F_iinc_k_n, mj_F_iload_k, mj_F_iload_n_k, mj_F_invokestatic_i, mj_F_istore_k, mj_F_return_, mj_set, mj_set0, mj_unk, mj_c2, mj_kc, FT_X2, List.take_succ_cons, List.take_zero, List.drop_succ_cons, List.drop_zero, List.reverse_cons, List.reverse_nil, List.length_cons, List.length_nil, gS_C1, gCf2_0, gS_C2, sS_Ca_2, gCf2_1, gS_C3, sS_Ca_3, gCf2_4, gS_C6, sS_Ca_6, mj_nk, mj_isA, J_X2_paint]
  exact hG.2 _ _ _ _ _ _ _ _ _ (by refine ⟨Or.inr rfl, ?_⟩; refine ⟨Or.inl rfl, ?_⟩; refine ⟨Or.inl rfl, ?_⟩; refine ⟨Or.inl rfl, ?_⟩; refine ⟨Or.inl rfl, ?_⟩; refine ⟨Or.inr rfl, ?_⟩; exact trivial) (Nat.zero_le _) (Nat.zero_le _) (g_X2_paint_46 hG hM  hw :)

set_option maxHeartbeats 4000000 in
theorem g_X2_paint_7 {k : Option Value → mj_H → Prop} {G : mj_K} (hG : mj_cl2 cX2_paint (TbX2 6 (none) []) k G) (hM : mj_ml cX2_paint yX2_paint.cls G)   {v2 : Int32} {v3 : Int32} {v4 : Int32} {v5 : Int32} {s : St} (hw : ok (F_X2_paint_7 v2 v3 v4 v5 s) (fun p => k none (mkCs p))) : G 7 [.ref 1, mj_unk, .int v2, .int v3, .int v4, .int v5] [] (mkCs s) 0 0 := by
  unfold F_X2_paint_7 at hw
  refine lp_ok (B_X2_paint_7 v2 v3 v4) (fun x => G 7 [.ref 1, mj_unk, .int v2, .int v3, .int v4, .int x.1] [] (mkCs x.2) 0 0) _ ?_ _ _ (ok_bind hw)
  rintro ⟨v5, s⟩ hb
  exact b_X2_paint_7 hG hM (fun _ z => z) (fun y hw => by exact hG.2 _ _ _ _ _ _ _ _ _ (by refine ⟨Or.inr rfl, ?_⟩; exact trivial) (Nat.zero_le _) (Nat.zero_le _) (g_X2_paint_43 hG hM  hw :)) hb

set_option maxHeartbeats 4000000 in
set_option maxRecDepth 20000 in
theorem g_X2_paint {k : Option Value → mj_H → Prop} {G : mj_K} (hG : mj_cl2 cX2_paint (TbX2 6 (none) []) k G) (hM : mj_ml cX2_paint yX2_paint.cls G) {v1 : Int32} {v2 : Int32} {v3 : Int32} {v4 : Int32} {s : St} (hw : ok (F_X2_paint v1 v2 v3 v4 s) (fun p => k none (mkCs p))) : G 0 [.ref 1, .int v1, .int v2, .int v3, .int v4] [] (mkCs s) 0 0 := by
  unfold F_X2_paint at hw
  refine mj_run hG.1 (fun pc => pc == 2 || pc == 7 || pc == 43 || pc == 46 || pc == 70) 4000 ?_
  simp only [mj_step, mj_W_s, mj_fin, List.getElem?_cons_zero, List.getElem?_cons_succ, mj_go, Nat.reduceAdd, Nat.reduceSub, Nat.reduceLT, Nat.reduceLeDiff, Nat.zero_add, Nat.reduceEqDiff, Nat.reduceBEq, ↓reduceIte, Bool.false_eq_true, List.append_nil, List.nil_append, List.cons_append, Option.toList, and_true, true_and, true_or, or_true, reduceCtorEq, List.map_nil, bI_eq0, bI_eq1, bool_ft, pk_us, vnar0, vnar1, Bool.or_false, Bool.or_true, Bool.false_or, Bool.true_or, mj_kne, eq_self, Int32.reduceLT, Int32.reduceLE, Int32.reduceAdd, Int32.reduceSub, Int32.reduceMul, not_true_eq_false, not_false_eq_true, false_implies, true_implies, D_X2_paint, mj_F_aload_n_k, mj_F_arraylength, mj_F_bastore, mj_F_bipush_n, mj_F_getfield_i, mj_F_goto_off, mj_F_iastore, mj_F_iconst_n, mj_F_if_icmp_ge_off, mj_F_if_icmp_gt_off, mj_F_iinc_k_n, mj_F_iload_k, mj_F_iload_n_k, mj_F_invokestatic_i, mj_F_istore_k, mj_F_return_, mj_set, mj_set0, mj_unk, mj_c2, mj_kc, FT_X2, List.take_succ_cons, List.take_zero, List.drop_succ_cons, List.drop_zero, List.reverse_cons, List.reverse_nil, List.length_cons, List.length_nil, gS_C1, gCf2_0, gS_C2, sS_Ca_2, gCf2_1, gS_C3, sS_Ca_3, gCf2_4, gS_C6, sS_Ca_6, mj_nk, mj_isA, J_X2_paint]
  refine hM 2 36 1 _ _ _ _ _ _ _ _ (by simp only [D_X2_paint]) (lkX2_36) rfl (Nat.le_of_ble_eq_true rfl) ?_
  refine mj_run hG.1 (fun pc => pc == 2 || pc == 7 || pc == 43 || pc == 46 || pc == 70) 4000 ?_
  simp only [mj_step, mj_W_s, mj_fin, List.getElem?_cons_zero, List.getElem?_cons_succ, mj_go, Nat.reduceAdd, Nat.reduceSub, Nat.reduceLT, Nat.reduceLeDiff, Nat.zero_add, Nat.reduceEqDiff, Nat.reduceBEq, ↓reduceIte, Bool.false_eq_true, List.append_nil, List.nil_append, List.cons_append, Option.toList, and_true, true_and, true_or, or_true, reduceCtorEq, List.map_nil, bI_eq0, bI_eq1, bool_ft, pk_us, vnar0, vnar1, Bool.or_false, Bool.or_true, Bool.false_or, Bool.true_or, mj_kne, eq_self, Int32.reduceLT, Int32.reduceLE, Int32.reduceAdd, Int32.reduceSub, Int32.reduceMul, not_true_eq_false, not_false_eq_true, false_implies, true_implies, D_X2_paint, mj_F_aload_n_k, mj_F_arraylength, mj_F_bastore, mj_F_bipush_n, mj_F_getfield_i, mj_F_goto_off, mj_F_iastore, mj_F_iconst_n, mj_F_if_icmp_ge_off, mj_F_if_icmp_gt_off, mj_F_iinc_k_n, mj_F_iload_k, mj_F_iload_n_k, mj_F_invokestatic_i, mj_F_istore_k, mj_F_return_, mj_set, mj_set0, mj_unk, mj_c2, mj_kc, FT_X2, List.take_succ_cons, List.take_zero, List.drop_succ_cons, List.drop_zero, List.reverse_cons, List.reverse_nil, List.length_cons, List.length_nil, gS_C1, gCf2_0, gS_C2, sS_Ca_2, gCf2_1, gS_C3, sS_Ca_3, gCf2_4, gS_C6, sS_Ca_6, mj_nk, mj_isA, J_X2_paint]
  exact hG.2 _ _ _ _ _ _ _ _ _ (by refine ⟨Or.inr rfl, ?_⟩; refine ⟨Or.inl rfl, ?_⟩; refine ⟨Or.inr rfl, ?_⟩; refine ⟨Or.inr rfl, ?_⟩; refine ⟨Or.inr rfl, ?_⟩; refine ⟨Or.inr rfl, ?_⟩; exact trivial) (Nat.zero_le _) (Nat.zero_le _) (g_X2_paint_7 hG hM  hw :)

def c_X2_paint : mj_S := fun as h k => ∃ (v1 : Int32) (v2 : Int32) (v3 : Int32) (v4 : Int32) (s : St), as = [.ref 1, .int v1, .int v2, .int v3, .int v4] ∧ h = mkCs s ∧ ok (F_X2_paint v1 v2 v3 v4 s) (fun p => k none (mkCs p))
theorem c_X2_paint_in {v1 : Int32} {v2 : Int32} {v3 : Int32} {v4 : Int32} {s : St} {k : Option Value → mj_H → Prop} (hw : ok (F_X2_paint v1 v2 v3 v4 s) (fun p => k none (mkCs p))) : c_X2_paint [.ref 1, .int v1, .int v2, .int v3, .int v4] (mkCs s) k := ⟨v1, v2, v3, v4, s, rfl, rfl, hw⟩
theorem m_X2_paint (l : Launch) : mj_Met l yX2_paint cX2_paint 6 (none) 1 0 0 c_X2_paint := by
  refine mj_body3 false (TbX2 6 (none) []) (by decide) (by decide) rfl rfl (fun h => nomatch h) (tfX2 _ (fun _ h => nomatch h)) ?_
  rintro as h k ⟨v1, v2, v3, v4, s, rfl, rfl, hw⟩
  exact ⟨rfl, fun G hG hM => g_X2_paint hG hM hw⟩
def B_X11_draw_84 (v1 : Int32) (v2 : Int32) (v3 : Int32) (v4 : Int32) (v5 : Int32) (v6 : Int32) : Int32 × St → Option ((Int32 × St) ⊕ ((St)))
  | (v8, s) =>
  if (v2 + v4) ≤ v8 then
    some (.inr s)
  else
    (F_X2_paint ((v8 * 12) + v1) ((((v8 * 12) + v1) + v3) - 1) v5 v6 s).bind fun s1 =>
    some (.inl ((v8 + 1), s1))
def F_X11_draw_128 (s : St) : Option (Int32 × St) :=
  some (1, s)
def F_X11_draw_84 (v1 : Int32) (v2 : Int32) (v3 : Int32) (v4 : Int32) (v5 : Int32) (v6 : Int32) (v8 : Int32) (s : St) : Option (Int32 × St) :=
  (lp (B_X11_draw_84 v1 v2 v3 v4 v5 v6) FU (v8, s)).bind (fun y => F_X11_draw_128 y)
def F_X11_draw (v1 : Int32) (v2 : Int32) (v3 : Int32) (v4 : Int32) (v5 : Int32) (v6 : Int32) (s : St) : Option (Int32 × St) :=
  if inb v1 0 11 = false then
    some (0, s)
  else
    if inb v2 0 9 = false then
      some (0, s)
    else
      if inb v3 1 (12 - v1) = false then
        some (0, s)
      else
        if inb v4 1 (10 - v2) = false then
          some (0, s)
        else
          if inb v5 1 99 = false then
            some (0, s)
          else
            if inb v6 0 99 = false then
              some (0, s)
            else
              F_X11_draw_84 v1 v2 v3 v4 v5 v6 v2 s
theorem J_X11_draw : mj_t 7 42 = 49 ∧ mj_t 17 32 = 49 ∧ mj_t 29 20 = 49 ∧ mj_t 42 7 = 49 ∧ mj_t 46 4 = 50 ∧ mj_t 54 25 = 79 ∧ mj_t 65 14 = 79 ∧ mj_t 76 5 = 81 ∧ mj_t 90 38 = 128 ∧ mj_t 125 (-41) = 84 ∧ (0 ≤ ((7 : Nat) : Int) + 42) = True ∧ (0 ≤ ((17 : Nat) : Int) + 32) = True ∧ (0 ≤ ((29 : Nat) : Int) + 20) = True ∧ (0 ≤ ((42 : Nat) : Int) + 7) = True ∧ (0 ≤ ((46 : Nat) : Int) + 4) = True ∧ (0 ≤ ((54 : Nat) : Int) + 25) = True ∧ (0 ≤ ((65 : Nat) : Int) + 14) = True ∧ (0 ≤ ((76 : Nat) : Int) + 5) = True ∧ (0 ≤ ((90 : Nat) : Int) + 38) = True ∧ (0 ≤ ((125 : Nat) : Int) + (-41)) = True := by and_intros <;> first | rfl | exact eq_true (by decide)
def ct_X11_draw : List (Nat × mj_Cs) := [(96, 2, 3, 11, 0, 0, c_in), (114, 0, 5, 2, 0, 0, c_X2_paint)]
theorem L_X11_draw : mj_lk ct_X11_draw 96 = some (2, 3, 11, 0, 0, c_in) ∧ mj_lk ct_X11_draw 114 = some (0, 5, 2, 0, 0, c_X2_paint) := ⟨rfl, rfl⟩
set_option maxHeartbeats 4000000 in
set_option maxRecDepth 20000 in
theorem b_X11_draw_84 {k : Option Value → mj_H → Prop} {G : mj_K} (hG : mj_cl2 cX11_draw (TbX11 9 ((some FieldType.boolean)) ct_X11_draw) k G) {v1 : Int32} {v2 : Int32} {v3 : Int32} {v4 : Int32} {v5 : Int32} {v6 : Int32} {P : Int32 × St → Prop} {K : (St) → Prop} (hP : ∀ x, P x → G 84 [.ref 0, .int v1, .int v2, .int v3, .int v4, .int v5, .int v6, mj_unk, .int x.1] [] (mkCs x.2) 0 0) (hK0 : ∀ y, K y → G 128 [] [] (mkCs y) 0 0) {v8 : Int32} {s : St} (hw : ok (B_X11_draw_84 v1 v2 v3 v4 v5 v6 (v8, s)) (Sum.elim P K)) : G 84 [.ref 0, .int v1, .int v2, .int v3, .int v4, .int v5, .int v6, mj_unk, .int v8] [] (mkCs s) 0 0 := by
  unfold B_X11_draw_84 at hw
  refine mj_run hG.1 (fun pc => pc == 84 || pc == 122 || pc == 128) 4000 ?_
  simp only [mj_step, mj_W_s, mj_fin, List.getElem?_cons_zero, List.getElem?_cons_succ, mj_go, Nat.reduceAdd, Nat.reduceSub, Nat.reduceLT, Nat.reduceLeDiff, Nat.zero_add, Nat.reduceEqDiff, Nat.reduceBEq, ↓reduceIte, Bool.false_eq_true, List.append_nil, List.nil_append, List.cons_append, Option.toList, and_true, true_and, true_or, or_true, reduceCtorEq, List.map_nil, bI_eq0, bI_eq1, bool_ft, pk_us, vnar0, vnar1, Bool.or_false, Bool.or_true, Bool.false_or, Bool.true_or, mj_kne, eq_self, Int32.reduceLT, Int32.reduceLE, Int32.reduceAdd, Int32.reduceSub, Int32.reduceMul, not_true_eq_false, not_false_eq_true, false_implies, true_implies, D_X11_draw_0, D_X11_draw_1, mj_F_aload_n_k, mj_F_bipush_n, mj_F_getfield_i, mj_F_goto_off, mj_F_iadd, mj_F_iconst_n, mj_F_ifCond_eq_off, mj_F_ifCond_ne_off, mj_F_if_icmp_ge_off, mj_F_iinc_k_n, mj_F_iload_k, mj_F_iload_n_k, mj_F_imul, mj_F_invokestatic_i, mj_F_invokevirtual_i, mj_F_ireturn, mj_F_istore_k, mj_F_isub, mj_set, mj_set0, mj_unk, mj_c2, mj_kc, FT_X11, L_X11_draw, List.take_succ_cons, List.take_zero, List.drop_succ_cons, List.drop_zero, List.reverse_cons, List.reverse_nil, List.length_cons, List.length_nil, gS_C0, gCf11_1, c_in_eq, gS_C1, J_X11_draw]
  refine ⟨fun c => ?_, fun c => ?_⟩
  · replace hw := ok_t hw c
    exact hG.2 _ _ _ _ _ _ _ _ _ (by exact trivial) (Nat.zero_le _) (Nat.zero_le _) (hK0 _ (ok_some hw :) :)
  · replace hw := ok_f hw c
    refine c_X2_paint_in (ok_imp (ok_bind hw) ?_)
    intro p hw
    simp only [Option.toList, List.nil_append, List.cons_append, Nat.reduceSub]
    refine mj_run hG.1 (fun pc => pc == 84 || pc == 122 || pc == 128) 4000 ?_
    simp only [mj_step, mj_W_s, mj_fin, List.getElem?_cons_zero, List.getElem?_cons_succ, mj_go, Nat.reduceAdd, Nat.reduceSub, Nat.reduceLT, Nat.reduceLeDiff, Nat.zero_add, Nat.reduceEqDiff, Nat.reduceBEq, ↓reduceIte, Bool.false_eq_true, List.append_nil, List.nil_append, List.cons_append, Option.toList, and_true, true_and, true_or, or_true, reduceCtorEq, List.map_nil, bI_eq0, bI_eq1, bool_ft, pk_us, vnar0, vnar1, Bool.or_false, Bool.or_true, Bool.false_or, Bool.true_or, mj_kne, eq_self, Int32.reduceLT, Int32.reduceLE, Int32.reduceAdd, Int32.reduceSub, Int32.reduceMul, not_true_eq_false, not_false_eq_true, false_implies, true_implies, D_X11_draw_0, D_X11_draw_1, mj_F_aload_n_k, mj_F_bipush_n, mj_F_getfield_i, mj_F_goto_off, mj_F_iadd, mj_F_iconst_n, mj_F_ifCond_eq_off, mj_F_ifCond_ne_off, mj_F_if_icmp_ge_off, mj_F_iinc_k_n, mj_F_iload_k, mj_F_iload_n_k, mj_F_imul, mj_F_invokestatic_i, mj_F_invokevirtual_i, mj_F_ireturn, mj_F_istore_k, mj_F_isub, mj_set, mj_set0, mj_unk, mj_c2, mj_kc, FT_X11, L_X11_draw, List.take_succ_cons, List.take_zero, List.drop_succ_cons, List.drop_zero, List.reverse_cons, List.reverse_nil, List.length_cons, List.length_nil, gS_C0, gCf11_1, c_in_eq, gS_C1, J_X11_draw]
    exact hG.2 _ _ _ _ _ _ _ _ _ (by refine ⟨Or.inr rfl, ?_⟩; refine ⟨Or.inr rfl, ?_⟩; refine ⟨Or.inr rfl, ?_⟩; refine ⟨Or.inr rfl, ?_⟩; refine ⟨Or.inr rfl, ?_⟩; refine ⟨Or.inr rfl, ?_⟩; refine ⟨Or.inr rfl, ?_⟩; refine ⟨Or.inl rfl, ?_⟩; refine ⟨Or.inr rfl, ?_⟩; exact trivial) (Nat.zero_le _) (Nat.zero_le _) (hP _ (ok_some hw :) :)

set_option maxHeartbeats 4000000 in
set_option maxRecDepth 20000 in
theorem g_X11_draw_128 {k : Option Value → mj_H → Prop} {G : mj_K} (hG : mj_cl2 cX11_draw (TbX11 9 ((some FieldType.boolean)) ct_X11_draw) k G)   {s : St} (hw : ok (F_X11_draw_128 s) (fun p => k (some (.int p.1)) (mkCs p.2))) : G 128 [] [] (mkCs s) 0 0 := by
  unfold F_X11_draw_128 at hw
  refine mj_run hG.1 (fun pc => pc == 84 || pc == 122 || pc == 128) 4000 ?_
  simp only [mj_step, mj_W_s, mj_fin, List.getElem?_cons_zero, List.getElem?_cons_succ, mj_go, Nat.reduceAdd, Nat.reduceSub, Nat.reduceLT, Nat.reduceLeDiff, Nat.zero_add, Nat.reduceEqDiff, Nat.reduceBEq, ↓reduceIte, Bool.false_eq_true, List.append_nil, List.nil_append, List.cons_append, Option.toList, and_true, true_and, true_or, or_true, reduceCtorEq, List.map_nil, bI_eq0, bI_eq1, bool_ft, pk_us, vnar0, vnar1, Bool.or_false, Bool.or_true, Bool.false_or, Bool.true_or, mj_kne, eq_self, Int32.reduceLT, Int32.reduceLE, Int32.reduceAdd, Int32.reduceSub, Int32.reduceMul, not_true_eq_false, not_false_eq_true, false_implies, true_implies, D_X11_draw_0, D_X11_draw_1, mj_F_aload_n_k, mj_F_bipush_n, mj_F_getfield_i, mj_F_goto_off, mj_F_iadd, mj_F_iconst_n, mj_F_ifCond_eq_off, mj_F_ifCond_ne_off, mj_F_if_icmp_ge_off, mj_F_iinc_k_n, mj_F_iload_k, mj_F_iload_n_k, mj_F_imul, mj_F_invokestatic_i, mj_F_invokevirtual_i, mj_F_ireturn, mj_F_istore_k, mj_F_isub, mj_set, mj_set0, mj_unk, mj_c2, mj_kc, FT_X11, L_X11_draw, List.take_succ_cons, List.take_zero, List.drop_succ_cons, List.drop_zero, List.reverse_cons, List.reverse_nil, List.length_cons, List.length_nil, gS_C0, gCf11_1, c_in_eq, gS_C1, J_X11_draw]
  exact (ok_some hw :)

set_option maxHeartbeats 4000000 in
theorem g_X11_draw_84 {k : Option Value → mj_H → Prop} {G : mj_K} (hG : mj_cl2 cX11_draw (TbX11 9 ((some FieldType.boolean)) ct_X11_draw) k G)   {v1 : Int32} {v2 : Int32} {v3 : Int32} {v4 : Int32} {v5 : Int32} {v6 : Int32} {v8 : Int32} {s : St} (hw : ok (F_X11_draw_84 v1 v2 v3 v4 v5 v6 v8 s) (fun p => k (some (.int p.1)) (mkCs p.2))) : G 84 [.ref 0, .int v1, .int v2, .int v3, .int v4, .int v5, .int v6, mj_unk, .int v8] [] (mkCs s) 0 0 := by
  unfold F_X11_draw_84 at hw
  refine lp_ok (B_X11_draw_84 v1 v2 v3 v4 v5 v6) (fun x => G 84 [.ref 0, .int v1, .int v2, .int v3, .int v4, .int v5, .int v6, mj_unk, .int x.1] [] (mkCs x.2) 0 0) _ ?_ _ _ (ok_bind hw)
  rintro ⟨v8, s⟩ hb
  exact b_X11_draw_84 hG (fun _ z => z) (fun y hw => by exact hG.2 _ _ _ _ _ _ _ _ _ (by exact trivial) (Nat.zero_le _) (Nat.zero_le _) (g_X11_draw_128 hG  hw :)) hb

set_option maxHeartbeats 4000000 in
set_option maxRecDepth 20000 in
theorem g_X11_draw {k : Option Value → mj_H → Prop} {G : mj_K} (hG : mj_cl2 cX11_draw (TbX11 9 ((some FieldType.boolean)) ct_X11_draw) k G) {v1 : Int32} {v2 : Int32} {v3 : Int32} {v4 : Int32} {v5 : Int32} {v6 : Int32} {s : St} (hw : ok (F_X11_draw v1 v2 v3 v4 v5 v6 s) (fun p => k (some (.int p.1)) (mkCs p.2))) : G 0 [.ref 0, .int v1, .int v2, .int v3, .int v4, .int v5, .int v6] [] (mkCs s) 0 0 := by
  unfold F_X11_draw at hw
  refine mj_run hG.1 (fun pc => pc == 84 || pc == 122 || pc == 128) 4000 ?_
  simp only [mj_step, mj_W_s, mj_fin, List.getElem?_cons_zero, List.getElem?_cons_succ, mj_go, Nat.reduceAdd, Nat.reduceSub, Nat.reduceLT, Nat.reduceLeDiff, Nat.zero_add, Nat.reduceEqDiff, Nat.reduceBEq, ↓reduceIte, Bool.false_eq_true, List.append_nil, List.nil_append, List.cons_append, Option.toList, and_true, true_and, true_or, or_true, reduceCtorEq, List.map_nil, bI_eq0, bI_eq1, bool_ft, pk_us, vnar0, vnar1, Bool.or_false, Bool.or_true, Bool.false_or, Bool.true_or, mj_kne, eq_self, Int32.reduceLT, Int32.reduceLE, Int32.reduceAdd, Int32.reduceSub, Int32.reduceMul, not_true_eq_false, not_false_eq_true, false_implies, true_implies, D_X11_draw_0, D_X11_draw_1, mj_F_aload_n_k, mj_F_bipush_n, mj_F_getfield_i, mj_F_goto_off, mj_F_iadd, mj_F_iconst_n, mj_F_ifCond_eq_off, mj_F_ifCond_ne_off, mj_F_if_icmp_ge_off, mj_F_iinc_k_n, mj_F_iload_k, mj_F_iload_n_k, mj_F_imul, mj_F_invokestatic_i, mj_F_invokevirtual_i, mj_F_ireturn, mj_F_istore_k, mj_F_isub, mj_set, mj_set0, mj_unk, mj_c2, mj_kc, FT_X11, L_X11_draw, List.take_succ_cons, List.take_zero, List.drop_succ_cons, List.drop_zero, List.reverse_cons, List.reverse_nil, List.length_cons, List.length_nil, gS_C0, gCf11_1, c_in_eq, gS_C1, J_X11_draw]
  refine ⟨fun c => ?_, fun c => ?_⟩
  · replace hw := ok_t hw c
    exact (ok_some hw :)
  · replace hw := ok_f hw c
    refine ⟨fun c => ?_, fun c => ?_⟩
    · replace hw := ok_t hw c
      exact (ok_some hw :)
    · replace hw := ok_f hw c
      refine ⟨fun c => ?_, fun c => ?_⟩
      · replace hw := ok_t hw c
        exact (ok_some hw :)
      · replace hw := ok_f hw c
        refine ⟨fun c => ?_, fun c => ?_⟩
        · replace hw := ok_t hw c
          exact (ok_some hw :)
        · replace hw := ok_f hw c
          refine ⟨fun c => ?_, fun c => ?_⟩
          · replace hw := ok_t hw c
            exact (ok_some hw :)
          · replace hw := ok_f hw c
            refine ⟨fun c => ?_, fun c => ?_⟩
            · replace hw := ok_f hw c
              exact hG.2 _ _ _ _ _ _ _ _ _ (by refine ⟨Or.inr rfl, ?_⟩; refine ⟨Or.inr rfl, ?_⟩; refine ⟨Or.inr rfl, ?_⟩; refine ⟨Or.inr rfl, ?_⟩; refine ⟨Or.inr rfl, ?_⟩; refine ⟨Or.inr rfl, ?_⟩; refine ⟨Or.inr rfl, ?_⟩; refine ⟨Or.inl rfl, ?_⟩; refine ⟨Or.inr rfl, ?_⟩; exact trivial) (Nat.zero_le _) (Nat.zero_le _) (g_X11_draw_84 hG  hw :)
            · replace hw := ok_t hw c
              exact (ok_some hw :)

def c_X11_draw : mj_S := fun as h k => ∃ (v1 : Int32) (v2 : Int32) (v3 : Int32) (v4 : Int32) (v5 : Int32) (v6 : Int32) (s : St), as = [.ref 0, .int v1, .int v2, .int v3, .int v4, .int v5, .int v6] ∧ h = mkCs s ∧ ok (F_X11_draw v1 v2 v3 v4 v5 v6 s) (fun p => k (some (.int p.1)) (mkCs p.2))
theorem c_X11_draw_in {v1 : Int32} {v2 : Int32} {v3 : Int32} {v4 : Int32} {v5 : Int32} {v6 : Int32} {s : St} {k : Option Value → mj_H → Prop} (hw : ok (F_X11_draw v1 v2 v3 v4 v5 v6 s) (fun p => k (some (.int p.1)) (mkCs p.2))) : c_X11_draw [.ref 0, .int v1, .int v2, .int v3, .int v4, .int v5, .int v6] (mkCs s) k := ⟨v1, v2, v3, v4, v5, v6, s, rfl, rfl, hw⟩
theorem m_X11_draw (l : Launch) : mj_Met l yX11_draw cX11_draw 9 ((some FieldType.boolean)) 2 0 0 c_X11_draw := by
  refine mj_body2 false (TbX11 9 ((some FieldType.boolean)) ct_X11_draw) (by decide) rfl rfl (fun h => nomatch h) (tfX11 _ (List.forall_mem_cons.mpr ⟨cfX11_96 (m_X11_within l) (by decide), List.forall_mem_cons.mpr ⟨cfX11_114 (m_X2_paint l) (by decide), fun _ h => nomatch h⟩⟩)) ?_
  rintro as h k ⟨v1, v2, v3, v4, v5, v6, s, rfl, rfl, hw⟩
  exact ⟨rfl, fun G hG => g_X11_draw hG hw⟩
def F_X2_ease_81 (v0 : Int32) (v1 : Nat) (v2 : Nat) (v3 : Int32) (s : St) : Option (Int32 × St) :=
  (ra s v1 v0).bind fun x6 =>
  (ra s v2 v0).bind fun x7 =>
  if (v3 + x6) < x7 then
    (ra s v1 v0).bind fun x8 =>
    (wa s v2 v0 (v3 + x8)).bind fun s9 =>
    some (1, s9)
  else
    some (0, s)
def F_X2_ease_64 (v0 : Int32) (v1 : Nat) (v2 : Nat) (v3 : Int32) (s : St) : Option (Int32 × St) :=
  if 108 ≤ v0 then
    F_X2_ease_81 v0 v1 v2 v3 s
  else
    (ra s v2 (v0 + 12)).bind fun x5 =>
    F_X2_ease_81 v0 v1 v2 (zmn v3 x5) s
def F_X2_ease_47 (v0 : Int32) (v1 : Nat) (v2 : Nat) (v3 : Int32) (s : St) : Option (Int32 × St) :=
  if v0 < 12 then
    F_X2_ease_64 v0 v1 v2 v3 s
  else
    (ra s v2 (v0 - 12)).bind fun x4 =>
    F_X2_ease_64 v0 v1 v2 (zmn v3 x4) s
def F_X2_ease_28 (v0 : Int32) (v1 : Nat) (v2 : Nat) (v3 : Int32) (s : St) : Option (Int32 × St) :=
  if 11 ≤ (v0 - v0 / 12 * 12) then
    F_X2_ease_47 v0 v1 v2 v3 s
  else
    (ra s v2 (v0 + 1)).bind fun x3 =>
    F_X2_ease_47 v0 v1 v2 (zmn v3 x3) s
def F_X2_ease (v0 : Int32) (v1 : Nat) (v2 : Nat) (s : St) : Option (Int32 × St) :=
  (ra s v1 v0).bind fun x1 =>
  if x1 = 0 then
    some (0, s)
  else
    if (v0 - v0 / 12 * 12) ≤ 0 then
      F_X2_ease_28 v0 v1 v2 100000000 s
    else
      (ra s v2 (v0 - 1)).bind fun x2 =>
      F_X2_ease_28 v0 v1 v2 (zmn 100000000 x2) s
theorem J_X2_ease : mj_t 3 5 = 8 ∧ mj_t 15 13 = 28 ∧ mj_t 34 13 = 47 ∧ mj_t 50 14 = 64 ∧ mj_t 67 14 = 81 ∧ mj_t 89 5 = 94 ∧ (0 ≤ ((3 : Nat) : Int) + 5) = True ∧ (0 ≤ ((15 : Nat) : Int) + 13) = True ∧ (0 ≤ ((34 : Nat) : Int) + 13) = True ∧ (0 ≤ ((50 : Nat) : Int) + 14) = True ∧ (0 ≤ ((67 : Nat) : Int) + 14) = True ∧ (0 ≤ ((89 : Nat) : Int) + 5) = True := by and_intros <;> first | rfl | exact eq_true (by decide)
set_option maxHeartbeats 4000000 in
set_option maxRecDepth 20000 in
theorem g_X2_ease_81 {k : Option Value → mj_H → Prop} {G : mj_K} (hG : mj_cl2 cX2_ease (TbX2 4 ((some FieldType.boolean)) []) k G) (hM : mj_ml cX2_ease yX2_ease.cls G)   {v0 : Int32} {v1 : Nat} {v2 : Nat} {v3 : Int32} {s : St} (hw : ok (F_X2_ease_81 v0 v1 v2 v3 s) (fun p => k (some (.int p.1)) (mkCs p.2))) : G 81 [.int v0, .ref v1, .ref v2, .int v3] [] (mkCs s) 0 0 := by
  unfold F_X2_ease_81 at hw
  refine mj_run hG.1 (fun pc => pc == 2 || pc == 23 || pc == 24 || pc == 28 || pc == 42 || pc == 43 || pc == 47 || pc == 59 || pc == 60 || pc == 64 || pc == 76 || pc == 77 || pc == 81 || pc == 84 || pc == 88 || pc == 99 || pc == 101) 4000 ?_
  simp only [mj_step, mj_W_s, mj_fin, List.getElem?_cons_zero, List.getElem?_cons_succ, mj_go, Nat.reduceAdd, Nat.reduceSub, Nat.reduceLT, Nat.reduceLeDiff, Nat.zero_add, Nat.reduceEqDiff, Nat.reduceBEq, ↓reduceIte, Bool.false_eq_true, List.append_nil, List.nil_append, List.cons_append, Option.toList, and_true, true_and, true_or, or_true, reduceCtorEq, List.map_nil, bI_eq0, bI_eq1, bool_ft, pk_us, vnar0, vnar1, Bool.or_false, Bool.or_true, Bool.false_or, Bool.true_or, mj_kne, eq_self, Int32.reduceLT, Int32.reduceLE, Int32.reduceAdd, Int32.reduceSub, Int32.reduceMul, not_true_eq_false, not_false_eq_true, false_implies, true_implies, D_X2_ease_0, D_X2_ease_1, mj_F_aload_n_k, mj_F_bipush_n, mj_F_iadd, mj_F_iaload, mj_F_iastore, mj_F_iconst_n, mj_F_ifCond_le_off, mj_F_ifCond_ne_off, mj_F_if_icmp_ge_off, mj_F_if_icmp_lt_off, mj_F_iload_n_k, mj_F_invokestatic_i, mj_F_irem, mj_F_ireturn, mj_F_istore_n_k, mj_F_isub, mj_F_ldc_i, mj_set, mj_set0, mj_unk, mj_c2, mj_kc, KT_X2, List.take_succ_cons, List.take_zero, List.drop_succ_cons, List.drop_zero, List.reverse_cons, List.reverse_nil, List.length_cons, List.length_nil, J_X2_ease]
  obtain ⟨_, _, e10, z, hw⟩ := ok_ra hw
  refine mj_run hG.1 (fun pc => pc == 2 || pc == 23 || pc == 24 || pc == 28 || pc == 42 || pc == 43 || pc == 47 || pc == 59 || pc == 60 || pc == 64 || pc == 76 || pc == 77 || pc == 81 || pc == 84 || pc == 88 || pc == 99 || pc == 101) 4000 ?_
  simp only [e10, mj_step, mj_W_s, mj_fin, List.getElem?_cons_zero, List.getElem?_cons_succ, mj_go, Nat.reduceAdd, Nat.reduceSub, Nat.reduceLT, Nat.reduceLeDiff, Nat.zero_add, Nat.reduceEqDiff, Nat.reduceBEq, ↓reduceIte, Bool.false_eq_true, List.append_nil, List.nil_append, List.cons_append, Option.toList, and_true, true_and, true_or, or_true, reduceCtorEq, List.map_nil, bI_eq0, bI_eq1, bool_ft, pk_us, vnar0, vnar1, Bool.or_false, Bool.or_true, Bool.false_or, Bool.true_or, mj_kne, eq_self, Int32.reduceLT, Int32.reduceLE, Int32.reduceAdd, Int32.reduceSub, Int32.reduceMul, not_true_eq_false, not_false_eq_true, false_implies, true_implies, D_X2_ease_0, D_X2_ease_1, mj_F_aload_n_k, mj_F_bipush_n, mj_F_iadd, mj_F_iaload, mj_F_iastore, mj_F_iconst_n, mj_F_ifCond_le_off, mj_F_ifCond_ne_off, mj_F_if_icmp_ge_off, mj_F_if_icmp_lt_off, mj_F_iload_n_k, mj_F_invokestatic_i, mj_F_irem, mj_F_ireturn, mj_F_istore_n_k, mj_F_isub, mj_F_ldc_i, mj_set, mj_set0, mj_unk, mj_c2, mj_kc, KT_X2, List.take_succ_cons, List.take_zero, List.drop_succ_cons, List.drop_zero, List.reverse_cons, List.reverse_nil, List.length_cons, List.length_nil, J_X2_ease]
  refine ⟨z, ?_⟩
  obtain ⟨_, _, e11, z, hw⟩ := ok_ra hw
  refine mj_run hG.1 (fun pc => pc == 2 || pc == 23 || pc == 24 || pc == 28 || pc == 42 || pc == 43 || pc == 47 || pc == 59 || pc == 60 || pc == 64 || pc == 76 || pc == 77 || pc == 81 || pc == 84 || pc == 88 || pc == 99 || pc == 101) 4000 ?_
  simp only [e11, mj_step, mj_W_s, mj_fin, List.getElem?_cons_zero, List.getElem?_cons_succ, mj_go, Nat.reduceAdd, Nat.reduceSub, Nat.reduceLT, Nat.reduceLeDiff, Nat.zero_add, Nat.reduceEqDiff, Nat.reduceBEq, ↓reduceIte, Bool.false_eq_true, List.append_nil, List.nil_append, List.cons_append, Option.toList, and_true, true_and, true_or, or_true, reduceCtorEq, List.map_nil, bI_eq0, bI_eq1, bool_ft, pk_us, vnar0, vnar1, Bool.or_false, Bool.or_true, Bool.false_or, Bool.true_or, mj_kne, eq_self, Int32.reduceLT, Int32.reduceLE, Int32.reduceAdd, Int32.reduceSub, Int32.reduceMul, not_true_eq_false, not_false_eq_true, false_implies, true_implies, D_X2_ease_0, D_X2_ease_1, mj_F_aload_n_k, mj_F_bipush_n, mj_F_iadd, mj_F_iaload, mj_F_iastore, mj_F_iconst_n, mj_F_ifCond_le_off, mj_F_ifCond_ne_off, mj_F_if_icmp_ge_off, mj_F_if_icmp_lt_off, mj_F_iload_n_k, mj_F_invokestatic_i, mj_F_irem, mj_F_ireturn, mj_F_istore_n_k, mj_F_isub, mj_F_ldc_i, mj_set, mj_set0, mj_unk, mj_c2, mj_kc, KT_X2, List.take_succ_cons, List.take_zero, List.drop_succ_cons, List.drop_zero, List.reverse_cons, List.reverse_nil, List.length_cons, List.length_nil, J_X2_ease]
  refine ⟨z, ?_⟩
  refine ⟨fun c => ?_, fun c => ?_⟩
  · replace hw := ok_t hw c
    obtain ⟨_, _, e12, z, hw⟩ := ok_ra hw
    refine mj_run hG.1 (fun pc => pc == 2 || pc == 23 || pc == 24 || pc == 28 || pc == 42 || pc == 43 || pc == 47 || pc == 59 || pc == 60 || pc == 64 || pc == 76 || pc == 77 || pc == 81 || pc == 84 || pc == 88 || pc == 99 || pc == 101) 4000 ?_
    simp only [e12, mj_step, mj_W_s, mj_fin, List.getElem?_cons_zero, List.getElem?_cons_succ, mj_go, Nat.reduceAdd, Nat.reduceSub, Nat.reduceLT, Nat.reduceLeDiff, Nat.zero_add, Nat.reduceEqDiff, Nat.reduceBEq, ↓reduceIte, Bool.false_eq_true, List.append_nil, List.nil_append, List.cons_append, Option.toList, and_true, true_and, true_or, or_true, reduceCtorEq, List.map_nil, bI_eq0, bI_eq1, bool_ft, pk_us, vnar0, vnar1, Bool.or_false, Bool.or_true, Bool.false_or, Bool.true_or, mj_kne, eq_self, Int32.reduceLT, Int32.reduceLE, Int32.reduceAdd, Int32.reduceSub, Int32.reduceMul, not_true_eq_false, not_false_eq_true, false_implies, true_implies, D_X2_ease_0, D_X2_ease_1, mj_F_aload_n_k, mj_F_bipush_n, mj_F_iadd, mj_F_iaload, mj_F_iastore, mj_F_iconst_n, mj_F_ifCond_le_off, mj_F_ifCond_ne_off, mj_F_if_icmp_ge_off, mj_F_if_icmp_lt_off, mj_F_iload_n_k, mj_F_invokestatic_i, mj_F_irem, mj_F_ireturn, mj_F_istore_n_k, mj_F_isub, mj_F_ldc_i, mj_set, mj_set0, mj_unk, mj_c2, mj_kc, KT_X2, List.take_succ_cons, List.take_zero, List.drop_succ_cons, List.drop_zero, List.reverse_cons, List.reverse_nil, List.length_cons, List.length_nil, J_X2_ease]
    refine ⟨z, ?_⟩
    obtain ⟨_, _, e13, z, z2, hw⟩ := ok_wa hw
    refine mj_run hG.1 (fun pc => pc == 2 || pc == 23 || pc == 24 || pc == 28 || pc == 42 || pc == 43 || pc == 47 || pc == 59 || pc == 60 || pc == 64 || pc == 76 || pc == 77 || pc == 81 || pc == 84 || pc == 88 || pc == 99 || pc == 101) 4000 ?_
    simp only [e13, z2, mj_step, mj_W_s, mj_fin, List.getElem?_cons_zero, List.getElem?_cons_succ, mj_go, Nat.reduceAdd, Nat.reduceSub, Nat.reduceLT, Nat.reduceLeDiff, Nat.zero_add, Nat.reduceEqDiff, Nat.reduceBEq, ↓reduceIte, Bool.false_eq_true, List.append_nil, List.nil_append, List.cons_append, Option.toList, and_true, true_and, true_or, or_true, reduceCtorEq, List.map_nil, bI_eq0, bI_eq1, bool_ft, pk_us, vnar0, vnar1, Bool.or_false, Bool.or_true, Bool.false_or, Bool.true_or, mj_kne, eq_self, Int32.reduceLT, Int32.reduceLE, Int32.reduceAdd, Int32.reduceSub, Int32.reduceMul, not_true_eq_false, not_false_eq_true, false_implies, true_implies, D_X2_ease_0, D_X2_ease_1, mj_F_aload_n_k, mj_F_bipush_n, mj_F_iadd, mj_F_iaload, mj_F_iastore, mj_F_iconst_n, mj_F_ifCond_le_off, mj_F_ifCond_ne_off, mj_F_if_icmp_ge_off, mj_F_if_icmp_lt_off, mj_F_iload_n_k, mj_F_invokestatic_i, mj_F_irem, mj_F_ireturn, mj_F_istore_n_k, mj_F_isub, mj_F_ldc_i, mj_set, mj_set0, mj_unk, mj_c2, mj_kc, KT_X2, List.take_succ_cons, List.take_zero, List.drop_succ_cons, List.drop_zero, List.reverse_cons, List.reverse_nil, List.length_cons, List.length_nil, J_X2_ease]
    refine ⟨z, ?_⟩
    exact (ok_some hw :)
  · replace hw := ok_f hw c
    exact (ok_some hw :)

set_option maxHeartbeats 4000000 in
set_option maxRecDepth 20000 in
theorem g_X2_ease_64 {k : Option Value → mj_H → Prop} {G : mj_K} (hG : mj_cl2 cX2_ease (TbX2 4 ((some FieldType.boolean)) []) k G) (hM : mj_ml cX2_ease yX2_ease.cls G)   {v0 : Int32} {v1 : Nat} {v2 : Nat} {v3 : Int32} {s : St} (hw : ok (F_X2_ease_64 v0 v1 v2 v3 s) (fun p => k (some (.int p.1)) (mkCs p.2))) : G 64 [.int v0, .ref v1, .ref v2, .int v3] [] (mkCs s) 0 0 := by
  unfold F_X2_ease_64 at hw
  refine mj_run hG.1 (fun pc => pc == 2 || pc == 23 || pc == 24 || pc == 28 || pc == 42 || pc == 43 || pc == 47 || pc == 59 || pc == 60 || pc == 64 || pc == 76 || pc == 77 || pc == 81 || pc == 84 || pc == 88 || pc == 99 || pc == 101) 4000 ?_
  simp only [mj_step, mj_W_s, mj_fin, List.getElem?_cons_zero, List.getElem?_cons_succ, mj_go, Nat.reduceAdd, Nat.reduceSub, Nat.reduceLT, Nat.reduceLeDiff, Nat.zero_add, Nat.reduceEqDiff, Nat.reduceBEq, ↓reduceIte, Bool.false_eq_true, List.append_nil, List.nil_append, List.cons_append, Option.toList, and_true, true_and, true_or, or_true, reduceCtorEq, List.map_nil, bI_eq0, bI_eq1, bool_ft, pk_us, vnar0, vnar1, Bool.or_false, Bool.or_true, Bool.false_or, Bool.true_or, mj_kne, eq_self, Int32.reduceLT, Int32.reduceLE, Int32.reduceAdd, Int32.reduceSub, Int32.reduceMul, not_true_eq_false, not_false_eq_true, false_implies, true_implies, D_X2_ease_0, D_X2_ease_1, mj_F_aload_n_k, mj_F_bipush_n, mj_F_iadd, mj_F_iaload, mj_F_iastore, mj_F_iconst_n, mj_F_ifCond_le_off, mj_F_ifCond_ne_off, mj_F_if_icmp_ge_off, mj_F_if_icmp_lt_off, mj_F_iload_n_k, mj_F_invokestatic_i, mj_F_irem, mj_F_ireturn, mj_F_istore_n_k, mj_F_isub, mj_F_ldc_i, mj_set, mj_set0, mj_unk, mj_c2, mj_kc, KT_X2, List.take_succ_cons, List.take_zero, List.drop_succ_cons, List.drop_zero, List.reverse_cons, List.reverse_nil, List.length_cons, List.length_nil, J_X2_ease]
  refine ⟨fun c => ?_, fun c => ?_⟩
  · replace hw := ok_t hw c
    exact hG.2 _ _ _ _ _ _ _ _ _ (by refine ⟨Or.inr rfl, ?_⟩; refine ⟨Or.inr rfl, ?_⟩; refine ⟨Or.inr rfl, ?_⟩; refine ⟨Or.inr rfl, ?_⟩; exact trivial) (Nat.zero_le _) (Nat.zero_le _) (g_X2_ease_81 hG hM  hw :)
  · replace hw := ok_f hw c
    obtain ⟨_, _, e14, z, hw⟩ := ok_ra hw
    refine mj_run hG.1 (fun pc => pc == 2 || pc == 23 || pc == 24 || pc == 28 || pc == 42 || pc == 43 || pc == 47 || pc == 59 || pc == 60 || pc == 64 || pc == 76 || pc == 77 || pc == 81 || pc == 84 || pc == 88 || pc == 99 || pc == 101) 4000 ?_
    simp only [e14, mj_step, mj_W_s, mj_fin, List.getElem?_cons_zero, List.getElem?_cons_succ, mj_go, Nat.reduceAdd, Nat.reduceSub, Nat.reduceLT, Nat.reduceLeDiff, Nat.zero_add, Nat.reduceEqDiff, Nat.reduceBEq, ↓reduceIte, Bool.false_eq_true, List.append_nil, List.nil_append, List.cons_append, Option.toList, and_true, true_and, true_or, or_true, reduceCtorEq, List.map_nil, bI_eq0, bI_eq1, bool_ft, pk_us, vnar0, vnar1, Bool.or_false, Bool.or_true, Bool.false_or, Bool.true_or, mj_kne, eq_self, Int32.reduceLT, Int32.reduceLE, Int32.reduceAdd, Int32.reduceSub, Int32.reduceMul, not_true_eq_false, not_false_eq_true, false_implies, true_implies, D_X2_ease_0, D_X2_ease_1, mj_F_aload_n_k, mj_F_bipush_n, mj_F_iadd, mj_F_iaload, mj_F_iastore, mj_F_iconst_n, mj_F_ifCond_le_off, mj_F_ifCond_ne_off, mj_F_if_icmp_ge_off, mj_F_if_icmp_lt_off, mj_F_iload_n_k, mj_F_invokestatic_i, mj_F_irem, mj_F_ireturn, mj_F_istore_n_k, mj_F_isub, mj_F_ldc_i, mj_set, mj_set0, mj_unk, mj_c2, mj_kc, KT_X2, List.take_succ_cons, List.take_zero, List.drop_succ_cons, List.drop_zero, List.reverse_cons, List.reverse_nil, List.length_cons, List.length_nil, J_X2_ease]
    refine ⟨z, ?_⟩
    refine hM 77 59 0 _ _ _ _ _ _ _ _ (by simp only [D_X2_ease_0, D_X2_ease_1]) (lkX2_59) rfl (Nat.le_of_ble_eq_true rfl) ?_
    refine mj_run hG.1 (fun pc => pc == 2 || pc == 23 || pc == 24 || pc == 28 || pc == 42 || pc == 43 || pc == 47 || pc == 59 || pc == 60 || pc == 64 || pc == 76 || pc == 77 || pc == 81 || pc == 84 || pc == 88 || pc == 99 || pc == 101) 4000 ?_
    simp only [mj_step, mj_W_s, mj_fin, List.getElem?_cons_zero, List.getElem?_cons_succ, mj_go, Nat.reduceAdd, Nat.reduceSub, Nat.reduceLT, Nat.reduceLeDiff, Nat.zero_add, Nat.reduceEqDiff, Nat.reduceBEq, ↓reduceIte, Bool.false_eq_true, List.append_nil, List.nil_append, List.cons_append, Option.toList, and_true, true_and, true_or, or_true, reduceCtorEq, List.map_nil, bI_eq0, bI_eq1, bool_ft, pk_us, vnar0, vnar1, Bool.or_false, Bool.or_true, Bool.false_or, Bool.true_or, mj_kne, eq_self, Int32.reduceLT, Int32.reduceLE, Int32.reduceAdd, Int32.reduceSub, Int32.reduceMul, not_true_eq_false, not_false_eq_true, false_implies, true_implies, D_X2_ease_0, D_X2_ease_1, mj_F_aload_n_k, mj_F_bipush_n, mj_F_iadd, mj_F_iaload, mj_F_iastore, mj_F_iconst_n, mj_F_ifCond_le_off, mj_F_ifCond_ne_off, mj_F_if_icmp_ge_off, mj_F_if_icmp_lt_off, mj_F_iload_n_k, mj_F_invokestatic_i, mj_F_irem, mj_F_ireturn, mj_F_istore_n_k, mj_F_isub, mj_F_ldc_i, mj_set, mj_set0, mj_unk, mj_c2, mj_kc, KT_X2, List.take_succ_cons, List.take_zero, List.drop_succ_cons, List.drop_zero, List.reverse_cons, List.reverse_nil, List.length_cons, List.length_nil, J_X2_ease]
    exact hG.2 _ _ _ _ _ _ _ _ _ (by refine ⟨Or.inr rfl, ?_⟩; refine ⟨Or.inr rfl, ?_⟩; refine ⟨Or.inr rfl, ?_⟩; refine ⟨Or.inr rfl, ?_⟩; exact trivial) (Nat.zero_le _) (Nat.zero_le _) (g_X2_ease_81 hG hM  hw :)

set_option maxHeartbeats 4000000 in
set_option maxRecDepth 20000 in
theorem g_X2_ease_47 {k : Option Value → mj_H → Prop} {G : mj_K} (hG : mj_cl2 cX2_ease (TbX2 4 ((some FieldType.boolean)) []) k G) (hM : mj_ml cX2_ease yX2_ease.cls G)   {v0 : Int32} {v1 : Nat} {v2 : Nat} {v3 : Int32} {s : St} (hw : ok (F_X2_ease_47 v0 v1 v2 v3 s) (fun p => k (some (.int p.1)) (mkCs p.2))) : G 47 [.int v0, .ref v1, .ref v2, .int v3] [] (mkCs s) 0 0 := by
  unfold F_X2_ease_47 at hw
  refine mj_run hG.1 (fun pc => pc == 2 || pc == 23 || pc == 24 || pc == 28 || pc == 42 || pc == 43 || pc == 47 || pc == 59 || pc == 60 || pc == 64 || pc == 76 || pc == 77 || pc == 81 || pc == 84 || pc == 88 || pc == 99 || pc == 101) 4000 ?_
  simp only [mj_step, mj_W_s, mj_fin, List.getElem?_cons_zero, List.getElem?_cons_succ, mj_go, Nat.reduceAdd, Nat.reduceSub, Nat.reduceLT, Nat.reduceLeDiff, Nat.zero_add, Nat.reduceEqDiff, Nat.reduceBEq, ↓reduceIte, Bool.false_eq_true, List.append_nil, List.nil_append, List.cons_append, Option.toList, and_true, true_and, true_or, or_true, reduceCtorEq, List.map_nil, bI_eq0, bI_eq1, bool_ft, pk_us, vnar0, vnar1, Bool.or_false, Bool.or_true, Bool.false_or, Bool.true_or, mj_kne, eq_self, Int32.reduceLT, Int32.reduceLE, Int32.reduceAdd, Int32.reduceSub, Int32.reduceMul, not_true_eq_false, not_false_eq_true, false_implies, true_implies, D_X2_ease_0, D_X2_ease_1, mj_F_aload_n_k, mj_F_bipush_n, mj_F_iadd, mj_F_iaload, mj_F_iastore, mj_F_iconst_n, mj_F_ifCond_le_off, mj_F_ifCond_ne_off, mj_F_if_icmp_ge_off, mj_F_if_icmp_lt_off, mj_F_iload_n_k, mj_F_invokestatic_i, mj_F_irem, mj_F_ireturn, mj_F_istore_n_k, mj_F_isub, mj_F_ldc_i, mj_set, mj_set0, mj_unk, mj_c2, mj_kc, KT_X2, List.take_succ_cons, List.take_zero, List.drop_succ_cons, List.drop_zero, List.reverse_cons, List.reverse_nil, List.length_cons, List.length_nil, J_X2_ease]
  refine ⟨fun c => ?_, fun c => ?_⟩
  · replace hw := ok_t hw c
    exact hG.2 _ _ _ _ _ _ _ _ _ (by refine ⟨Or.inr rfl, ?_⟩; refine ⟨Or.inr rfl, ?_⟩; refine ⟨Or.inr rfl, ?_⟩; refine ⟨Or.inr rfl, ?_⟩; exact trivial) (Nat.zero_le _) (Nat.zero_le _) (g_X2_ease_64 hG hM  hw :)
  · replace hw := ok_f hw c
    obtain ⟨_, _, e15, z, hw⟩ := ok_ra hw
    refine mj_run hG.1 (fun pc => pc == 2 || pc == 23 || pc == 24 || pc == 28 || pc == 42 || pc == 43 || pc == 47 || pc == 59 || pc == 60 || pc == 64 || pc == 76 || pc == 77 || pc == 81 || pc == 84 || pc == 88 || pc == 99 || pc == 101) 4000 ?_
    simp only [e15, mj_step, mj_W_s, mj_fin, List.getElem?_cons_zero, List.getElem?_cons_succ, mj_go, Nat.reduceAdd, Nat.reduceSub, Nat.reduceLT, Nat.reduceLeDiff, Nat.zero_add, Nat.reduceEqDiff, Nat.reduceBEq, ↓reduceIte, Bool.false_eq_true, List.append_nil, List.nil_append, List.cons_append, Option.toList, and_true, true_and, true_or, or_true, reduceCtorEq, List.map_nil, bI_eq0, bI_eq1, bool_ft, pk_us, vnar0, vnar1, Bool.or_false, Bool.or_true, Bool.false_or, Bool.true_or, mj_kne, eq_self, Int32.reduceLT, Int32.reduceLE, Int32.reduceAdd, Int32.reduceSub, Int32.reduceMul, not_true_eq_false, not_false_eq_true, false_implies, true_implies, D_X2_ease_0, D_X2_ease_1, mj_F_aload_n_k, mj_F_bipush_n, mj_F_iadd, mj_F_iaload, mj_F_iastore, mj_F_iconst_n, mj_F_ifCond_le_off, mj_F_ifCond_ne_off, mj_F_if_icmp_ge_off, mj_F_if_icmp_lt_off, mj_F_iload_n_k, mj_F_invokestatic_i, mj_F_irem, mj_F_ireturn, mj_F_istore_n_k, mj_F_isub, mj_F_ldc_i, mj_set, mj_set0, mj_unk, mj_c2, mj_kc, KT_X2, List.take_succ_cons, List.take_zero, List.drop_succ_cons, List.drop_zero, List.reverse_cons, List.reverse_nil, List.length_cons, List.length_nil, J_X2_ease]
    refine ⟨z, ?_⟩
    refine hM 60 59 0 _ _ _ _ _ _ _ _ (by simp only [D_X2_ease_0, D_X2_ease_1]) (lkX2_59) rfl (Nat.le_of_ble_eq_true rfl) ?_
    refine mj_run hG.1 (fun pc => pc == 2 || pc == 23 || pc == 24 || pc == 28 || pc == 42 || pc == 43 || pc == 47 || pc == 59 || pc == 60 || pc == 64 || pc == 76 || pc == 77 || pc == 81 || pc == 84 || pc == 88 || pc == 99 || pc == 101) 4000 ?_
    simp only [mj_step, mj_W_s, mj_fin, List.getElem?_cons_zero, List.getElem?_cons_succ, mj_go, Nat.reduceAdd, Nat.reduceSub, Nat.reduceLT, Nat.reduceLeDiff, Nat.zero_add, Nat.reduceEqDiff, Nat.reduceBEq, ↓reduceIte, Bool.false_eq_true, List.append_nil, List.nil_append, List.cons_append, Option.toList, and_true, true_and, true_or, or_true, reduceCtorEq, List.map_nil, bI_eq0, bI_eq1, bool_ft, pk_us, vnar0, vnar1, Bool.or_false, Bool.or_true, Bool.false_or, Bool.true_or, mj_kne, eq_self, Int32.reduceLT, Int32.reduceLE, Int32.reduceAdd, Int32.reduceSub, Int32.reduceMul, not_true_eq_false, not_false_eq_true, false_implies, true_implies, D_X2_ease_0, D_X2_ease_1, mj_F_aload_n_k, mj_F_bipush_n, mj_F_iadd, mj_F_iaload, mj_F_iastore, mj_F_iconst_n, mj_F_ifCond_le_off, mj_F_ifCond_ne_off, mj_F_if_icmp_ge_off, mj_F_if_icmp_lt_off, mj_F_iload_n_k, mj_F_invokestatic_i, mj_F_irem, mj_F_ireturn, mj_F_istore_n_k, mj_F_isub, mj_F_ldc_i, mj_set, mj_set0, mj_unk, mj_c2, mj_kc, KT_X2, List.take_succ_cons, List.take_zero, List.drop_succ_cons, List.drop_zero, List.reverse_cons, List.reverse_nil, List.length_cons, List.length_nil, J_X2_ease]
    exact hG.2 _ _ _ _ _ _ _ _ _ (by refine ⟨Or.inr rfl, ?_⟩; refine ⟨Or.inr rfl, ?_⟩; refine ⟨Or.inr rfl, ?_⟩; refine ⟨Or.inr rfl, ?_⟩; exact trivial) (Nat.zero_le _) (Nat.zero_le _) (g_X2_ease_64 hG hM  hw :)

set_option maxHeartbeats 4000000 in
set_option maxRecDepth 20000 in
theorem g_X2_ease_28 {k : Option Value → mj_H → Prop} {G : mj_K} (hG : mj_cl2 cX2_ease (TbX2 4 ((some FieldType.boolean)) []) k G) (hM : mj_ml cX2_ease yX2_ease.cls G)   {v0 : Int32} {v1 : Nat} {v2 : Nat} {v3 : Int32} {s : St} (hw : ok (F_X2_ease_28 v0 v1 v2 v3 s) (fun p => k (some (.int p.1)) (mkCs p.2))) : G 28 [.int v0, .ref v1, .ref v2, .int v3] [] (mkCs s) 0 0 := by
  unfold F_X2_ease_28 at hw
  refine mj_run hG.1 (fun pc => pc == 2 || pc == 23 || pc == 24 || pc == 28 || pc == 42 || pc == 43 || pc == 47 || pc == 59 || pc == 60 || pc == 64 || pc == 76 || pc == 77 || pc == 81 || pc == 84 || pc == 88 || pc == 99 || pc == 101) 4000 ?_
  simp only [mj_step, mj_W_s, mj_fin, List.getElem?_cons_zero, List.getElem?_cons_succ, mj_go, Nat.reduceAdd, Nat.reduceSub, Nat.reduceLT, Nat.reduceLeDiff, Nat.zero_add, Nat.reduceEqDiff, Nat.reduceBEq, ↓reduceIte, Bool.false_eq_true, List.append_nil, List.nil_append, List.cons_append, Option.toList, and_true, true_and, true_or, or_true, reduceCtorEq, List.map_nil, bI_eq0, bI_eq1, bool_ft, pk_us, vnar0, vnar1, Bool.or_false, Bool.or_true, Bool.false_or, Bool.true_or, mj_kne, eq_self, Int32.reduceLT, Int32.reduceLE, Int32.reduceAdd, Int32.reduceSub, Int32.reduceMul, not_true_eq_false, not_false_eq_true, false_implies, true_implies, D_X2_ease_0, D_X2_ease_1, mj_F_aload_n_k, mj_F_bipush_n, mj_F_iadd, mj_F_iaload, mj_F_iastore, mj_F_iconst_n, mj_F_ifCond_le_off, mj_F_ifCond_ne_off, mj_F_if_icmp_ge_off, mj_F_if_icmp_lt_off, mj_F_iload_n_k, mj_F_invokestatic_i, mj_F_irem, mj_F_ireturn, mj_F_istore_n_k, mj_F_isub, mj_F_ldc_i, mj_set, mj_set0, mj_unk, mj_c2, mj_kc, KT_X2, List.take_succ_cons, List.take_zero, List.drop_succ_cons, List.drop_zero, List.reverse_cons, List.reverse_nil, List.length_cons, List.length_nil, J_X2_ease]
  refine ⟨fun c => ?_, fun c => ?_⟩
  · replace hw := ok_t hw c
    exact hG.2 _ _ _ _ _ _ _ _ _ (by refine ⟨Or.inr rfl, ?_⟩; refine ⟨Or.inr rfl, ?_⟩; refine ⟨Or.inr rfl, ?_⟩; refine ⟨Or.inr rfl, ?_⟩; exact trivial) (Nat.zero_le _) (Nat.zero_le _) (g_X2_ease_47 hG hM  hw :)
  · replace hw := ok_f hw c
    obtain ⟨_, _, e16, z, hw⟩ := ok_ra hw
    refine mj_run hG.1 (fun pc => pc == 2 || pc == 23 || pc == 24 || pc == 28 || pc == 42 || pc == 43 || pc == 47 || pc == 59 || pc == 60 || pc == 64 || pc == 76 || pc == 77 || pc == 81 || pc == 84 || pc == 88 || pc == 99 || pc == 101) 4000 ?_
    simp only [e16, mj_step, mj_W_s, mj_fin, List.getElem?_cons_zero, List.getElem?_cons_succ, mj_go, Nat.reduceAdd, Nat.reduceSub, Nat.reduceLT, Nat.reduceLeDiff, Nat.zero_add, Nat.reduceEqDiff, Nat.reduceBEq, ↓reduceIte, Bool.false_eq_true, List.append_nil, List.nil_append, List.cons_append, Option.toList, and_true, true_and, true_or, or_true, reduceCtorEq, List.map_nil, bI_eq0, bI_eq1, bool_ft, pk_us, vnar0, vnar1, Bool.or_false, Bool.or_true, Bool.false_or, Bool.true_or, mj_kne, eq_self, Int32.reduceLT, Int32.reduceLE, Int32.reduceAdd, Int32.reduceSub, Int32.reduceMul, not_true_eq_false, not_false_eq_true, false_implies, true_implies, D_X2_ease_0, D_X2_ease_1, mj_F_aload_n_k, mj_F_bipush_n, mj_F_iadd, mj_F_iaload, mj_F_iastore, mj_F_iconst_n, mj_F_ifCond_le_off, mj_F_ifCond_ne_off, mj_F_if_icmp_ge_off, mj_F_if_icmp_lt_off, mj_F_iload_n_k, mj_F_invokestatic_i, mj_F_irem, mj_F_ireturn, mj_F_istore_n_k, mj_F_isub, mj_F_ldc_i, mj_set, mj_set0, mj_unk, mj_c2, mj_kc, KT_X2, List.take_succ_cons, List.take_zero, List.drop_succ_cons, List.drop_zero, List.reverse_cons, List.reverse_nil, List.length_cons, List.length_nil, J_X2_ease]
    refine ⟨z, ?_⟩
    refine hM 43 59 0 _ _ _ _ _ _ _ _ (by simp only [D_X2_ease_0, D_X2_ease_1]) (lkX2_59) rfl (Nat.le_of_ble_eq_true rfl) ?_
    refine mj_run hG.1 (fun pc => pc == 2 || pc == 23 || pc == 24 || pc == 28 || pc == 42 || pc == 43 || pc == 47 || pc == 59 || pc == 60 || pc == 64 || pc == 76 || pc == 77 || pc == 81 || pc == 84 || pc == 88 || pc == 99 || pc == 101) 4000 ?_
    simp only [mj_step, mj_W_s, mj_fin, List.getElem?_cons_zero, List.getElem?_cons_succ, mj_go, Nat.reduceAdd, Nat.reduceSub, Nat.reduceLT, Nat.reduceLeDiff, Nat.zero_add, Nat.reduceEqDiff, Nat.reduceBEq, ↓reduceIte, Bool.false_eq_true, List.append_nil, List.nil_append, List.cons_append, Option.toList, and_true, true_and, true_or, or_true, reduceCtorEq, List.map_nil, bI_eq0, bI_eq1, bool_ft, pk_us, vnar0, vnar1, Bool.or_false, Bool.or_true, Bool.false_or, Bool.true_or, mj_kne, eq_self, Int32.reduceLT, Int32.reduceLE, Int32.reduceAdd, Int32.reduceSub, Int32.reduceMul, not_true_eq_false, not_false_eq_true, false_implies, true_implies, D_X2_ease_0, D_X2_ease_1, mj_F_aload_n_k, mj_F_bipush_n, mj_F_iadd, mj_F_iaload, mj_F_iastore, mj_F_iconst_n, mj_F_ifCond_le_off, mj_F_ifCond_ne_off, mj_F_if_icmp_ge_off, mj_F_if_icmp_lt_off, mj_F_iload_n_k, mj_F_invokestatic_i, mj_F_irem, mj_F_ireturn, mj_F_istore_n_k, mj_F_isub, mj_F_ldc_i, mj_set, mj_set0, mj_unk, mj_c2, mj_kc, KT_X2, List.take_succ_cons, List.take_zero, List.drop_succ_cons, List.drop_zero, List.reverse_cons, List.reverse_nil, List.length_cons, List.length_nil, J_X2_ease]
    exact hG.2 _ _ _ _ _ _ _ _ _ (by refine ⟨Or.inr rfl, ?_⟩; refine ⟨Or.inr rfl, ?_⟩; refine ⟨Or.inr rfl, ?_⟩; refine ⟨Or.inr rfl, ?_⟩; exact trivial) (Nat.zero_le _) (Nat.zero_le _) (g_X2_ease_47 hG hM  hw :)

set_option maxHeartbeats 4000000 in
set_option maxRecDepth 20000 in
theorem g_X2_ease {k : Option Value → mj_H → Prop} {G : mj_K} (hG : mj_cl2 cX2_ease (TbX2 4 ((some FieldType.boolean)) []) k G) (hM : mj_ml cX2_ease yX2_ease.cls G) {v0 : Int32} {v1 : Nat} {v2 : Nat} {s : St} (hw : ok (F_X2_ease v0 v1 v2 s) (fun p => k (some (.int p.1)) (mkCs p.2))) : G 0 [.int v0, .ref v1, .ref v2] [] (mkCs s) 0 0 := by
  unfold F_X2_ease at hw
  refine mj_run hG.1 (fun pc => pc == 2 || pc == 23 || pc == 24 || pc == 28 || pc == 42 || pc == 43 || pc == 47 || pc == 59 || pc == 60 || pc == 64 || pc == 76 || pc == 77 || pc == 81 || pc == 84 || pc == 88 || pc == 99 || pc == 101) 4000 ?_
  simp only [mj_step, mj_W_s, mj_fin, List.getElem?_cons_zero, List.getElem?_cons_succ, mj_go, Nat.reduceAdd, Nat.reduceSub, Nat.reduceLT, Nat.reduceLeDiff, Nat.zero_add, Nat.reduceEqDiff, Nat.reduceBEq, ↓reduceIte, Bool.false_eq_true, List.append_nil, List.nil_append, List.cons_append, Option.toList, and_true, true_and, true_or, or_true, reduceCtorEq, List.map_nil, bI_eq0, bI_eq1, bool_ft, pk_us, vnar0, vnar1, Bool.or_false, Bool.or_true, Bool.false_or, Bool.true_or, mj_kne, eq_self, Int32.reduceLT, Int32.reduceLE, Int32.reduceAdd, Int32.reduceSub, Int32.reduceMul, not_true_eq_false, not_false_eq_true, false_implies, true_implies, D_X2_ease_0, D_X2_ease_1, mj_F_aload_n_k, mj_F_bipush_n, mj_F_iadd, mj_F_iaload, mj_F_iastore, mj_F_iconst_n, mj_F_ifCond_le_off, mj_F_ifCond_ne_off, mj_F_if_icmp_ge_off, mj_F_if_icmp_lt_off, mj_F_iload_n_k, mj_F_invokestatic_i, mj_F_irem, mj_F_ireturn, mj_F_istore_n_k, mj_F_isub, mj_F_ldc_i, mj_set, mj_set0, mj_unk, mj_c2, mj_kc, KT_X2, List.take_succ_cons, List.take_zero, List.drop_succ_cons, List.drop_zero, List.reverse_cons, List.reverse_nil, List.length_cons, List.length_nil, J_X2_ease]
  obtain ⟨_, _, e17, z, hw⟩ := ok_ra hw
  refine mj_run hG.1 (fun pc => pc == 2 || pc == 23 || pc == 24 || pc == 28 || pc == 42 || pc == 43 || pc == 47 || pc == 59 || pc == 60 || pc == 64 || pc == 76 || pc == 77 || pc == 81 || pc == 84 || pc == 88 || pc == 99 || pc == 101) 4000 ?_
  simp only [e17, mj_step, mj_W_s, mj_fin, List.getElem?_cons_zero, List.getElem?_cons_succ, mj_go, Nat.reduceAdd, Nat.reduceSub, Nat.reduceLT, Nat.reduceLeDiff, Nat.zero_add, Nat.reduceEqDiff, Nat.reduceBEq, ↓reduceIte, Bool.false_eq_true, List.append_nil, List.nil_append, List.cons_append, Option.toList, and_true, true_and, true_or, or_true, reduceCtorEq, List.map_nil, bI_eq0, bI_eq1, bool_ft, pk_us, vnar0, vnar1, Bool.or_false, Bool.or_true, Bool.false_or, Bool.true_or, mj_kne, eq_self, Int32.reduceLT, Int32.reduceLE, Int32.reduceAdd, Int32.reduceSub, Int32.reduceMul, not_true_eq_false, not_false_eq_true, false_implies, true_implies, D_X2_ease_0, D_X2_ease_1, mj_F_aload_n_k, mj_F_bipush_n, mj_F_iadd, mj_F_iaload, mj_F_iastore, mj_F_iconst_n, mj_F_ifCond_le_off, mj_F_ifCond_ne_off, mj_F_if_icmp_ge_off, mj_F_if_icmp_lt_off, mj_F_iload_n_k, mj_F_invokestatic_i, mj_F_irem, mj_F_ireturn, mj_F_istore_n_k, mj_F_isub, mj_F_ldc_i, mj_set, mj_set0, mj_unk, mj_c2, mj_kc, KT_X2, List.take_succ_cons, List.take_zero, List.drop_succ_cons, List.drop_zero, List.reverse_cons, List.reverse_nil, List.length_cons, List.length_nil, J_X2_ease]
  refine ⟨z, ?_⟩
  refine ⟨fun c => ?_, fun c => ?_⟩
  · replace hw := ok_f hw c
    refine ⟨fun c => ?_, fun c => ?_⟩
    · replace hw := ok_t hw c
      exact hG.2 _ _ _ _ _ _ _ _ _ (by refine ⟨Or.inr rfl, ?_⟩; refine ⟨Or.inr rfl, ?_⟩; refine ⟨Or.inr rfl, ?_⟩; refine ⟨Or.inr rfl, ?_⟩; exact trivial) (Nat.zero_le _) (Nat.zero_le _) (g_X2_ease_28 hG hM  hw :)
    · replace hw := ok_f hw c
      obtain ⟨_, _, e18, z, hw⟩ := ok_ra hw
      refine mj_run hG.1 (fun pc => pc == 2 || pc == 23 || pc == 24 || pc == 28 || pc == 42 || pc == 43 || pc == 47 || pc == 59 || pc == 60 || pc == 64 || pc == 76 || pc == 77 || pc == 81 || pc == 84 || pc == 88 || pc == 99 || pc == 101) 4000 ?_
      simp only [e18, mj_step, mj_W_s, mj_fin, List.getElem?_cons_zero, List.getElem?_cons_succ, mj_go, Nat.reduceAdd, Nat.reduceSub, Nat.reduceLT, Nat.reduceLeDiff, Nat.zero_add, Nat.reduceEqDiff, Nat.reduceBEq, ↓reduceIte, Bool.false_eq_true, List.append_nil, List.nil_append, List.cons_append, Option.toList, and_true, true_and, true_or, or_true, reduceCtorEq, List.map_nil, bI_eq0, bI_eq1, bool_ft, pk_us, vnar0, vnar1, Bool.or_false, Bool.or_true, Bool.false_or, Bool.true_or, mj_kne, eq_self, Int32.reduceLT, Int32.reduceLE, Int32.reduceAdd, Int32.reduceSub, Int32.reduceMul, not_true_eq_false, not_false_eq_true, false_implies, true_implies, D_X2_ease_0, D_X2_ease_1, mj_F_aload_n_k, mj_F_bipush_n, mj_F_iadd, mj_F_iaload, mj_F_iastore, mj_F_iconst_n, mj_F_ifCond_le_off, mj_F_ifCond_ne_off, mj_F_if_icmp_ge_off, mj_F_if_icmp_lt_off, mj_F_iload_n_k, mj_F_invokestatic_i, mj_F_irem, mj_F_ireturn, mj_F_istore_n_k, mj_F_isub, mj_F_ldc_i, mj_set, mj_set0, mj_unk, mj_c2, mj_kc, KT_X2, List.take_succ_cons, List.take_zero, List.drop_succ_cons, List.drop_zero, List.reverse_cons, List.reverse_nil, List.length_cons, List.length_nil, J_X2_ease]
      refine ⟨z, ?_⟩
      refine hM 24 59 0 _ _ _ _ _ _ _ _ (by simp only [D_X2_ease_0, D_X2_ease_1]) (lkX2_59) rfl (Nat.le_of_ble_eq_true rfl) ?_
      refine mj_run hG.1 (fun pc => pc == 2 || pc == 23 || pc == 24 || pc == 28 || pc == 42 || pc == 43 || pc == 47 || pc == 59 || pc == 60 || pc == 64 || pc == 76 || pc == 77 || pc == 81 || pc == 84 || pc == 88 || pc == 99 || pc == 101) 4000 ?_
      simp only [mj_step, mj_W_s, mj_fin, List.getElem?_cons_zero, List.getElem?_cons_succ, mj_go, Nat.reduceAdd, Nat.reduceSub, Nat.reduceLT, Nat.reduceLeDiff, Nat.zero_add, Nat.reduceEqDiff, Nat.reduceBEq, ↓reduceIte, Bool.false_eq_true, List.append_nil, List.nil_append, List.cons_append, Option.toList, and_true, true_and, true_or, or_true, reduceCtorEq, List.map_nil, bI_eq0, bI_eq1, bool_ft, pk_us, vnar0, vnar1, Bool.or_false, Bool.or_true, Bool.false_or, Bool.true_or, mj_kne, eq_self, Int32.reduceLT, Int32.reduceLE, Int32.reduceAdd, Int32.reduceSub, Int32.reduceMul, not_true_eq_false, not_false_eq_true, false_implies, true_implies, D_X2_ease_0, D_X2_ease_1, mj_F_aload_n_k, mj_F_bipush_n, mj_F_iadd, mj_F_iaload, mj_F_iastore, mj_F_iconst_n, mj_F_ifCond_le_off, mj_F_ifCond_ne_off, mj_F_if_icmp_ge_off, mj_F_if_icmp_lt_off, mj_F_iload_n_k, mj_F_invokestatic_i, mj_F_irem, mj_F_ireturn, mj_F_istore_n_k, mj_F_isub, mj_F_ldc_i, mj_set, mj_set0, mj_unk, mj_c2, mj_kc, KT_X2, List.take_succ_cons, List.take_zero, List.drop_succ_cons, List.drop_zero, List.reverse_cons, List.reverse_nil, List.length_cons, List.length_nil, J_X2_ease]
      exact hG.2 _ _ _ _ _ _ _ _ _ (by refine ⟨Or.inr rfl, ?_⟩; refine ⟨Or.inr rfl, ?_⟩; refine ⟨Or.inr rfl, ?_⟩; refine ⟨Or.inr rfl, ?_⟩; exact trivial) (Nat.zero_le _) (Nat.zero_le _) (g_X2_ease_28 hG hM  hw :)
  · replace hw := ok_t hw c
    exact (ok_some hw :)

def c_X2_ease : mj_S := fun as h k => ∃ (v0 : Int32) (v1 : Nat) (v2 : Nat) (s : St), as = [.int v0, .ref v1, .ref v2] ∧ h = mkCs s ∧ ok (F_X2_ease v0 v1 v2 s) (fun p => k (some (.int p.1)) (mkCs p.2))
theorem c_X2_ease_in {v0 : Int32} {v1 : Nat} {v2 : Nat} {s : St} {k : Option Value → mj_H → Prop} (hw : ok (F_X2_ease v0 v1 v2 s) (fun p => k (some (.int p.1)) (mkCs p.2))) : c_X2_ease [.int v0, .ref v1, .ref v2] (mkCs s) k := ⟨v0, v1, v2, s, rfl, rfl, hw⟩
theorem m_X2_ease (l : Launch) : mj_Met l yX2_ease cX2_ease 4 ((some FieldType.boolean)) 1 0 0 c_X2_ease := by
  refine mj_body3 false (TbX2 4 ((some FieldType.boolean)) []) (by decide) (by decide) rfl rfl (fun h => nomatch h) (tfX2 _ (fun _ h => nomatch h)) ?_
  rintro as h k ⟨v0, v1, v2, s, rfl, rfl, hw⟩
  exact ⟨rfl, fun G hG hM => g_X2_ease hG hM hw⟩
def B_X2_spread_31 (v1 : Nat) (v2 : Nat) (v4 : Int32) : Int32 × Int32 × St → Option ((Int32 × Int32 × St) ⊕ ((Int32 × St)))
  | (v3, v5, s) =>
  if 120 ≤ v5 then
    some (.inr (v3, s))
  else
    (F_X2_ease v5 v1 v2 s).bind fun r3 =>
    if r3.1 = 0 then
      if v3 = 0 then
        some (.inl (0, (v5 + 1), r3.2))
      else
        some (.inl (1, (v5 + 1), r3.2))
    else
      some (.inl (1, (v5 + 1), r3.2))
def B_X2_spread_68 (v1 : Nat) (v2 : Nat) (v4 : Int32) : Int32 × Int32 × St → Option ((Int32 × Int32 × St) ⊕ ((Int32 × St)))
  | (v3, v5, s) =>
  if v5 < 0 then
    some (.inr (v3, s))
  else
    (F_X2_ease v5 v1 v2 s).bind fun r4 =>
    if r4.1 = 0 then
      if v3 = 0 then
        some (.inl (0, (v5 + (-1)), r4.2))
      else
        some (.inl (1, (v5 + (-1)), r4.2))
    else
      some (.inl (1, (v5 + (-1)), r4.2))
def F_X2_spread_99 (v1 : Nat) (v2 : Nat) (v3 : Int32) (v4 : Int32) (s : St) : Option ((Int32 × Int32 × St) ⊕ ((St))) :=
  some (.inl (v3, (v4 + 1), s))
def F_X2_spread_68 (v1 : Nat) (v2 : Nat) (v3 : Int32) (v4 : Int32) (v5 : Int32) (s : St) : Option ((Int32 × Int32 × St) ⊕ ((St))) :=
  (lp (B_X2_spread_68 v1 v2 v4) FU (v3, v5, s)).bind (fun y => F_X2_spread_99 v1 v2 y.1 v4 y.2)
def F_X2_spread_64 (v1 : Nat) (v2 : Nat) (v3 : Int32) (v4 : Int32) (s : St) : Option ((Int32 × Int32 × St) ⊕ ((St))) :=
  F_X2_spread_68 v1 v2 v3 v4 119 s
def F_X2_spread_31 (v1 : Nat) (v2 : Nat) (v3 : Int32) (v4 : Int32) (v5 : Int32) (s : St) : Option ((Int32 × Int32 × St) ⊕ ((St))) :=
  (lp (B_X2_spread_31 v1 v2 v4) FU (v3, v5, s)).bind (fun y => F_X2_spread_64 v1 v2 y.1 v4 y.2)
def B_X2_spread_15 (v1 : Nat) (v2 : Nat) : Int32 × Int32 × St → Option ((Int32 × Int32 × St) ⊕ ((St)))
  | (v3, v4, s) =>
  if 120 ≤ v4 then
    some (.inr s)
  else
    if v3 = 0 then
      some (.inr s)
    else
      F_X2_spread_31 v1 v2 0 v4 0 s
def F_X2_spread_105 (s : St) : Option (St) :=
  some s
def F_X2_spread_15 (v1 : Nat) (v2 : Nat) (v3 : Int32) (v4 : Int32) (s : St) : Option (St) :=
  (lp (B_X2_spread_15 v1 v2) FU (v3, v4, s)).bind (fun y => F_X2_spread_105 y)
def F_X2_spread (v0 : Int32) (v1 : Nat) (v2 : Nat) (s : St) : Option (St) :=
  (wFd s v2 100000000).bind fun s1 =>
  (wa s1 v2 v0 0).bind fun s2 =>
  F_X2_spread_15 v1 v2 1 0 s2
theorem J_X2_spread : mj_t 19 86 = 105 ∧ mj_t 23 82 = 105 ∧ mj_t 35 29 = 64 ∧ mj_t 45 7 = 52 ∧ mj_t 49 7 = 56 ∧ mj_t 53 4 = 57 ∧ mj_t 61 (-30) = 31 ∧ mj_t 70 29 = 99 ∧ mj_t 80 7 = 87 ∧ mj_t 84 7 = 91 ∧ mj_t 88 4 = 92 ∧ mj_t 96 (-28) = 68 ∧ mj_t 102 (-87) = 15 ∧ (0 ≤ ((19 : Nat) : Int) + 86) = True ∧ (0 ≤ ((23 : Nat) : Int) + 82) = True ∧ (0 ≤ ((35 : Nat) : Int) + 29) = True ∧ (0 ≤ ((45 : Nat) : Int) + 7) = True ∧ (0 ≤ ((49 : Nat) : Int) + 7) = True ∧ (0 ≤ ((53 : Nat) : Int) + 4) = True ∧ (0 ≤ ((61 : Nat) : Int) + (-30)) = True ∧ (0 ≤ ((70 : Nat) : Int) + 29) = True ∧ (0 ≤ ((80 : Nat) : Int) + 7) = True ∧ (0 ≤ ((84 : Nat) : Int) + 7) = True ∧ (0 ≤ ((88 : Nat) : Int) + 4) = True ∧ (0 ≤ ((96 : Nat) : Int) + (-28)) = True ∧ (0 ≤ ((102 : Nat) : Int) + (-87)) = True := by and_intros <;> first | rfl | exact eq_true (by decide)
def ct_X2_spread : List (Nat × mj_Cs) := [(30, 2, 2, 99, 0, 0, c_fill), (55, 2, 3, 2, 0, 0, c_X2_ease)]
theorem L_X2_spread : mj_lk ct_X2_spread 30 = some (2, 2, 99, 0, 0, c_fill) ∧ mj_lk ct_X2_spread 55 = some (2, 3, 2, 0, 0, c_X2_ease) := ⟨rfl, rfl⟩
set_option maxHeartbeats 4000000 in
set_option maxRecDepth 20000 in
theorem b_X2_spread_31 {k : Option Value → mj_H → Prop} {G : mj_K} (hG : mj_cl2 cX2_spread (TbX2 6 (none) ct_X2_spread) k G) {v1 : Nat} {v2 : Nat} {v4 : Int32} {P : Int32 × Int32 × St → Prop} {K : (Int32 × St) → Prop} (hP : ∀ (v3 : Int32) (v5 : Int32) (s : St), P (v3, v5, s) → G 31 [mj_unk, .ref v1, .ref v2, .int v3, .int v4, .int v5] [] (mkCs s) 0 0) (hK0 : ∀ (v3 : Int32) (s : St), K (v3, s) → G 64 [mj_unk, .ref v1, .ref v2, .int v3, .int v4] [] (mkCs s) 0 0) {v3 : Int32} {v5 : Int32} {s : St} (hw : ok (B_X2_spread_31 v1 v2 v4 (v3, v5, s)) (Sum.elim P K)) : G 31 [mj_unk, .ref v1, .ref v2, .int v3, .int v4, .int v5] [] (mkCs s) 0 0 := by
  unfold B_X2_spread_31 at hw
  refine mj_run hG.1 (fun pc => pc == 6 || pc == 9 || pc == 15 || pc == 31 || pc == 45 || pc == 64 || pc == 68 || pc == 80 || pc == 99 || pc == 105) 4000 ?_
  simp only [mj_step, mj_W_s, mj_fin, List.getElem?_cons_zero, List.getElem?_cons_succ, mj_go, Nat.reduceAdd, Nat.reduceSub, Nat.reduceLT, Nat.reduceLeDiff, Nat.zero_add, Nat.reduceEqDiff, Nat.reduceBEq, ↓reduceIte, Bool.false_eq_true, List.append_nil, List.nil_append, List.cons_append, Option.toList, and_true, true_and, true_or, or_true, reduceCtorEq, List.map_nil, bI_eq0, bI_eq1, bool_ft, pk_us, vnar0, vnar1, Bool.or_false, Bool.or_true, Bool.false_or, Bool.true_or, mj_kne, eq_self, Int32.reduceLT, Int32.reduceLE, Int32.reduceAdd, Int32.reduceSub, Int32.reduceMul, not_true_eq_false, not_false_eq_true, false_implies, true_implies, D_X2_spread_0, D_X2_spread_1, mj_F_aload_n_k, mj_F_bipush_n, mj_F_goto_off, mj_F_iastore, mj_F_iconst_n, mj_F_ifCond_eq_off, mj_F_ifCond_lt_off, mj_F_ifCond_ne_off, mj_F_if_icmp_ge_off, mj_F_iinc_k_n, mj_F_iload_k, mj_F_iload_n_k, mj_F_invokestatic_i, mj_F_istore_k, mj_F_istore_n_k, mj_F_ldc_i, mj_F_return_, mj_set, mj_set0, mj_unk, mj_c2, mj_kc, KT_X2, L_X2_spread, List.take_succ_cons, List.take_zero, List.drop_succ_cons, List.drop_zero, List.reverse_cons, List.reverse_nil, List.length_cons, List.length_nil, J_X2_spread]
  refine ⟨fun c => ?_, fun c => ?_⟩
  · replace hw := ok_t hw c
    exact hG.2 _ _ _ _ _ _ _ _ _ (by refine ⟨Or.inl rfl, ?_⟩; refine ⟨Or.inr rfl, ?_⟩; refine ⟨Or.inr rfl, ?_⟩; refine ⟨Or.inr rfl, ?_⟩; refine ⟨Or.inr rfl, ?_⟩; exact trivial) (Nat.zero_le _) (Nat.zero_le _) (hK0 _ _ (ok_some hw :) :)
  · replace hw := ok_f hw c
    refine c_X2_ease_in (ok_imp (ok_bind hw) ?_)
    intro p hw
    simp only [Option.toList, List.nil_append, List.cons_append, Nat.reduceSub]
    refine mj_run hG.1 (fun pc => pc == 6 || pc == 9 || pc == 15 || pc == 31 || pc == 45 || pc == 64 || pc == 68 || pc == 80 || pc == 99 || pc == 105) 4000 ?_
    simp only [mj_step, mj_W_s, mj_fin, List.getElem?_cons_zero, List.getElem?_cons_succ, mj_go, Nat.reduceAdd, Nat.reduceSub, Nat.reduceLT, Nat.reduceLeDiff, Nat.zero_add, Nat.reduceEqDiff, Nat.reduceBEq, ↓reduceIte, Bool.false_eq_true, List.append_nil, List.nil_append, List.cons_append, Option.toList, and_true, true_and, true_or, or_true, reduceCtorEq, List.map_nil, bI_eq0, bI_eq1, bool_ft, pk_us, vnar0, vnar1, Bool.or_false, Bool.or_true, Bool.false_or, Bool.true_or, mj_kne, eq_self, Int32.reduceLT, Int32.reduceLE, Int32.reduceAdd, Int32.reduceSub, Int32.reduceMul, not_true_eq_false, not_false_eq_true, false_implies, true_implies, D_X2_spread_0, D_X2_spread_1, mj_F_aload_n_k, mj_F_bipush_n, mj_F_goto_off, mj_F_iastore, mj_F_iconst_n, mj_F_ifCond_eq_off, mj_F_ifCond_lt_off, mj_F_ifCond_ne_off, mj_F_if_icmp_ge_off, mj_F_iinc_k_n, mj_F_iload_k, mj_F_iload_n_k, mj_F_invokestatic_i, mj_F_istore_k, mj_F_istore_n_k, mj_F_ldc_i, mj_F_return_, mj_set, mj_set0, mj_unk, mj_c2, mj_kc, KT_X2, L_X2_spread, List.take_succ_cons, List.take_zero, List.drop_succ_cons, List.drop_zero, List.reverse_cons, List.reverse_nil, List.length_cons, List.length_nil, J_X2_spread]
    refine ⟨fun c => ?_, fun c => ?_⟩
    · replace hw := ok_f hw c
      exact hG.2 _ _ _ _ _ _ _ _ _ (by refine ⟨Or.inl rfl, ?_⟩; refine ⟨Or.inr rfl, ?_⟩; refine ⟨Or.inr rfl, ?_⟩; refine ⟨Or.inr rfl, ?_⟩; refine ⟨Or.inr rfl, ?_⟩; refine ⟨Or.inr rfl, ?_⟩; exact trivial) (Nat.zero_le _) (Nat.zero_le _) (hP _ _ _ (ok_some hw :) :)
    · replace hw := ok_t hw c
      refine ⟨fun c => ?_, fun c => ?_⟩
      · replace hw := ok_t hw c
        exact hG.2 _ _ _ _ _ _ _ _ _ (by refine ⟨Or.inl rfl, ?_⟩; refine ⟨Or.inr rfl, ?_⟩; refine ⟨Or.inr rfl, ?_⟩; refine ⟨Or.inr rfl, ?_⟩; refine ⟨Or.inr rfl, ?_⟩; refine ⟨Or.inr rfl, ?_⟩; exact trivial) (Nat.zero_le _) (Nat.zero_le _) (hP _ _ _ (ok_some hw :) :)
      · replace hw := ok_f hw c
        exact hG.2 _ _ _ _ _ _ _ _ _ (by refine ⟨Or.inl rfl, ?_⟩; refine ⟨Or.inr rfl, ?_⟩; refine ⟨Or.inr rfl, ?_⟩; refine ⟨Or.inr rfl, ?_⟩; refine ⟨Or.inr rfl, ?_⟩; refine ⟨Or.inr rfl, ?_⟩; exact trivial) (Nat.zero_le _) (Nat.zero_le _) (hP _ _ _ (ok_some hw :) :)

set_option maxHeartbeats 4000000 in
set_option maxRecDepth 20000 in
theorem b_X2_spread_68 {k : Option Value → mj_H → Prop} {G : mj_K} (hG : mj_cl2 cX2_spread (TbX2 6 (none) ct_X2_spread) k G) {v1 : Nat} {v2 : Nat} {v4 : Int32} {P : Int32 × Int32 × St → Prop} {K : (Int32 × St) → Prop} (hP : ∀ (v3 : Int32) (v5 : Int32) (s : St), P (v3, v5, s) → G 68 [mj_unk, .ref v1, .ref v2, .int v3, .int v4, .int v5] [] (mkCs s) 0 0) (hK0 : ∀ (v3 : Int32) (s : St), K (v3, s) → G 99 [mj_unk, .ref v1, .ref v2, .int v3, .int v4] [] (mkCs s) 0 0) {v3 : Int32} {v5 : Int32} {s : St} (hw : ok (B_X2_spread_68 v1 v2 v4 (v3, v5, s)) (Sum.elim P K)) : G 68 [mj_unk, .ref v1, .ref v2, .int v3, .int v4, .int v5] [] (mkCs s) 0 0 := by
  unfold B_X2_spread_68 at hw
  refine mj_run hG.1 (fun pc => pc == 6 || pc == 9 || pc == 15 || pc == 31 || pc == 45 || pc == 64 || pc == 68 || pc == 80 || pc == 99 || pc == 105) 4000 ?_
  simp only [mj_step, mj_W_s, mj_fin, List.getElem?_cons_zero, List.getElem?_cons_succ, mj_go, Nat.reduceAdd, Nat.reduceSub, Nat.reduceLT, Nat.reduceLeDiff, Nat.zero_add, Nat.reduceEqDiff, Nat.reduceBEq, ↓reduceIte, Bool.false_eq_true, List.append_nil, List.nil_append, List.cons_append, Option.toList, and_true, true_and, true_or, or_true, reduceCtorEq, List.map_nil, bI_eq0, bI_eq1, bool_ft, pk_us, vnar0, vnar1, Bool.or_false, Bool.or_true, Bool.false_or, Bool.true_or, mj_kne, eq_self, Int32.reduceLT, Int32.reduceLE, Int32.reduceAdd, Int32.reduceSub, Int32.reduceMul, not_true_eq_false, not_false_eq_true, false_implies, true_implies, D_X2_spread_0, D_X2_spread_1, mj_F_aload_n_k, mj_F_bipush_n, mj_F_goto_off, mj_F_iastore, mj_F_iconst_n, mj_F_ifCond_eq_off, mj_F_ifCond_lt_off, mj_F_ifCond_ne_off, mj_F_if_icmp_ge_off, mj_F_iinc_k_n, mj_F_iload_k, mj_F_iload_n_k, mj_F_invokestatic_i, mj_F_istore_k, mj_F_istore_n_k, mj_F_ldc_i, mj_F_return_, mj_set, mj_set0, mj_unk, mj_c2, mj_kc, KT_X2, L_X2_spread, List.take_succ_cons, List.take_zero, List.drop_succ_cons, List.drop_zero, List.reverse_cons, List.reverse_nil, List.length_cons, List.length_nil, J_X2_spread]
  refine ⟨fun c => ?_, fun c => ?_⟩
  · replace hw := ok_t hw c
    exact hG.2 _ _ _ _ _ _ _ _ _ (by refine ⟨Or.inl rfl, ?_⟩; refine ⟨Or.inr rfl, ?_⟩; refine ⟨Or.inr rfl, ?_⟩; refine ⟨Or.inr rfl, ?_⟩; refine ⟨Or.inr rfl, ?_⟩; exact trivial) (Nat.zero_le _) (Nat.zero_le _) (hK0 _ _ (ok_some hw :) :)
  · replace hw := ok_f hw c
    refine c_X2_ease_in (ok_imp (ok_bind hw) ?_)
    intro p hw
    simp only [Option.toList, List.nil_append, List.cons_append, Nat.reduceSub]
    refine mj_run hG.1 (fun pc => pc == 6 || pc == 9 || pc == 15 || pc == 31 || pc == 45 || pc == 64 || pc == 68 || pc == 80 || pc == 99 || pc == 105) 4000 ?_
    simp only [mj_step, mj_W_s, mj_fin, List.getElem?_cons_zero, List.getElem?_cons_succ, mj_go, Nat.reduceAdd, Nat.reduceSub, Nat.reduceLT, Nat.reduceLeDiff, Nat.zero_add, Nat.reduceEqDiff, Nat.reduceBEq, ↓reduceIte, Bool.false_eq_true, List.append_nil, List.nil_append, List.cons_append, Option.toList, and_true, true_and, true_or, or_true, reduceCtorEq, List.map_nil, bI_eq0, bI_eq1, bool_ft, pk_us, vnar0, vnar1, Bool.or_false, Bool.or_true, Bool.false_or, Bool.true_or, mj_kne, eq_self, Int32.reduceLT, Int32.reduceLE, Int32.reduceAdd, Int32.reduceSub, Int32.reduceMul, not_true_eq_false, not_false_eq_true, false_implies, true_implies, D_X2_spread_0, D_X2_spread_1, mj_F_aload_n_k, mj_F_bipush_n, mj_F_goto_off, mj_F_iastore, mj_F_iconst_n, mj_F_ifCond_eq_off, mj_F_ifCond_lt_off, mj_F_ifCond_ne_off, mj_F_if_icmp_ge_off, mj_F_iinc_k_n, mj_F_iload_k, mj_F_iload_n_k, mj_F_invokestatic_i, mj_F_istore_k, mj_F_istore_n_k, mj_F_ldc_i, mj_F_return_, mj_set, mj_set0, mj_unk, mj_c2, mj_kc, KT_X2, L_X2_spread, List.take_succ_cons, List.take_zero, List.drop_succ_cons, List.drop_zero, List.reverse_cons, List.reverse_nil, List.length_cons, List.length_nil, J_X2_spread]
    refine ⟨fun c => ?_, fun c => ?_⟩
    · replace hw := ok_f hw c
      exact hG.2 _ _ _ _ _ _ _ _ _ (by refine ⟨Or.inl rfl, ?_⟩; refine ⟨Or.inr rfl, ?_⟩; refine ⟨Or.inr rfl, ?_⟩; refine ⟨Or.inr rfl, ?_⟩; refine ⟨Or.inr rfl, ?_⟩; refine ⟨Or.inr rfl, ?_⟩; exact trivial) (Nat.zero_le _) (Nat.zero_le _) (hP _ _ _ (ok_some hw :) :)
    · replace hw := ok_t hw c
      refine ⟨fun c => ?_, fun c => ?_⟩
      · replace hw := ok_t hw c
        exact hG.2 _ _ _ _ _ _ _ _ _ (by refine ⟨Or.inl rfl, ?_⟩; refine ⟨Or.inr rfl, ?_⟩; refine ⟨Or.inr rfl, ?_⟩; refine ⟨Or.inr rfl, ?_⟩; refine ⟨Or.inr rfl, ?_⟩; refine ⟨Or.inr rfl, ?_⟩; exact trivial) (Nat.zero_le _) (Nat.zero_le _) (hP _ _ _ (ok_some hw :) :)
      · replace hw := ok_f hw c
        exact hG.2 _ _ _ _ _ _ _ _ _ (by refine ⟨Or.inl rfl, ?_⟩; refine ⟨Or.inr rfl, ?_⟩; refine ⟨Or.inr rfl, ?_⟩; refine ⟨Or.inr rfl, ?_⟩; refine ⟨Or.inr rfl, ?_⟩; refine ⟨Or.inr rfl, ?_⟩; exact trivial) (Nat.zero_le _) (Nat.zero_le _) (hP _ _ _ (ok_some hw :) :)

set_option maxHeartbeats 4000000 in
set_option maxRecDepth 20000 in
theorem g_X2_spread_99 {k : Option Value → mj_H → Prop} {G : mj_K} (hG : mj_cl2 cX2_spread (TbX2 6 (none) ct_X2_spread) k G) {v1 : Nat} {v2 : Nat} {P : Int32 × Int32 × St → Prop} {K : (St) → Prop} (hP : ∀ (v3 : Int32) (v4 : Int32) (s : St), P (v3, v4, s) → G 15 [mj_unk, .ref v1, .ref v2, .int v3, .int v4] [] (mkCs s) 0 0) (hK0 : ∀ (s : St), K s → G 105 [] [] (mkCs s) 0 0) {v3 : Int32} {v4 : Int32} {s : St} (hw : ok (F_X2_spread_99 v1 v2 v3 v4 s) (Sum.elim P K)) : G 99 [mj_unk, .ref v1, .ref v2, .int v3, .int v4] [] (mkCs s) 0 0 := by
  unfold F_X2_spread_99 at hw
  refine mj_run hG.1 (fun pc => pc == 6 || pc == 9 || pc == 15 || pc == 31 || pc == 45 || pc == 64 || pc == 68 || pc == 80 || pc == 99 || pc == 105) 4000 ?_
  simp only [mj_step, mj_W_s, mj_fin, List.getElem?_cons_zero, List.getElem?_cons_succ, mj_go, Nat.reduceAdd, Nat.reduceSub, Nat.reduceLT, Nat.reduceLeDiff, Nat.zero_add, Nat.reduceEqDiff, Nat.reduceBEq, ↓reduceIte, Bool.false_eq_true, List.append_nil, List.nil_append, List.cons_append, Option.toList, and_true, true_and, true_or, or_true, reduceCtorEq, List.map_nil, bI_eq0, bI_eq1, bool_ft, pk_us, vnar0, vnar1, Bool.or_false, Bool.or_true, Bool.false_or, Bool.true_or, mj_kne, eq_self, Int32.reduceLT, Int32.reduceLE, Int32.reduceAdd, Int32.reduceSub, Int32.reduceMul, not_true_eq_false, not_false_eq_true, false_implies, true_implies, D_X2_spread_0, D_X2_spread_1, mj_F_aload_n_k, mj_F_bipush_n, mj_F_goto_off, mj_F_iastore, mj_F_iconst_n, mj_F_ifCond_eq_off, mj_F_ifCond_lt_off, mj_F_ifCond_ne_off, mj_F_if_icmp_ge_off, mj_F_iinc_k_n, mj_F_iload_k, mj_F_iload_n_k, mj_F_invokestatic_i, mj_F_istore_k, mj_F_istore_n_k, mj_F_ldc_i, mj_F_return_, mj_set, mj_set0, mj_unk, mj_c2, mj_kc, KT_X2, L_X2_spread, List.take_succ_cons, List.take_zero, List.drop_succ_cons, List.drop_zero, List.reverse_cons, List.reverse_nil, List.length_cons, List.length_nil, J_X2_spread]
  exact hG.2 _ _ _ _ _ _ _ _ _ (by refine ⟨Or.inl rfl, ?_⟩; refine ⟨Or.inr rfl, ?_⟩; refine ⟨Or.inr rfl, ?_⟩; refine ⟨Or.inr rfl, ?_⟩; refine ⟨Or.inr rfl, ?_⟩; exact trivial) (Nat.zero_le _) (Nat.zero_le _) (hP _ _ _ (ok_some hw :) :)

set_option maxHeartbeats 4000000 in
theorem g_X2_spread_68 {k : Option Value → mj_H → Prop} {G : mj_K} (hG : mj_cl2 cX2_spread (TbX2 6 (none) ct_X2_spread) k G) {v1 : Nat} {v2 : Nat} {P : Int32 × Int32 × St → Prop} {K : (St) → Prop} (hP : ∀ (v3 : Int32) (v4 : Int32) (s : St), P (v3, v4, s) → G 15 [mj_unk, .ref v1, .ref v2, .int v3, .int v4] [] (mkCs s) 0 0) (hK0 : ∀ (s : St), K s → G 105 [] [] (mkCs s) 0 0) {v3 : Int32} {v4 : Int32} {v5 : Int32} {s : St} (hw : ok (F_X2_spread_68 v1 v2 v3 v4 v5 s) (Sum.elim P K)) : G 68 [mj_unk, .ref v1, .ref v2, .int v3, .int v4, .int v5] [] (mkCs s) 0 0 := by
  unfold F_X2_spread_68 at hw
  refine lp_ok (B_X2_spread_68 v1 v2 v4) (fun x => G 68 [mj_unk, .ref v1, .ref v2, .int x.1, .int v4, .int x.2.1] [] (mkCs x.2.2) 0 0) _ ?_ _ _ (ok_bind hw)
  rintro ⟨v3, v5, s⟩ hb
  exact b_X2_spread_68 hG (fun _ _ _ z => z) (fun y0 y1 hw => by exact hG.2 _ _ _ _ _ _ _ _ _ (by refine ⟨Or.inl rfl, ?_⟩; refine ⟨Or.inr rfl, ?_⟩; refine ⟨Or.inr rfl, ?_⟩; refine ⟨Or.inr rfl, ?_⟩; refine ⟨Or.inr rfl, ?_⟩; exact trivial) (Nat.zero_le _) (Nat.zero_le _) (g_X2_spread_99 hG hP hK0  hw :)) hb

set_option maxHeartbeats 4000000 in
set_option maxRecDepth 20000 in
theorem g_X2_spread_64 {k : Option Value → mj_H → Prop} {G : mj_K} (hG : mj_cl2 cX2_spread (TbX2 6 (none) ct_X2_spread) k G) {v1 : Nat} {v2 : Nat} {P : Int32 × Int32 × St → Prop} {K : (St) → Prop} (hP : ∀ (v3 : Int32) (v4 : Int32) (s : St), P (v3, v4, s) → G 15 [mj_unk, .ref v1, .ref v2, .int v3, .int v4] [] (mkCs s) 0 0) (hK0 : ∀ (s : St), K s → G 105 [] [] (mkCs s) 0 0) {v3 : Int32} {v4 : Int32} {s : St} (hw : ok (F_X2_spread_64 v1 v2 v3 v4 s) (Sum.elim P K)) : G 64 [mj_unk, .ref v1, .ref v2, .int v3, .int v4] [] (mkCs s) 0 0 := by
  unfold F_X2_spread_64 at hw
  refine mj_run hG.1 (fun pc => pc == 6 || pc == 9 || pc == 15 || pc == 31 || pc == 45 || pc == 64 || pc == 68 || pc == 80 || pc == 99 || pc == 105) 4000 ?_
  simp only [mj_step, mj_W_s, mj_fin, List.getElem?_cons_zero, List.getElem?_cons_succ, mj_go, Nat.reduceAdd, Nat.reduceSub, Nat.reduceLT, Nat.reduceLeDiff, Nat.zero_add, Nat.reduceEqDiff, Nat.reduceBEq, ↓reduceIte, Bool.false_eq_true, List.append_nil, List.nil_append, List.cons_append, Option.toList, and_true, true_and, true_or, or_true, reduceCtorEq, List.map_nil, bI_eq0, bI_eq1, bool_ft, pk_us, vnar0, vnar1, Bool.or_false, Bool.or_true, Bool.false_or, Bool.true_or, mj_kne, eq_self, Int32.reduceLT, Int32.reduceLE, Int32.reduceAdd, Int32.reduceSub, Int32.reduceMul, not_true_eq_false, not_false_eq_true, false_implies, true_implies, D_X2_spread_0, D_X2_spread_1, mj_F_aload_n_k, mj_F_bipush_n, mj_F_goto_off, mj_F_iastore, mj_F_iconst_n, mj_F_ifCond_eq_off, mj_F_ifCond_lt_off, mj_F_ifCond_ne_off, mj_F_if_icmp_ge_off, mj_F_iinc_k_n, mj_F_iload_k, mj_F_iload_n_k, mj_F_invokestatic_i, mj_F_istore_k, mj_F_istore_n_k, mj_F_ldc_i, mj_F_return_, mj_set, mj_set0, mj_unk, mj_c2, mj_kc, KT_X2, L_X2_spread, List.take_succ_cons, List.take_zero, List.drop_succ_cons, List.drop_zero, List.reverse_cons, List.reverse_nil, List.length_cons, List.length_nil, J_X2_spread]
  exact hG.2 _ _ _ _ _ _ _ _ _ (by refine ⟨Or.inl rfl, ?_⟩; refine ⟨Or.inr rfl, ?_⟩; refine ⟨Or.inr rfl, ?_⟩; refine ⟨Or.inr rfl, ?_⟩; refine ⟨Or.inr rfl, ?_⟩; refine ⟨Or.inr rfl, ?_⟩; exact trivial) (Nat.zero_le _) (Nat.zero_le _) (g_X2_spread_68 hG hP hK0  hw :)

set_option maxHeartbeats 4000000 in
theorem g_X2_spread_31 {k : Option Value → mj_H → Prop} {G : mj_K} (hG : mj_cl2 cX2_spread (TbX2 6 (none) ct_X2_spread) k G) {v1 : Nat} {v2 : Nat} {P : Int32 × Int32 × St → Prop} {K : (St) → Prop} (hP : ∀ (v3 : Int32) (v4 : Int32) (s : St), P (v3, v4, s) → G 15 [mj_unk, .ref v1, .ref v2, .int v3, .int v4] [] (mkCs s) 0 0) (hK0 : ∀ (s : St), K s → G 105 [] [] (mkCs s) 0 0) {v3 : Int32} {v4 : Int32} {v5 : Int32} {s : St} (hw : ok (F_X2_spread_31 v1 v2 v3 v4 v5 s) (Sum.elim P K)) : G 31 [mj_unk, .ref v1, .ref v2, .int v3, .int v4, .int v5] [] (mkCs s) 0 0 := by
  unfold F_X2_spread_31 at hw
  refine lp_ok (B_X2_spread_31 v1 v2 v4) (fun x => G 31 [mj_unk, .ref v1, .ref v2, .int x.1, .int v4, .int x.2.1] [] (mkCs x.2.2) 0 0) _ ?_ _ _ (ok_bind hw)
  rintro ⟨v3, v5, s⟩ hb
  exact b_X2_spread_31 hG (fun _ _ _ z => z) (fun y0 y1 hw => by exact hG.2 _ _ _ _ _ _ _ _ _ (by refine ⟨Or.inl rfl, ?_⟩; refine ⟨Or.inr rfl, ?_⟩; refine ⟨Or.inr rfl, ?_⟩; refine ⟨Or.inr rfl, ?_⟩; refine ⟨Or.inr rfl, ?_⟩; exact trivial) (Nat.zero_le _) (Nat.zero_le _) (g_X2_spread_64 hG hP hK0  hw :)) hb

set_option maxHeartbeats 4000000 in
set_option maxRecDepth 20000 in
theorem b_X2_spread_15 {k : Option Value → mj_H → Prop} {G : mj_K} (hG : mj_cl2 cX2_spread (TbX2 6 (none) ct_X2_spread) k G) {v1 : Nat} {v2 : Nat} {P : Int32 × Int32 × St → Prop} {K : (St) → Prop} (hP : ∀ (v3 : Int32) (v4 : Int32) (s : St), P (v3, v4, s) → G 15 [mj_unk, .ref v1, .ref v2, .int v3, .int v4] [] (mkCs s) 0 0) (hK0 : ∀ (s : St), K s → G 105 [] [] (mkCs s) 0 0) {v3 : Int32} {v4 : Int32} {s : St} (hw : ok (B_X2_spread_15 v1 v2 (v3, v4, s)) (Sum.elim P K)) : G 15 [mj_unk, .ref v1, .ref v2, .int v3, .int v4] [] (mkCs s) 0 0 := by
  unfold B_X2_spread_15 at hw
  refine mj_run hG.1 (fun pc => pc == 6 || pc == 9 || pc == 15 || pc == 31 || pc == 45 || pc == 64 || pc == 68 || pc == 80 || pc == 99 || pc == 105) 4000 ?_
  simp only [mj_step, mj_W_s, mj_fin, List.getElem?_cons_zero, List.getElem?_cons_succ, mj_go, Nat.reduceAdd, Nat.reduceSub, Nat.reduceLT, Nat.reduceLeDiff, Nat.zero_add, Nat.reduceEqDiff, Nat.reduceBEq, ↓reduceIte, Bool.false_eq_true, List.append_nil, List.nil_append, List.cons_append, Option.toList, and_true, true_and, true_or, or_true, reduceCtorEq, List.map_nil, bI_eq0, bI_eq1, bool_ft, pk_us, vnar0, vnar1, Bool.or_false, Bool.or_true, Bool.false_or, Bool.true_or, mj_kne, eq_self, Int32.reduceLT, Int32.reduceLE, Int32.reduceAdd, Int32.reduceSub, Int32.reduceMul, not_true_eq_false, not_false_eq_true, false_implies, true_implies, D_X2_spread_0, D_X2_spread_1, mj_F_aload_n_k, mj_F_bipush_n, mj_F_goto_off, mj_F_iastore, mj_F_iconst_n, mj_F_ifCond_eq_off, mj_F_ifCond_lt_off, mj_F_ifCond_ne_off, mj_F_if_icmp_ge_off, mj_F_iinc_k_n, mj_F_iload_k, mj_F_iload_n_k, mj_F_invokestatic_i, mj_F_istore_k, mj_F_istore_n_k, mj_F_ldc_i, mj_F_return_, mj_set, mj_set0, mj_unk, mj_c2, mj_kc, KT_X2, L_X2_spread, List.take_succ_cons, List.take_zero, List.drop_succ_cons, List.drop_zero, List.reverse_cons, List.reverse_nil, List.length_cons, List.length_nil, J_X2_spread]
  refine ⟨fun c => ?_, fun c => ?_⟩
  · replace hw := ok_t hw c
    exact hG.2 _ _ _ _ _ _ _ _ _ (by exact trivial) (Nat.zero_le _) (Nat.zero_le _) (hK0 _ (ok_some hw :) :)
  · replace hw := ok_f hw c
    refine ⟨fun c => ?_, fun c => ?_⟩
    · replace hw := ok_t hw c
      exact hG.2 _ _ _ _ _ _ _ _ _ (by exact trivial) (Nat.zero_le _) (Nat.zero_le _) (hK0 _ (ok_some hw :) :)
    · replace hw := ok_f hw c
      exact hG.2 _ _ _ _ _ _ _ _ _ (by refine ⟨Or.inl rfl, ?_⟩; refine ⟨Or.inr rfl, ?_⟩; refine ⟨Or.inr rfl, ?_⟩; refine ⟨Or.inr rfl, ?_⟩; refine ⟨Or.inr rfl, ?_⟩; refine ⟨Or.inr rfl, ?_⟩; exact trivial) (Nat.zero_le _) (Nat.zero_le _) (g_X2_spread_31 hG hP hK0  hw :)

set_option maxHeartbeats 4000000 in
set_option maxRecDepth 20000 in
theorem g_X2_spread_105 {k : Option Value → mj_H → Prop} {G : mj_K} (hG : mj_cl2 cX2_spread (TbX2 6 (none) ct_X2_spread) k G)   {s : St} (hw : ok (F_X2_spread_105 s) (fun p => k none (mkCs p))) : G 105 [] [] (mkCs s) 0 0 := by
  unfold F_X2_spread_105 at hw
  refine mj_run hG.1 (fun pc => pc == 6 || pc == 9 || pc == 15 || pc == 31 || pc == 45 || pc == 64 || pc == 68 || pc == 80 || pc == 99 || pc == 105) 4000 ?_
  simp only [mj_step, mj_W_s, mj_fin, List.getElem?_cons_zero, List.getElem?_cons_succ, mj_go, Nat.reduceAdd, Nat.reduceSub, Nat.reduceLT, Nat.reduceLeDiff, Nat.zero_add, Nat.reduceEqDiff, Nat.reduceBEq, ↓reduceIte, Bool.false_eq_true, List.append_nil, List.nil_append, List.cons_append, Option.toList, and_true, true_and, true_or, or_true, reduceCtorEq, List.map_nil, bI_eq0, bI_eq1, bool_ft, pk_us, vnar0, vnar1, Bool.or_false, Bool.or_true, Bool.false_or, Bool.true_or, mj_kne, eq_self, Int32.reduceLT, Int32.reduceLE, Int32.reduceAdd, Int32.reduceSub, Int32.reduceMul, not_true_eq_false, not_false_eq_true, false_implies, true_implies, D_X2_spread_0, D_X2_spread_1, mj_F_aload_n_k, mj_F_bipush_n, mj_F_goto_off, mj_F_iastore, mj_F_iconst_n, mj_F_ifCond_eq_off, mj_F_ifCond_lt_off, mj_F_ifCond_ne_off, mj_F_if_icmp_ge_off, mj_F_iinc_k_n, mj_F_iload_k, mj_F_iload_n_k, mj_F_invokestatic_i, mj_F_istore_k, mj_F_istore_n_k, mj_F_ldc_i, mj_F_return_, mj_set, mj_set0, mj_unk, mj_c2, mj_kc, KT_X2, L_X2_spread, List.take_succ_cons, List.take_zero, List.drop_succ_cons, List.drop_zero, List.reverse_cons, List.reverse_nil, List.length_cons, List.length_nil, J_X2_spread]
  exact (ok_some hw :)

set_option maxHeartbeats 4000000 in
theorem g_X2_spread_15 {k : Option Value → mj_H → Prop} {G : mj_K} (hG : mj_cl2 cX2_spread (TbX2 6 (none) ct_X2_spread) k G)   {v1 : Nat} {v2 : Nat} {v3 : Int32} {v4 : Int32} {s : St} (hw : ok (F_X2_spread_15 v1 v2 v3 v4 s) (fun p => k none (mkCs p))) : G 15 [mj_unk, .ref v1, .ref v2, .int v3, .int v4] [] (mkCs s) 0 0 := by
  unfold F_X2_spread_15 at hw
  refine lp_ok (B_X2_spread_15 v1 v2) (fun x => G 15 [mj_unk, .ref v1, .ref v2, .int x.1, .int x.2.1] [] (mkCs x.2.2) 0 0) _ ?_ _ _ (ok_bind hw)
  rintro ⟨v3, v4, s⟩ hb
  exact b_X2_spread_15 hG (fun _ _ _ z => z) (fun y0 hw => by exact hG.2 _ _ _ _ _ _ _ _ _ (by exact trivial) (Nat.zero_le _) (Nat.zero_le _) (g_X2_spread_105 hG  hw :)) hb

set_option maxHeartbeats 4000000 in
set_option maxRecDepth 20000 in
theorem g_X2_spread {k : Option Value → mj_H → Prop} {G : mj_K} (hG : mj_cl2 cX2_spread (TbX2 6 (none) ct_X2_spread) k G) {v0 : Int32} {v1 : Nat} {v2 : Nat} {s : St} (hw : ok (F_X2_spread v0 v1 v2 s) (fun p => k none (mkCs p))) : G 0 [.int v0, .ref v1, .ref v2] [] (mkCs s) 0 0 := by
  unfold F_X2_spread at hw
  refine mj_run hG.1 (fun pc => pc == 6 || pc == 9 || pc == 15 || pc == 31 || pc == 45 || pc == 64 || pc == 68 || pc == 80 || pc == 99 || pc == 105) 4000 ?_
  simp only [mj_step, mj_W_s, mj_fin, List.getElem?_cons_zero, List.getElem?_cons_succ, mj_go, Nat.reduceAdd, Nat.reduceSub, Nat.reduceLT, Nat.reduceLeDiff, Nat.zero_add, Nat.reduceEqDiff, Nat.reduceBEq, ↓reduceIte, Bool.false_eq_true, List.append_nil, List.nil_append, List.cons_append, Option.toList, and_true, true_and, true_or, or_true, reduceCtorEq, List.map_nil, bI_eq0, bI_eq1, bool_ft, pk_us, vnar0, vnar1, Bool.or_false, Bool.or_true, Bool.false_or, Bool.true_or, mj_kne, eq_self, Int32.reduceLT, Int32.reduceLE, Int32.reduceAdd, Int32.reduceSub, Int32.reduceMul, not_true_eq_false, not_false_eq_true, false_implies, true_implies, D_X2_spread_0, D_X2_spread_1, mj_F_aload_n_k, mj_F_bipush_n, mj_F_goto_off, mj_F_iastore, mj_F_iconst_n, mj_F_ifCond_eq_off, mj_F_ifCond_lt_off, mj_F_ifCond_ne_off, mj_F_if_icmp_ge_off, mj_F_iinc_k_n, mj_F_iload_k, mj_F_iload_n_k, mj_F_invokestatic_i, mj_F_istore_k, mj_F_istore_n_k, mj_F_ldc_i, mj_F_return_, mj_set, mj_set0, mj_unk, mj_c2, mj_kc, KT_X2, L_X2_spread, List.take_succ_cons, List.take_zero, List.drop_succ_cons, List.drop_zero, List.reverse_cons, List.reverse_nil, List.length_cons, List.length_nil, J_X2_spread]
  obtain ⟨_, _, e5, z2, z3, hw⟩ := ok_wFd hw
  refine c_fill_in e5 z3 ?_
  simp only [z2, Option.toList, List.nil_append, Nat.reduceSub]
  refine mj_run hG.1 (fun pc => pc == 6 || pc == 9 || pc == 15 || pc == 31 || pc == 45 || pc == 64 || pc == 68 || pc == 80 || pc == 99 || pc == 105) 4000 ?_
  simp only [mj_step, mj_W_s, mj_fin, List.getElem?_cons_zero, List.getElem?_cons_succ, mj_go, Nat.reduceAdd, Nat.reduceSub, Nat.reduceLT, Nat.reduceLeDiff, Nat.zero_add, Nat.reduceEqDiff, Nat.reduceBEq, ↓reduceIte, Bool.false_eq_true, List.append_nil, List.nil_append, List.cons_append, Option.toList, and_true, true_and, true_or, or_true, reduceCtorEq, List.map_nil, bI_eq0, bI_eq1, bool_ft, pk_us, vnar0, vnar1, Bool.or_false, Bool.or_true, Bool.false_or, Bool.true_or, mj_kne, eq_self, Int32.reduceLT, Int32.reduceLE, Int32.reduceAdd, Int32.reduceSub, Int32.reduceMul, not_true_eq_false, not_false_eq_true, false_implies, true_implies, D_X2_spread_0, D_X2_spread_1, mj_F_aload_n_k, mj_F_bipush_n, mj_F_goto_off, mj_F_iastore, mj_F_iconst_n, mj_F_ifCond_eq_off, mj_F_ifCond_lt_off, mj_F_ifCond_ne_off, mj_F_if_icmp_ge_off, mj_F_iinc_k_n, mj_F_iload_k, mj_F_iload_n_k, mj_F_invokestatic_i, mj_F_istore_k, mj_F_istore_n_k, mj_F_ldc_i, mj_F_return_, mj_set, mj_set0, mj_unk, mj_c2, mj_kc, KT_X2, L_X2_spread, List.take_succ_cons, List.take_zero, List.drop_succ_cons, List.drop_zero, List.reverse_cons, List.reverse_nil, List.length_cons, List.length_nil, J_X2_spread]
  obtain ⟨_, _, e6, z, z2, hw⟩ := ok_wa hw
  refine mj_run hG.1 (fun pc => pc == 6 || pc == 9 || pc == 15 || pc == 31 || pc == 45 || pc == 64 || pc == 68 || pc == 80 || pc == 99 || pc == 105) 4000 ?_
  simp only [e6, z2, mj_step, mj_W_s, mj_fin, List.getElem?_cons_zero, List.getElem?_cons_succ, mj_go, Nat.reduceAdd, Nat.reduceSub, Nat.reduceLT, Nat.reduceLeDiff, Nat.zero_add, Nat.reduceEqDiff, Nat.reduceBEq, ↓reduceIte, Bool.false_eq_true, List.append_nil, List.nil_append, List.cons_append, Option.toList, and_true, true_and, true_or, or_true, reduceCtorEq, List.map_nil, bI_eq0, bI_eq1, bool_ft, pk_us, vnar0, vnar1, Bool.or_false, Bool.or_true, Bool.false_or, Bool.true_or, mj_kne, eq_self, Int32.reduceLT, Int32.reduceLE, Int32.reduceAdd, Int32.reduceSub, Int32.reduceMul, not_true_eq_false, not_false_eq_true, false_implies, true_implies, D_X2_spread_0, D_X2_spread_1, mj_F_aload_n_k, mj_F_bipush_n, mj_F_goto_off, mj_F_iastore, mj_F_iconst_n, mj_F_ifCond_eq_off, mj_F_ifCond_lt_off, mj_F_ifCond_ne_off, mj_F_if_icmp_ge_off, mj_F_iinc_k_n, mj_F_iload_k, mj_F_iload_n_k, mj_F_invokestatic_i, mj_F_istore_k, mj_F_istore_n_k, mj_F_ldc_i, mj_F_return_, mj_set, mj_set0, mj_unk, mj_c2, mj_kc, KT_X2, L_X2_spread, List.take_succ_cons, List.take_zero, List.drop_succ_cons, List.drop_zero, List.reverse_cons, List.reverse_nil, List.length_cons, List.length_nil, J_X2_spread]
  refine ⟨z, ?_⟩
  exact hG.2 _ _ _ _ _ _ _ _ _ (by refine ⟨Or.inl rfl, ?_⟩; refine ⟨Or.inr rfl, ?_⟩; refine ⟨Or.inr rfl, ?_⟩; refine ⟨Or.inr rfl, ?_⟩; refine ⟨Or.inr rfl, ?_⟩; exact trivial) (Nat.zero_le _) (Nat.zero_le _) (g_X2_spread_15 hG  hw :)

def c_X2_spread : mj_S := fun as h k => ∃ (v0 : Int32) (v1 : Nat) (v2 : Nat) (s : St), as = [.int v0, .ref v1, .ref v2] ∧ h = mkCs s ∧ ok (F_X2_spread v0 v1 v2 s) (fun p => k none (mkCs p))
theorem c_X2_spread_in {v0 : Int32} {v1 : Nat} {v2 : Nat} {s : St} {k : Option Value → mj_H → Prop} (hw : ok (F_X2_spread v0 v1 v2 s) (fun p => k none (mkCs p))) : c_X2_spread [.int v0, .ref v1, .ref v2] (mkCs s) k := ⟨v0, v1, v2, s, rfl, rfl, hw⟩
theorem m_X2_spread (l : Launch) : mj_Met l yX2_spread cX2_spread 6 (none) 2 0 0 c_X2_spread := by
  refine mj_body2 false (TbX2 6 (none) ct_X2_spread) (by decide) rfl rfl (fun h => nomatch h) (tfX2 _ (List.forall_mem_cons.mpr ⟨cfX2_30 (m_J7_fill_53178 l) (by decide), List.forall_mem_cons.mpr ⟨cfX2_55 (m_X2_ease l) (by decide), fun _ h => nomatch h⟩⟩)) ?_
  rintro as h k ⟨v0, v1, v2, s, rfl, rfl, hw⟩
  exact ⟨rfl, fun G hG => g_X2_spread hG hw⟩
def F_X2_rowFrom_48 (v2 : Int32) (v3 : Int32) (v4 : Int32) (s : St) : Option (Nat × St) :=
  (rd s 204 240 v4).bind fun x4 =>
  if x4 = 0 then
    if v2 = 0 then
      rr s 203 240 v4 (
        none) fun a6 =>
      (F_X2_spread v3 2 a6 s).bind fun s7 =>
      (wr s7 204 240 v4 1).bind fun s8 =>
      rr s8 203 240 v4 (
        none) fun a9 =>
      some (a9, s8)
    else
      rr s 203 240 v4 (
        none) fun a10 =>
      (F_X2_spread v3 3 a10 s).bind fun s11 =>
      (wr s11 204 240 v4 1).bind fun s12 =>
      rr s12 203 240 v4 (
        none) fun a13 =>
      some (a13, s12)
  else
    rr s 203 240 v4 (
      none) fun a5 =>
    some (a5, s)
def F_X2_rowFrom_25 (v2 : Int32) (v3 : Int32) (t0 : Int32) (s : St) : Option (Nat × St) :=
  rr s 203 240 t0 (
    (nA s 120).bind fun s2 =>
    (wR s2 203 240 t0 (aL s)).bind fun s3 =>
    F_X2_rowFrom_48 v2 v3 t0 s3) fun a1 =>
  F_X2_rowFrom_48 v2 v3 t0 s
def F_X2_rowFrom_12 (v2 : Int32) (t0 : Int32) (s : St) : Option (Nat × St) :=
  if v2 = 0 then
    F_X2_rowFrom_25 v2 t0 t0 s
  else
    F_X2_rowFrom_25 v2 t0 (120 + t0) s
def F_X2_rowFrom (v1 : Int32) (v2 : Int32) (s : St) : Option (Nat × St) :=
  if inb v1 0 119 = false then
    F_X2_rowFrom_12 v2 0 s
  else
    F_X2_rowFrom_12 v2 v1 s
theorem J_X2_rowFrom : mj_t 4 7 = 11 ∧ mj_t 8 4 = 12 ∧ mj_t 14 10 = 24 ∧ mj_t 21 4 = 25 ∧ mj_t 34 14 = 48 ∧ mj_t 55 37 = 92 ∧ mj_t 60 10 = 70 ∧ mj_t 67 7 = 74 ∧ (0 ≤ ((4 : Nat) : Int) + 7) = True ∧ (0 ≤ ((8 : Nat) : Int) + 4) = True ∧ (0 ≤ ((14 : Nat) : Int) + 10) = True ∧ (0 ≤ ((21 : Nat) : Int) + 4) = True ∧ (0 ≤ ((34 : Nat) : Int) + 14) = True ∧ (0 ≤ ((55 : Nat) : Int) + 37) = True ∧ (0 ≤ ((60 : Nat) : Int) + 10) = True ∧ (0 ≤ ((67 : Nat) : Int) + 7) = True := by and_intros <;> first | rfl | exact eq_true (by decide)
def ct_X2_rowFrom : List (Nat × mj_Cs) := [(46, 3, 1, 11, 0, 0, c_isCell), (50, 2, 3, 2, 0, 0, c_X2_spread)]
theorem L_X2_rowFrom : mj_lk ct_X2_rowFrom 46 = some (3, 1, 11, 0, 0, c_isCell) ∧ mj_lk ct_X2_rowFrom 50 = some (2, 3, 2, 0, 0, c_X2_spread) := ⟨rfl, rfl⟩
set_option maxHeartbeats 4000000 in
set_option maxRecDepth 20000 in
theorem g_X2_rowFrom_48 {k : Option Value → mj_H → Prop} {G : mj_K} (hG : mj_cl2 cX2_rowFrom (TbX2 5 ((some (FieldType.array FieldType.int))) ct_X2_rowFrom) k G)   {v2 : Int32} {v3 : Int32} {v4 : Int32} {s : St} (hw : ok (F_X2_rowFrom_48 v2 v3 v4 s) (fun p => k (some (.ref p.1)) (mkCs p.2))) : G 48 [.ref 1, mj_unk, .int v2, .int v3, .int v4] [] (mkCs s) 0 0 := by
  unfold F_X2_rowFrom_48 at hw
  refine mj_run hG.1 (fun pc => pc == 12 || pc == 25 || pc == 34 || pc == 47 || pc == 48 || pc == 81 || pc == 84 || pc == 99) 4000 ?_
  simp only [mj_step, mj_W_s, mj_fin, List.getElem?_cons_zero, List.getElem?_cons_succ, mj_go, Nat.reduceAdd, Nat.reduceSub, Nat.reduceLT, Nat.reduceLeDiff, Nat.zero_add, Nat.reduceEqDiff, Nat.reduceBEq, ↓reduceIte, Bool.false_eq_true, List.append_nil, List.nil_append, List.cons_append, Option.toList, and_true, true_and, true_or, or_true, reduceCtorEq, List.map_nil, bI_eq0, bI_eq1, bool_ft, pk_us, vnar0, vnar1, Bool.or_false, Bool.or_true, Bool.false_or, Bool.true_or, mj_kne, eq_self, Int32.reduceLT, Int32.reduceLE, Int32.reduceAdd, Int32.reduceSub, Int32.reduceMul, not_true_eq_false, not_false_eq_true, false_implies, true_implies, D_X2_rowFrom_0, D_X2_rowFrom_1, mj_F_aaload, mj_F_aastore, mj_F_aload_n_k, mj_F_areturn, mj_F_baload, mj_F_bastore, mj_F_bipush_n, mj_F_getfield_i, mj_F_goto_off, mj_F_iadd, mj_F_iconst_n, mj_F_ifCond_eq_off, mj_F_ifCond_ne_off, mj_F_ifnonnull_off, mj_F_iload_k, mj_F_iload_n_k, mj_F_invokestatic_i, mj_F_istore_k, mj_F_istore_n_k, mj_F_newarray_ty, mj_set, mj_set0, mj_unk, mj_c2, mj_kc, FT_X2, L_X2_rowFrom, List.take_succ_cons, List.take_zero, List.drop_succ_cons, List.drop_zero, List.reverse_cons, List.reverse_nil, List.length_cons, List.length_nil, gS_C1, gCf2_3, gS_C5, sS_Cr_5, gCf2_4, gS_C6, sS_Ca_6, gCf2_1, gS_C3, sS_Ca_3, gCf2_0, gS_C2, sS_Ca_2, c_isCell_eq, mj_nn, sS_new, mkCs_len, J_X2_rowFrom]
  refine ⟨(ok_rd hw).1, ?_⟩
  replace hw := (ok_rd hw).2
  refine ⟨fun c => ?_, fun c => ?_⟩
  · replace hw := ok_f hw c
    refine ⟨(ok_rr hw).1, ?_⟩
    rcases (ok_rr hw).2 with ⟨e18, hw⟩ | ⟨_, e18, hw⟩
    · simp only [e18, va_rf]
      refine mj_run hG.1 (fun pc => pc == 12 || pc == 25 || pc == 34 || pc == 47 || pc == 48 || pc == 81 || pc == 84 || pc == 99) 4000 ?_
      simp only [mj_step, mj_W_s, mj_fin, List.getElem?_cons_zero, List.getElem?_cons_succ, mj_go, Nat.reduceAdd, Nat.reduceSub, Nat.reduceLT, Nat.reduceLeDiff, Nat.zero_add, Nat.reduceEqDiff, Nat.reduceBEq, ↓reduceIte, Bool.false_eq_true, List.append_nil, List.nil_append, List.cons_append, Option.toList, and_true, true_and, true_or, or_true, reduceCtorEq, List.map_nil, bI_eq0, bI_eq1, bool_ft, pk_us, vnar0, vnar1, Bool.or_false, Bool.or_true, Bool.false_or, Bool.true_or, mj_kne, eq_self, Int32.reduceLT, Int32.reduceLE, Int32.reduceAdd, Int32.reduceSub, Int32.reduceMul, not_true_eq_false, not_false_eq_true, false_implies, true_implies, D_X2_rowFrom_0, D_X2_rowFrom_1, mj_F_aaload, mj_F_aastore, mj_F_aload_n_k, mj_F_areturn, mj_F_baload, mj_F_bastore, mj_F_bipush_n, mj_F_getfield_i, mj_F_goto_off, mj_F_iadd, mj_F_iconst_n, mj_F_ifCond_eq_off, mj_F_ifCond_ne_off, mj_F_ifnonnull_off, mj_F_iload_k, mj_F_iload_n_k, mj_F_invokestatic_i, mj_F_istore_k, mj_F_istore_n_k, mj_F_newarray_ty, mj_set, mj_set0, mj_unk, mj_c2, mj_kc, FT_X2, L_X2_rowFrom, List.take_succ_cons, List.take_zero, List.drop_succ_cons, List.drop_zero, List.reverse_cons, List.reverse_nil, List.length_cons, List.length_nil, gS_C1, gCf2_3, gS_C5, sS_Cr_5, gCf2_4, gS_C6, sS_Ca_6, gCf2_1, gS_C3, sS_Ca_3, gCf2_0, gS_C2, sS_Ca_2, c_isCell_eq, mj_nn, sS_new, mkCs_len, J_X2_rowFrom]
      exact absurd hw ok_none
    · simp only [e18, va_rf]
      refine mj_run hG.1 (fun pc => pc == 12 || pc == 25 || pc == 34 || pc == 47 || pc == 48 || pc == 81 || pc == 84 || pc == 99) 4000 ?_
      simp only [mj_step, mj_W_s, mj_fin, List.getElem?_cons_zero, List.getElem?_cons_succ, mj_go, Nat.reduceAdd, Nat.reduceSub, Nat.reduceLT, Nat.reduceLeDiff, Nat.zero_add, Nat.reduceEqDiff, Nat.reduceBEq, ↓reduceIte, Bool.false_eq_true, List.append_nil, List.nil_append, List.cons_append, Option.toList, and_true, true_and, true_or, or_true, reduceCtorEq, List.map_nil, bI_eq0, bI_eq1, bool_ft, pk_us, vnar0, vnar1, Bool.or_false, Bool.or_true, Bool.false_or, Bool.true_or, mj_kne, eq_self, Int32.reduceLT, Int32.reduceLE, Int32.reduceAdd, Int32.reduceSub, Int32.reduceMul, not_true_eq_false, not_false_eq_true, false_implies, true_implies, D_X2_rowFrom_0, D_X2_rowFrom_1, mj_F_aaload, mj_F_aastore, mj_F_aload_n_k, mj_F_areturn, mj_F_baload, mj_F_bastore, mj_F_bipush_n, mj_F_getfield_i, mj_F_goto_off, mj_F_iadd, mj_F_iconst_n, mj_F_ifCond_eq_off, mj_F_ifCond_ne_off, mj_F_ifnonnull_off, mj_F_iload_k, mj_F_iload_n_k, mj_F_invokestatic_i, mj_F_istore_k, mj_F_istore_n_k, mj_F_newarray_ty, mj_set, mj_set0, mj_unk, mj_c2, mj_kc, FT_X2, L_X2_rowFrom, List.take_succ_cons, List.take_zero, List.drop_succ_cons, List.drop_zero, List.reverse_cons, List.reverse_nil, List.length_cons, List.length_nil, gS_C1, gCf2_3, gS_C5, sS_Cr_5, gCf2_4, gS_C6, sS_Ca_6, gCf2_1, gS_C3, sS_Ca_3, gCf2_0, gS_C2, sS_Ca_2, c_isCell_eq, mj_nn, sS_new, mkCs_len, J_X2_rowFrom]
      exact (ok_some hw :)
  · replace hw := ok_t hw c
    refine ⟨fun c => ?_, fun c => ?_⟩
    · replace hw := ok_t hw c
      refine ⟨(ok_rr hw).1, ?_⟩
      rcases (ok_rr hw).2 with ⟨e14, hw⟩ | ⟨_, e14, hw⟩
      · simp only [e14, va_rf]
        refine mj_run hG.1 (fun pc => pc == 12 || pc == 25 || pc == 34 || pc == 47 || pc == 48 || pc == 81 || pc == 84 || pc == 99) 4000 ?_
        simp only [mj_step, mj_W_s, mj_fin, List.getElem?_cons_zero, List.getElem?_cons_succ, mj_go, Nat.reduceAdd, Nat.reduceSub, Nat.reduceLT, Nat.reduceLeDiff, Nat.zero_add, Nat.reduceEqDiff, Nat.reduceBEq, ↓reduceIte, Bool.false_eq_true, List.append_nil, List.nil_append, List.cons_append, Option.toList, and_true, true_and, true_or, or_true, reduceCtorEq, List.map_nil, bI_eq0, bI_eq1, bool_ft, pk_us, vnar0, vnar1, Bool.or_false, Bool.or_true, Bool.false_or, Bool.true_or, mj_kne, eq_self, Int32.reduceLT, Int32.reduceLE, Int32.reduceAdd, Int32.reduceSub, Int32.reduceMul, not_true_eq_false, not_false_eq_true, false_implies, true_implies, D_X2_rowFrom_0, D_X2_rowFrom_1, mj_F_aaload, mj_F_aastore, mj_F_aload_n_k, mj_F_areturn, mj_F_baload, mj_F_bastore, mj_F_bipush_n, mj_F_getfield_i, mj_F_goto_off, mj_F_iadd, mj_F_iconst_n, mj_F_ifCond_eq_off, mj_F_ifCond_ne_off, mj_F_ifnonnull_off, mj_F_iload_k, mj_F_iload_n_k, mj_F_invokestatic_i, mj_F_istore_k, mj_F_istore_n_k, mj_F_newarray_ty, mj_set, mj_set0, mj_unk, mj_c2, mj_kc, FT_X2, L_X2_rowFrom, List.take_succ_cons, List.take_zero, List.drop_succ_cons, List.drop_zero, List.reverse_cons, List.reverse_nil, List.length_cons, List.length_nil, gS_C1, gCf2_3, gS_C5, sS_Cr_5, gCf2_4, gS_C6, sS_Ca_6, gCf2_1, gS_C3, sS_Ca_3, gCf2_0, gS_C2, sS_Ca_2, c_isCell_eq, mj_nn, sS_new, mkCs_len, J_X2_rowFrom]
        exact absurd hw ok_none
      · simp only [e14, va_rf]
        refine mj_run hG.1 (fun pc => pc == 12 || pc == 25 || pc == 34 || pc == 47 || pc == 48 || pc == 81 || pc == 84 || pc == 99) 4000 ?_
        simp only [mj_step, mj_W_s, mj_fin, List.getElem?_cons_zero, List.getElem?_cons_succ, mj_go, Nat.reduceAdd, Nat.reduceSub, Nat.reduceLT, Nat.reduceLeDiff, Nat.zero_add, Nat.reduceEqDiff, Nat.reduceBEq, ↓reduceIte, Bool.false_eq_true, List.append_nil, List.nil_append, List.cons_append, Option.toList, and_true, true_and, true_or, or_true, reduceCtorEq, List.map_nil, bI_eq0, bI_eq1, bool_ft, pk_us, vnar0, vnar1, Bool.or_false, Bool.or_true, Bool.false_or, Bool.true_or, mj_kne, eq_self, Int32.reduceLT, Int32.reduceLE, Int32.reduceAdd, Int32.reduceSub, Int32.reduceMul, not_true_eq_false, not_false_eq_true, false_implies, true_implies, D_X2_rowFrom_0, D_X2_rowFrom_1, mj_F_aaload, mj_F_aastore, mj_F_aload_n_k, mj_F_areturn, mj_F_baload, mj_F_bastore, mj_F_bipush_n, mj_F_getfield_i, mj_F_goto_off, mj_F_iadd, mj_F_iconst_n, mj_F_ifCond_eq_off, mj_F_ifCond_ne_off, mj_F_ifnonnull_off, mj_F_iload_k, mj_F_iload_n_k, mj_F_invokestatic_i, mj_F_istore_k, mj_F_istore_n_k, mj_F_newarray_ty, mj_set, mj_set0, mj_unk, mj_c2, mj_kc, FT_X2, L_X2_rowFrom, List.take_succ_cons, List.take_zero, List.drop_succ_cons, List.drop_zero, List.reverse_cons, List.reverse_nil, List.length_cons, List.length_nil, gS_C1, gCf2_3, gS_C5, sS_Cr_5, gCf2_4, gS_C6, sS_Ca_6, gCf2_1, gS_C3, sS_Ca_3, gCf2_0, gS_C2, sS_Ca_2, c_isCell_eq, mj_nn, sS_new, mkCs_len, J_X2_rowFrom]
        refine c_X2_spread_in (ok_imp (ok_bind hw) ?_)
        intro p hw
        simp only [Option.toList, List.nil_append, List.cons_append, Nat.reduceSub]
        refine mj_run hG.1 (fun pc => pc == 12 || pc == 25 || pc == 34 || pc == 47 || pc == 48 || pc == 81 || pc == 84 || pc == 99) 4000 ?_
        simp only [mj_step, mj_W_s, mj_fin, List.getElem?_cons_zero, List.getElem?_cons_succ, mj_go, Nat.reduceAdd, Nat.reduceSub, Nat.reduceLT, Nat.reduceLeDiff, Nat.zero_add, Nat.reduceEqDiff, Nat.reduceBEq, ↓reduceIte, Bool.false_eq_true, List.append_nil, List.nil_append, List.cons_append, Option.toList, and_true, true_and, true_or, or_true, reduceCtorEq, List.map_nil, bI_eq0, bI_eq1, bool_ft, pk_us, vnar0, vnar1, Bool.or_false, Bool.or_true, Bool.false_or, Bool.true_or, mj_kne, eq_self, Int32.reduceLT, Int32.reduceLE, Int32.reduceAdd, Int32.reduceSub, Int32.reduceMul, not_true_eq_false, not_false_eq_true, false_implies, true_implies, D_X2_rowFrom_0, D_X2_rowFrom_1, mj_F_aaload, mj_F_aastore, mj_F_aload_n_k, mj_F_areturn, mj_F_baload, mj_F_bastore, mj_F_bipush_n, mj_F_getfield_i, mj_F_goto_off, mj_F_iadd, mj_F_iconst_n, mj_F_ifCond_eq_off, mj_F_ifCond_ne_off, mj_F_ifnonnull_off, mj_F_iload_k, mj_F_iload_n_k, mj_F_invokestatic_i, mj_F_istore_k, mj_F_istore_n_k, mj_F_newarray_ty, mj_set, mj_set0, mj_unk, mj_c2, mj_kc, FT_X2, L_X2_rowFrom, List.take_succ_cons, List.take_zero, List.drop_succ_cons, List.drop_zero, List.reverse_cons, List.reverse_nil, List.length_cons, List.length_nil, gS_C1, gCf2_3, gS_C5, sS_Cr_5, gCf2_4, gS_C6, sS_Ca_6, gCf2_1, gS_C3, sS_Ca_3, gCf2_0, gS_C2, sS_Ca_2, c_isCell_eq, mj_nn, sS_new, mkCs_len, J_X2_rowFrom]
        refine ⟨(ok_wr hw).1, ?_⟩
        replace hw := (ok_wr hw).2
        refine ⟨(ok_rr hw).1, ?_⟩
        rcases (ok_rr hw).2 with ⟨e15, hw⟩ | ⟨_, e15, hw⟩
        · simp only [e15, va_rf]
          refine mj_run hG.1 (fun pc => pc == 12 || pc == 25 || pc == 34 || pc == 47 || pc == 48 || pc == 81 || pc == 84 || pc == 99) 4000 ?_
          simp only [mj_step, mj_W_s, mj_fin, List.getElem?_cons_zero, List.getElem?_cons_succ, mj_go, Nat.reduceAdd, Nat.reduceSub, Nat.reduceLT, Nat.reduceLeDiff, Nat.zero_add, Nat.reduceEqDiff, Nat.reduceBEq, ↓reduceIte, Bool.false_eq_true, List.append_nil, List.nil_append, List.cons_append, Option.toList, and_true, true_and, true_or, or_true, reduceCtorEq, List.map_nil, bI_eq0, bI_eq1, bool_ft, pk_us, vnar0, vnar1, Bool.or_false, Bool.or_true, Bool.false_or, Bool.true_or, mj_kne, eq_self, Int32.reduceLT, Int32.reduceLE, Int32.reduceAdd, Int32.reduceSub, Int32.reduceMul, not_true_eq_false, not_false_eq_true, false_implies, true_implies, D_X2_rowFrom_0, D_X2_rowFrom_1, mj_F_aaload, mj_F_aastore, mj_F_aload_n_k, mj_F_areturn, mj_F_baload, mj_F_bastore, mj_F_bipush_n, mj_F_getfield_i, mj_F_goto_off, mj_F_iadd, mj_F_iconst_n, mj_F_ifCond_eq_off, mj_F_ifCond_ne_off, mj_F_ifnonnull_off, mj_F_iload_k, mj_F_iload_n_k, mj_F_invokestatic_i, mj_F_istore_k, mj_F_istore_n_k, mj_F_newarray_ty, mj_set, mj_set0, mj_unk, mj_c2, mj_kc, FT_X2, L_X2_rowFrom, List.take_succ_cons, List.take_zero, List.drop_succ_cons, List.drop_zero, List.reverse_cons, List.reverse_nil, List.length_cons, List.length_nil, gS_C1, gCf2_3, gS_C5, sS_Cr_5, gCf2_4, gS_C6, sS_Ca_6, gCf2_1, gS_C3, sS_Ca_3, gCf2_0, gS_C2, sS_Ca_2, c_isCell_eq, mj_nn, sS_new, mkCs_len, J_X2_rowFrom]
          exact absurd hw ok_none
        · simp only [e15, va_rf]
          refine mj_run hG.1 (fun pc => pc == 12 || pc == 25 || pc == 34 || pc == 47 || pc == 48 || pc == 81 || pc == 84 || pc == 99) 4000 ?_
          simp only [mj_step, mj_W_s, mj_fin, List.getElem?_cons_zero, List.getElem?_cons_succ, mj_go, Nat.reduceAdd, Nat.reduceSub, Nat.reduceLT, Nat.reduceLeDiff, Nat.zero_add, Nat.reduceEqDiff, Nat.reduceBEq, ↓reduceIte, Bool.false_eq_true, List.append_nil, List.nil_append, List.cons_append, Option.toList, and_true, true_and, true_or, or_true, reduceCtorEq, List.map_nil, bI_eq0, bI_eq1, bool_ft, pk_us, vnar0, vnar1, Bool.or_false, Bool.or_true, Bool.false_or, Bool.true_or, mj_kne, eq_self, Int32.reduceLT, Int32.reduceLE, Int32.reduceAdd, Int32.reduceSub, Int32.reduceMul, not_true_eq_false, not_false_eq_true, false_implies, true_implies, D_X2_rowFrom_0, D_X2_rowFrom_1, mj_F_aaload, mj_F_aastore, mj_F_aload_n_k, mj_F_areturn, mj_F_baload, mj_F_bastore, mj_F_bipush_n, mj_F_getfield_i, mj_F_goto_off, mj_F_iadd, mj_F_iconst_n, mj_F_ifCond_eq_off, mj_F_ifCond_ne_off, mj_F_ifnonnull_off, mj_F_iload_k, mj_F_iload_n_k, mj_F_invokestatic_i, mj_F_istore_k, mj_F_istore_n_k, mj_F_newarray_ty, mj_set, mj_set0, mj_unk, mj_c2, mj_kc, FT_X2, L_X2_rowFrom, List.take_succ_cons, List.take_zero, List.drop_succ_cons, List.drop_zero, List.reverse_cons, List.reverse_nil, List.length_cons, List.length_nil, gS_C1, gCf2_3, gS_C5, sS_Cr_5, gCf2_4, gS_C6, sS_Ca_6, gCf2_1, gS_C3, sS_Ca_3, gCf2_0, gS_C2, sS_Ca_2, c_isCell_eq, mj_nn, sS_new, mkCs_len, J_X2_rowFrom]
          exact (ok_some hw :)
    · replace hw := ok_f hw c
      refine ⟨(ok_rr hw).1, ?_⟩
      rcases (ok_rr hw).2 with ⟨e16, hw⟩ | ⟨_, e16, hw⟩
      · simp only [e16, va_rf]
        refine mj_run hG.1 (fun pc => pc == 12 || pc == 25 || pc == 34 || pc == 47 || pc == 48 || pc == 81 || pc == 84 || pc == 99) 4000 ?_
        simp only [mj_step, mj_W_s, mj_fin, List.getElem?_cons_zero, List.getElem?_cons_succ, mj_go, Nat.reduceAdd, Nat.reduceSub, Nat.reduceLT, Nat.reduceLeDiff, Nat.zero_add, Nat.reduceEqDiff, Nat.reduceBEq, ↓reduceIte, Bool.false_eq_true, List.append_nil, List.nil_append, List.cons_append, Option.toList, and_true, true_and, true_or, or_true, reduceCtorEq, List.map_nil, bI_eq0, bI_eq1, bool_ft, pk_us, vnar0, vnar1, Bool.or_false, Bool.or_true, Bool.false_or, Bool.true_or, mj_kne, eq_self, Int32.reduceLT, Int32.reduceLE, Int32.reduceAdd, Int32.reduceSub, Int32.reduceMul, not_true_eq_false, not_false_eq_true, false_implies, true_implies, D_X2_rowFrom_0, D_X2_rowFrom_1, mj_F_aaload, mj_F_aastore, mj_F_aload_n_k, mj_F_areturn, mj_F_baload, mj_F_bastore, mj_F_bipush_n, mj_F_getfield_i, mj_F_goto_off, mj_F_iadd, mj_F_iconst_n, mj_F_ifCond_eq_off, mj_F_ifCond_ne_off, mj_F_ifnonnull_off, mj_F_iload_k, mj_F_iload_n_k, mj_F_invokestatic_i, mj_F_istore_k, mj_F_istore_n_k, mj_F_newarray_ty, mj_set, mj_set0, mj_unk, mj_c2, mj_kc, FT_X2, L_X2_rowFrom, List.take_succ_cons, List.take_zero, List.drop_succ_cons, List.drop_zero, List.reverse_cons, List.reverse_nil, List.length_cons, List.length_nil, gS_C1, gCf2_3, gS_C5, sS_Cr_5, gCf2_4, gS_C6, sS_Ca_6, gCf2_1, gS_C3, sS_Ca_3, gCf2_0, gS_C2, sS_Ca_2, c_isCell_eq, mj_nn, sS_new, mkCs_len, J_X2_rowFrom]
        exact absurd hw ok_none
      · simp only [e16, va_rf]
        refine mj_run hG.1 (fun pc => pc == 12 || pc == 25 || pc == 34 || pc == 47 || pc == 48 || pc == 81 || pc == 84 || pc == 99) 4000 ?_
        simp only [mj_step, mj_W_s, mj_fin, List.getElem?_cons_zero, List.getElem?_cons_succ, mj_go, Nat.reduceAdd, Nat.reduceSub, Nat.reduceLT, Nat.reduceLeDiff, Nat.zero_add, Nat.reduceEqDiff, Nat.reduceBEq, ↓reduceIte, Bool.false_eq_true, List.append_nil, List.nil_append, List.cons_append, Option.toList, and_true, true_and, true_or, or_true, reduceCtorEq, List.map_nil, bI_eq0, bI_eq1, bool_ft, pk_us, vnar0, vnar1, Bool.or_false, Bool.or_true, Bool.false_or, Bool.true_or, mj_kne, eq_self, Int32.reduceLT, Int32.reduceLE, Int32.reduceAdd, Int32.reduceSub, Int32.reduceMul, not_true_eq_false, not_false_eq_true, false_implies, true_implies, D_X2_rowFrom_0, D_X2_rowFrom_1, mj_F_aaload, mj_F_aastore, mj_F_aload_n_k, mj_F_areturn, mj_F_baload, mj_F_bastore, mj_F_bipush_n, mj_F_getfield_i, mj_F_goto_off, mj_F_iadd, mj_F_iconst_n, mj_F_ifCond_eq_off, mj_F_ifCond_ne_off, mj_F_ifnonnull_off, mj_F_iload_k, mj_F_iload_n_k, mj_F_invokestatic_i, mj_F_istore_k, mj_F_istore_n_k, mj_F_newarray_ty, mj_set, mj_set0, mj_unk, mj_c2, mj_kc, FT_X2, L_X2_rowFrom, List.take_succ_cons, List.take_zero, List.drop_succ_cons, List.drop_zero, List.reverse_cons, List.reverse_nil, List.length_cons, List.length_nil, gS_C1, gCf2_3, gS_C5, sS_Cr_5, gCf2_4, gS_C6, sS_Ca_6, gCf2_1, gS_C3, sS_Ca_3, gCf2_0, gS_C2, sS_Ca_2, c_isCell_eq, mj_nn, sS_new, mkCs_len, J_X2_rowFrom]
        refine c_X2_spread_in (ok_imp (ok_bind hw) ?_)
        intro p hw
        simp only [Option.toList, List.nil_append, List.cons_append, Nat.reduceSub]
        refine mj_run hG.1 (fun pc => pc == 12 || pc == 25 || pc == 34 || pc == 47 || pc == 48 || pc == 81 || pc == 84 || pc == 99) 4000 ?_
        simp only [mj_step, mj_W_s, mj_fin, List.getElem?_cons_zero, List.getElem?_cons_succ, mj_go, Nat.reduceAdd, Nat.reduceSub, Nat.reduceLT, Nat.reduceLeDiff, Nat.zero_add, Nat.reduceEqDiff, Nat.reduceBEq, ↓reduceIte, Bool.false_eq_true, List.append_nil, List.nil_append, List.cons_append, Option.toList, and_true, true_and, true_or, or_true, reduceCtorEq, List.map_nil, bI_eq0, bI_eq1, bool_ft, pk_us, vnar0, vnar1, Bool.or_false, Bool.or_true, Bool.false_or, Bool.true_or, mj_kne, eq_self, Int32.reduceLT, Int32.reduceLE, Int32.reduceAdd, Int32.reduceSub, Int32.reduceMul, not_true_eq_false, not_false_eq_true, false_implies, true_implies, D_X2_rowFrom_0, D_X2_rowFrom_1, mj_F_aaload, mj_F_aastore, mj_F_aload_n_k, mj_F_areturn, mj_F_baload, mj_F_bastore, mj_F_bipush_n, mj_F_getfield_i, mj_F_goto_off, mj_F_iadd, mj_F_iconst_n, mj_F_ifCond_eq_off, mj_F_ifCond_ne_off, mj_F_ifnonnull_off, mj_F_iload_k, mj_F_iload_n_k, mj_F_invokestatic_i, mj_F_istore_k, mj_F_istore_n_k, mj_F_newarray_ty, mj_set, mj_set0, mj_unk, mj_c2, mj_kc, FT_X2, L_X2_rowFrom, List.take_succ_cons, List.take_zero, List.drop_succ_cons, List.drop_zero, List.reverse_cons, List.reverse_nil, List.length_cons, List.length_nil, gS_C1, gCf2_3, gS_C5, sS_Cr_5, gCf2_4, gS_C6, sS_Ca_6, gCf2_1, gS_C3, sS_Ca_3, gCf2_0, gS_C2, sS_Ca_2, c_isCell_eq, mj_nn, sS_new, mkCs_len, J_X2_rowFrom]
        refine ⟨(ok_wr hw).1, ?_⟩
        replace hw := (ok_wr hw).2
        refine ⟨(ok_rr hw).1, ?_⟩
        rcases (ok_rr hw).2 with ⟨e17, hw⟩ | ⟨_, e17, hw⟩
        · simp only [e17, va_rf]
          refine mj_run hG.1 (fun pc => pc == 12 || pc == 25 || pc == 34 || pc == 47 || pc == 48 || pc == 81 || pc == 84 || pc == 99) 4000 ?_
          simp only [mj_step, mj_W_s, mj_fin, List.getElem?_cons_zero, List.getElem?_cons_succ, mj_go, Nat.reduceAdd, Nat.reduceSub, Nat.reduceLT, Nat.reduceLeDiff, Nat.zero_add, Nat.reduceEqDiff, Nat.reduceBEq, ↓reduceIte, Bool.false_eq_true, List.append_nil, List.nil_append, List.cons_append, Option.toList, and_true, true_and, true_or, or_true, reduceCtorEq, List.map_nil, bI_eq0, bI_eq1, bool_ft, pk_us, vnar0, vnar1, Bool.or_false, Bool.or_true, Bool.false_or, Bool.true_or, mj_kne, eq_self, Int32.reduceLT, Int32.reduceLE, Int32.reduceAdd, Int32.reduceSub, Int32.reduceMul, not_true_eq_false, not_false_eq_true, false_implies, true_implies, D_X2_rowFrom_0, D_X2_rowFrom_1, mj_F_aaload, mj_F_aastore, mj_F_aload_n_k, mj_F_areturn, mj_F_baload, mj_F_bastore, mj_F_bipush_n, mj_F_getfield_i, mj_F_goto_off, mj_F_iadd, mj_F_iconst_n, mj_F_ifCond_eq_off, mj_F_ifCond_ne_off, mj_F_ifnonnull_off, mj_F_iload_k, mj_F_iload_n_k, mj_F_invokestatic_i, mj_F_istore_k, mj_F_istore_n_k, mj_F_newarray_ty, mj_set, mj_set0, mj_unk, mj_c2, mj_kc, FT_X2, L_X2_rowFrom, List.take_succ_cons, List.take_zero, List.drop_succ_cons, List.drop_zero, List.reverse_cons, List.reverse_nil, List.length_cons, List.length_nil, gS_C1, gCf2_3, gS_C5, sS_Cr_5, gCf2_4, gS_C6, sS_Ca_6, gCf2_1, gS_C3, sS_Ca_3, gCf2_0, gS_C2, sS_Ca_2, c_isCell_eq, mj_nn, sS_new, mkCs_len, J_X2_rowFrom]
          exact absurd hw ok_none
        · simp only [e17, va_rf]
          refine mj_run hG.1 (fun pc => pc == 12 || pc == 25 || pc == 34 || pc == 47 || pc == 48 || pc == 81 || pc == 84 || pc == 99) 4000 ?_
          simp only [mj_step, mj_W_s, mj_fin, List.getElem?_cons_zero, List.getElem?_cons_succ, mj_go, Nat.reduceAdd, Nat.reduceSub, Nat.reduceLT, Nat.reduceLeDiff, Nat.zero_add, Nat.reduceEqDiff, Nat.reduceBEq, ↓reduceIte, Bool.false_eq_true, List.append_nil, List.nil_append, List.cons_append, Option.toList, and_true, true_and, true_or, or_true, reduceCtorEq, List.map_nil, bI_eq0, bI_eq1, bool_ft, pk_us, vnar0, vnar1, Bool.or_false, Bool.or_true, Bool.false_or, Bool.true_or, mj_kne, eq_self, Int32.reduceLT, Int32.reduceLE, Int32.reduceAdd, Int32.reduceSub, Int32.reduceMul, not_true_eq_false, not_false_eq_true, false_implies, true_implies, D_X2_rowFrom_0, D_X2_rowFrom_1, mj_F_aaload, mj_F_aastore, mj_F_aload_n_k, mj_F_areturn, mj_F_baload, mj_F_bastore, mj_F_bipush_n, mj_F_getfield_i, mj_F_goto_off, mj_F_iadd, mj_F_iconst_n, mj_F_ifCond_eq_off, mj_F_ifCond_ne_off, mj_F_ifnonnull_off, mj_F_iload_k, mj_F_iload_n_k, mj_F_invokestatic_i, mj_F_istore_k, mj_F_istore_n_k, mj_F_newarray_ty, mj_set, mj_set0, mj_unk, mj_c2, mj_kc, FT_X2, L_X2_rowFrom, List.take_succ_cons, List.take_zero, List.drop_succ_cons, List.drop_zero, List.reverse_cons, List.reverse_nil, List.length_cons, List.length_nil, gS_C1, gCf2_3, gS_C5, sS_Cr_5, gCf2_4, gS_C6, sS_Ca_6, gCf2_1, gS_C3, sS_Ca_3, gCf2_0, gS_C2, sS_Ca_2, c_isCell_eq, mj_nn, sS_new, mkCs_len, J_X2_rowFrom]
          exact (ok_some hw :)

set_option maxHeartbeats 4000000 in
set_option maxRecDepth 20000 in
theorem g_X2_rowFrom_25 {k : Option Value → mj_H → Prop} {G : mj_K} (hG : mj_cl2 cX2_rowFrom (TbX2 5 ((some (FieldType.array FieldType.int))) ct_X2_rowFrom) k G)   {v2 : Int32} {v3 : Int32} {t0 : Int32} {s : St} (hw : ok (F_X2_rowFrom_25 v2 v3 t0 s) (fun p => k (some (.ref p.1)) (mkCs p.2))) : G 25 [.ref 1, mj_unk, .int v2, .int v3] [.int t0] (mkCs s) 1 120 := by
  unfold F_X2_rowFrom_25 at hw
  refine mj_run hG.1 (fun pc => pc == 12 || pc == 25 || pc == 34 || pc == 47 || pc == 48 || pc == 81 || pc == 84 || pc == 99) 4000 ?_
  simp only [mj_step, mj_W_s, mj_fin, List.getElem?_cons_zero, List.getElem?_cons_succ, mj_go, Nat.reduceAdd, Nat.reduceSub, Nat.reduceLT, Nat.reduceLeDiff, Nat.zero_add, Nat.reduceEqDiff, Nat.reduceBEq, ↓reduceIte, Bool.false_eq_true, List.append_nil, List.nil_append, List.cons_append, Option.toList, and_true, true_and, true_or, or_true, reduceCtorEq, List.map_nil, bI_eq0, bI_eq1, bool_ft, pk_us, vnar0, vnar1, Bool.or_false, Bool.or_true, Bool.false_or, Bool.true_or, mj_kne, eq_self, Int32.reduceLT, Int32.reduceLE, Int32.reduceAdd, Int32.reduceSub, Int32.reduceMul, not_true_eq_false, not_false_eq_true, false_implies, true_implies, D_X2_rowFrom_0, D_X2_rowFrom_1, mj_F_aaload, mj_F_aastore, mj_F_aload_n_k, mj_F_areturn, mj_F_baload, mj_F_bastore, mj_F_bipush_n, mj_F_getfield_i, mj_F_goto_off, mj_F_iadd, mj_F_iconst_n, mj_F_ifCond_eq_off, mj_F_ifCond_ne_off, mj_F_ifnonnull_off, mj_F_iload_k, mj_F_iload_n_k, mj_F_invokestatic_i, mj_F_istore_k, mj_F_istore_n_k, mj_F_newarray_ty, mj_set, mj_set0, mj_unk, mj_c2, mj_kc, FT_X2, L_X2_rowFrom, List.take_succ_cons, List.take_zero, List.drop_succ_cons, List.drop_zero, List.reverse_cons, List.reverse_nil, List.length_cons, List.length_nil, gS_C1, gCf2_3, gS_C5, sS_Cr_5, gCf2_4, gS_C6, sS_Ca_6, gCf2_1, gS_C3, sS_Ca_3, gCf2_0, gS_C2, sS_Ca_2, c_isCell_eq, mj_nn, sS_new, mkCs_len, J_X2_rowFrom]
  refine ⟨(ok_rr hw).1, ?_⟩
  rcases (ok_rr hw).2 with ⟨e19, hw⟩ | ⟨_, e19, hw⟩
  · simp only [e19, va_rf]
    refine mj_run hG.1 (fun pc => pc == 12 || pc == 25 || pc == 34 || pc == 47 || pc == 48 || pc == 81 || pc == 84 || pc == 99) 4000 ?_
    simp only [mj_step, mj_W_s, mj_fin, List.getElem?_cons_zero, List.getElem?_cons_succ, mj_go, Nat.reduceAdd, Nat.reduceSub, Nat.reduceLT, Nat.reduceLeDiff, Nat.zero_add, Nat.reduceEqDiff, Nat.reduceBEq, ↓reduceIte, Bool.false_eq_true, List.append_nil, List.nil_append, List.cons_append, Option.toList, and_true, true_and, true_or, or_true, reduceCtorEq, List.map_nil, bI_eq0, bI_eq1, bool_ft, pk_us, vnar0, vnar1, Bool.or_false, Bool.or_true, Bool.false_or, Bool.true_or, mj_kne, eq_self, Int32.reduceLT, Int32.reduceLE, Int32.reduceAdd, Int32.reduceSub, Int32.reduceMul, not_true_eq_false, not_false_eq_true, false_implies, true_implies, D_X2_rowFrom_0, D_X2_rowFrom_1, mj_F_aaload, mj_F_aastore, mj_F_aload_n_k, mj_F_areturn, mj_F_baload, mj_F_bastore, mj_F_bipush_n, mj_F_getfield_i, mj_F_goto_off, mj_F_iadd, mj_F_iconst_n, mj_F_ifCond_eq_off, mj_F_ifCond_ne_off, mj_F_ifnonnull_off, mj_F_iload_k, mj_F_iload_n_k, mj_F_invokestatic_i, mj_F_istore_k, mj_F_istore_n_k, mj_F_newarray_ty, mj_set, mj_set0, mj_unk, mj_c2, mj_kc, FT_X2, L_X2_rowFrom, List.take_succ_cons, List.take_zero, List.drop_succ_cons, List.drop_zero, List.reverse_cons, List.reverse_nil, List.length_cons, List.length_nil, gS_C1, gCf2_3, gS_C5, sS_Cr_5, gCf2_4, gS_C6, sS_Ca_6, gCf2_1, gS_C3, sS_Ca_3, gCf2_0, gS_C2, sS_Ca_2, c_isCell_eq, mj_nn, sS_new, mkCs_len, J_X2_rowFrom]
    replace hw := ok_nA hw
    obtain ⟨_, _, e20, z, hw⟩ := ok_wR hw
    refine mj_run hG.1 (fun pc => pc == 12 || pc == 25 || pc == 34 || pc == 47 || pc == 48 || pc == 81 || pc == 84 || pc == 99) 4000 ?_
    simp only [e20, mj_step, mj_W_s, mj_fin, List.getElem?_cons_zero, List.getElem?_cons_succ, mj_go, Nat.reduceAdd, Nat.reduceSub, Nat.reduceLT, Nat.reduceLeDiff, Nat.zero_add, Nat.reduceEqDiff, Nat.reduceBEq, ↓reduceIte, Bool.false_eq_true, List.append_nil, List.nil_append, List.cons_append, Option.toList, and_true, true_and, true_or, or_true, reduceCtorEq, List.map_nil, bI_eq0, bI_eq1, bool_ft, pk_us, vnar0, vnar1, Bool.or_false, Bool.or_true, Bool.false_or, Bool.true_or, mj_kne, eq_self, Int32.reduceLT, Int32.reduceLE, Int32.reduceAdd, Int32.reduceSub, Int32.reduceMul, not_true_eq_false, not_false_eq_true, false_implies, true_implies, D_X2_rowFrom_0, D_X2_rowFrom_1, mj_F_aaload, mj_F_aastore, mj_F_aload_n_k, mj_F_areturn, mj_F_baload, mj_F_bastore, mj_F_bipush_n, mj_F_getfield_i, mj_F_goto_off, mj_F_iadd, mj_F_iconst_n, mj_F_ifCond_eq_off, mj_F_ifCond_ne_off, mj_F_ifnonnull_off, mj_F_iload_k, mj_F_iload_n_k, mj_F_invokestatic_i, mj_F_istore_k, mj_F_istore_n_k, mj_F_newarray_ty, mj_set, mj_set0, mj_unk, mj_c2, mj_kc, FT_X2, L_X2_rowFrom, List.take_succ_cons, List.take_zero, List.drop_succ_cons, List.drop_zero, List.reverse_cons, List.reverse_nil, List.length_cons, List.length_nil, gS_C1, gCf2_3, gS_C5, sS_Cr_5, gCf2_4, gS_C6, sS_Ca_6, gCf2_1, gS_C3, sS_Ca_3, gCf2_0, gS_C2, sS_Ca_2, c_isCell_eq, mj_nn, sS_new, mkCs_len, J_X2_rowFrom]
    refine ⟨z, ?_⟩
    exact hG.2 _ _ _ _ _ _ _ _ _ (by refine ⟨Or.inr rfl, ?_⟩; refine ⟨Or.inl rfl, ?_⟩; refine ⟨Or.inr rfl, ?_⟩; refine ⟨Or.inr rfl, ?_⟩; refine ⟨Or.inr rfl, ?_⟩; exact trivial) (by omega) (by omega) (g_X2_rowFrom_48 hG  hw :)
  · simp only [e19, va_rf]
    refine mj_run hG.1 (fun pc => pc == 12 || pc == 25 || pc == 34 || pc == 47 || pc == 48 || pc == 81 || pc == 84 || pc == 99) 4000 ?_
    simp only [mj_step, mj_W_s, mj_fin, List.getElem?_cons_zero, List.getElem?_cons_succ, mj_go, Nat.reduceAdd, Nat.reduceSub, Nat.reduceLT, Nat.reduceLeDiff, Nat.zero_add, Nat.reduceEqDiff, Nat.reduceBEq, ↓reduceIte, Bool.false_eq_true, List.append_nil, List.nil_append, List.cons_append, Option.toList, and_true, true_and, true_or, or_true, reduceCtorEq, List.map_nil, bI_eq0, bI_eq1, bool_ft, pk_us, vnar0, vnar1, Bool.or_false, Bool.or_true, Bool.false_or, Bool.true_or, mj_kne, eq_self, Int32.reduceLT, Int32.reduceLE, Int32.reduceAdd, Int32.reduceSub, Int32.reduceMul, not_true_eq_false, not_false_eq_true, false_implies, true_implies, D_X2_rowFrom_0, D_X2_rowFrom_1, mj_F_aaload, mj_F_aastore, mj_F_aload_n_k, mj_F_areturn, mj_F_baload, mj_F_bastore, mj_F_bipush_n, mj_F_getfield_i, mj_F_goto_off, mj_F_iadd, mj_F_iconst_n, mj_F_ifCond_eq_off, mj_F_ifCond_ne_off, mj_F_ifnonnull_off, mj_F_iload_k, mj_F_iload_n_k, mj_F_invokestatic_i, mj_F_istore_k, mj_F_istore_n_k, mj_F_newarray_ty, mj_set, mj_set0, mj_unk, mj_c2, mj_kc, FT_X2, L_X2_rowFrom, List.take_succ_cons, List.take_zero, List.drop_succ_cons, List.drop_zero, List.reverse_cons, List.reverse_nil, List.length_cons, List.length_nil, gS_C1, gCf2_3, gS_C5, sS_Cr_5, gCf2_4, gS_C6, sS_Ca_6, gCf2_1, gS_C3, sS_Ca_3, gCf2_0, gS_C2, sS_Ca_2, c_isCell_eq, mj_nn, sS_new, mkCs_len, J_X2_rowFrom]
    exact hG.2 _ _ _ _ _ _ _ _ _ (by refine ⟨Or.inr rfl, ?_⟩; refine ⟨Or.inl rfl, ?_⟩; refine ⟨Or.inr rfl, ?_⟩; refine ⟨Or.inr rfl, ?_⟩; refine ⟨Or.inr rfl, ?_⟩; exact trivial) (by omega) (by omega) (g_X2_rowFrom_48 hG  hw :)

set_option maxHeartbeats 4000000 in
set_option maxRecDepth 20000 in
theorem g_X2_rowFrom_12 {k : Option Value → mj_H → Prop} {G : mj_K} (hG : mj_cl2 cX2_rowFrom (TbX2 5 ((some (FieldType.array FieldType.int))) ct_X2_rowFrom) k G)   {v2 : Int32} {t0 : Int32} {s : St} (hw : ok (F_X2_rowFrom_12 v2 t0 s) (fun p => k (some (.ref p.1)) (mkCs p.2))) : G 12 [.ref 1, mj_unk, .int v2] [.int t0] (mkCs s) 1 120 := by
  unfold F_X2_rowFrom_12 at hw
  refine mj_run hG.1 (fun pc => pc == 12 || pc == 25 || pc == 34 || pc == 47 || pc == 48 || pc == 81 || pc == 84 || pc == 99) 4000 ?_
  simp only [mj_step, mj_W_s, mj_fin, List.getElem?_cons_zero, List.getElem?_cons_succ, mj_go, Nat.reduceAdd, Nat.reduceSub, Nat.reduceLT, Nat.reduceLeDiff, Nat.zero_add, Nat.reduceEqDiff, Nat.reduceBEq, ↓reduceIte, Bool.false_eq_true, List.append_nil, List.nil_append, List.cons_append, Option.toList, and_true, true_and, true_or, or_true, reduceCtorEq, List.map_nil, bI_eq0, bI_eq1, bool_ft, pk_us, vnar0, vnar1, Bool.or_false, Bool.or_true, Bool.false_or, Bool.true_or, mj_kne, eq_self, Int32.reduceLT, Int32.reduceLE, Int32.reduceAdd, Int32.reduceSub, Int32.reduceMul, not_true_eq_false, not_false_eq_true, false_implies, true_implies, D_X2_rowFrom_0, D_X2_rowFrom_1, mj_F_aaload, mj_F_aastore, mj_F_aload_n_k, mj_F_areturn, mj_F_baload, mj_F_bastore, mj_F_bipush_n, mj_F_getfield_i, mj_F_goto_off, mj_F_iadd, mj_F_iconst_n, mj_F_ifCond_eq_off, mj_F_ifCond_ne_off, mj_F_ifnonnull_off, mj_F_iload_k, mj_F_iload_n_k, mj_F_invokestatic_i, mj_F_istore_k, mj_F_istore_n_k, mj_F_newarray_ty, mj_set, mj_set0, mj_unk, mj_c2, mj_kc, FT_X2, L_X2_rowFrom, List.take_succ_cons, List.take_zero, List.drop_succ_cons, List.drop_zero, List.reverse_cons, List.reverse_nil, List.length_cons, List.length_nil, gS_C1, gCf2_3, gS_C5, sS_Cr_5, gCf2_4, gS_C6, sS_Ca_6, gCf2_1, gS_C3, sS_Ca_3, gCf2_0, gS_C2, sS_Ca_2, c_isCell_eq, mj_nn, sS_new, mkCs_len, J_X2_rowFrom]
  refine ⟨fun c => ?_, fun c => ?_⟩
  · replace hw := ok_t hw c
    exact hG.2 _ _ _ _ _ _ _ _ _ (by refine ⟨Or.inr rfl, ?_⟩; refine ⟨Or.inl rfl, ?_⟩; refine ⟨Or.inr rfl, ?_⟩; refine ⟨Or.inr rfl, ?_⟩; exact trivial) (by omega) (by omega) (g_X2_rowFrom_25 hG  hw :)
  · replace hw := ok_f hw c
    exact hG.2 _ _ _ _ _ _ _ _ _ (by refine ⟨Or.inr rfl, ?_⟩; refine ⟨Or.inl rfl, ?_⟩; refine ⟨Or.inr rfl, ?_⟩; refine ⟨Or.inr rfl, ?_⟩; exact trivial) (by omega) (by omega) (g_X2_rowFrom_25 hG  hw :)

set_option maxHeartbeats 4000000 in
set_option maxRecDepth 20000 in
theorem g_X2_rowFrom {k : Option Value → mj_H → Prop} {G : mj_K} (hG : mj_cl2 cX2_rowFrom (TbX2 5 ((some (FieldType.array FieldType.int))) ct_X2_rowFrom) k G) {v1 : Int32} {v2 : Int32} {s : St} (hw : ok (F_X2_rowFrom v1 v2 s) (fun p => k (some (.ref p.1)) (mkCs p.2))) : G 0 [.ref 1, .int v1, .int v2] [] (mkCs s) 1 120 := by
  unfold F_X2_rowFrom at hw
  refine mj_run hG.1 (fun pc => pc == 12 || pc == 25 || pc == 34 || pc == 47 || pc == 48 || pc == 81 || pc == 84 || pc == 99) 4000 ?_
  simp only [mj_step, mj_W_s, mj_fin, List.getElem?_cons_zero, List.getElem?_cons_succ, mj_go, Nat.reduceAdd, Nat.reduceSub, Nat.reduceLT, Nat.reduceLeDiff, Nat.zero_add, Nat.reduceEqDiff, Nat.reduceBEq, ↓reduceIte, Bool.false_eq_true, List.append_nil, List.nil_append, List.cons_append, Option.toList, and_true, true_and, true_or, or_true, reduceCtorEq, List.map_nil, bI_eq0, bI_eq1, bool_ft, pk_us, vnar0, vnar1, Bool.or_false, Bool.or_true, Bool.false_or, Bool.true_or, mj_kne, eq_self, Int32.reduceLT, Int32.reduceLE, Int32.reduceAdd, Int32.reduceSub, Int32.reduceMul, not_true_eq_false, not_false_eq_true, false_implies, true_implies, D_X2_rowFrom_0, D_X2_rowFrom_1, mj_F_aaload, mj_F_aastore, mj_F_aload_n_k, mj_F_areturn, mj_F_baload, mj_F_bastore, mj_F_bipush_n, mj_F_getfield_i, mj_F_goto_off, mj_F_iadd, mj_F_iconst_n, mj_F_ifCond_eq_off, mj_F_ifCond_ne_off, mj_F_ifnonnull_off, mj_F_iload_k, mj_F_iload_n_k, mj_F_invokestatic_i, mj_F_istore_k, mj_F_istore_n_k, mj_F_newarray_ty, mj_set, mj_set0, mj_unk, mj_c2, mj_kc, FT_X2, L_X2_rowFrom, List.take_succ_cons, List.take_zero, List.drop_succ_cons, List.drop_zero, List.reverse_cons, List.reverse_nil, List.length_cons, List.length_nil, gS_C1, gCf2_3, gS_C5, sS_Cr_5, gCf2_4, gS_C6, sS_Ca_6, gCf2_1, gS_C3, sS_Ca_3, gCf2_0, gS_C2, sS_Ca_2, c_isCell_eq, mj_nn, sS_new, mkCs_len, J_X2_rowFrom]
  refine ⟨fun c => ?_, fun c => ?_⟩
  · replace hw := ok_t hw c
    exact hG.2 _ _ _ _ _ _ _ _ _ (by refine ⟨Or.inr rfl, ?_⟩; refine ⟨Or.inl rfl, ?_⟩; refine ⟨Or.inr rfl, ?_⟩; exact trivial) (by omega) (by omega) (g_X2_rowFrom_12 hG  hw :)
  · replace hw := ok_f hw c
    exact hG.2 _ _ _ _ _ _ _ _ _ (by refine ⟨Or.inr rfl, ?_⟩; refine ⟨Or.inl rfl, ?_⟩; refine ⟨Or.inr rfl, ?_⟩; exact trivial) (by omega) (by omega) (g_X2_rowFrom_12 hG  hw :)

def c_X2_rowFrom : mj_S := fun as h k => ∃ (v1 : Int32) (v2 : Int32) (s : St), as = [.ref 1, .int v1, .int v2] ∧ h = mkCs s ∧ ok (F_X2_rowFrom v1 v2 s) (fun p => k (some (.ref p.1)) (mkCs p.2))
theorem c_X2_rowFrom_in {v1 : Int32} {v2 : Int32} {s : St} {k : Option Value → mj_H → Prop} (hw : ok (F_X2_rowFrom v1 v2 s) (fun p => k (some (.ref p.1)) (mkCs p.2))) : c_X2_rowFrom [.ref 1, .int v1, .int v2] (mkCs s) k := ⟨v1, v2, s, rfl, rfl, hw⟩
theorem m_X2_rowFrom (l : Launch) : mj_Met l yX2_rowFrom cX2_rowFrom 5 ((some (FieldType.array FieldType.int))) 3 1 120 c_X2_rowFrom := by
  refine mj_body2 false (TbX2 5 ((some (FieldType.array FieldType.int))) ct_X2_rowFrom) (by decide) rfl rfl (fun h => nomatch h) (tfX2 _ (List.forall_mem_cons.mpr ⟨cfX2_46 (m_X11_isCell l) (by decide), List.forall_mem_cons.mpr ⟨cfX2_50 (m_X2_spread l) (by decide), fun _ h => nomatch h⟩⟩)) ?_
  rintro as h k ⟨v1, v2, s, rfl, rfl, hw⟩
  exact ⟨rfl, fun G hG => g_X2_rowFrom hG hw⟩
def F_X11_walk (v1 : Int32) (v2 : Int32) (v3 : Int32) (s : St) : Option (Int32 × St) :=
  if inb v1 0 119 = false then
    some ((-1), s)
  else
    if inb v2 0 119 = false then
      some ((-1), s)
    else
      if inb v3 0 1 = false then
        some ((-1), s)
      else
        if v3 = 1 then
          (F_X2_rowFrom v1 1 s).bind fun r3 =>
          (ra r3.2 r3.1 v2).bind fun x4 =>
          if 100000000 ≤ x4 then
            some ((-1), r3.2)
          else
            some (x4, r3.2)
        else
          (F_X2_rowFrom v1 0 s).bind fun r1 =>
          (ra r1.2 r1.1 v2).bind fun x2 =>
          if 100000000 ≤ x2 then
            some ((-1), r1.2)
          else
            some (x2, r1.2)
theorem J_X11_walk : mj_t 4 19 = 23 ∧ mj_t 11 12 = 23 ∧ mj_t 20 5 = 25 ∧ mj_t 32 7 = 39 ∧ mj_t 36 4 = 40 ∧ mj_t 51 8 = 59 ∧ mj_t 56 4 = 60 ∧ (0 ≤ ((4 : Nat) : Int) + 19) = True ∧ (0 ≤ ((11 : Nat) : Int) + 12) = True ∧ (0 ≤ ((20 : Nat) : Int) + 5) = True ∧ (0 ≤ ((32 : Nat) : Int) + 7) = True ∧ (0 ≤ ((36 : Nat) : Int) + 4) = True ∧ (0 ≤ ((51 : Nat) : Int) + 8) = True ∧ (0 ≤ ((56 : Nat) : Int) + 4) = True := by and_intros <;> first | rfl | exact eq_true (by decide)
def ct_X11_walk : List (Nat × mj_Cs) := [(96, 2, 3, 11, 0, 0, c_in), (118, 2, 1, 11, 0, 0, c_isCell), (122, 0, 3, 2, 1, 120, c_X2_rowFrom)]
theorem L_X11_walk : mj_lk ct_X11_walk 96 = some (2, 3, 11, 0, 0, c_in) ∧ mj_lk ct_X11_walk 118 = some (2, 1, 11, 0, 0, c_isCell) ∧ mj_lk ct_X11_walk 122 = some (0, 3, 2, 1, 120, c_X2_rowFrom) := ⟨rfl, rfl, rfl⟩
set_option maxHeartbeats 4000000 in
set_option maxRecDepth 20000 in
theorem g_X11_walk {k : Option Value → mj_H → Prop} {G : mj_K} (hG : mj_cl2 cX11_walk (TbX11 5 ((some FieldType.int)) ct_X11_walk) k G) {v1 : Int32} {v2 : Int32} {v3 : Int32} {s : St} (hw : ok (F_X11_walk v1 v2 v3 s) (fun p => k (some (.int p.1)) (mkCs p.2))) : G 0 [.ref 0, .int v1, .int v2, .int v3] [] (mkCs s) 1 120 := by
  unfold F_X11_walk at hw
  refine mj_run hG.1 (fun pc => pc == 43 || pc == 44) 4000 ?_
  simp only [mj_step, mj_W_s, mj_fin, List.getElem?_cons_zero, List.getElem?_cons_succ, mj_go, Nat.reduceAdd, Nat.reduceSub, Nat.reduceLT, Nat.reduceLeDiff, Nat.zero_add, Nat.reduceEqDiff, Nat.reduceBEq, ↓reduceIte, Bool.false_eq_true, List.append_nil, List.nil_append, List.cons_append, Option.toList, and_true, true_and, true_or, or_true, reduceCtorEq, List.map_nil, bI_eq0, bI_eq1, bool_ft, pk_us, vnar0, vnar1, Bool.or_false, Bool.or_true, Bool.false_or, Bool.true_or, mj_kne, eq_self, Int32.reduceLT, Int32.reduceLE, Int32.reduceAdd, Int32.reduceSub, Int32.reduceMul, not_true_eq_false, not_false_eq_true, false_implies, true_implies, D_X11_walk, mj_F_aload_n_k, mj_F_getfield_i, mj_F_goto_off, mj_F_iaload, mj_F_iconst_n, mj_F_ifCond_eq_off, mj_F_ifCond_ne_off, mj_F_if_icmp_ge_off, mj_F_if_icmp_ne_off, mj_F_iload_k, mj_F_iload_n_k, mj_F_invokestatic_i, mj_F_invokevirtual_i, mj_F_ireturn, mj_F_istore_k, mj_F_ldc_i, mj_set, mj_set0, mj_unk, mj_c2, mj_kc, FT_X11, KT_X11, L_X11_walk, List.take_succ_cons, List.take_zero, List.drop_succ_cons, List.drop_zero, List.reverse_cons, List.reverse_nil, List.length_cons, List.length_nil, gS_C0, gCf11_1, c_isCell_eq, c_in_eq, gS_C1, J_X11_walk]
  refine ⟨fun c => ?_, fun c => ?_⟩
  · replace hw := ok_t hw c
    exact (ok_some hw :)
  · replace hw := ok_f hw c
    refine ⟨fun c => ?_, fun c => ?_⟩
    · replace hw := ok_t hw c
      exact (ok_some hw :)
    · replace hw := ok_f hw c
      refine ⟨fun c => ?_, fun c => ?_⟩
      · replace hw := ok_f hw c
        refine ⟨fun c => ?_, fun c => ?_⟩
        · replace hw := ok_f hw c
          refine c_X2_rowFrom_in (ok_imp (ok_bind hw) ?_)
          intro p hw
          simp only [Option.toList, List.nil_append, List.cons_append, Nat.reduceSub]
          refine mj_run hG.1 (fun pc => pc == 43 || pc == 44) 4000 ?_
          simp only [mj_step, mj_W_s, mj_fin, List.getElem?_cons_zero, List.getElem?_cons_succ, mj_go, Nat.reduceAdd, Nat.reduceSub, Nat.reduceLT, Nat.reduceLeDiff, Nat.zero_add, Nat.reduceEqDiff, Nat.reduceBEq, ↓reduceIte, Bool.false_eq_true, List.append_nil, List.nil_append, List.cons_append, Option.toList, and_true, true_and, true_or, or_true, reduceCtorEq, List.map_nil, bI_eq0, bI_eq1, bool_ft, pk_us, vnar0, vnar1, Bool.or_false, Bool.or_true, Bool.false_or, Bool.true_or, mj_kne, eq_self, Int32.reduceLT, Int32.reduceLE, Int32.reduceAdd, Int32.reduceSub, Int32.reduceMul, not_true_eq_false, not_false_eq_true, false_implies, true_implies, D_X11_walk, mj_F_aload_n_k, mj_F_getfield_i, mj_F_goto_off, mj_F_iaload, mj_F_iconst_n, mj_F_ifCond_eq_off, mj_F_ifCond_ne_off, mj_F_if_icmp_ge_off, mj_F_if_icmp_ne_off, mj_F_iload_k, mj_F_iload_n_k, mj_F_invokestatic_i, mj_F_invokevirtual_i, mj_F_ireturn, mj_F_istore_k, mj_F_ldc_i, mj_set, mj_set0, mj_unk, mj_c2, mj_kc, FT_X11, KT_X11, L_X11_walk, List.take_succ_cons, List.take_zero, List.drop_succ_cons, List.drop_zero, List.reverse_cons, List.reverse_nil, List.length_cons, List.length_nil, gS_C0, gCf11_1, c_isCell_eq, c_in_eq, gS_C1, J_X11_walk]
          obtain ⟨_, _, e6, z, hw⟩ := ok_ra hw
          refine mj_run hG.1 (fun pc => pc == 43 || pc == 44) 4000 ?_
          simp only [e6, mj_step, mj_W_s, mj_fin, List.getElem?_cons_zero, List.getElem?_cons_succ, mj_go, Nat.reduceAdd, Nat.reduceSub, Nat.reduceLT, Nat.reduceLeDiff, Nat.zero_add, Nat.reduceEqDiff, Nat.reduceBEq, ↓reduceIte, Bool.false_eq_true, List.append_nil, List.nil_append, List.cons_append, Option.toList, and_true, true_and, true_or, or_true, reduceCtorEq, List.map_nil, bI_eq0, bI_eq1, bool_ft, pk_us, vnar0, vnar1, Bool.or_false, Bool.or_true, Bool.false_or, Bool.true_or, mj_kne, eq_self, Int32.reduceLT, Int32.reduceLE, Int32.reduceAdd, Int32.reduceSub, Int32.reduceMul, not_true_eq_false, not_false_eq_true, false_implies, true_implies, D_X11_walk, mj_F_aload_n_k, mj_F_getfield_i, mj_F_goto_off, mj_F_iaload, mj_F_iconst_n, mj_F_ifCond_eq_off, mj_F_ifCond_ne_off, mj_F_if_icmp_ge_off, mj_F_if_icmp_ne_off, mj_F_iload_k, mj_F_iload_n_k, mj_F_invokestatic_i, mj_F_invokevirtual_i, mj_F_ireturn, mj_F_istore_k, mj_F_ldc_i, mj_set, mj_set0, mj_unk, mj_c2, mj_kc, FT_X11, KT_X11, L_X11_walk, List.take_succ_cons, List.take_zero, List.drop_succ_cons, List.drop_zero, List.reverse_cons, List.reverse_nil, List.length_cons, List.length_nil, gS_C0, gCf11_1, c_isCell_eq, c_in_eq, gS_C1, J_X11_walk]
          refine ⟨z, ?_⟩
          refine ⟨fun c => ?_, fun c => ?_⟩
          · replace hw := ok_t hw c
            exact (ok_some hw :)
          · replace hw := ok_f hw c
            exact (ok_some hw :)
        · replace hw := ok_t hw c
          refine c_X2_rowFrom_in (ok_imp (ok_bind hw) ?_)
          intro p hw
          simp only [Option.toList, List.nil_append, List.cons_append, Nat.reduceSub]
          refine mj_run hG.1 (fun pc => pc == 43 || pc == 44) 4000 ?_
          simp only [mj_step, mj_W_s, mj_fin, List.getElem?_cons_zero, List.getElem?_cons_succ, mj_go, Nat.reduceAdd, Nat.reduceSub, Nat.reduceLT, Nat.reduceLeDiff, Nat.zero_add, Nat.reduceEqDiff, Nat.reduceBEq, ↓reduceIte, Bool.false_eq_true, List.append_nil, List.nil_append, List.cons_append, Option.toList, and_true, true_and, true_or, or_true, reduceCtorEq, List.map_nil, bI_eq0, bI_eq1, bool_ft, pk_us, vnar0, vnar1, Bool.or_false, Bool.or_true, Bool.false_or, Bool.true_or, mj_kne, eq_self, Int32.reduceLT, Int32.reduceLE, Int32.reduceAdd, Int32.reduceSub, Int32.reduceMul, not_true_eq_false, not_false_eq_true, false_implies, true_implies, D_X11_walk, mj_F_aload_n_k, mj_F_getfield_i, mj_F_goto_off, mj_F_iaload, mj_F_iconst_n, mj_F_ifCond_eq_off, mj_F_ifCond_ne_off, mj_F_if_icmp_ge_off, mj_F_if_icmp_ne_off, mj_F_iload_k, mj_F_iload_n_k, mj_F_invokestatic_i, mj_F_invokevirtual_i, mj_F_ireturn, mj_F_istore_k, mj_F_ldc_i, mj_set, mj_set0, mj_unk, mj_c2, mj_kc, FT_X11, KT_X11, L_X11_walk, List.take_succ_cons, List.take_zero, List.drop_succ_cons, List.drop_zero, List.reverse_cons, List.reverse_nil, List.length_cons, List.length_nil, gS_C0, gCf11_1, c_isCell_eq, c_in_eq, gS_C1, J_X11_walk]
          obtain ⟨_, _, e5, z, hw⟩ := ok_ra hw
          refine mj_run hG.1 (fun pc => pc == 43 || pc == 44) 4000 ?_
          simp only [e5, mj_step, mj_W_s, mj_fin, List.getElem?_cons_zero, List.getElem?_cons_succ, mj_go, Nat.reduceAdd, Nat.reduceSub, Nat.reduceLT, Nat.reduceLeDiff, Nat.zero_add, Nat.reduceEqDiff, Nat.reduceBEq, ↓reduceIte, Bool.false_eq_true, List.append_nil, List.nil_append, List.cons_append, Option.toList, and_true, true_and, true_or, or_true, reduceCtorEq, List.map_nil, bI_eq0, bI_eq1, bool_ft, pk_us, vnar0, vnar1, Bool.or_false, Bool.or_true, Bool.false_or, Bool.true_or, mj_kne, eq_self, Int32.reduceLT, Int32.reduceLE, Int32.reduceAdd, Int32.reduceSub, Int32.reduceMul, not_true_eq_false, not_false_eq_true, false_implies, true_implies, D_X11_walk, mj_F_aload_n_k, mj_F_getfield_i, mj_F_goto_off, mj_F_iaload, mj_F_iconst_n, mj_F_ifCond_eq_off, mj_F_ifCond_ne_off, mj_F_if_icmp_ge_off, mj_F_if_icmp_ne_off, mj_F_iload_k, mj_F_iload_n_k, mj_F_invokestatic_i, mj_F_invokevirtual_i, mj_F_ireturn, mj_F_istore_k, mj_F_ldc_i, mj_set, mj_set0, mj_unk, mj_c2, mj_kc, FT_X11, KT_X11, L_X11_walk, List.take_succ_cons, List.take_zero, List.drop_succ_cons, List.drop_zero, List.reverse_cons, List.reverse_nil, List.length_cons, List.length_nil, gS_C0, gCf11_1, c_isCell_eq, c_in_eq, gS_C1, J_X11_walk]
          refine ⟨z, ?_⟩
          refine ⟨fun c => ?_, fun c => ?_⟩
          · replace hw := ok_t hw c
            exact (ok_some hw :)
          · replace hw := ok_f hw c
            exact (ok_some hw :)
      · replace hw := ok_t hw c
        exact (ok_some hw :)

def c_X11_walk : mj_S := fun as h k => ∃ (v1 : Int32) (v2 : Int32) (v3 : Int32) (s : St), as = [.ref 0, .int v1, .int v2, .int v3] ∧ h = mkCs s ∧ ok (F_X11_walk v1 v2 v3 s) (fun p => k (some (.int p.1)) (mkCs p.2))
theorem c_X11_walk_in {v1 : Int32} {v2 : Int32} {v3 : Int32} {s : St} {k : Option Value → mj_H → Prop} (hw : ok (F_X11_walk v1 v2 v3 s) (fun p => k (some (.int p.1)) (mkCs p.2))) : c_X11_walk [.ref 0, .int v1, .int v2, .int v3] (mkCs s) k := ⟨v1, v2, v3, s, rfl, rfl, hw⟩
theorem m_X11_walk (l : Launch) : mj_Met l yX11_walk cX11_walk 5 ((some FieldType.int)) 4 1 120 c_X11_walk := by
  refine mj_body2 false (TbX11 5 ((some FieldType.int)) ct_X11_walk) (by decide) rfl rfl (fun h => nomatch h) (tfX11 _ (List.forall_mem_cons.mpr ⟨cfX11_96 (m_X11_within l) (by decide), List.forall_mem_cons.mpr ⟨cfX11_118 (m_X11_isCell l) (by decide), List.forall_mem_cons.mpr ⟨cfX11_122 (m_X2_rowFrom l) (by decide), fun _ h => nomatch h⟩⟩⟩)) ?_
  rintro as h k ⟨v1, v2, v3, s, rfl, rfl, hw⟩
  exact ⟨rfl, fun G hG => g_X11_walk hG hw⟩
def B_X2_soak_3 (v2 : Int32) (v3 : Int32) : Int32 × St → Option ((Int32 × St) ⊕ ((St)))
  | (v4, s) =>
  if v2 < v4 then
    some (.inr s)
  else
    if 601 ≤ v4 then
      some (.inr s)
    else
      (wr s 202 601 v4 (vp_nar .boolean v3)).bind fun s1 =>
      some (.inl ((v4 + 1), s1))
def F_X2_soak_33 (s : St) : Option (St) :=
  some s
def F_X2_soak_3 (v2 : Int32) (v3 : Int32) (v4 : Int32) (s : St) : Option (St) :=
  (lp (B_X2_soak_3 v2 v3) FU (v4, s)).bind (fun y => F_X2_soak_33 y)
def F_X2_soak (v1 : Int32) (v2 : Int32) (v3 : Int32) (s : St) : Option (St) :=
  F_X2_soak_3 v2 v3 v1 s
theorem J_X2_soak : mj_t 6 27 = 33 ∧ mj_t 16 17 = 33 ∧ mj_t 30 (-27) = 3 ∧ (0 ≤ ((6 : Nat) : Int) + 27) = True ∧ (0 ≤ ((16 : Nat) : Int) + 17) = True ∧ (0 ≤ ((30 : Nat) : Int) + (-27)) = True := by and_intros <;> first | rfl | exact eq_true (by decide)
set_option maxHeartbeats 4000000 in
set_option maxRecDepth 20000 in
theorem b_X2_soak_3 {k : Option Value → mj_H → Prop} {G : mj_K} (hG : mj_cl2 cX2_soak (TbX2 5 (none) []) k G) {v2 : Int32} {v3 : Int32} {P : Int32 × St → Prop} {K : (St) → Prop} (hP : ∀ x, P x → G 3 [.ref 1, mj_unk, .int v2, .int v3, .int x.1] [] (mkCs x.2) 0 0) (hK0 : ∀ y, K y → G 33 [] [] (mkCs y) 0 0) {v4 : Int32} {s : St} (hw : ok (B_X2_soak_3 v2 v3 (v4, s)) (Sum.elim P K)) : G 3 [.ref 1, mj_unk, .int v2, .int v3, .int v4] [] (mkCs s) 0 0 := by
  unfold B_X2_soak_3 at hw
  refine mj_run hG.1 (fun pc => pc == 3 || pc == 33) 4000 ?_
  simp only [mj_step, mj_W_s, mj_fin, List.getElem?_cons_zero, List.getElem?_cons_succ, mj_go, Nat.reduceAdd, Nat.reduceSub, Nat.reduceLT, Nat.reduceLeDiff, Nat.zero_add, Nat.reduceEqDiff, Nat.reduceBEq, ↓reduceIte, Bool.false_eq_true, List.append_nil, List.nil_append, List.cons_append, Option.toList, and_true, true_and, true_or, or_true, reduceCtorEq, List.map_nil, bI_eq0, bI_eq1, bool_ft, pk_us, vnar0, vnar1, Bool.or_false, Bool.or_true, Bool.false_or, Bool.true_or, mj_kne, eq_self, Int32.reduceLT, Int32.reduceLE, Int32.reduceAdd, Int32.reduceSub, Int32.reduceMul, not_true_eq_false, not_false_eq_true, false_implies, true_implies, D_X2_soak, mj_F_aload_n_k, mj_F_arraylength, mj_F_bastore, mj_F_getfield_i, mj_F_goto_off, mj_F_if_icmp_ge_off, mj_F_if_icmp_gt_off, mj_F_iinc_k_n, mj_F_iload_k, mj_F_iload_n_k, mj_F_istore_k, mj_F_return_, mj_set, mj_set0, mj_unk, mj_c2, mj_kc, FT_X2, gS_C1, gCf2_2, gS_C4, sS_Ca_4, mj_nk, mj_isA, J_X2_soak]
  refine ⟨fun c => ?_, fun c => ?_⟩
  · replace hw := ok_t hw c
    exact hG.2 _ _ _ _ _ _ _ _ _ (by exact trivial) (Nat.zero_le _) (Nat.zero_le _) (hK0 _ (ok_some hw :) :)
  · replace hw := ok_f hw c
    refine ⟨fun c => ?_, fun c => ?_⟩
    · replace hw := ok_t hw c
      exact hG.2 _ _ _ _ _ _ _ _ _ (by exact trivial) (Nat.zero_le _) (Nat.zero_le _) (hK0 _ (ok_some hw :) :)
    · replace hw := ok_f hw c
      refine ⟨(ok_wr hw).1, ?_⟩
      replace hw := (ok_wr hw).2
      exact hG.2 _ _ _ _ _ _ _ _ _ (by refine ⟨Or.inr rfl, ?_⟩; refine ⟨Or.inl rfl, ?_⟩; refine ⟨Or.inr rfl, ?_⟩; refine ⟨Or.inr rfl, ?_⟩; refine ⟨Or.inr rfl, ?_⟩; exact trivial) (Nat.zero_le _) (Nat.zero_le _) (hP _ (ok_some hw :) :)

set_option maxHeartbeats 4000000 in
set_option maxRecDepth 20000 in
theorem g_X2_soak_33 {k : Option Value → mj_H → Prop} {G : mj_K} (hG : mj_cl2 cX2_soak (TbX2 5 (none) []) k G)   {s : St} (hw : ok (F_X2_soak_33 s) (fun p => k none (mkCs p))) : G 33 [] [] (mkCs s) 0 0 := by
  unfold F_X2_soak_33 at hw
  refine mj_run hG.1 (fun pc => pc == 3 || pc == 33) 4000 ?_
  simp only [mj_step, mj_W_s, mj_fin, List.getElem?_cons_zero, List.getElem?_cons_succ, mj_go, Nat.reduceAdd, Nat.reduceSub, Nat.reduceLT, Nat.reduceLeDiff, Nat.zero_add, Nat.reduceEqDiff, Nat.reduceBEq, ↓reduceIte, Bool.false_eq_true, List.append_nil, List.nil_append, List.cons_append, Option.toList, and_true, true_and, true_or, or_true, reduceCtorEq, List.map_nil, bI_eq0, bI_eq1, bool_ft, pk_us, vnar0, vnar1, Bool.or_false, Bool.or_true, Bool.false_or, Bool.true_or, mj_kne, eq_self, Int32.reduceLT, Int32.reduceLE, Int32.reduceAdd, Int32.reduceSub, Int32.reduceMul, not_true_eq_false, not_false_eq_true, false_implies, true_implies, D_X2_soak, mj_F_aload_n_k, mj_F_arraylength, mj_F_bastore, mj_F_getfield_i, mj_F_goto_off, mj_F_if_icmp_ge_off, mj_F_if_icmp_gt_off, mj_F_iinc_k_n, mj_F_iload_k, mj_F_iload_n_k, mj_F_istore_k, mj_F_return_, mj_set, mj_set0, mj_unk, mj_c2, mj_kc, FT_X2, gS_C1, gCf2_2, gS_C4, sS_Ca_4, mj_nk, mj_isA, J_X2_soak]
  exact (ok_some hw :)

set_option maxHeartbeats 4000000 in
theorem g_X2_soak_3 {k : Option Value → mj_H → Prop} {G : mj_K} (hG : mj_cl2 cX2_soak (TbX2 5 (none) []) k G)   {v2 : Int32} {v3 : Int32} {v4 : Int32} {s : St} (hw : ok (F_X2_soak_3 v2 v3 v4 s) (fun p => k none (mkCs p))) : G 3 [.ref 1, mj_unk, .int v2, .int v3, .int v4] [] (mkCs s) 0 0 := by
  unfold F_X2_soak_3 at hw
  refine lp_ok (B_X2_soak_3 v2 v3) (fun x => G 3 [.ref 1, mj_unk, .int v2, .int v3, .int x.1] [] (mkCs x.2) 0 0) _ ?_ _ _ (ok_bind hw)
  rintro ⟨v4, s⟩ hb
  exact b_X2_soak_3 hG (fun _ z => z) (fun y hw => by exact hG.2 _ _ _ _ _ _ _ _ _ (by exact trivial) (Nat.zero_le _) (Nat.zero_le _) (g_X2_soak_33 hG  hw :)) hb

set_option maxHeartbeats 4000000 in
set_option maxRecDepth 20000 in
theorem g_X2_soak {k : Option Value → mj_H → Prop} {G : mj_K} (hG : mj_cl2 cX2_soak (TbX2 5 (none) []) k G) {v1 : Int32} {v2 : Int32} {v3 : Int32} {s : St} (hw : ok (F_X2_soak v1 v2 v3 s) (fun p => k none (mkCs p))) : G 0 [.ref 1, .int v1, .int v2, .int v3] [] (mkCs s) 0 0 := by
  unfold F_X2_soak at hw
  refine mj_run hG.1 (fun pc => pc == 3 || pc == 33) 4000 ?_
  simp only [mj_step, mj_W_s, mj_fin, List.getElem?_cons_zero, List.getElem?_cons_succ, mj_go, Nat.reduceAdd, Nat.reduceSub, Nat.reduceLT, Nat.reduceLeDiff, Nat.zero_add, Nat.reduceEqDiff, Nat.reduceBEq, ↓reduceIte, Bool.false_eq_true, List.append_nil, List.nil_append, List.cons_append, Option.toList, and_true, true_and, true_or, or_true, reduceCtorEq, List.map_nil, bI_eq0, bI_eq1, bool_ft, pk_us, vnar0, vnar1, Bool.or_false, Bool.or_true, Bool.false_or, Bool.true_or, mj_kne, eq_self, Int32.reduceLT, Int32.reduceLE, Int32.reduceAdd, Int32.reduceSub, Int32.reduceMul, not_true_eq_false, not_false_eq_true, false_implies, true_implies, D_X2_soak, mj_F_aload_n_k, mj_F_arraylength, mj_F_bastore, mj_F_getfield_i, mj_F_goto_off, mj_F_if_icmp_ge_off, mj_F_if_icmp_gt_off, mj_F_iinc_k_n, mj_F_iload_k, mj_F_iload_n_k, mj_F_istore_k, mj_F_return_, mj_set, mj_set0, mj_unk, mj_c2, mj_kc, FT_X2, gS_C1, gCf2_2, gS_C4, sS_Ca_4, mj_nk, mj_isA, J_X2_soak]
  exact hG.2 _ _ _ _ _ _ _ _ _ (by refine ⟨Or.inr rfl, ?_⟩; refine ⟨Or.inl rfl, ?_⟩; refine ⟨Or.inr rfl, ?_⟩; refine ⟨Or.inr rfl, ?_⟩; refine ⟨Or.inr rfl, ?_⟩; exact trivial) (Nat.zero_le _) (Nat.zero_le _) (g_X2_soak_3 hG  hw :)

def c_X2_soak : mj_S := fun as h k => ∃ (v1 : Int32) (v2 : Int32) (v3 : Int32) (s : St), as = [.ref 1, .int v1, .int v2, .int v3] ∧ h = mkCs s ∧ ok (F_X2_soak v1 v2 v3 s) (fun p => k none (mkCs p))
theorem c_X2_soak_in {v1 : Int32} {v2 : Int32} {v3 : Int32} {s : St} {k : Option Value → mj_H → Prop} (hw : ok (F_X2_soak v1 v2 v3 s) (fun p => k none (mkCs p))) : c_X2_soak [.ref 1, .int v1, .int v2, .int v3] (mkCs s) k := ⟨v1, v2, v3, s, rfl, rfl, hw⟩
theorem m_X2_soak (l : Launch) : mj_Met l yX2_soak cX2_soak 5 (none) 0 0 0 c_X2_soak := by
  refine mj_body2 false (TbX2 5 (none) []) (by decide) rfl rfl (fun h => nomatch h) (tfX2 _ (fun _ h => nomatch h)) ?_
  rintro as h k ⟨v1, v2, v3, s, rfl, rfl, hw⟩
  exact ⟨rfl, fun G hG => g_X2_soak hG hw⟩
def F_X11_rain (v1 : Int32) (v2 : Int32) (v3 : Int32) (s : St) : Option (Int32 × St) :=
  if inb v1 0 600 = false then
    some (0, s)
  else
    if inb v2 v1 600 = false then
      some (0, s)
    else
      (F_X2_soak v1 v2 v3 s).bind fun s1 =>
      some (1, s1)
theorem J_X11_rain : mj_t 8 14 = 22 ∧ mj_t 19 5 = 24 ∧ (0 ≤ ((8 : Nat) : Int) + 14) = True ∧ (0 ≤ ((19 : Nat) : Int) + 5) = True := by and_intros <;> first | rfl | exact eq_true (by decide)
def ct_X11_rain : List (Nat × mj_Cs) := [(96, 2, 3, 11, 0, 0, c_in), (127, 0, 4, 2, 0, 0, c_X2_soak)]
theorem L_X11_rain : mj_lk ct_X11_rain 96 = some (2, 3, 11, 0, 0, c_in) ∧ mj_lk ct_X11_rain 127 = some (0, 4, 2, 0, 0, c_X2_soak) := ⟨rfl, rfl⟩
set_option maxHeartbeats 4000000 in
set_option maxRecDepth 20000 in
theorem g_X11_rain {k : Option Value → mj_H → Prop} {G : mj_K} (hG : mj_cl2 cX11_rain (TbX11 4 ((some FieldType.boolean)) ct_X11_rain) k G) {v1 : Int32} {v2 : Int32} {v3 : Int32} {s : St} (hw : ok (F_X11_rain v1 v2 v3 s) (fun p => k (some (.int p.1)) (mkCs p.2))) : G 0 [.ref 0, .int v1, .int v2, .int v3] [] (mkCs s) 0 0 := by
  unfold F_X11_rain at hw
  refine mj_run hG.1 (fun pc => pc == 34) 4000 ?_
  simp only [mj_step, mj_W_s, mj_fin, List.getElem?_cons_zero, List.getElem?_cons_succ, mj_go, Nat.reduceAdd, Nat.reduceSub, Nat.reduceLT, Nat.reduceLeDiff, Nat.zero_add, Nat.reduceEqDiff, Nat.reduceBEq, ↓reduceIte, Bool.false_eq_true, List.append_nil, List.nil_append, List.cons_append, Option.toList, and_true, true_and, true_or, or_true, reduceCtorEq, List.map_nil, bI_eq0, bI_eq1, bool_ft, pk_us, vnar0, vnar1, Bool.or_false, Bool.or_true, Bool.false_or, Bool.true_or, mj_kne, eq_self, Int32.reduceLT, Int32.reduceLE, Int32.reduceAdd, Int32.reduceSub, Int32.reduceMul, not_true_eq_false, not_false_eq_true, false_implies, true_implies, D_X11_rain, mj_F_aload_n_k, mj_F_getfield_i, mj_F_iconst_n, mj_F_ifCond_eq_off, mj_F_ifCond_ne_off, mj_F_iload_n_k, mj_F_invokestatic_i, mj_F_invokevirtual_i, mj_F_ireturn, mj_F_sipush_n, mj_kc, FT_X11, L_X11_rain, List.take_succ_cons, List.take_zero, List.drop_succ_cons, List.drop_zero, List.reverse_cons, List.reverse_nil, List.length_cons, List.length_nil, gS_C0, gCf11_1, c_in_eq, gS_C1, J_X11_rain]
  refine ⟨fun c => ?_, fun c => ?_⟩
  · replace hw := ok_t hw c
    exact (ok_some hw :)
  · replace hw := ok_f hw c
    refine ⟨fun c => ?_, fun c => ?_⟩
    · replace hw := ok_f hw c
      refine c_X2_soak_in (ok_imp (ok_bind hw) ?_)
      intro p hw
      simp only [Option.toList, List.nil_append, List.cons_append, Nat.reduceSub]
      refine mj_run hG.1 (fun pc => pc == 34) 4000 ?_
      simp only [mj_step, mj_W_s, mj_fin, List.getElem?_cons_zero, List.getElem?_cons_succ, mj_go, Nat.reduceAdd, Nat.reduceSub, Nat.reduceLT, Nat.reduceLeDiff, Nat.zero_add, Nat.reduceEqDiff, Nat.reduceBEq, ↓reduceIte, Bool.false_eq_true, List.append_nil, List.nil_append, List.cons_append, Option.toList, and_true, true_and, true_or, or_true, reduceCtorEq, List.map_nil, bI_eq0, bI_eq1, bool_ft, pk_us, vnar0, vnar1, Bool.or_false, Bool.or_true, Bool.false_or, Bool.true_or, mj_kne, eq_self, Int32.reduceLT, Int32.reduceLE, Int32.reduceAdd, Int32.reduceSub, Int32.reduceMul, not_true_eq_false, not_false_eq_true, false_implies, true_implies, D_X11_rain, mj_F_aload_n_k, mj_F_getfield_i, mj_F_iconst_n, mj_F_ifCond_eq_off, mj_F_ifCond_ne_off, mj_F_iload_n_k, mj_F_invokestatic_i, mj_F_invokevirtual_i, mj_F_ireturn, mj_F_sipush_n, mj_kc, FT_X11, L_X11_rain, List.take_succ_cons, List.take_zero, List.drop_succ_cons, List.drop_zero, List.reverse_cons, List.reverse_nil, List.length_cons, List.length_nil, gS_C0, gCf11_1, c_in_eq, gS_C1, J_X11_rain]
      exact (ok_some hw :)
    · replace hw := ok_t hw c
      exact (ok_some hw :)

def c_X11_rain : mj_S := fun as h k => ∃ (v1 : Int32) (v2 : Int32) (v3 : Int32) (s : St), as = [.ref 0, .int v1, .int v2, .int v3] ∧ h = mkCs s ∧ ok (F_X11_rain v1 v2 v3 s) (fun p => k (some (.int p.1)) (mkCs p.2))
theorem c_X11_rain_in {v1 : Int32} {v2 : Int32} {v3 : Int32} {s : St} {k : Option Value → mj_H → Prop} (hw : ok (F_X11_rain v1 v2 v3 s) (fun p => k (some (.int p.1)) (mkCs p.2))) : c_X11_rain [.ref 0, .int v1, .int v2, .int v3] (mkCs s) k := ⟨v1, v2, v3, s, rfl, rfl, hw⟩
theorem m_X11_rain (l : Launch) : mj_Met l yX11_rain cX11_rain 4 ((some FieldType.boolean)) 1 0 0 c_X11_rain := by
  refine mj_body2 false (TbX11 4 ((some FieldType.boolean)) ct_X11_rain) (by decide) rfl rfl (fun h => nomatch h) (tfX11 _ (List.forall_mem_cons.mpr ⟨cfX11_96 (m_X11_within l) (by decide), List.forall_mem_cons.mpr ⟨cfX11_127 (m_X2_soak l) (by decide), fun _ h => nomatch h⟩⟩)) ?_
  rintro as h k ⟨v1, v2, v3, s, rfl, rfl, hw⟩
  exact ⟨rfl, fun G hG => g_X11_rain hG hw⟩
def F_X1_settle (v1 : Int32) (v2 : Int32) (v3 : Int32) (s : St) : Option (Int32 × St) :=
  if (s.1 101) < 24 then
    (wr s 102 24 (s.1 101) v1).bind fun s1 =>
    (wr s1 103 24 (s1.1 101) v2).bind fun s2 =>
    (wr s2 104 24 (s2.1 101) v3).bind fun s3 =>
    (wI s3 101 ((s3.1 101) + 1)).bind fun s4 =>
    some (((s4.1 101) - 1), s4)
  else
    some ((-1), s)
theorem J_X1_settle : mj_t 6 5 = 11 ∧ (0 ≤ ((6 : Nat) : Int) + 5) = True := by and_intros <;> first | rfl | exact eq_true (by decide)
set_option maxHeartbeats 4000000 in
set_option maxRecDepth 20000 in
theorem g_X1_settle {k : Option Value → mj_H → Prop} {G : mj_K} (hG : mj_cl2 cX1_settle (TbX1 4 ((some FieldType.int)) []) k G) {v1 : Int32} {v2 : Int32} {v3 : Int32} {s : St} (hw : ok (F_X1_settle v1 v2 v3 s) (fun p => k (some (.int p.1)) (mkCs p.2))) : G 0 [.ref 20, .int v1, .int v2, .int v3] [] (mkCs s) 0 0 := by
  unfold F_X1_settle at hw
  refine mj_run hG.1 (fun _ => false) 4000 ?_
  simp only [mj_step, mj_W_s, mj_fin, List.getElem?_cons_zero, List.getElem?_cons_succ, mj_go, Nat.reduceAdd, Nat.reduceSub, Nat.reduceLT, Nat.reduceLeDiff, Nat.zero_add, Nat.reduceEqDiff, Nat.reduceBEq, ↓reduceIte, Bool.false_eq_true, List.append_nil, List.nil_append, List.cons_append, Option.toList, and_true, true_and, true_or, or_true, reduceCtorEq, List.map_nil, bI_eq0, bI_eq1, bool_ft, pk_us, vnar0, vnar1, Bool.or_false, Bool.or_true, Bool.false_or, Bool.true_or, mj_kne, eq_self, Int32.reduceLT, Int32.reduceLE, Int32.reduceAdd, Int32.reduceSub, Int32.reduceMul, not_true_eq_false, not_false_eq_true, false_implies, true_implies, D_X1_settle, mj_F_aload_n_k, mj_F_bipush_n, mj_F_dup, mj_F_getfield_i, mj_F_iadd, mj_F_iastore, mj_F_iconst_n, mj_F_if_icmp_lt_off, mj_F_iload_n_k, mj_F_ireturn, mj_F_isub, mj_F_putfield_i, mj_c2, mj_kc, FT_X1, PT_X1, gS_C20, gCf1_1, gCf1_2, gS_C21, sS_Ca_21, gCf1_3, gS_C22, sS_Ca_22, gCf1_4, gS_C23, sS_Ca_23, sS_Cf_1_1, gCf1len, J_X1_settle]
  refine ⟨fun c => ?_, fun c => ?_⟩
  · replace hw := ok_t hw c
    refine ⟨(ok_wr hw).1, ?_⟩
    replace hw := (ok_wr hw).2
    refine ⟨(ok_wr hw).1, ?_⟩
    replace hw := (ok_wr hw).2
    refine ⟨(ok_wr hw).1, ?_⟩
    replace hw := (ok_wr hw).2
    replace hw := ok_wI hw
    exact (ok_some hw :)
  · replace hw := ok_f hw c
    exact (ok_some hw :)

def c_X1_settle : mj_S := fun as h k => ∃ (v1 : Int32) (v2 : Int32) (v3 : Int32) (s : St), as = [.ref 20, .int v1, .int v2, .int v3] ∧ h = mkCs s ∧ ok (F_X1_settle v1 v2 v3 s) (fun p => k (some (.int p.1)) (mkCs p.2))
theorem c_X1_settle_in {v1 : Int32} {v2 : Int32} {v3 : Int32} {s : St} {k : Option Value → mj_H → Prop} (hw : ok (F_X1_settle v1 v2 v3 s) (fun p => k (some (.int p.1)) (mkCs p.2))) : c_X1_settle [.ref 20, .int v1, .int v2, .int v3] (mkCs s) k := ⟨v1, v2, v3, s, rfl, rfl, hw⟩
theorem m_X1_settle (l : Launch) : mj_Met l yX1_settle cX1_settle 4 ((some FieldType.int)) 0 0 0 c_X1_settle := by
  refine mj_body2 false (TbX1 4 ((some FieldType.int)) []) (by decide) rfl rfl (fun h => nomatch h) (tfX1 _ (fun _ h => nomatch h)) ?_
  rintro as h k ⟨v1, v2, v3, s, rfl, rfl, hw⟩
  exact ⟨rfl, fun G hG => g_X1_settle hG hw⟩
def F_X11_village (v1 : Int32) (v2 : Int32) (v3 : Int32) (s : St) : Option (Int32 × St) :=
  if inb v1 0 119 = false then
    some ((-1), s)
  else
    if inb v2 0 3 = false then
      some ((-1), s)
    else
      if inb v3 0 7 = false then
        some ((-1), s)
      else
        (F_X1_settle v1 v2 v3 s).bind fun r1 =>
        some (r1.1, r1.2)
theorem J_X11_village : mj_t 4 20 = 24 ∧ mj_t 11 13 = 24 ∧ mj_t 21 5 = 26 ∧ (0 ≤ ((4 : Nat) : Int) + 20) = True ∧ (0 ≤ ((11 : Nat) : Int) + 13) = True ∧ (0 ≤ ((21 : Nat) : Int) + 5) = True := by and_intros <;> first | rfl | exact eq_true (by decide)
def ct_X11_village : List (Nat × mj_Cs) := [(96, 2, 3, 11, 0, 0, c_in), (118, 2, 1, 11, 0, 0, c_isCell), (131, 2, 1, 11, 0, 0, c_isShire), (134, 0, 4, 1, 0, 0, c_X1_settle)]
theorem L_X11_village : mj_lk ct_X11_village 96 = some (2, 3, 11, 0, 0, c_in) ∧ mj_lk ct_X11_village 118 = some (2, 1, 11, 0, 0, c_isCell) ∧ mj_lk ct_X11_village 131 = some (2, 1, 11, 0, 0, c_isShire) ∧ mj_lk ct_X11_village 134 = some (0, 4, 1, 0, 0, c_X1_settle) := ⟨rfl, rfl, rfl, rfl⟩
set_option maxHeartbeats 4000000 in
set_option maxRecDepth 20000 in
theorem g_X11_village {k : Option Value → mj_H → Prop} {G : mj_K} (hG : mj_cl2 cX11_village (TbX11 4 ((some FieldType.int)) ct_X11_village) k G) {v1 : Int32} {v2 : Int32} {v3 : Int32} {s : St} (hw : ok (F_X11_village v1 v2 v3 s) (fun p => k (some (.int p.1)) (mkCs p.2))) : G 0 [.ref 0, .int v1, .int v2, .int v3] [] (mkCs s) 0 0 := by
  unfold F_X11_village at hw
  refine mj_run hG.1 (fun pc => pc == 36) 4000 ?_
  simp only [mj_step, mj_W_s, mj_fin, List.getElem?_cons_zero, List.getElem?_cons_succ, mj_go, Nat.reduceAdd, Nat.reduceSub, Nat.reduceLT, Nat.reduceLeDiff, Nat.zero_add, Nat.reduceEqDiff, Nat.reduceBEq, ↓reduceIte, Bool.false_eq_true, List.append_nil, List.nil_append, List.cons_append, Option.toList, and_true, true_and, true_or, or_true, reduceCtorEq, List.map_nil, bI_eq0, bI_eq1, bool_ft, pk_us, vnar0, vnar1, Bool.or_false, Bool.or_true, Bool.false_or, Bool.true_or, mj_kne, eq_self, Int32.reduceLT, Int32.reduceLE, Int32.reduceAdd, Int32.reduceSub, Int32.reduceMul, not_true_eq_false, not_false_eq_true, false_implies, true_implies, D_X11_village, mj_F_aload_n_k, mj_F_bipush_n, mj_F_getfield_i, mj_F_iconst_n, mj_F_ifCond_eq_off, mj_F_ifCond_ne_off, mj_F_iload_n_k, mj_F_invokestatic_i, mj_F_invokevirtual_i, mj_F_ireturn, mj_kc, FT_X11, L_X11_village, List.take_succ_cons, List.take_zero, List.drop_succ_cons, List.drop_zero, List.reverse_cons, List.reverse_nil, List.length_cons, List.length_nil, gS_C0, gCf11_4, c_isCell_eq, c_isShire_eq, c_in_eq, gS_C20, J_X11_village]
  refine ⟨fun c => ?_, fun c => ?_⟩
  · replace hw := ok_t hw c
    exact (ok_some hw :)
  · replace hw := ok_f hw c
    refine ⟨fun c => ?_, fun c => ?_⟩
    · replace hw := ok_t hw c
      exact (ok_some hw :)
    · replace hw := ok_f hw c
      refine ⟨fun c => ?_, fun c => ?_⟩
      · replace hw := ok_f hw c
        refine c_X1_settle_in (ok_imp (ok_bind hw) ?_)
        intro p hw
        simp only [Option.toList, List.nil_append, List.cons_append, Nat.reduceSub]
        refine mj_run hG.1 (fun pc => pc == 36) 4000 ?_
        simp only [mj_step, mj_W_s, mj_fin, List.getElem?_cons_zero, List.getElem?_cons_succ, mj_go, Nat.reduceAdd, Nat.reduceSub, Nat.reduceLT, Nat.reduceLeDiff, Nat.zero_add, Nat.reduceEqDiff, Nat.reduceBEq, ↓reduceIte, Bool.false_eq_true, List.append_nil, List.nil_append, List.cons_append, Option.toList, and_true, true_and, true_or, or_true, reduceCtorEq, List.map_nil, bI_eq0, bI_eq1, bool_ft, pk_us, vnar0, vnar1, Bool.or_false, Bool.or_true, Bool.false_or, Bool.true_or, mj_kne, eq_self, Int32.reduceLT, Int32.reduceLE, Int32.reduceAdd, Int32.reduceSub, Int32.reduceMul, not_true_eq_false, not_false_eq_true, false_implies, true_implies, D_X11_village, mj_F_aload_n_k, mj_F_bipush_n, mj_F_getfield_i, mj_F_iconst_n, mj_F_ifCond_eq_off, mj_F_ifCond_ne_off, mj_F_iload_n_k, mj_F_invokestatic_i, mj_F_invokevirtual_i, mj_F_ireturn, mj_kc, FT_X11, L_X11_village, List.take_succ_cons, List.take_zero, List.drop_succ_cons, List.drop_zero, List.reverse_cons, List.reverse_nil, List.length_cons, List.length_nil, gS_C0, gCf11_4, c_isCell_eq, c_isShire_eq, c_in_eq, gS_C20, J_X11_village]
        exact (ok_some hw :)
      · replace hw := ok_t hw c
        exact (ok_some hw :)

def c_X11_village : mj_S := fun as h k => ∃ (v1 : Int32) (v2 : Int32) (v3 : Int32) (s : St), as = [.ref 0, .int v1, .int v2, .int v3] ∧ h = mkCs s ∧ ok (F_X11_village v1 v2 v3 s) (fun p => k (some (.int p.1)) (mkCs p.2))
theorem c_X11_village_in {v1 : Int32} {v2 : Int32} {v3 : Int32} {s : St} {k : Option Value → mj_H → Prop} (hw : ok (F_X11_village v1 v2 v3 s) (fun p => k (some (.int p.1)) (mkCs p.2))) : c_X11_village [.ref 0, .int v1, .int v2, .int v3] (mkCs s) k := ⟨v1, v2, v3, s, rfl, rfl, hw⟩
theorem m_X11_village (l : Launch) : mj_Met l yX11_village cX11_village 4 ((some FieldType.int)) 2 0 0 c_X11_village := by
  refine mj_body2 false (TbX11 4 ((some FieldType.int)) ct_X11_village) (by decide) rfl rfl (fun h => nomatch h) (tfX11 _ (List.forall_mem_cons.mpr ⟨cfX11_96 (m_X11_within l) (by decide), List.forall_mem_cons.mpr ⟨cfX11_118 (m_X11_isCell l) (by decide), List.forall_mem_cons.mpr ⟨cfX11_131 (m_X11_isShire l) (by decide), List.forall_mem_cons.mpr ⟨cfX11_134 (m_X1_settle l) (by decide), fun _ h => nomatch h⟩⟩⟩⟩)) ?_
  rintro as h k ⟨v1, v2, v3, s, rfl, rfl, hw⟩
  exact ⟨rfl, fun G hG => g_X11_village hG hw⟩
def F_X11_isVillage (v1 : Int32) (s : St) : Option (Int32) :=
  some (bI (inb v1 0 ((s.1 101) - 1)))
def ct_X11_isVillage : List (Nat × mj_Cs) := [(96, 2, 3, 11, 0, 0, c_in)]
theorem L_X11_isVillage : mj_lk ct_X11_isVillage 96 = some (2, 3, 11, 0, 0, c_in) := rfl
set_option maxHeartbeats 4000000 in
set_option maxRecDepth 20000 in
theorem g_X11_isVillage {k : Option Value → mj_H → Prop} {G : mj_K} (hG : mj_cl2 cX11_isVillage (TbX11 2 ((some FieldType.boolean)) ct_X11_isVillage) k G) {v1 : Int32} {s : St} (hw : ok (F_X11_isVillage v1 s) (fun p => k (some (.int p)) (mkCs s))) : G 0 [.ref 0, .int v1] [] (mkCs s) 0 0 := by
  unfold F_X11_isVillage at hw
  refine mj_run hG.1 (fun _ => false) 4000 ?_
  simp only [mj_step, mj_W_s, mj_fin, List.getElem?_cons_zero, List.getElem?_cons_succ, mj_go, Nat.reduceAdd, Nat.reduceSub, Nat.reduceLT, Nat.reduceLeDiff, Nat.zero_add, Nat.reduceEqDiff, Nat.reduceBEq, ↓reduceIte, Bool.false_eq_true, List.append_nil, List.nil_append, List.cons_append, Option.toList, and_true, true_and, true_or, or_true, reduceCtorEq, List.map_nil, bI_eq0, bI_eq1, bool_ft, pk_us, vnar0, vnar1, Bool.or_false, Bool.or_true, Bool.false_or, Bool.true_or, mj_kne, eq_self, Int32.reduceLT, Int32.reduceLE, Int32.reduceAdd, Int32.reduceSub, Int32.reduceMul, not_true_eq_false, not_false_eq_true, false_implies, true_implies, D_X11_isVillage, mj_F_aload_n_k, mj_F_getfield_i, mj_F_iconst_n, mj_F_iload_n_k, mj_F_invokestatic_i, mj_F_ireturn, mj_F_isub, mj_kc, FT_X11, L_X11_isVillage, List.take_succ_cons, List.take_zero, List.drop_succ_cons, List.drop_zero, List.reverse_cons, List.reverse_nil, List.length_cons, List.length_nil, gS_C0, gCf11_4, gS_C20, gCf1_1, c_in_eq]
  exact (ok_some hw :)

def c_X11_isVillage : mj_S := fun as h k => ∃ (v1 : Int32) (s : St), as = [.ref 0, .int v1] ∧ h = mkCs s ∧ ok (F_X11_isVillage v1 s) (fun p => k (some (.int p)) (mkCs s))
theorem c_X11_isVillage_in {v1 : Int32} {s : St} {k : Option Value → mj_H → Prop} (hw : ok (F_X11_isVillage v1 s) (fun p => k (some (.int p)) (mkCs s))) : c_X11_isVillage [.ref 0, .int v1] (mkCs s) k := ⟨v1, s, rfl, rfl, hw⟩
theorem m_X11_isVillage (l : Launch) : mj_Met l yX11_isVillage cX11_isVillage 2 ((some FieldType.boolean)) 1 0 0 c_X11_isVillage := by
  refine mj_body2 false (TbX11 2 ((some FieldType.boolean)) ct_X11_isVillage) (by decide) rfl rfl (fun h => nomatch h) (tfX11 _ (List.forall_mem_cons.mpr ⟨cfX11_96 (m_X11_within l) (by decide), fun _ h => nomatch h⟩)) ?_
  rintro as h k ⟨v1, s, rfl, rfl, hw⟩
  exact ⟨rfl, fun G hG => g_X11_isVillage hG hw⟩
def F_X1_tell (v1 : Int32) (v2 : Int32) (v3 : Int32) (v4 : Int32) (v5 : Int32) (s : St) : Option (Int32 × St) :=
  if (s.1 107) < 200 then
    (wr s 108 200 (s.1 107) v1).bind fun s1 =>
    (wr s1 109 200 (s1.1 107) v2).bind fun s2 =>
    (wr s2 110 200 (s2.1 107) v5).bind fun s3 =>
    (wr s3 111 200 (s3.1 107) v3).bind fun s4 =>
    (wr s4 112 200 (s4.1 107) v4).bind fun s5 =>
    (wI s5 107 ((s5.1 107) + 1)).bind fun s6 =>
    some (1, s6)
  else
    some (0, s)
theorem J_X1_tell : mj_t 7 5 = 12 ∧ (0 ≤ ((7 : Nat) : Int) + 5) = True := by and_intros <;> first | rfl | exact eq_true (by decide)
set_option maxHeartbeats 4000000 in
set_option maxRecDepth 20000 in
theorem g_X1_tell {k : Option Value → mj_H → Prop} {G : mj_K} (hG : mj_cl2 cX1_tell (TbX1 6 ((some FieldType.boolean)) []) k G) {v1 : Int32} {v2 : Int32} {v3 : Int32} {v4 : Int32} {v5 : Int32} {s : St} (hw : ok (F_X1_tell v1 v2 v3 v4 v5 s) (fun p => k (some (.int p.1)) (mkCs p.2))) : G 0 [.ref 20, .int v1, .int v2, .int v3, .int v4, .int v5] [] (mkCs s) 0 0 := by
  unfold F_X1_tell at hw
  refine mj_run hG.1 (fun _ => false) 4000 ?_
  simp only [mj_step, mj_W_s, mj_fin, List.getElem?_cons_zero, List.getElem?_cons_succ, mj_go, Nat.reduceAdd, Nat.reduceSub, Nat.reduceLT, Nat.reduceLeDiff, Nat.zero_add, Nat.reduceEqDiff, Nat.reduceBEq, ↓reduceIte, Bool.false_eq_true, List.append_nil, List.nil_append, List.cons_append, Option.toList, and_true, true_and, true_or, or_true, reduceCtorEq, List.map_nil, bI_eq0, bI_eq1, bool_ft, pk_us, vnar0, vnar1, Bool.or_false, Bool.or_true, Bool.false_or, Bool.true_or, mj_kne, eq_self, Int32.reduceLT, Int32.reduceLE, Int32.reduceAdd, Int32.reduceSub, Int32.reduceMul, not_true_eq_false, not_false_eq_true, false_implies, true_implies, D_X1_tell, mj_F_aload_n_k, mj_F_dup, mj_F_getfield_i, mj_F_iadd, mj_F_iastore, mj_F_iconst_n, mj_F_if_icmp_lt_off, mj_F_iload_k, mj_F_iload_n_k, mj_F_ireturn, mj_F_putfield_i, mj_F_sipush_n, mj_c2, mj_kc, FT_X1, PT_X1, gS_C20, gCf1_7, gCf1_8, gS_C26, sS_Ca_26, gCf1_9, gS_C27, sS_Ca_27, gCf1_10, gS_C28, sS_Ca_28, gCf1_11, gS_C29, sS_Ca_29, gCf1_12, gS_C30, sS_Ca_30, sS_Cf_1_7, gCf1len, J_X1_tell]
  refine ⟨fun c => ?_, fun c => ?_⟩
  · replace hw := ok_t hw c
    refine ⟨(ok_wr hw).1, ?_⟩
    replace hw := (ok_wr hw).2
    refine ⟨(ok_wr hw).1, ?_⟩
    replace hw := (ok_wr hw).2
    refine ⟨(ok_wr hw).1, ?_⟩
    replace hw := (ok_wr hw).2
    refine ⟨(ok_wr hw).1, ?_⟩
    replace hw := (ok_wr hw).2
    refine ⟨(ok_wr hw).1, ?_⟩
    replace hw := (ok_wr hw).2
    replace hw := ok_wI hw
    exact (ok_some hw :)
  · replace hw := ok_f hw c
    exact (ok_some hw :)

def c_X1_tell : mj_S := fun as h k => ∃ (v1 : Int32) (v2 : Int32) (v3 : Int32) (v4 : Int32) (v5 : Int32) (s : St), as = [.ref 20, .int v1, .int v2, .int v3, .int v4, .int v5] ∧ h = mkCs s ∧ ok (F_X1_tell v1 v2 v3 v4 v5 s) (fun p => k (some (.int p.1)) (mkCs p.2))
theorem c_X1_tell_in {v1 : Int32} {v2 : Int32} {v3 : Int32} {v4 : Int32} {v5 : Int32} {s : St} {k : Option Value → mj_H → Prop} (hw : ok (F_X1_tell v1 v2 v3 v4 v5 s) (fun p => k (some (.int p.1)) (mkCs p.2))) : c_X1_tell [.ref 20, .int v1, .int v2, .int v3, .int v4, .int v5] (mkCs s) k := ⟨v1, v2, v3, v4, v5, s, rfl, rfl, hw⟩
theorem m_X1_tell (l : Launch) : mj_Met l yX1_tell cX1_tell 6 ((some FieldType.boolean)) 0 0 0 c_X1_tell := by
  refine mj_body2 false (TbX1 6 ((some FieldType.boolean)) []) (by decide) rfl rfl (fun h => nomatch h) (tfX1 _ (fun _ h => nomatch h)) ?_
  rintro as h k ⟨v1, v2, v3, v4, v5, s, rfl, rfl, hw⟩
  exact ⟨rfl, fun G hG => g_X1_tell hG hw⟩
def F_X11_count (v1 : Int32) (v2 : Int32) (v3 : Int32) (v4 : Int32) (s : St) : Option (Int32 × St) :=
  (F_X11_isVillage v1 s).bind fun r1 =>
  if r1 = 0 then
    some (0, s)
  else
    if inb v2 0 11 = false then
      some (0, s)
    else
      if inb v3 0 999 = false then
        some (0, s)
      else
        if inb v4 0 999 = false then
          some (0, s)
        else
          (F_X1_tell v1 v2 v3 v4 (s.1 1100) s).bind fun r2 =>
          (bz r2.1).bind fun _ =>
          some (r2.1, r2.2)
theorem J_X11_count : mj_t 5 33 = 38 ∧ mj_t 12 26 = 38 ∧ mj_t 23 15 = 38 ∧ mj_t 35 5 = 40 ∧ (0 ≤ ((5 : Nat) : Int) + 33) = True ∧ (0 ≤ ((12 : Nat) : Int) + 26) = True ∧ (0 ≤ ((23 : Nat) : Int) + 15) = True ∧ (0 ≤ ((35 : Nat) : Int) + 5) = True := by and_intros <;> first | rfl | exact eq_true (by decide)
def ct_X11_count : List (Nat × mj_Cs) := [(96, 2, 3, 11, 0, 0, c_in), (138, 0, 2, 11, 0, 0, c_X11_isVillage), (141, 2, 1, 11, 0, 0, c_isYear), (144, 0, 6, 1, 0, 0, c_X1_tell)]
theorem L_X11_count : mj_lk ct_X11_count 96 = some (2, 3, 11, 0, 0, c_in) ∧ mj_lk ct_X11_count 138 = some (0, 2, 11, 0, 0, c_X11_isVillage) ∧ mj_lk ct_X11_count 141 = some (2, 1, 11, 0, 0, c_isYear) ∧ mj_lk ct_X11_count 144 = some (0, 6, 1, 0, 0, c_X1_tell) := ⟨rfl, rfl, rfl, rfl⟩
set_option maxHeartbeats 4000000 in
set_option maxRecDepth 20000 in
theorem g_X11_count {k : Option Value → mj_H → Prop} {G : mj_K} (hG : mj_cl2 cX11_count (TbX11 5 ((some FieldType.boolean)) ct_X11_count) k G) {v1 : Int32} {v2 : Int32} {v3 : Int32} {v4 : Int32} {s : St} (hw : ok (F_X11_count v1 v2 v3 v4 s) (fun p => k (some (.int p.1)) (mkCs p.2))) : G 0 [.ref 0, .int v1, .int v2, .int v3, .int v4] [] (mkCs s) 0 0 := by
  unfold F_X11_count at hw
  refine mj_run hG.1 (fun pc => pc == 5 || pc == 56) 4000 ?_
  simp only [mj_step, mj_W_s, mj_fin, List.getElem?_cons_zero, List.getElem?_cons_succ, mj_go, Nat.reduceAdd, Nat.reduceSub, Nat.reduceLT, Nat.reduceLeDiff, Nat.zero_add, Nat.reduceEqDiff, Nat.reduceBEq, ↓reduceIte, Bool.false_eq_true, List.append_nil, List.nil_append, List.cons_append, Option.toList, and_true, true_and, true_or, or_true, reduceCtorEq, List.map_nil, bI_eq0, bI_eq1, bool_ft, pk_us, vnar0, vnar1, Bool.or_false, Bool.or_true, Bool.false_or, Bool.true_or, mj_kne, eq_self, Int32.reduceLT, Int32.reduceLE, Int32.reduceAdd, Int32.reduceSub, Int32.reduceMul, not_true_eq_false, not_false_eq_true, false_implies, true_implies, D_X11_count, mj_F_aload_n_k, mj_F_getfield_i, mj_F_iconst_n, mj_F_ifCond_eq_off, mj_F_ifCond_ne_off, mj_F_iload_k, mj_F_iload_n_k, mj_F_invokestatic_i, mj_F_invokevirtual_i, mj_F_ireturn, mj_F_sipush_n, mj_kc, FT_X11, L_X11_count, List.take_succ_cons, List.take_zero, List.drop_succ_cons, List.drop_zero, List.reverse_cons, List.reverse_nil, List.length_cons, List.length_nil, gS_C0, gCf11_4, gCf11_0, c_isYear_eq, c_in_eq, gS_C20, J_X11_count]
  refine c_X11_isVillage_in (ok_imp (ok_bind hw) ?_)
  intro p hw
  simp only [Option.toList, List.nil_append, List.cons_append, Nat.reduceSub]
  refine mj_run hG.1 (fun pc => pc == 5 || pc == 56) 4000 ?_
  simp only [mj_step, mj_W_s, mj_fin, List.getElem?_cons_zero, List.getElem?_cons_succ, mj_go, Nat.reduceAdd, Nat.reduceSub, Nat.reduceLT, Nat.reduceLeDiff, Nat.zero_add, Nat.reduceEqDiff, Nat.reduceBEq, ↓reduceIte, Bool.false_eq_true, List.append_nil, List.nil_append, List.cons_append, Option.toList, and_true, true_and, true_or, or_true, reduceCtorEq, List.map_nil, bI_eq0, bI_eq1, bool_ft, pk_us, vnar0, vnar1, Bool.or_false, Bool.or_true, Bool.false_or, Bool.true_or, mj_kne, eq_self, Int32.reduceLT, Int32.reduceLE, Int32.reduceAdd, Int32.reduceSub, Int32.reduceMul, not_true_eq_false, not_false_eq_true, false_implies, true_implies, D_X11_count, mj_F_aload_n_k, mj_F_getfield_i, mj_F_iconst_n, mj_F_ifCond_eq_off, mj_F_ifCond_ne_off, mj_F_iload_k, mj_F_iload_n_k, mj_F_invokestatic_i, mj_F_invokevirtual_i, mj_F_ireturn, mj_F_sipush_n, mj_kc, FT_X11, L_X11_count, List.take_succ_cons, List.take_zero, List.drop_succ_cons, List.drop_zero, List.reverse_cons, List.reverse_nil, List.length_cons, List.length_nil, gS_C0, gCf11_4, gCf11_0, c_isYear_eq, c_in_eq, gS_C20, J_X11_count]
  refine ⟨fun c => ?_, fun c => ?_⟩
  · replace hw := ok_t hw c
    exact (ok_some hw :)
  · replace hw := ok_f hw c
    refine ⟨fun c => ?_, fun c => ?_⟩
    · replace hw := ok_t hw c
      exact (ok_some hw :)
    · replace hw := ok_f hw c
      refine ⟨fun c => ?_, fun c => ?_⟩
      · replace hw := ok_t hw c
        exact (ok_some hw :)
      · replace hw := ok_f hw c
        refine ⟨fun c => ?_, fun c => ?_⟩
        · replace hw := ok_f hw c
          refine c_X1_tell_in (ok_imp (ok_bind hw) ?_)
          intro p hw
          simp only [Option.toList, List.nil_append, List.cons_append, Nat.reduceSub]
          refine mj_run hG.1 (fun pc => pc == 5 || pc == 56) 4000 ?_
          simp only [mj_step, mj_W_s, mj_fin, List.getElem?_cons_zero, List.getElem?_cons_succ, mj_go, Nat.reduceAdd, Nat.reduceSub, Nat.reduceLT, Nat.reduceLeDiff, Nat.zero_add, Nat.reduceEqDiff, Nat.reduceBEq, ↓reduceIte, Bool.false_eq_true, List.append_nil, List.nil_append, List.cons_append, Option.toList, and_true, true_and, true_or, or_true, reduceCtorEq, List.map_nil, bI_eq0, bI_eq1, bool_ft, pk_us, vnar0, vnar1, Bool.or_false, Bool.or_true, Bool.false_or, Bool.true_or, mj_kne, eq_self, Int32.reduceLT, Int32.reduceLE, Int32.reduceAdd, Int32.reduceSub, Int32.reduceMul, not_true_eq_false, not_false_eq_true, false_implies, true_implies, D_X11_count, mj_F_aload_n_k, mj_F_getfield_i, mj_F_iconst_n, mj_F_ifCond_eq_off, mj_F_ifCond_ne_off, mj_F_iload_k, mj_F_iload_n_k, mj_F_invokestatic_i, mj_F_invokevirtual_i, mj_F_ireturn, mj_F_sipush_n, mj_kc, FT_X11, L_X11_count, List.take_succ_cons, List.take_zero, List.drop_succ_cons, List.drop_zero, List.reverse_cons, List.reverse_nil, List.length_cons, List.length_nil, gS_C0, gCf11_4, gCf11_0, c_isYear_eq, c_in_eq, gS_C20, J_X11_count]
          refine ⟨(ok_bz hw).1, ?_⟩
          replace hw := (ok_bz hw).2
          exact (ok_some hw :)
        · replace hw := ok_t hw c
          exact (ok_some hw :)

def c_X11_count : mj_S := fun as h k => ∃ (v1 : Int32) (v2 : Int32) (v3 : Int32) (v4 : Int32) (s : St), as = [.ref 0, .int v1, .int v2, .int v3, .int v4] ∧ h = mkCs s ∧ ok (F_X11_count v1 v2 v3 v4 s) (fun p => k (some (.int p.1)) (mkCs p.2))
theorem c_X11_count_in {v1 : Int32} {v2 : Int32} {v3 : Int32} {v4 : Int32} {s : St} {k : Option Value → mj_H → Prop} (hw : ok (F_X11_count v1 v2 v3 v4 s) (fun p => k (some (.int p.1)) (mkCs p.2))) : c_X11_count [.ref 0, .int v1, .int v2, .int v3, .int v4] (mkCs s) k := ⟨v1, v2, v3, v4, s, rfl, rfl, hw⟩
theorem m_X11_count (l : Launch) : mj_Met l yX11_count cX11_count 5 ((some FieldType.boolean)) 2 0 0 c_X11_count := by
  refine mj_body2 false (TbX11 5 ((some FieldType.boolean)) ct_X11_count) (by decide) rfl rfl (fun h => nomatch h) (tfX11 _ (List.forall_mem_cons.mpr ⟨cfX11_96 (m_X11_within l) (by decide), List.forall_mem_cons.mpr ⟨cfX11_138 (m_X11_isVillage l) (by decide), List.forall_mem_cons.mpr ⟨cfX11_141 (m_X11_isYear l) (by decide), List.forall_mem_cons.mpr ⟨cfX11_144 (m_X1_tell l) (by decide), fun _ h => nomatch h⟩⟩⟩⟩)) ?_
  rintro as h k ⟨v1, v2, v3, v4, s, rfl, rfl, hw⟩
  exact ⟨rfl, fun G hG => g_X11_count hG hw⟩
def F_X11_isPast (v1 : Int32) (s : St) : Option (Int32) :=
  some (bI (inb v1 0 (s.1 1100)))
def ct_X11_isPast : List (Nat × mj_Cs) := [(96, 2, 3, 11, 0, 0, c_in)]
theorem L_X11_isPast : mj_lk ct_X11_isPast 96 = some (2, 3, 11, 0, 0, c_in) := rfl
set_option maxHeartbeats 4000000 in
set_option maxRecDepth 20000 in
theorem g_X11_isPast {k : Option Value → mj_H → Prop} {G : mj_K} (hG : mj_cl2 cX11_isPast (TbX11 2 ((some FieldType.boolean)) ct_X11_isPast) k G) {v1 : Int32} {s : St} (hw : ok (F_X11_isPast v1 s) (fun p => k (some (.int p)) (mkCs s))) : G 0 [.ref 0, .int v1] [] (mkCs s) 0 0 := by
  unfold F_X11_isPast at hw
  refine mj_run hG.1 (fun _ => false) 4000 ?_
  simp only [mj_step, mj_W_s, mj_fin, List.getElem?_cons_zero, List.getElem?_cons_succ, mj_go, Nat.reduceAdd, Nat.reduceSub, Nat.reduceLT, Nat.reduceLeDiff, Nat.zero_add, Nat.reduceEqDiff, Nat.reduceBEq, ↓reduceIte, Bool.false_eq_true, List.append_nil, List.nil_append, List.cons_append, Option.toList, and_true, true_and, true_or, or_true, reduceCtorEq, List.map_nil, bI_eq0, bI_eq1, bool_ft, pk_us, vnar0, vnar1, Bool.or_false, Bool.or_true, Bool.false_or, Bool.true_or, mj_kne, eq_self, Int32.reduceLT, Int32.reduceLE, Int32.reduceAdd, Int32.reduceSub, Int32.reduceMul, not_true_eq_false, not_false_eq_true, false_implies, true_implies, D_X11_isPast, mj_F_aload_n_k, mj_F_getfield_i, mj_F_iconst_n, mj_F_iload_n_k, mj_F_invokestatic_i, mj_F_ireturn, mj_kc, FT_X11, L_X11_isPast, List.take_succ_cons, List.take_zero, List.drop_succ_cons, List.drop_zero, List.reverse_cons, List.reverse_nil, List.length_cons, List.length_nil, gS_C0, gCf11_0, c_in_eq]
  exact (ok_some hw :)

def c_X11_isPast : mj_S := fun as h k => ∃ (v1 : Int32) (s : St), as = [.ref 0, .int v1] ∧ h = mkCs s ∧ ok (F_X11_isPast v1 s) (fun p => k (some (.int p)) (mkCs s))
theorem c_X11_isPast_in {v1 : Int32} {s : St} {k : Option Value → mj_H → Prop} (hw : ok (F_X11_isPast v1 s) (fun p => k (some (.int p)) (mkCs s))) : c_X11_isPast [.ref 0, .int v1] (mkCs s) k := ⟨v1, s, rfl, rfl, hw⟩
theorem m_X11_isPast (l : Launch) : mj_Met l yX11_isPast cX11_isPast 2 ((some FieldType.boolean)) 1 0 0 c_X11_isPast := by
  refine mj_body2 false (TbX11 2 ((some FieldType.boolean)) ct_X11_isPast) (by decide) rfl rfl (fun h => nomatch h) (tfX11 _ (List.forall_mem_cons.mpr ⟨cfX11_96 (m_X11_within l) (by decide), fun _ h => nomatch h⟩)) ?_
  rintro as h k ⟨v1, s, rfl, rfl, hw⟩
  exact ⟨rfl, fun G hG => g_X11_isPast hG hw⟩
def F_X1_girlsOf (v1 : Int32) (v2 : Int32) (v3 : Int32) (s : St) : Option (Int32) :=
  (F_X1_countOf v1 v2 v3 s).bind fun r1 =>
  if r1 = (-1) then
    some 0
  else
    (rd s 111 200 r1).bind fun x2 =>
    some x2
theorem J_X1_girlsOf : mj_t 12 7 = 19 ∧ mj_t 16 10 = 26 ∧ (0 ≤ ((12 : Nat) : Int) + 7) = True ∧ (0 ≤ ((16 : Nat) : Int) + 10) = True := by and_intros <;> first | rfl | exact eq_true (by decide)
def ct_X1_girlsOf : List (Nat × mj_Cs) := [(74, 0, 4, 1, 0, 0, c_X1_countOf)]
theorem L_X1_girlsOf : mj_lk ct_X1_girlsOf 74 = some (0, 4, 1, 0, 0, c_X1_countOf) := rfl
set_option maxHeartbeats 4000000 in
set_option maxRecDepth 20000 in
theorem g_X1_girlsOf {k : Option Value → mj_H → Prop} {G : mj_K} (hG : mj_cl2 cX1_girlsOf (TbX1 5 ((some FieldType.int)) ct_X1_girlsOf) k G) {v1 : Int32} {v2 : Int32} {v3 : Int32} {s : St} (hw : ok (F_X1_girlsOf v1 v2 v3 s) (fun p => k (some (.int p)) (mkCs s))) : G 0 [.ref 20, .int v1, .int v2, .int v3] [] (mkCs s) 0 0 := by
  unfold F_X1_girlsOf at hw
  refine mj_run hG.1 (fun pc => pc == 7) 4000 ?_
  simp only [mj_step, mj_W_s, mj_fin, List.getElem?_cons_zero, List.getElem?_cons_succ, mj_go, Nat.reduceAdd, Nat.reduceSub, Nat.reduceLT, Nat.reduceLeDiff, Nat.zero_add, Nat.reduceEqDiff, Nat.reduceBEq, ↓reduceIte, Bool.false_eq_true, List.append_nil, List.nil_append, List.cons_append, Option.toList, and_true, true_and, true_or, or_true, reduceCtorEq, List.map_nil, bI_eq0, bI_eq1, bool_ft, pk_us, vnar0, vnar1, Bool.or_false, Bool.or_true, Bool.false_or, Bool.true_or, mj_kne, eq_self, Int32.reduceLT, Int32.reduceLE, Int32.reduceAdd, Int32.reduceSub, Int32.reduceMul, not_true_eq_false, not_false_eq_true, false_implies, true_implies, D_X1_girlsOf, mj_F_aload_n_k, mj_F_getfield_i, mj_F_goto_off, mj_F_iaload, mj_F_iconst_n, mj_F_if_icmp_ne_off, mj_F_iload_k, mj_F_iload_n_k, mj_F_invokevirtual_i, mj_F_ireturn, mj_F_istore_k, mj_set, mj_set0, mj_unk, mj_c2, mj_kc, FT_X1, L_X1_girlsOf, List.take_succ_cons, List.take_zero, List.drop_succ_cons, List.drop_zero, List.reverse_cons, List.reverse_nil, List.length_cons, List.length_nil, gS_C20, gCf1_11, gS_C29, sS_Ca_29, J_X1_girlsOf]
  refine c_X1_countOf_in (ok_imp (ok_bind hw) ?_)
  intro p hw
  simp only [Option.toList, List.nil_append, List.cons_append, Nat.reduceSub]
  refine mj_run hG.1 (fun pc => pc == 7) 4000 ?_
  simp only [mj_step, mj_W_s, mj_fin, List.getElem?_cons_zero, List.getElem?_cons_succ, mj_go, Nat.reduceAdd, Nat.reduceSub, Nat.reduceLT, Nat.reduceLeDiff, Nat.zero_add, Nat.reduceEqDiff, Nat.reduceBEq, ↓reduceIte, Bool.false_eq_true, List.append_nil, List.nil_append, List.cons_append, Option.toList, and_true, true_and, true_or, or_true, reduceCtorEq, List.map_nil, bI_eq0, bI_eq1, bool_ft, pk_us, vnar0, vnar1, Bool.or_false, Bool.or_true, Bool.false_or, Bool.true_or, mj_kne, eq_self, Int32.reduceLT, Int32.reduceLE, Int32.reduceAdd, Int32.reduceSub, Int32.reduceMul, not_true_eq_false, not_false_eq_true, false_implies, true_implies, D_X1_girlsOf, mj_F_aload_n_k, mj_F_getfield_i, mj_F_goto_off, mj_F_iaload, mj_F_iconst_n, mj_F_if_icmp_ne_off, mj_F_iload_k, mj_F_iload_n_k, mj_F_invokevirtual_i, mj_F_ireturn, mj_F_istore_k, mj_set, mj_set0, mj_unk, mj_c2, mj_kc, FT_X1, L_X1_girlsOf, List.take_succ_cons, List.take_zero, List.drop_succ_cons, List.drop_zero, List.reverse_cons, List.reverse_nil, List.length_cons, List.length_nil, gS_C20, gCf1_11, gS_C29, sS_Ca_29, J_X1_girlsOf]
  refine ⟨fun c => ?_, fun c => ?_⟩
  · replace hw := ok_f hw c
    refine ⟨(ok_rd hw).1, ?_⟩
    replace hw := (ok_rd hw).2
    exact (ok_some hw :)
  · replace hw := ok_t hw c
    exact (ok_some hw :)

def c_X1_girlsOf : mj_S := fun as h k => ∃ (v1 : Int32) (v2 : Int32) (v3 : Int32) (s : St), as = [.ref 20, .int v1, .int v2, .int v3] ∧ h = mkCs s ∧ ok (F_X1_girlsOf v1 v2 v3 s) (fun p => k (some (.int p)) (mkCs s))
theorem c_X1_girlsOf_in {v1 : Int32} {v2 : Int32} {v3 : Int32} {s : St} {k : Option Value → mj_H → Prop} (hw : ok (F_X1_girlsOf v1 v2 v3 s) (fun p => k (some (.int p)) (mkCs s))) : c_X1_girlsOf [.ref 20, .int v1, .int v2, .int v3] (mkCs s) k := ⟨v1, v2, v3, s, rfl, rfl, hw⟩
theorem m_X1_girlsOf (l : Launch) : mj_Met l yX1_girlsOf cX1_girlsOf 5 ((some FieldType.int)) 1 0 0 c_X1_girlsOf := by
  refine mj_body2 false (TbX1 5 ((some FieldType.int)) ct_X1_girlsOf) (by decide) rfl rfl (fun h => nomatch h) (tfX1 _ (List.forall_mem_cons.mpr ⟨cfX1_74 (m_X1_countOf l) (by decide), fun _ h => nomatch h⟩)) ?_
  rintro as h k ⟨v1, v2, v3, s, rfl, rfl, hw⟩
  exact ⟨rfl, fun G hG => g_X1_girlsOf hG hw⟩
def F_X11_child (v1 : Int32) (v2 : Int32) (v3 : Int32) (v4 : Int32) (s : St) : Option (Int32) :=
  (F_X11_isVillage v1 s).bind fun r1 =>
  if r1 = 0 then
    some (-1)
  else
    if inb v2 0 11 = false then
      some (-1)
    else
      (F_X11_isPast v3 s).bind fun r2 =>
      if r2 = 0 then
        some (-1)
      else
        if inb v4 0 1 = false then
          some (-1)
        else
          if v4 = 0 then
            (F_X1_girlsOf v1 v2 v3 s).bind fun r5 =>
            some r5
          else
            (F_X1_childrenOf v1 v2 v3 s).bind fun r3 =>
            (F_X1_girlsOf v1 v2 v3 s).bind fun r4 =>
            some (r3 - r4)
theorem J_X11_child : mj_t 5 28 = 33 ∧ mj_t 12 21 = 33 ∧ mj_t 20 13 = 33 ∧ mj_t 30 5 = 35 ∧ mj_t 37 16 = 53 ∧ mj_t 50 24 = 74 ∧ (0 ≤ ((5 : Nat) : Int) + 28) = True ∧ (0 ≤ ((12 : Nat) : Int) + 21) = True ∧ (0 ≤ ((20 : Nat) : Int) + 13) = True ∧ (0 ≤ ((30 : Nat) : Int) + 5) = True ∧ (0 ≤ ((37 : Nat) : Int) + 16) = True ∧ (0 ≤ ((50 : Nat) : Int) + 24) = True := by and_intros <;> first | rfl | exact eq_true (by decide)
def ct_X11_child : List (Nat × mj_Cs) := [(96, 2, 3, 11, 0, 0, c_in), (138, 0, 2, 11, 0, 0, c_X11_isVillage), (141, 2, 1, 11, 0, 0, c_isYear), (148, 0, 2, 11, 0, 0, c_X11_isPast), (151, 0, 4, 1, 0, 0, c_X1_girlsOf), (154, 0, 4, 1, 0, 0, c_X1_childrenOf)]
theorem L_X11_child : mj_lk ct_X11_child 96 = some (2, 3, 11, 0, 0, c_in) ∧ mj_lk ct_X11_child 138 = some (0, 2, 11, 0, 0, c_X11_isVillage) ∧ mj_lk ct_X11_child 141 = some (2, 1, 11, 0, 0, c_isYear) ∧ mj_lk ct_X11_child 148 = some (0, 2, 11, 0, 0, c_X11_isPast) ∧ mj_lk ct_X11_child 151 = some (0, 4, 1, 0, 0, c_X1_girlsOf) ∧ mj_lk ct_X11_child 154 = some (0, 4, 1, 0, 0, c_X1_childrenOf) := ⟨rfl, rfl, rfl, rfl, rfl, rfl⟩
set_option maxHeartbeats 4000000 in
set_option maxRecDepth 20000 in
theorem g_X11_child {k : Option Value → mj_H → Prop} {G : mj_K} (hG : mj_cl2 cX11_child (TbX11 5 ((some FieldType.int)) ct_X11_child) k G) {v1 : Int32} {v2 : Int32} {v3 : Int32} {v4 : Int32} {s : St} (hw : ok (F_X11_child v1 v2 v3 v4 s) (fun p => k (some (.int p)) (mkCs s))) : G 0 [.ref 0, .int v1, .int v2, .int v3, .int v4] [] (mkCs s) 0 0 := by
  unfold F_X11_child at hw
  refine mj_run hG.1 (fun pc => pc == 5 || pc == 20 || pc == 50 || pc == 63 || pc == 73) 4000 ?_
  simp only [mj_step, mj_W_s, mj_fin, List.getElem?_cons_zero, List.getElem?_cons_succ, mj_go, Nat.reduceAdd, Nat.reduceSub, Nat.reduceLT, Nat.reduceLeDiff, Nat.zero_add, Nat.reduceEqDiff, Nat.reduceBEq, ↓reduceIte, Bool.false_eq_true, List.append_nil, List.nil_append, List.cons_append, Option.toList, and_true, true_and, true_or, or_true, reduceCtorEq, List.map_nil, bI_eq0, bI_eq1, bool_ft, pk_us, vnar0, vnar1, Bool.or_false, Bool.or_true, Bool.false_or, Bool.true_or, mj_kne, eq_self, Int32.reduceLT, Int32.reduceLE, Int32.reduceAdd, Int32.reduceSub, Int32.reduceMul, not_true_eq_false, not_false_eq_true, false_implies, true_implies, D_X11_child, mj_F_aload_n_k, mj_F_getfield_i, mj_F_goto_off, mj_F_iconst_n, mj_F_ifCond_eq_off, mj_F_ifCond_ne_off, mj_F_iload_k, mj_F_iload_n_k, mj_F_invokestatic_i, mj_F_invokevirtual_i, mj_F_ireturn, mj_F_isub, mj_kc, FT_X11, L_X11_child, List.take_succ_cons, List.take_zero, List.drop_succ_cons, List.drop_zero, List.reverse_cons, List.reverse_nil, List.length_cons, List.length_nil, gS_C0, gCf11_4, c_isYear_eq, c_in_eq, gS_C20, J_X11_child]
  refine c_X11_isVillage_in (ok_imp (ok_bind hw) ?_)
  intro p hw
  simp only [Option.toList, List.nil_append, List.cons_append, Nat.reduceSub]
  refine mj_run hG.1 (fun pc => pc == 5 || pc == 20 || pc == 50 || pc == 63 || pc == 73) 4000 ?_
  simp only [mj_step, mj_W_s, mj_fin, List.getElem?_cons_zero, List.getElem?_cons_succ, mj_go, Nat.reduceAdd, Nat.reduceSub, Nat.reduceLT, Nat.reduceLeDiff, Nat.zero_add, Nat.reduceEqDiff, Nat.reduceBEq, ↓reduceIte, Bool.false_eq_true, List.append_nil, List.nil_append, List.cons_append, Option.toList, and_true, true_and, true_or, or_true, reduceCtorEq, List.map_nil, bI_eq0, bI_eq1, bool_ft, pk_us, vnar0, vnar1, Bool.or_false, Bool.or_true, Bool.false_or, Bool.true_or, mj_kne, eq_self, Int32.reduceLT, Int32.reduceLE, Int32.reduceAdd, Int32.reduceSub, Int32.reduceMul, not_true_eq_false, not_false_eq_true, false_implies, true_implies, D_X11_child, mj_F_aload_n_k, mj_F_getfield_i, mj_F_goto_off, mj_F_iconst_n, mj_F_ifCond_eq_off, mj_F_ifCond_ne_off, mj_F_iload_k, mj_F_iload_n_k, mj_F_invokestatic_i, mj_F_invokevirtual_i, mj_F_ireturn, mj_F_isub, mj_kc, FT_X11, L_X11_child, List.take_succ_cons, List.take_zero, List.drop_succ_cons, List.drop_zero, List.reverse_cons, List.reverse_nil, List.length_cons, List.length_nil, gS_C0, gCf11_4, c_isYear_eq, c_in_eq, gS_C20, J_X11_child]
  refine ⟨fun c => ?_, fun c => ?_⟩
  · replace hw := ok_t hw c
    exact (ok_some hw :)
  · replace hw := ok_f hw c
    refine ⟨fun c => ?_, fun c => ?_⟩
    · replace hw := ok_t hw c
      exact (ok_some hw :)
    · replace hw := ok_f hw c
      refine c_X11_isPast_in (ok_imp (ok_bind hw) ?_)
      intro p hw
      simp only [Option.toList, List.nil_append, List.cons_append, Nat.reduceSub]
      refine mj_run hG.1 (fun pc => pc == 5 || pc == 20 || pc == 50 || pc == 63 || pc == 73) 4000 ?_
      simp only [mj_step, mj_W_s, mj_fin, List.getElem?_cons_zero, List.getElem?_cons_succ, mj_go, Nat.reduceAdd, Nat.reduceSub, Nat.reduceLT, Nat.reduceLeDiff, Nat.zero_add, Nat.reduceEqDiff, Nat.reduceBEq, ↓reduceIte, Bool.false_eq_true, List.append_nil, List.nil_append, List.cons_append, Option.toList, and_true, true_and, true_or, or_true, reduceCtorEq, List.map_nil, bI_eq0, bI_eq1, bool_ft, pk_us, vnar0, vnar1, Bool.or_false, Bool.or_true, Bool.false_or, Bool.true_or, mj_kne, eq_self, Int32.reduceLT, Int32.reduceLE, Int32.reduceAdd, Int32.reduceSub, Int32.reduceMul, not_true_eq_false, not_false_eq_true, false_implies, true_implies, D_X11_child, mj_F_aload_n_k, mj_F_getfield_i, mj_F_goto_off, mj_F_iconst_n, mj_F_ifCond_eq_off, mj_F_ifCond_ne_off, mj_F_iload_k, mj_F_iload_n_k, mj_F_invokestatic_i, mj_F_invokevirtual_i, mj_F_ireturn, mj_F_isub, mj_kc, FT_X11, L_X11_child, List.take_succ_cons, List.take_zero, List.drop_succ_cons, List.drop_zero, List.reverse_cons, List.reverse_nil, List.length_cons, List.length_nil, gS_C0, gCf11_4, c_isYear_eq, c_in_eq, gS_C20, J_X11_child]
      refine ⟨fun c => ?_, fun c => ?_⟩
      · replace hw := ok_t hw c
        exact (ok_some hw :)
      · replace hw := ok_f hw c
        refine ⟨fun c => ?_, fun c => ?_⟩
        · replace hw := ok_f hw c
          refine ⟨fun c => ?_, fun c => ?_⟩
          · replace hw := ok_f hw c
            refine c_X1_childrenOf_in (ok_imp (ok_bind hw) ?_)
            intro p hw
            simp only [Option.toList, List.nil_append, List.cons_append, Nat.reduceSub]
            refine mj_run hG.1 (fun pc => pc == 5 || pc == 20 || pc == 50 || pc == 63 || pc == 73) 4000 ?_
            simp only [mj_step, mj_W_s, mj_fin, List.getElem?_cons_zero, List.getElem?_cons_succ, mj_go, Nat.reduceAdd, Nat.reduceSub, Nat.reduceLT, Nat.reduceLeDiff, Nat.zero_add, Nat.reduceEqDiff, Nat.reduceBEq, ↓reduceIte, Bool.false_eq_true, List.append_nil, List.nil_append, List.cons_append, Option.toList, and_true, true_and, true_or, or_true, reduceCtorEq, List.map_nil, bI_eq0, bI_eq1, bool_ft, pk_us, vnar0, vnar1, Bool.or_false, Bool.or_true, Bool.false_or, Bool.true_or, mj_kne, eq_self, Int32.reduceLT, Int32.reduceLE, Int32.reduceAdd, Int32.reduceSub, Int32.reduceMul, not_true_eq_false, not_false_eq_true, false_implies, true_implies, D_X11_child, mj_F_aload_n_k, mj_F_getfield_i, mj_F_goto_off, mj_F_iconst_n, mj_F_ifCond_eq_off, mj_F_ifCond_ne_off, mj_F_iload_k, mj_F_iload_n_k, mj_F_invokestatic_i, mj_F_invokevirtual_i, mj_F_ireturn, mj_F_isub, mj_kc, FT_X11, L_X11_child, List.take_succ_cons, List.take_zero, List.drop_succ_cons, List.drop_zero, List.reverse_cons, List.reverse_nil, List.length_cons, List.length_nil, gS_C0, gCf11_4, c_isYear_eq, c_in_eq, gS_C20, J_X11_child]
            refine c_X1_girlsOf_in (ok_imp (ok_bind hw) ?_)
            intro p hw
            simp only [Option.toList, List.nil_append, List.cons_append, Nat.reduceSub]
            refine mj_run hG.1 (fun pc => pc == 5 || pc == 20 || pc == 50 || pc == 63 || pc == 73) 4000 ?_
            simp only [mj_step, mj_W_s, mj_fin, List.getElem?_cons_zero, List.getElem?_cons_succ, mj_go, Nat.reduceAdd, Nat.reduceSub, Nat.reduceLT, Nat.reduceLeDiff, Nat.zero_add, Nat.reduceEqDiff, Nat.reduceBEq, ↓reduceIte, Bool.false_eq_true, List.append_nil, List.nil_append, List.cons_append, Option.toList, and_true, true_and, true_or, or_true, reduceCtorEq, List.map_nil, bI_eq0, bI_eq1, bool_ft, pk_us, vnar0, vnar1, Bool.or_false, Bool.or_true, Bool.false_or, Bool.true_or, mj_kne, eq_self, Int32.reduceLT, Int32.reduceLE, Int32.reduceAdd, Int32.reduceSub, Int32.reduceMul, not_true_eq_false, not_false_eq_true, false_implies, true_implies, D_X11_child, mj_F_aload_n_k, mj_F_getfield_i, mj_F_goto_off, mj_F_iconst_n, mj_F_ifCond_eq_off, mj_F_ifCond_ne_off, mj_F_iload_k, mj_F_iload_n_k, mj_F_invokestatic_i, mj_F_invokevirtual_i, mj_F_ireturn, mj_F_isub, mj_kc, FT_X11, L_X11_child, List.take_succ_cons, List.take_zero, List.drop_succ_cons, List.drop_zero, List.reverse_cons, List.reverse_nil, List.length_cons, List.length_nil, gS_C0, gCf11_4, c_isYear_eq, c_in_eq, gS_C20, J_X11_child]
            exact (ok_some hw :)
          · replace hw := ok_t hw c
            refine c_X1_girlsOf_in (ok_imp (ok_bind hw) ?_)
            intro p hw
            simp only [Option.toList, List.nil_append, List.cons_append, Nat.reduceSub]
            refine mj_run hG.1 (fun pc => pc == 5 || pc == 20 || pc == 50 || pc == 63 || pc == 73) 4000 ?_
            simp only [mj_step, mj_W_s, mj_fin, List.getElem?_cons_zero, List.getElem?_cons_succ, mj_go, Nat.reduceAdd, Nat.reduceSub, Nat.reduceLT, Nat.reduceLeDiff, Nat.zero_add, Nat.reduceEqDiff, Nat.reduceBEq, ↓reduceIte, Bool.false_eq_true, List.append_nil, List.nil_append, List.cons_append, Option.toList, and_true, true_and, true_or, or_true, reduceCtorEq, List.map_nil, bI_eq0, bI_eq1, bool_ft, pk_us, vnar0, vnar1, Bool.or_false, Bool.or_true, Bool.false_or, Bool.true_or, mj_kne, eq_self, Int32.reduceLT, Int32.reduceLE, Int32.reduceAdd, Int32.reduceSub, Int32.reduceMul, not_true_eq_false, not_false_eq_true, false_implies, true_implies, D_X11_child, mj_F_aload_n_k, mj_F_getfield_i, mj_F_goto_off, mj_F_iconst_n, mj_F_ifCond_eq_off, mj_F_ifCond_ne_off, mj_F_iload_k, mj_F_iload_n_k, mj_F_invokestatic_i, mj_F_invokevirtual_i, mj_F_ireturn, mj_F_isub, mj_kc, FT_X11, L_X11_child, List.take_succ_cons, List.take_zero, List.drop_succ_cons, List.drop_zero, List.reverse_cons, List.reverse_nil, List.length_cons, List.length_nil, gS_C0, gCf11_4, c_isYear_eq, c_in_eq, gS_C20, J_X11_child]
            exact (ok_some hw :)
        · replace hw := ok_t hw c
          exact (ok_some hw :)

def c_X11_child : mj_S := fun as h k => ∃ (v1 : Int32) (v2 : Int32) (v3 : Int32) (v4 : Int32) (s : St), as = [.ref 0, .int v1, .int v2, .int v3, .int v4] ∧ h = mkCs s ∧ ok (F_X11_child v1 v2 v3 v4 s) (fun p => k (some (.int p)) (mkCs s))
theorem c_X11_child_in {v1 : Int32} {v2 : Int32} {v3 : Int32} {v4 : Int32} {s : St} {k : Option Value → mj_H → Prop} (hw : ok (F_X11_child v1 v2 v3 v4 s) (fun p => k (some (.int p)) (mkCs s))) : c_X11_child [.ref 0, .int v1, .int v2, .int v3, .int v4] (mkCs s) k := ⟨v1, v2, v3, v4, s, rfl, rfl, hw⟩
theorem m_X11_child (l : Launch) : mj_Met l yX11_child cX11_child 5 ((some FieldType.int)) 2 0 0 c_X11_child := by
  refine mj_body2 false (TbX11 5 ((some FieldType.int)) ct_X11_child) (by decide) rfl rfl (fun h => nomatch h) (tfX11 _ (List.forall_mem_cons.mpr ⟨cfX11_96 (m_X11_within l) (by decide), List.forall_mem_cons.mpr ⟨cfX11_138 (m_X11_isVillage l) (by decide), List.forall_mem_cons.mpr ⟨cfX11_141 (m_X11_isYear l) (by decide), List.forall_mem_cons.mpr ⟨cfX11_148 (m_X11_isPast l) (by decide), List.forall_mem_cons.mpr ⟨cfX11_151 (m_X1_girlsOf l) (by decide), List.forall_mem_cons.mpr ⟨cfX11_154 (m_X1_childrenOf l) (by decide), fun _ h => nomatch h⟩⟩⟩⟩⟩⟩)) ?_
  rintro as h k ⟨v1, v2, v3, v4, s, rfl, rfl, hw⟩
  exact ⟨rfl, fun G hG => g_X11_child hG hw⟩
def F_X5_found (v1 : Int32) (v2 : Int32) (v3 : Int32) (v4 : Int32) (v5 : Int32) (v6 : Int32) (s : St) : Option (Int32 × St) :=
  if (s.1 501) < 20 then
    (wr s 502 20 (s.1 501) v1).bind fun s1 =>
    (wr s1 503 20 (s1.1 501) v2).bind fun s2 =>
    (wr s2 504 20 (s2.1 501) v3).bind fun s3 =>
    (wr s3 505 20 (s3.1 501) v4).bind fun s4 =>
    (wr s4 506 20 (s4.1 501) v5).bind fun s5 =>
    (wr s5 507 20 (s5.1 501) v6).bind fun s6 =>
    (wI s6 501 ((s6.1 501) + 1)).bind fun s7 =>
    some (((s7.1 501) - 1), s7)
  else
    some ((-1), s)
theorem J_X5_found : mj_t 6 5 = 11 ∧ (0 ≤ ((6 : Nat) : Int) + 5) = True := by and_intros <;> first | rfl | exact eq_true (by decide)
set_option maxHeartbeats 4000000 in
set_option maxRecDepth 20000 in
theorem g_X5_found {k : Option Value → mj_H → Prop} {G : mj_K} (hG : mj_cl2 cX5_found (TbX5 7 ((some FieldType.int)) []) k G) {v1 : Int32} {v2 : Int32} {v3 : Int32} {v4 : Int32} {v5 : Int32} {v6 : Int32} {s : St} (hw : ok (F_X5_found v1 v2 v3 v4 v5 v6 s) (fun p => k (some (.int p.1)) (mkCs p.2))) : G 0 [.ref 35, .int v1, .int v2, .int v3, .int v4, .int v5, .int v6] [] (mkCs s) 0 0 := by
  unfold F_X5_found at hw
  refine mj_run hG.1 (fun _ => false) 4000 ?_
  simp only [mj_step, mj_W_s, mj_fin, List.getElem?_cons_zero, List.getElem?_cons_succ, mj_go, Nat.reduceAdd, Nat.reduceSub, Nat.reduceLT, Nat.reduceLeDiff, Nat.zero_add, Nat.reduceEqDiff, Nat.reduceBEq, ↓reduceIte, Bool.false_eq_true, List.append_nil, List.nil_append, List.cons_append, Option.toList, and_true, true_and, true_or, or_true, reduceCtorEq, List.map_nil, bI_eq0, bI_eq1, bool_ft, pk_us, vnar0, vnar1, Bool.or_false, Bool.or_true, Bool.false_or, Bool.true_or, mj_kne, eq_self, Int32.reduceLT, Int32.reduceLE, Int32.reduceAdd, Int32.reduceSub, Int32.reduceMul, not_true_eq_false, not_false_eq_true, false_implies, true_implies, D_X5_found_0, D_X5_found_1, mj_F_aload_n_k, mj_F_bipush_n, mj_F_dup, mj_F_getfield_i, mj_F_iadd, mj_F_iastore, mj_F_iconst_n, mj_F_if_icmp_lt_off, mj_F_iload_k, mj_F_iload_n_k, mj_F_ireturn, mj_F_isub, mj_F_putfield_i, mj_c2, mj_kc, FT_X5, PT_X5, gS_C35, gCf5_1, gCf5_2, gS_C36, sS_Ca_36, gCf5_3, gS_C37, sS_Ca_37, gCf5_4, gS_C38, sS_Ca_38, gCf5_5, gS_C39, sS_Ca_39, gCf5_6, gS_C40, sS_Ca_40, gCf5_7, gS_C41, sS_Ca_41, sS_Cf_5_1, gCf5len, J_X5_found]
  refine ⟨fun c => ?_, fun c => ?_⟩
  · replace hw := ok_t hw c
    refine ⟨(ok_wr hw).1, ?_⟩
    replace hw := (ok_wr hw).2
    refine ⟨(ok_wr hw).1, ?_⟩
    replace hw := (ok_wr hw).2
    refine ⟨(ok_wr hw).1, ?_⟩
    replace hw := (ok_wr hw).2
    refine ⟨(ok_wr hw).1, ?_⟩
    replace hw := (ok_wr hw).2
    refine ⟨(ok_wr hw).1, ?_⟩
    replace hw := (ok_wr hw).2
    refine ⟨(ok_wr hw).1, ?_⟩
    replace hw := (ok_wr hw).2
    replace hw := ok_wI hw
    exact (ok_some hw :)
  · replace hw := ok_f hw c
    exact (ok_some hw :)

def c_X5_found : mj_S := fun as h k => ∃ (v1 : Int32) (v2 : Int32) (v3 : Int32) (v4 : Int32) (v5 : Int32) (v6 : Int32) (s : St), as = [.ref 35, .int v1, .int v2, .int v3, .int v4, .int v5, .int v6] ∧ h = mkCs s ∧ ok (F_X5_found v1 v2 v3 v4 v5 v6 s) (fun p => k (some (.int p.1)) (mkCs p.2))
theorem c_X5_found_in {v1 : Int32} {v2 : Int32} {v3 : Int32} {v4 : Int32} {v5 : Int32} {v6 : Int32} {s : St} {k : Option Value → mj_H → Prop} (hw : ok (F_X5_found v1 v2 v3 v4 v5 v6 s) (fun p => k (some (.int p.1)) (mkCs p.2))) : c_X5_found [.ref 35, .int v1, .int v2, .int v3, .int v4, .int v5, .int v6] (mkCs s) k := ⟨v1, v2, v3, v4, v5, v6, s, rfl, rfl, hw⟩
theorem m_X5_found (l : Launch) : mj_Met l yX5_found cX5_found 7 ((some FieldType.int)) 0 0 0 c_X5_found := by
  refine mj_body2 false (TbX5 7 ((some FieldType.int)) []) (by decide) rfl rfl (fun h => nomatch h) (tfX5 _ (fun _ h => nomatch h)) ?_
  rintro as h k ⟨v1, v2, v3, v4, v5, v6, s, rfl, rfl, hw⟩
  exact ⟨rfl, fun G hG => g_X5_found hG hw⟩
def B_X10_order_2 (v1 : Int32) (v2 : Int32) : Int32 × St → Option ((Int32 × St) ⊕ ((St)))
  | (v3, s) =>
  if 5 ≤ v3 then
    some (.inr s)
  else
    (rs 2 5 v3).bind fun x1 =>
    (wr s 1012 100 ((v1 * 5) + v3) (v2 * x1)).bind fun s2 =>
    some (.inl ((v3 + 1), s2))
def F_X10_order_30 (s : St) : Option (St) :=
  some s
def F_X10_order_2 (v1 : Int32) (v2 : Int32) (v3 : Int32) (s : St) : Option (St) :=
  (lp (B_X10_order_2 v1 v2) FU (v3, s)).bind (fun y => F_X10_order_30 y)
def F_X10_order (v1 : Int32) (v2 : Int32) (s : St) : Option (St) :=
  F_X10_order_2 v1 v2 0 s
theorem J_X10_order : mj_t 4 26 = 30 ∧ mj_t 27 (-25) = 2 ∧ (0 ≤ ((4 : Nat) : Int) + 26) = True ∧ (0 ≤ ((27 : Nat) : Int) + (-25)) = True := by and_intros <;> first | rfl | exact eq_true (by decide)
set_option maxHeartbeats 4000000 in
set_option maxRecDepth 20000 in
theorem b_X10_order_2 {k : Option Value → mj_H → Prop} {G : mj_K} (hG : mj_cl2 cX10_order (TbX10 4 (none) []) k G) {v1 : Int32} {v2 : Int32} {P : Int32 × St → Prop} {K : (St) → Prop} (hP : ∀ x, P x → G 2 [.ref 45, .int v1, .int v2, .int x.1] [] (mkCs x.2) 0 0) (hK0 : ∀ y, K y → G 30 [] [] (mkCs y) 0 0) {v3 : Int32} {s : St} (hw : ok (B_X10_order_2 v1 v2 (v3, s)) (Sum.elim P K)) : G 2 [.ref 45, .int v1, .int v2, .int v3] [] (mkCs s) 0 0 := by
  unfold B_X10_order_2 at hw
  refine mj_run hG.1 (fun pc => pc == 2 || pc == 30) 4000 ?_
  simp only [mj_step, mj_W_s, mj_fin, List.getElem?_cons_zero, List.getElem?_cons_succ, mj_go, Nat.reduceAdd, Nat.reduceSub, Nat.reduceLT, Nat.reduceLeDiff, Nat.zero_add, Nat.reduceEqDiff, Nat.reduceBEq, ↓reduceIte, Bool.false_eq_true, List.append_nil, List.nil_append, List.cons_append, Option.toList, and_true, true_and, true_or, or_true, reduceCtorEq, List.map_nil, bI_eq0, bI_eq1, bool_ft, pk_us, vnar0, vnar1, Bool.or_false, Bool.or_true, Bool.false_or, Bool.true_or, mj_kne, eq_self, Int32.reduceLT, Int32.reduceLE, Int32.reduceAdd, Int32.reduceSub, Int32.reduceMul, not_true_eq_false, not_false_eq_true, false_implies, true_implies, D_X10_order, mj_F_aload_n_k, mj_F_getfield_i, mj_F_getstatic_i, mj_F_goto_off, mj_F_iadd, mj_F_iaload, mj_F_iastore, mj_F_iconst_n, mj_F_if_icmp_ge_off, mj_F_iinc_k_n, mj_F_iload_n_k, mj_F_imul, mj_F_istore_n_k, mj_F_return_, mj_set, mj_set0, mj_unk, mj_c2, mj_kc, FT_X10, glX10, mj_st0, mj_st1, mj_st2, mj_lk_hit, mj_lk_miss, gS_C45, gCf10_12, gS_C52, sS_Ca_52, J_X10_order]
  refine ⟨fun c => ?_, fun c => ?_⟩
  · replace hw := ok_t hw c
    exact hG.2 _ _ _ _ _ _ _ _ _ (by exact trivial) (Nat.zero_le _) (Nat.zero_le _) (hK0 _ (ok_some hw :) :)
  · replace hw := ok_f hw c
    refine ⟨(ok_rs hw).1, ?_⟩
    replace hw := (ok_rs hw).2
    refine ⟨(ok_wr hw).1, ?_⟩
    replace hw := (ok_wr hw).2
    exact hG.2 _ _ _ _ _ _ _ _ _ (by refine ⟨Or.inr rfl, ?_⟩; refine ⟨Or.inr rfl, ?_⟩; refine ⟨Or.inr rfl, ?_⟩; refine ⟨Or.inr rfl, ?_⟩; exact trivial) (Nat.zero_le _) (Nat.zero_le _) (hP _ (ok_some hw :) :)

set_option maxHeartbeats 4000000 in
set_option maxRecDepth 20000 in
theorem g_X10_order_30 {k : Option Value → mj_H → Prop} {G : mj_K} (hG : mj_cl2 cX10_order (TbX10 4 (none) []) k G)   {s : St} (hw : ok (F_X10_order_30 s) (fun p => k none (mkCs p))) : G 30 [] [] (mkCs s) 0 0 := by
  unfold F_X10_order_30 at hw
  refine mj_run hG.1 (fun pc => pc == 2 || pc == 30) 4000 ?_
  simp only [mj_step, mj_W_s, mj_fin, List.getElem?_cons_zero, List.getElem?_cons_succ, mj_go, Nat.reduceAdd, Nat.reduceSub, Nat.reduceLT, Nat.reduceLeDiff, Nat.zero_add, Nat.reduceEqDiff, Nat.reduceBEq, ↓reduceIte, Bool.false_eq_true, List.append_nil, List.nil_append, List.cons_append, Option.toList, and_true, true_and, true_or, or_true, reduceCtorEq, List.map_nil, bI_eq0, bI_eq1, bool_ft, pk_us, vnar0, vnar1, Bool.or_false, Bool.or_true, Bool.false_or, Bool.true_or, mj_kne, eq_self, Int32.reduceLT, Int32.reduceLE, Int32.reduceAdd, Int32.reduceSub, Int32.reduceMul, not_true_eq_false, not_false_eq_true, false_implies, true_implies, D_X10_order, mj_F_aload_n_k, mj_F_getfield_i, mj_F_getstatic_i, mj_F_goto_off, mj_F_iadd, mj_F_iaload, mj_F_iastore, mj_F_iconst_n, mj_F_if_icmp_ge_off, mj_F_iinc_k_n, mj_F_iload_n_k, mj_F_imul, mj_F_istore_n_k, mj_F_return_, mj_set, mj_set0, mj_unk, mj_c2, mj_kc, FT_X10, glX10, mj_st0, mj_st1, mj_st2, mj_lk_hit, mj_lk_miss, gS_C45, gCf10_12, gS_C52, sS_Ca_52, J_X10_order]
  exact (ok_some hw :)

set_option maxHeartbeats 4000000 in
theorem g_X10_order_2 {k : Option Value → mj_H → Prop} {G : mj_K} (hG : mj_cl2 cX10_order (TbX10 4 (none) []) k G)   {v1 : Int32} {v2 : Int32} {v3 : Int32} {s : St} (hw : ok (F_X10_order_2 v1 v2 v3 s) (fun p => k none (mkCs p))) : G 2 [.ref 45, .int v1, .int v2, .int v3] [] (mkCs s) 0 0 := by
  unfold F_X10_order_2 at hw
  refine lp_ok (B_X10_order_2 v1 v2) (fun x => G 2 [.ref 45, .int v1, .int v2, .int x.1] [] (mkCs x.2) 0 0) _ ?_ _ _ (ok_bind hw)
  rintro ⟨v3, s⟩ hb
  exact b_X10_order_2 hG (fun _ z => z) (fun y hw => by exact hG.2 _ _ _ _ _ _ _ _ _ (by exact trivial) (Nat.zero_le _) (Nat.zero_le _) (g_X10_order_30 hG  hw :)) hb

set_option maxHeartbeats 4000000 in
set_option maxRecDepth 20000 in
theorem g_X10_order {k : Option Value → mj_H → Prop} {G : mj_K} (hG : mj_cl2 cX10_order (TbX10 4 (none) []) k G) {v1 : Int32} {v2 : Int32} {s : St} (hw : ok (F_X10_order v1 v2 s) (fun p => k none (mkCs p))) : G 0 [.ref 45, .int v1, .int v2] [] (mkCs s) 0 0 := by
  unfold F_X10_order at hw
  refine mj_run hG.1 (fun pc => pc == 2 || pc == 30) 4000 ?_
  simp only [mj_step, mj_W_s, mj_fin, List.getElem?_cons_zero, List.getElem?_cons_succ, mj_go, Nat.reduceAdd, Nat.reduceSub, Nat.reduceLT, Nat.reduceLeDiff, Nat.zero_add, Nat.reduceEqDiff, Nat.reduceBEq, ↓reduceIte, Bool.false_eq_true, List.append_nil, List.nil_append, List.cons_append, Option.toList, and_true, true_and, true_or, or_true, reduceCtorEq, List.map_nil, bI_eq0, bI_eq1, bool_ft, pk_us, vnar0, vnar1, Bool.or_false, Bool.or_true, Bool.false_or, Bool.true_or, mj_kne, eq_self, Int32.reduceLT, Int32.reduceLE, Int32.reduceAdd, Int32.reduceSub, Int32.reduceMul, not_true_eq_false, not_false_eq_true, false_implies, true_implies, D_X10_order, mj_F_aload_n_k, mj_F_getfield_i, mj_F_getstatic_i, mj_F_goto_off, mj_F_iadd, mj_F_iaload, mj_F_iastore, mj_F_iconst_n, mj_F_if_icmp_ge_off, mj_F_iinc_k_n, mj_F_iload_n_k, mj_F_imul, mj_F_istore_n_k, mj_F_return_, mj_set, mj_set0, mj_unk, mj_c2, mj_kc, FT_X10, glX10, mj_st0, mj_st1, mj_st2, mj_lk_hit, mj_lk_miss, gS_C45, gCf10_12, gS_C52, sS_Ca_52, J_X10_order]
  exact hG.2 _ _ _ _ _ _ _ _ _ (by refine ⟨Or.inr rfl, ?_⟩; refine ⟨Or.inr rfl, ?_⟩; refine ⟨Or.inr rfl, ?_⟩; refine ⟨Or.inr rfl, ?_⟩; exact trivial) (Nat.zero_le _) (Nat.zero_le _) (g_X10_order_2 hG  hw :)

def c_X10_order : mj_S := fun as h k => ∃ (v1 : Int32) (v2 : Int32) (s : St), as = [.ref 45, .int v1, .int v2] ∧ h = mkCs s ∧ ok (F_X10_order v1 v2 s) (fun p => k none (mkCs p))
theorem c_X10_order_in {v1 : Int32} {v2 : Int32} {s : St} {k : Option Value → mj_H → Prop} (hw : ok (F_X10_order v1 v2 s) (fun p => k none (mkCs p))) : c_X10_order [.ref 45, .int v1, .int v2] (mkCs s) k := ⟨v1, v2, s, rfl, rfl, hw⟩
theorem m_X10_order (l : Launch) : mj_Met l yX10_order cX10_order 4 (none) 0 0 0 c_X10_order := by
  refine mj_body2 false (TbX10 4 (none) []) (by decide) rfl rfl (fun h => nomatch h) (tfX10 _ (fun _ h => nomatch h)) ?_
  rintro as h k ⟨v1, v2, s, rfl, rfl, hw⟩
  exact ⟨rfl, fun G hG => g_X10_order hG hw⟩
