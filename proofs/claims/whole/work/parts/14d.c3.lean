/-! functional pictures, and that the bytecode keeps them (c3) -/
def F_X11_why (v1 : Int32) (v2 : Int32) (v3 : Int32) (v4 : Int32) (v5 : Int32) (v6 : Int32) (v7 : Int32) (v8 : Int32) (s : St) : Option (Int32 × St) :=
  (F_X0_labelOf v4).bind fun r1 =>
  if inb v1 0 3 = false then
    some ((-1), s)
  else
    if inb v2 0 11 = false then
      some ((-1), s)
    else
      (F_X11_isPast v3 s).bind fun r2 =>
      if r2 = 0 then
        some ((-1), s)
      else
        if r1 = (-1) then
          some ((-1), s)
        else
          (F_X0_spell v5 v6 v7 v8 s).bind fun s3 =>
          (F_X0_worthOf r1 v1 v2 v3 0 s3).bind fun r4 =>
          some ((r4.2.1 9), r4.2)
theorem J_X11_why : mj_t 11 24 = 35 ∧ mj_t 18 17 = 35 ∧ mj_t 26 9 = 35 ∧ mj_t 32 5 = 37 ∧ (0 ≤ ((11 : Nat) : Int) + 24) = True ∧ (0 ≤ ((18 : Nat) : Int) + 17) = True ∧ (0 ≤ ((26 : Nat) : Int) + 9) = True ∧ (0 ≤ ((32 : Nat) : Int) + 5) = True := by and_intros <;> first | rfl | exact eq_true (by decide)
def ct_X11_why : List (Nat × mj_Cs) := [(131, 2, 1, 11, 0, 0, c_isShire), (141, 2, 1, 11, 0, 0, c_isYear), (148, 0, 2, 11, 0, 0, c_X11_isPast), (222, 2, 1, 0, 0, 0, c_X0_labelOf), (226, 0, 5, 0, 0, 0, c_X0_spell), (229, 0, 6, 0, 0, 0, c_X0_worthOf)]
theorem L_X11_why : mj_lk ct_X11_why 131 = some (2, 1, 11, 0, 0, c_isShire) ∧ mj_lk ct_X11_why 141 = some (2, 1, 11, 0, 0, c_isYear) ∧ mj_lk ct_X11_why 148 = some (0, 2, 11, 0, 0, c_X11_isPast) ∧ mj_lk ct_X11_why 222 = some (2, 1, 0, 0, 0, c_X0_labelOf) ∧ mj_lk ct_X11_why 226 = some (0, 5, 0, 0, 0, c_X0_spell) ∧ mj_lk ct_X11_why 229 = some (0, 6, 0, 0, 0, c_X0_worthOf) := ⟨rfl, rfl, rfl, rfl, rfl, rfl⟩
set_option maxHeartbeats 4000000 in
set_option maxRecDepth 20000 in
theorem g_X11_why {k : Option Value → mj_H → Prop} {G : mj_K} (hG : mj_cl2 cX11_why (TbX11 10 ((some FieldType.int)) ct_X11_why) k G) {v1 : Int32} {v2 : Int32} {v3 : Int32} {v4 : Int32} {v5 : Int32} {v6 : Int32} {v7 : Int32} {v8 : Int32} {s : St} (hw : ok (F_X11_why v1 v2 v3 v4 v5 v6 v7 v8 s) (fun p => k (some (.int p.1)) (mkCs p.2))) : G 0 [.ref 0, .int v1, .int v2, .int v3, .int v4, .int v5, .int v6, .int v7, .int v8] [] (mkCs s) 0 0 := by
  unfold F_X11_why at hw
  refine mj_run hG.1 (fun pc => pc == 5 || pc == 26 || pc == 52 || pc == 65) 4000 ?_
  simp only [mj_step, mj_W_s, mj_fin, List.getElem?_cons_zero, List.getElem?_cons_succ, mj_go, Nat.reduceAdd, Nat.reduceSub, Nat.reduceLT, Nat.reduceLeDiff, Nat.zero_add, Nat.reduceEqDiff, Nat.reduceBEq, ↓reduceIte, Bool.false_eq_true, List.append_nil, List.nil_append, List.cons_append, Option.toList, and_true, true_and, true_or, or_true, reduceCtorEq, List.map_nil, bI_eq0, bI_eq1, bool_ft, pk_us, vnar0, vnar1, Bool.or_false, Bool.or_true, Bool.false_or, Bool.true_or, mj_kne, eq_self, Int32.reduceLT, Int32.reduceLE, Int32.reduceAdd, Int32.reduceSub, Int32.reduceMul, not_true_eq_false, not_false_eq_true, false_implies, true_implies, D_X11_why, mj_F_aload_n_k, mj_F_getfield_i, mj_F_iconst_n, mj_F_ifCond_eq_off, mj_F_if_icmp_ne_off, mj_F_iload_k, mj_F_iload_n_k, mj_F_invokestatic_i, mj_F_invokevirtual_i, mj_F_ireturn, mj_F_istore_k, mj_F_pop, mj_set, mj_set0, mj_unk, mj_c2, mj_kc, FT_X11, L_X11_why, List.take_succ_cons, List.take_zero, List.drop_succ_cons, List.drop_zero, List.reverse_cons, List.reverse_nil, List.length_cons, List.length_nil, gS_C0, gCf11_3, gS_C11, gCf0_9, c_isShire_eq, c_isYear_eq, J_X11_why]
  refine c_X0_labelOf_in (ok_imp (ok_bind hw) ?_)
  intro p hw
  simp only [Option.toList, List.nil_append, List.cons_append, Nat.reduceSub]
  refine mj_run hG.1 (fun pc => pc == 5 || pc == 26 || pc == 52 || pc == 65) 4000 ?_
  simp only [mj_step, mj_W_s, mj_fin, List.getElem?_cons_zero, List.getElem?_cons_succ, mj_go, Nat.reduceAdd, Nat.reduceSub, Nat.reduceLT, Nat.reduceLeDiff, Nat.zero_add, Nat.reduceEqDiff, Nat.reduceBEq, ↓reduceIte, Bool.false_eq_true, List.append_nil, List.nil_append, List.cons_append, Option.toList, and_true, true_and, true_or, or_true, reduceCtorEq, List.map_nil, bI_eq0, bI_eq1, bool_ft, pk_us, vnar0, vnar1, Bool.or_false, Bool.or_true, Bool.false_or, Bool.true_or, mj_kne, eq_self, Int32.reduceLT, Int32.reduceLE, Int32.reduceAdd, Int32.reduceSub, Int32.reduceMul, not_true_eq_false, not_false_eq_true, false_implies, true_implies, D_X11_why, mj_F_aload_n_k, mj_F_getfield_i, mj_F_iconst_n, mj_F_ifCond_eq_off, mj_F_if_icmp_ne_off, mj_F_iload_k, mj_F_iload_n_k, mj_F_invokestatic_i, mj_F_invokevirtual_i, mj_F_ireturn, mj_F_istore_k, mj_F_pop, mj_set, mj_set0, mj_unk, mj_c2, mj_kc, FT_X11, L_X11_why, List.take_succ_cons, List.take_zero, List.drop_succ_cons, List.drop_zero, List.reverse_cons, List.reverse_nil, List.length_cons, List.length_nil, gS_C0, gCf11_3, gS_C11, gCf0_9, c_isShire_eq, c_isYear_eq, J_X11_why]
  refine ⟨fun c => ?_, fun c => ?_⟩
  · replace hw := ok_t hw c
    exact (ok_some hw :)
  · replace hw := ok_f hw c
    refine ⟨fun c => ?_, fun c => ?_⟩
    · replace hw := ok_t hw c
      exact (ok_some hw :)
    · replace hw := ok_f hw c
      refine c_X11_isPast_in (ok_imp (ok_bind hw) ?_)
      intro p hw
      simp only [Option.toList, List.nil_append, List.cons_append, Nat.reduceSub]
      refine mj_run hG.1 (fun pc => pc == 5 || pc == 26 || pc == 52 || pc == 65) 4000 ?_
      simp only [mj_step, mj_W_s, mj_fin, List.getElem?_cons_zero, List.getElem?_cons_succ, mj_go, Nat.reduceAdd, Nat.reduceSub, Nat.reduceLT, Nat.reduceLeDiff, Nat.zero_add, Nat.reduceEqDiff, Nat.reduceBEq, ↓reduceIte, Bool.false_eq_true, List.append_nil, List.nil_append, List.cons_append, Option.toList, and_true, true_and, true_or, or_true, reduceCtorEq, List.map_nil, bI_eq0, bI_eq1, bool_ft, pk_us, vnar0, vnar1, Bool.or_false, Bool.or_true, Bool.false_or, Bool.true_or, mj_kne, eq_self, Int32.reduceLT, Int32.reduceLE, Int32.reduceAdd, Int32.reduceSub, Int32.reduceMul, not_true_eq_false, not_false_eq_true, false_implies, true_implies, D_X11_why, mj_F_aload_n_k, mj_F_getfield_i, mj_F_iconst_n, mj_F_ifCond_eq_off, mj_F_if_icmp_ne_off, mj_F_iload_k, mj_F_iload_n_k, mj_F_invokestatic_i, mj_F_invokevirtual_i, mj_F_ireturn, mj_F_istore_k, mj_F_pop, mj_set, mj_set0, mj_unk, mj_c2, mj_kc, FT_X11, L_X11_why, List.take_succ_cons, List.take_zero, List.drop_succ_cons, List.drop_zero, List.reverse_cons, List.reverse_nil, List.length_cons, List.length_nil, gS_C0, gCf11_3, gS_C11, gCf0_9, c_isShire_eq, c_isYear_eq, J_X11_why]
      refine ⟨fun c => ?_, fun c => ?_⟩
      · replace hw := ok_t hw c
        exact (ok_some hw :)
      · replace hw := ok_f hw c
        refine ⟨fun c => ?_, fun c => ?_⟩
        · replace hw := ok_f hw c
          refine c_X0_spell_in (ok_imp (ok_bind hw) ?_)
          intro p hw
          simp only [Option.toList, List.nil_append, List.cons_append, Nat.reduceSub]
          refine mj_run hG.1 (fun pc => pc == 5 || pc == 26 || pc == 52 || pc == 65) 4000 ?_
          simp only [mj_step, mj_W_s, mj_fin, List.getElem?_cons_zero, List.getElem?_cons_succ, mj_go, Nat.reduceAdd, Nat.reduceSub, Nat.reduceLT, Nat.reduceLeDiff, Nat.zero_add, Nat.reduceEqDiff, Nat.reduceBEq, ↓reduceIte, Bool.false_eq_true, List.append_nil, List.nil_append, List.cons_append, Option.toList, and_true, true_and, true_or, or_true, reduceCtorEq, List.map_nil, bI_eq0, bI_eq1, bool_ft, pk_us, vnar0, vnar1, Bool.or_false, Bool.or_true, Bool.false_or, Bool.true_or, mj_kne, eq_self, Int32.reduceLT, Int32.reduceLE, Int32.reduceAdd, Int32.reduceSub, Int32.reduceMul, not_true_eq_false, not_false_eq_true, false_implies, true_implies, D_X11_why, mj_F_aload_n_k, mj_F_getfield_i, mj_F_iconst_n, mj_F_ifCond_eq_off, mj_F_if_icmp_ne_off, mj_F_iload_k, mj_F_iload_n_k, mj_F_invokestatic_i, mj_F_invokevirtual_i, mj_F_ireturn, mj_F_istore_k, mj_F_pop, mj_set, mj_set0, mj_unk, mj_c2, mj_kc, FT_X11, L_X11_why, List.take_succ_cons, List.take_zero, List.drop_succ_cons, List.drop_zero, List.reverse_cons, List.reverse_nil, List.length_cons, List.length_nil, gS_C0, gCf11_3, gS_C11, gCf0_9, c_isShire_eq, c_isYear_eq, J_X11_why]
          refine c_X0_worthOf_in (ok_imp (ok_bind hw) ?_)
          intro p hw
          simp only [Option.toList, List.nil_append, List.cons_append, Nat.reduceSub]
          refine mj_run hG.1 (fun pc => pc == 5 || pc == 26 || pc == 52 || pc == 65) 4000 ?_
          simp only [mj_step, mj_W_s, mj_fin, List.getElem?_cons_zero, List.getElem?_cons_succ, mj_go, Nat.reduceAdd, Nat.reduceSub, Nat.reduceLT, Nat.reduceLeDiff, Nat.zero_add, Nat.reduceEqDiff, Nat.reduceBEq, ↓reduceIte, Bool.false_eq_true, List.append_nil, List.nil_append, List.cons_append, Option.toList, and_true, true_and, true_or, or_true, reduceCtorEq, List.map_nil, bI_eq0, bI_eq1, bool_ft, pk_us, vnar0, vnar1, Bool.or_false, Bool.or_true, Bool.false_or, Bool.true_or, mj_kne, eq_self, Int32.reduceLT, Int32.reduceLE, Int32.reduceAdd, Int32.reduceSub, Int32.reduceMul, not_true_eq_false, not_false_eq_true, false_implies, true_implies, D_X11_why, mj_F_aload_n_k, mj_F_getfield_i, mj_F_iconst_n, mj_F_ifCond_eq_off, mj_F_if_icmp_ne_off, mj_F_iload_k, mj_F_iload_n_k, mj_F_invokestatic_i, mj_F_invokevirtual_i, mj_F_ireturn, mj_F_istore_k, mj_F_pop, mj_set, mj_set0, mj_unk, mj_c2, mj_kc, FT_X11, L_X11_why, List.take_succ_cons, List.take_zero, List.drop_succ_cons, List.drop_zero, List.reverse_cons, List.reverse_nil, List.length_cons, List.length_nil, gS_C0, gCf11_3, gS_C11, gCf0_9, c_isShire_eq, c_isYear_eq, J_X11_why]
          exact (ok_some hw :)
        · replace hw := ok_t hw c
          exact (ok_some hw :)

def c_X11_why : mj_S := fun as h k => ∃ (v1 : Int32) (v2 : Int32) (v3 : Int32) (v4 : Int32) (v5 : Int32) (v6 : Int32) (v7 : Int32) (v8 : Int32) (s : St), as = [.ref 0, .int v1, .int v2, .int v3, .int v4, .int v5, .int v6, .int v7, .int v8] ∧ h = mkCs s ∧ ok (F_X11_why v1 v2 v3 v4 v5 v6 v7 v8 s) (fun p => k (some (.int p.1)) (mkCs p.2))
theorem c_X11_why_in {v1 : Int32} {v2 : Int32} {v3 : Int32} {v4 : Int32} {v5 : Int32} {v6 : Int32} {v7 : Int32} {v8 : Int32} {s : St} {k : Option Value → mj_H → Prop} (hw : ok (F_X11_why v1 v2 v3 v4 v5 v6 v7 v8 s) (fun p => k (some (.int p.1)) (mkCs p.2))) : c_X11_why [.ref 0, .int v1, .int v2, .int v3, .int v4, .int v5, .int v6, .int v7, .int v8] (mkCs s) k := ⟨v1, v2, v3, v4, v5, v6, v7, v8, s, rfl, rfl, hw⟩
theorem m_X11_why (l : Launch) : mj_Met l yX11_why cX11_why 10 ((some FieldType.int)) 4 0 0 c_X11_why := by
  refine mj_body2 false (TbX11 10 ((some FieldType.int)) ct_X11_why) (by decide) rfl rfl (fun h => nomatch h) (tfX11 _ (List.forall_mem_cons.mpr ⟨cfX11_131 (m_X11_isShire l) (by decide), List.forall_mem_cons.mpr ⟨cfX11_141 (m_X11_isYear l) (by decide), List.forall_mem_cons.mpr ⟨cfX11_148 (m_X11_isPast l) (by decide), List.forall_mem_cons.mpr ⟨cfX11_222 (m_X0_labelOf l) (by decide), List.forall_mem_cons.mpr ⟨cfX11_226 (m_X0_spell l) (by decide), List.forall_mem_cons.mpr ⟨cfX11_229 (m_X0_worthOf l) (by decide), fun _ h => nomatch h⟩⟩⟩⟩⟩⟩)) ?_
  rintro as h k ⟨v1, v2, v3, v4, v5, v6, v7, v8, s, rfl, rfl, hw⟩
  exact ⟨rfl, fun G hG => g_X11_why hG hw⟩
def B_X0_quarrelled_11 (v1 : Int32) (v2 : Int32) (v3 : Int32) : Int32 × St → Option ((Int32 × St) ⊕ ((St) ⊕ (Int32 × St)))
  | (v4, s) =>
  if 7 ≤ v4 then
    some (.inr (.inl s))
  else
    (F_X0_worthOf v4 v1 v2 v3 1 s).bind fun r2 =>
    if (r2.2.1 9) = (-1) then
      (F_X0_worthOf v4 v1 v2 v3 2 r2.2).bind fun r3 =>
      some (.inl ((v4 + 1), r3.2))
    else
      (F_X0_worthOf v4 v1 v2 v3 2 r2.2).bind fun r4 =>
      if (r4.2.1 9) = (-1) then
        some (.inl ((v4 + 1), r4.2))
      else
        if r2.1 = r4.1 then
          some (.inl ((v4 + 1), r4.2))
        else
          some (.inr (.inr (v4, r4.2)))
def F_X0_quarrelled_92 (s : St) : Option (Int32 × St) :=
  some ((-1), s)
def F_X0_quarrelled_79 (v4 : Int32) (s : St) : Option (Int32 × St) :=
  (rs 0 7 v4).bind fun x5 =>
  some (x5, s)
def F_X0_quarrelled_11 (v1 : Int32) (v2 : Int32) (v3 : Int32) (v4 : Int32) (s : St) : Option (Int32 × St) :=
  (lp (B_X0_quarrelled_11 v1 v2 v3) FU (v4, s)).bind (Sum.elim (fun y => F_X0_quarrelled_92 y) (fun y => F_X0_quarrelled_79 y.1 y.2))
def F_X0_quarrelled (v1 : Int32) (v2 : Int32) (v3 : Int32) (s : St) : Option (Int32 × St) :=
  (F_X0_spell 0 0 0 0 s).bind fun s1 =>
  F_X0_quarrelled_11 v1 v2 v3 0 s1
theorem J_X0_quarrelled : mj_t 17 75 = 92 ∧ mj_t 37 7 = 44 ∧ mj_t 41 4 = 45 ∧ mj_t 61 25 = 86 ∧ mj_t 69 17 = 86 ∧ mj_t 76 10 = 86 ∧ mj_t 89 (-78) = 11 ∧ (0 ≤ ((17 : Nat) : Int) + 75) = True ∧ (0 ≤ ((37 : Nat) : Int) + 7) = True ∧ (0 ≤ ((41 : Nat) : Int) + 4) = True ∧ (0 ≤ ((61 : Nat) : Int) + 25) = True ∧ (0 ≤ ((69 : Nat) : Int) + 17) = True ∧ (0 ≤ ((76 : Nat) : Int) + 10) = True ∧ (0 ≤ ((89 : Nat) : Int) + (-78)) = True := by and_intros <;> first | rfl | exact eq_true (by decide)
def ct_X0_quarrelled : List (Nat × mj_Cs) := [(85, 0, 5, 0, 0, 0, c_X0_spell), (89, 0, 6, 0, 0, 0, c_X0_worthOf)]
theorem L_X0_quarrelled : mj_lk ct_X0_quarrelled 85 = some (0, 5, 0, 0, 0, c_X0_spell) ∧ mj_lk ct_X0_quarrelled 89 = some (0, 6, 0, 0, 0, c_X0_worthOf) := ⟨rfl, rfl⟩
set_option maxHeartbeats 4000000 in
set_option maxRecDepth 20000 in
theorem b_X0_quarrelled_11 {k : Option Value → mj_H → Prop} {G : mj_K} (hG : mj_cl2 cX0_quarrelled (TbX0 8 ((some FieldType.int)) ct_X0_quarrelled) k G) {v1 : Int32} {v2 : Int32} {v3 : Int32} {P : Int32 × St → Prop} {K : (St) ⊕ (Int32 × St) → Prop} (hP : ∀ x, P x → G 11 [.ref 11, .int v1, .int v2, .int v3, .int x.1] [] (mkCs x.2) 0 0) (hK0 : ∀ y, K (.inl y) → G 92 [] [] (mkCs y) 0 0) (hK1 : ∀ y, K (.inr y) → G 79 [mj_unk, mj_unk, mj_unk, mj_unk, .int y.1] [] (mkCs y.2) 0 0) {v4 : Int32} {s : St} (hw : ok (B_X0_quarrelled_11 v1 v2 v3 (v4, s)) (Sum.elim P K)) : G 11 [.ref 11, .int v1, .int v2, .int v3, .int v4] [] (mkCs s) 0 0 := by
  unfold B_X0_quarrelled_11 at hw
  refine mj_run hG.1 (fun pc => pc == 8 || pc == 11 || pc == 30 || pc == 57 || pc == 79 || pc == 92) 4000 ?_
  simp only [mj_step, mj_W_s, mj_fin, List.getElem?_cons_zero, List.getElem?_cons_succ, mj_go, Nat.reduceAdd, Nat.reduceSub, Nat.reduceLT, Nat.reduceLeDiff, Nat.zero_add, Nat.reduceEqDiff, Nat.reduceBEq, ↓reduceIte, Bool.false_eq_true, List.append_nil, List.nil_append, List.cons_append, Option.toList, and_true, true_and, true_or, or_true, reduceCtorEq, List.map_nil, bI_eq0, bI_eq1, bool_ft, pk_us, vnar0, vnar1, Bool.or_false, Bool.or_true, Bool.false_or, Bool.true_or, mj_kne, eq_self, Int32.reduceLT, Int32.reduceLE, Int32.reduceAdd, Int32.reduceSub, Int32.reduceMul, not_true_eq_false, not_false_eq_true, false_implies, true_implies, D_X0_quarrelled_0, D_X0_quarrelled_1, mj_F_aload_n_k, mj_F_arraylength, mj_F_getfield_i, mj_F_getstatic_i, mj_F_goto_off, mj_F_iaload, mj_F_iconst_n, mj_F_ifCond_eq_off, mj_F_if_icmp_eq_off, mj_F_if_icmp_ge_off, mj_F_iinc_k_n, mj_F_iload_k, mj_F_iload_n_k, mj_F_invokevirtual_i, mj_F_ireturn, mj_F_istore_k, mj_set, mj_set0, mj_unk, mj_c2, mj_kc, FT_X0, glX0, mj_st0, mj_st1, mj_st2, L_X0_quarrelled, mj_lk_hit, mj_lk_miss, List.take_succ_cons, List.take_zero, List.drop_succ_cons, List.drop_zero, List.reverse_cons, List.reverse_nil, List.length_cons, List.length_nil, gS_C11, gCf0_9, mj_nk, mj_isA, J_X0_quarrelled]
  refine ⟨fun c => ?_, fun c => ?_⟩
  · replace hw := ok_t hw c
    exact hG.2 _ _ _ _ _ _ _ _ _ (by exact trivial) (Nat.zero_le _) (Nat.zero_le _) (hK0 _ (ok_some hw :) :)
  · replace hw := ok_f hw c
    refine c_X0_worthOf_in (ok_imp (ok_bind hw) ?_)
    intro p hw
    simp only [Option.toList, List.nil_append, List.cons_append, Nat.reduceSub]
    refine mj_run hG.1 (fun pc => pc == 8 || pc == 11 || pc == 30 || pc == 57 || pc == 79 || pc == 92) 4000 ?_
    simp only [mj_step, mj_W_s, mj_fin, List.getElem?_cons_zero, List.getElem?_cons_succ, mj_go, Nat.reduceAdd, Nat.reduceSub, Nat.reduceLT, Nat.reduceLeDiff, Nat.zero_add, Nat.reduceEqDiff, Nat.reduceBEq, ↓reduceIte, Bool.false_eq_true, List.append_nil, List.nil_append, List.cons_append, Option.toList, and_true, true_and, true_or, or_true, reduceCtorEq, List.map_nil, bI_eq0, bI_eq1, bool_ft, pk_us, vnar0, vnar1, Bool.or_false, Bool.or_true, Bool.false_or, Bool.true_or, mj_kne, eq_self, Int32.reduceLT, Int32.reduceLE, Int32.reduceAdd, Int32.reduceSub, Int32.reduceMul, not_true_eq_false, not_false_eq_true, false_implies, true_implies, D_X0_quarrelled_0, D_X0_quarrelled_1, mj_F_aload_n_k, mj_F_arraylength, mj_F_getfield_i, mj_F_getstatic_i, mj_F_goto_off, mj_F_iaload, mj_F_iconst_n, mj_F_ifCond_eq_off, mj_F_if_icmp_eq_off, mj_F_if_icmp_ge_off, mj_F_iinc_k_n, mj_F_iload_k, mj_F_iload_n_k, mj_F_invokevirtual_i, mj_F_ireturn, mj_F_istore_k, mj_set, mj_set0, mj_unk, mj_c2, mj_kc, FT_X0, glX0, mj_st0, mj_st1, mj_st2, L_X0_quarrelled, mj_lk_hit, mj_lk_miss, List.take_succ_cons, List.take_zero, List.drop_succ_cons, List.drop_zero, List.reverse_cons, List.reverse_nil, List.length_cons, List.length_nil, gS_C11, gCf0_9, mj_nk, mj_isA, J_X0_quarrelled]
    refine ⟨fun c => ?_, fun c => ?_⟩
    · replace hw := ok_t hw c
      refine c_X0_worthOf_in (ok_imp (ok_bind hw) ?_)
      intro p hw
      simp only [Option.toList, List.nil_append, List.cons_append, Nat.reduceSub]
      refine mj_run hG.1 (fun pc => pc == 8 || pc == 11 || pc == 30 || pc == 57 || pc == 79 || pc == 92) 4000 ?_
      simp only [mj_step, mj_W_s, mj_fin, List.getElem?_cons_zero, List.getElem?_cons_succ, mj_go, Nat.reduceAdd, Nat.reduceSub, Nat.reduceLT, Nat.reduceLeDiff, Nat.zero_add, Nat.reduceEqDiff, Nat.reduceBEq, ↓reduceIte, Bool.false_eq_true, List.append_nil, List.nil_append, List.cons_append, Option.toList, and_true, true_and, true_or, or_true, reduceCtorEq, List.map_nil, bI_eq0, bI_eq1, bool_ft, pk_us, vnar0, vnar1, Bool.or_false, Bool.or_true, Bool.false_or, Bool.true_or, mj_kne, eq_self, Int32.reduceLT, Int32.reduceLE, Int32.reduceAdd, Int32.reduceSub, Int32.reduceMul, not_true_eq_false, not_false_eq_true, false_implies, true_implies, D_X0_quarrelled_0, D_X0_quarrelled_1, mj_F_aload_n_k, mj_F_arraylength, mj_F_getfield_i, mj_F_getstatic_i, mj_F_goto_off, mj_F_iaload, mj_F_iconst_n, mj_F_ifCond_eq_off, mj_F_if_icmp_eq_off, mj_F_if_icmp_ge_off, mj_F_iinc_k_n, mj_F_iload_k, mj_F_iload_n_k, mj_F_invokevirtual_i, mj_F_ireturn, mj_F_istore_k, mj_set, mj_set0, mj_unk, mj_c2, mj_kc, FT_X0, glX0, mj_st0, mj_st1, mj_st2, L_X0_quarrelled, mj_lk_hit, mj_lk_miss, List.take_succ_cons, List.take_zero, List.drop_succ_cons, List.drop_zero, List.reverse_cons, List.reverse_nil, List.length_cons, List.length_nil, gS_C11, gCf0_9, mj_nk, mj_isA, J_X0_quarrelled]
      exact hG.2 _ _ _ _ _ _ _ _ _ (by refine ⟨Or.inr rfl, ?_⟩; refine ⟨Or.inr rfl, ?_⟩; refine ⟨Or.inr rfl, ?_⟩; refine ⟨Or.inr rfl, ?_⟩; refine ⟨Or.inr rfl, ?_⟩; exact trivial) (Nat.zero_le _) (Nat.zero_le _) (hP _ (ok_some hw :) :)
    · replace hw := ok_f hw c
      refine c_X0_worthOf_in (ok_imp (ok_bind hw) ?_)
      intro p hw
      simp only [Option.toList, List.nil_append, List.cons_append, Nat.reduceSub]
      refine mj_run hG.1 (fun pc => pc == 8 || pc == 11 || pc == 30 || pc == 57 || pc == 79 || pc == 92) 4000 ?_
      simp only [mj_step, mj_W_s, mj_fin, List.getElem?_cons_zero, List.getElem?_cons_succ, mj_go, Nat.reduceAdd, Nat.reduceSub, Nat.reduceLT, Nat.reduceLeDiff, Nat.zero_add, Nat.reduceEqDiff, Nat.reduceBEq, ↓reduceIte, Bool.false_eq_true, List.append_nil, List.nil_append, List.cons_append, Option.toList, and_true, true_and, true_or, or_true, reduceCtorEq, List.map_nil, bI_eq0, bI_eq1, bool_ft, pk_us, vnar0, vnar1, Bool.or_false, Bool.or_true, Bool.false_or, Bool.true_or, mj_kne, eq_self, Int32.reduceLT, Int32.reduceLE, Int32.reduceAdd, Int32.reduceSub, Int32.reduceMul, not_true_eq_false, not_false_eq_true, false_implies, true_implies, D_X0_quarrelled_0, D_X0_quarrelled_1, mj_F_aload_n_k, mj_F_arraylength, mj_F_getfield_i, mj_F_getstatic_i, mj_F_goto_off, mj_F_iaload, mj_F_iconst_n, mj_F_ifCond_eq_off, mj_F_if_icmp_eq_off, mj_F_if_icmp_ge_off, mj_F_iinc_k_n, mj_F_iload_k, mj_F_iload_n_k, mj_F_invokevirtual_i, mj_F_ireturn, mj_F_istore_k, mj_set, mj_set0, mj_unk, mj_c2, mj_kc, FT_X0, glX0, mj_st0, mj_st1, mj_st2, L_X0_quarrelled, mj_lk_hit, mj_lk_miss, List.take_succ_cons, List.take_zero, List.drop_succ_cons, List.drop_zero, List.reverse_cons, List.reverse_nil, List.length_cons, List.length_nil, gS_C11, gCf0_9, mj_nk, mj_isA, J_X0_quarrelled]
      refine ⟨fun c => ?_, fun c => ?_⟩
      · replace hw := ok_t hw c
        exact hG.2 _ _ _ _ _ _ _ _ _ (by refine ⟨Or.inr rfl, ?_⟩; refine ⟨Or.inr rfl, ?_⟩; refine ⟨Or.inr rfl, ?_⟩; refine ⟨Or.inr rfl, ?_⟩; refine ⟨Or.inr rfl, ?_⟩; exact trivial) (Nat.zero_le _) (Nat.zero_le _) (hP _ (ok_some hw :) :)
      · replace hw := ok_f hw c
        refine ⟨fun c => ?_, fun c => ?_⟩
        · replace hw := ok_t hw c
          exact hG.2 _ _ _ _ _ _ _ _ _ (by refine ⟨Or.inr rfl, ?_⟩; refine ⟨Or.inr rfl, ?_⟩; refine ⟨Or.inr rfl, ?_⟩; refine ⟨Or.inr rfl, ?_⟩; refine ⟨Or.inr rfl, ?_⟩; exact trivial) (Nat.zero_le _) (Nat.zero_le _) (hP _ (ok_some hw :) :)
        · replace hw := ok_f hw c
          exact hG.2 _ _ _ _ _ _ _ _ _ (by refine ⟨Or.inl rfl, ?_⟩; refine ⟨Or.inl rfl, ?_⟩; refine ⟨Or.inl rfl, ?_⟩; refine ⟨Or.inl rfl, ?_⟩; refine ⟨Or.inr rfl, ?_⟩; exact trivial) (Nat.zero_le _) (Nat.zero_le _) (hK1 _ (ok_some hw :) :)

set_option maxHeartbeats 4000000 in
set_option maxRecDepth 20000 in
theorem g_X0_quarrelled_92 {k : Option Value → mj_H → Prop} {G : mj_K} (hG : mj_cl2 cX0_quarrelled (TbX0 8 ((some FieldType.int)) ct_X0_quarrelled) k G)   {s : St} (hw : ok (F_X0_quarrelled_92 s) (fun p => k (some (.int p.1)) (mkCs p.2))) : G 92 [] [] (mkCs s) 0 0 := by
  unfold F_X0_quarrelled_92 at hw
  refine mj_run hG.1 (fun pc => pc == 8 || pc == 11 || pc == 30 || pc == 57 || pc == 79 || pc == 92) 4000 ?_
  simp only [mj_step, mj_W_s, mj_fin, List.getElem?_cons_zero, List.getElem?_cons_succ, mj_go, Nat.reduceAdd, Nat.reduceSub, Nat.reduceLT, Nat.reduceLeDiff, Nat.zero_add, Nat.reduceEqDiff, Nat.reduceBEq, ↓reduceIte, Bool.false_eq_true, List.append_nil, List.nil_append, List.cons_append, Option.toList, and_true, true_and, true_or, or_true, reduceCtorEq, List.map_nil, bI_eq0, bI_eq1, bool_ft, pk_us, vnar0, vnar1, Bool.or_false, Bool.or_true, Bool.false_or, Bool.true_or, mj_kne, eq_self, Int32.reduceLT, Int32.reduceLE, Int32.reduceAdd, Int32.reduceSub, Int32.reduceMul, not_true_eq_false, not_false_eq_true, false_implies, true_implies, D_X0_quarrelled_0, D_X0_quarrelled_1, mj_F_aload_n_k, mj_F_arraylength, mj_F_getfield_i, mj_F_getstatic_i, mj_F_goto_off, mj_F_iaload, mj_F_iconst_n, mj_F_ifCond_eq_off, mj_F_if_icmp_eq_off, mj_F_if_icmp_ge_off, mj_F_iinc_k_n, mj_F_iload_k, mj_F_iload_n_k, mj_F_invokevirtual_i, mj_F_ireturn, mj_F_istore_k, mj_set, mj_set0, mj_unk, mj_c2, mj_kc, FT_X0, glX0, mj_st0, mj_st1, mj_st2, L_X0_quarrelled, mj_lk_hit, mj_lk_miss, List.take_succ_cons, List.take_zero, List.drop_succ_cons, List.drop_zero, List.reverse_cons, List.reverse_nil, List.length_cons, List.length_nil, gS_C11, gCf0_9, mj_nk, mj_isA, J_X0_quarrelled]
  exact (ok_some hw :)

set_option maxHeartbeats 4000000 in
set_option maxRecDepth 20000 in
theorem g_X0_quarrelled_79 {k : Option Value → mj_H → Prop} {G : mj_K} (hG : mj_cl2 cX0_quarrelled (TbX0 8 ((some FieldType.int)) ct_X0_quarrelled) k G)   {v4 : Int32} {s : St} (hw : ok (F_X0_quarrelled_79 v4 s) (fun p => k (some (.int p.1)) (mkCs p.2))) : G 79 [mj_unk, mj_unk, mj_unk, mj_unk, .int v4] [] (mkCs s) 0 0 := by
  unfold F_X0_quarrelled_79 at hw
  refine mj_run hG.1 (fun pc => pc == 8 || pc == 11 || pc == 30 || pc == 57 || pc == 79 || pc == 92) 4000 ?_
  simp only [mj_step, mj_W_s, mj_fin, List.getElem?_cons_zero, List.getElem?_cons_succ, mj_go, Nat.reduceAdd, Nat.reduceSub, Nat.reduceLT, Nat.reduceLeDiff, Nat.zero_add, Nat.reduceEqDiff, Nat.reduceBEq, ↓reduceIte, Bool.false_eq_true, List.append_nil, List.nil_append, List.cons_append, Option.toList, and_true, true_and, true_or, or_true, reduceCtorEq, List.map_nil, bI_eq0, bI_eq1, bool_ft, pk_us, vnar0, vnar1, Bool.or_false, Bool.or_true, Bool.false_or, Bool.true_or, mj_kne, eq_self, Int32.reduceLT, Int32.reduceLE, Int32.reduceAdd, Int32.reduceSub, Int32.reduceMul, not_true_eq_false, not_false_eq_true, false_implies, true_implies, D_X0_quarrelled_0, D_X0_quarrelled_1, mj_F_aload_n_k, mj_F_arraylength, mj_F_getfield_i, mj_F_getstatic_i, mj_F_goto_off, mj_F_iaload, mj_F_iconst_n, mj_F_ifCond_eq_off, mj_F_if_icmp_eq_off, mj_F_if_icmp_ge_off, mj_F_iinc_k_n, mj_F_iload_k, mj_F_iload_n_k, mj_F_invokevirtual_i, mj_F_ireturn, mj_F_istore_k, mj_set, mj_set0, mj_unk, mj_c2, mj_kc, FT_X0, glX0, mj_st0, mj_st1, mj_st2, L_X0_quarrelled, mj_lk_hit, mj_lk_miss, List.take_succ_cons, List.take_zero, List.drop_succ_cons, List.drop_zero, List.reverse_cons, List.reverse_nil, List.length_cons, List.length_nil, gS_C11, gCf0_9, mj_nk, mj_isA, J_X0_quarrelled]
  refine ⟨(ok_rs hw).1, ?_⟩
  replace hw := (ok_rs hw).2
  exact (ok_some hw :)

set_option maxHeartbeats 4000000 in
theorem g_X0_quarrelled_11 {k : Option Value → mj_H → Prop} {G : mj_K} (hG : mj_cl2 cX0_quarrelled (TbX0 8 ((some FieldType.int)) ct_X0_quarrelled) k G)   {v1 : Int32} {v2 : Int32} {v3 : Int32} {v4 : Int32} {s : St} (hw : ok (F_X0_quarrelled_11 v1 v2 v3 v4 s) (fun p => k (some (.int p.1)) (mkCs p.2))) : G 11 [.ref 11, .int v1, .int v2, .int v3, .int v4] [] (mkCs s) 0 0 := by
  unfold F_X0_quarrelled_11 at hw
  refine lp_ok (B_X0_quarrelled_11 v1 v2 v3) (fun x => G 11 [.ref 11, .int v1, .int v2, .int v3, .int x.1] [] (mkCs x.2) 0 0) _ ?_ _ _ (ok_bind hw)
  rintro ⟨v4, s⟩ hb
  exact b_X0_quarrelled_11 hG (fun _ z => z) (fun y hw => by exact hG.2 _ _ _ _ _ _ _ _ _ (by exact trivial) (Nat.zero_le _) (Nat.zero_le _) (g_X0_quarrelled_92 hG  hw :)) (fun y hw => by exact hG.2 _ _ _ _ _ _ _ _ _ (by refine ⟨Or.inl rfl, ?_⟩; refine ⟨Or.inl rfl, ?_⟩; refine ⟨Or.inl rfl, ?_⟩; refine ⟨Or.inl rfl, ?_⟩; refine ⟨Or.inr rfl, ?_⟩; exact trivial) (Nat.zero_le _) (Nat.zero_le _) (g_X0_quarrelled_79 hG  hw :)) hb

set_option maxHeartbeats 4000000 in
set_option maxRecDepth 20000 in
theorem g_X0_quarrelled {k : Option Value → mj_H → Prop} {G : mj_K} (hG : mj_cl2 cX0_quarrelled (TbX0 8 ((some FieldType.int)) ct_X0_quarrelled) k G) {v1 : Int32} {v2 : Int32} {v3 : Int32} {s : St} (hw : ok (F_X0_quarrelled v1 v2 v3 s) (fun p => k (some (.int p.1)) (mkCs p.2))) : G 0 [.ref 11, .int v1, .int v2, .int v3] [] (mkCs s) 0 0 := by
  unfold F_X0_quarrelled at hw
  refine mj_run hG.1 (fun pc => pc == 8 || pc == 11 || pc == 30 || pc == 57 || pc == 79 || pc == 92) 4000 ?_
  simp only [mj_step, mj_W_s, mj_fin, List.getElem?_cons_zero, List.getElem?_cons_succ, mj_go, Nat.reduceAdd, Nat.reduceSub, Nat.reduceLT, Nat.reduceLeDiff, Nat.zero_add, Nat.reduceEqDiff, Nat.reduceBEq, ↓reduceIte, Bool.false_eq_true, List.append_nil, List.nil_append, List.cons_append, Option.toList, and_true, true_and, true_or, or_true, reduceCtorEq, List.map_nil, bI_eq0, bI_eq1, bool_ft, pk_us, vnar0, vnar1, Bool.or_false, Bool.or_true, Bool.false_or, Bool.true_or, mj_kne, eq_self, Int32.reduceLT, Int32.reduceLE, Int32.reduceAdd, Int32.reduceSub, Int32.reduceMul, not_true_eq_false, not_false_eq_true, false_implies, true_implies, D_X0_quarrelled_0, D_X0_quarrelled_1, mj_F_aload_n_k, mj_F_arraylength, mj_F_getfield_i, mj_F_getstatic_i, mj_F_goto_off, mj_F_iaload, mj_F_iconst_n, mj_F_ifCond_eq_off, mj_F_if_icmp_eq_off, mj_F_if_icmp_ge_off, mj_F_iinc_k_n, mj_F_iload_k, mj_F_iload_n_k, mj_F_invokevirtual_i, mj_F_ireturn, mj_F_istore_k, mj_set, mj_set0, mj_unk, mj_c2, mj_kc, FT_X0, glX0, mj_st0, mj_st1, mj_st2, L_X0_quarrelled, mj_lk_hit, mj_lk_miss, List.take_succ_cons, List.take_zero, List.drop_succ_cons, List.drop_zero, List.reverse_cons, List.reverse_nil, List.length_cons, List.length_nil, gS_C11, gCf0_9, mj_nk, mj_isA, J_X0_quarrelled]
  refine c_X0_spell_in (ok_imp (ok_bind hw) ?_)
  intro p hw
  simp only [Option.toList, List.nil_append, List.cons_append, Nat.reduceSub]
  refine mj_run hG.1 (fun pc => pc == 8 || pc == 11 || pc == 30 || pc == 57 || pc == 79 || pc == 92) 4000 ?_
  simp only [mj_step, mj_W_s, mj_fin, List.getElem?_cons_zero, List.getElem?_cons_succ, mj_go, Nat.reduceAdd, Nat.reduceSub, Nat.reduceLT, Nat.reduceLeDiff, Nat.zero_add, Nat.reduceEqDiff, Nat.reduceBEq, ↓reduceIte, Bool.false_eq_true, List.append_nil, List.nil_append, List.cons_append, Option.toList, and_true, true_and, true_or, or_true, reduceCtorEq, List.map_nil, bI_eq0, bI_eq1, bool_ft, pk_us, vnar0, vnar1, Bool.or_false, Bool.or_true, Bool.false_or, Bool.true_or, mj_kne, eq_self, Int32.reduceLT, Int32.reduceLE, Int32.reduceAdd, Int32.reduceSub, Int32.reduceMul, not_true_eq_false, not_false_eq_true, false_implies, true_implies, D_X0_quarrelled_0, D_X0_quarrelled_1, mj_F_aload_n_k, mj_F_arraylength, mj_F_getfield_i, mj_F_getstatic_i, mj_F_goto_off, mj_F_iaload, mj_F_iconst_n, mj_F_ifCond_eq_off, mj_F_if_icmp_eq_off, mj_F_if_icmp_ge_off, mj_F_iinc_k_n, mj_F_iload_k, mj_F_iload_n_k, mj_F_invokevirtual_i, mj_F_ireturn, mj_F_istore_k, mj_set, mj_set0, mj_unk, mj_c2, mj_kc, FT_X0, glX0, mj_st0, mj_st1, mj_st2, L_X0_quarrelled, mj_lk_hit, mj_lk_miss, List.take_succ_cons, List.take_zero, List.drop_succ_cons, List.drop_zero, List.reverse_cons, List.reverse_nil, List.length_cons, List.length_nil, gS_C11, gCf0_9, mj_nk, mj_isA, J_X0_quarrelled]
  exact hG.2 _ _ _ _ _ _ _ _ _ (by refine ⟨Or.inr rfl, ?_⟩; refine ⟨Or.inr rfl, ?_⟩; refine ⟨Or.inr rfl, ?_⟩; refine ⟨Or.inr rfl, ?_⟩; refine ⟨Or.inr rfl, ?_⟩; exact trivial) (Nat.zero_le _) (Nat.zero_le _) (g_X0_quarrelled_11 hG  hw :)

def c_X0_quarrelled : mj_S := fun as h k => ∃ (v1 : Int32) (v2 : Int32) (v3 : Int32) (s : St), as = [.ref 11, .int v1, .int v2, .int v3] ∧ h = mkCs s ∧ ok (F_X0_quarrelled v1 v2 v3 s) (fun p => k (some (.int p.1)) (mkCs p.2))
theorem c_X0_quarrelled_in {v1 : Int32} {v2 : Int32} {v3 : Int32} {s : St} {k : Option Value → mj_H → Prop} (hw : ok (F_X0_quarrelled v1 v2 v3 s) (fun p => k (some (.int p.1)) (mkCs p.2))) : c_X0_quarrelled [.ref 11, .int v1, .int v2, .int v3] (mkCs s) k := ⟨v1, v2, v3, s, rfl, rfl, hw⟩
theorem m_X0_quarrelled (l : Launch) : mj_Met l yX0_quarrelled cX0_quarrelled 8 ((some FieldType.int)) 4 0 0 c_X0_quarrelled := by
  refine mj_body2 false (TbX0 8 ((some FieldType.int)) ct_X0_quarrelled) (by decide) rfl rfl (fun h => nomatch h) (tfX0 _ (List.forall_mem_cons.mpr ⟨cfX0_85 (m_X0_spell l) (by decide), List.forall_mem_cons.mpr ⟨cfX0_89 (m_X0_worthOf l) (by decide), fun _ h => nomatch h⟩⟩)) ?_
  rintro as h k ⟨v1, v2, v3, s, rfl, rfl, hw⟩
  exact ⟨rfl, fun G hG => g_X0_quarrelled hG hw⟩
def F_X11_quarrel (v1 : Int32) (v2 : Int32) (v3 : Int32) (s : St) : Option (Int32 × St) :=
  if inb v1 0 3 = false then
    some ((-1), s)
  else
    if inb v2 0 11 = false then
      some ((-1), s)
    else
      (F_X11_isPast v3 s).bind fun r1 =>
      if r1 = 0 then
        some ((-1), s)
      else
        (F_X0_quarrelled v1 v2 v3 s).bind fun r2 =>
        some (r2.1, r2.2)
theorem J_X11_quarrel : mj_t 4 18 = 22 ∧ mj_t 11 11 = 22 ∧ mj_t 19 5 = 24 ∧ (0 ≤ ((4 : Nat) : Int) + 18) = True ∧ (0 ≤ ((11 : Nat) : Int) + 11) = True ∧ (0 ≤ ((19 : Nat) : Int) + 5) = True := by and_intros <;> first | rfl | exact eq_true (by decide)
def ct_X11_quarrel : List (Nat × mj_Cs) := [(131, 2, 1, 11, 0, 0, c_isShire), (141, 2, 1, 11, 0, 0, c_isYear), (148, 0, 2, 11, 0, 0, c_X11_isPast), (236, 0, 4, 0, 0, 0, c_X0_quarrelled)]
theorem L_X11_quarrel : mj_lk ct_X11_quarrel 131 = some (2, 1, 11, 0, 0, c_isShire) ∧ mj_lk ct_X11_quarrel 141 = some (2, 1, 11, 0, 0, c_isYear) ∧ mj_lk ct_X11_quarrel 148 = some (0, 2, 11, 0, 0, c_X11_isPast) ∧ mj_lk ct_X11_quarrel 236 = some (0, 4, 0, 0, 0, c_X0_quarrelled) := ⟨rfl, rfl, rfl, rfl⟩
set_option maxHeartbeats 4000000 in
set_option maxRecDepth 20000 in
theorem g_X11_quarrel {k : Option Value → mj_H → Prop} {G : mj_K} (hG : mj_cl2 cX11_quarrel (TbX11 4 ((some FieldType.int)) ct_X11_quarrel) k G) {v1 : Int32} {v2 : Int32} {v3 : Int32} {s : St} (hw : ok (F_X11_quarrel v1 v2 v3 s) (fun p => k (some (.int p.1)) (mkCs p.2))) : G 0 [.ref 0, .int v1, .int v2, .int v3] [] (mkCs s) 0 0 := by
  unfold F_X11_quarrel at hw
  refine mj_run hG.1 (fun pc => pc == 19 || pc == 34) 4000 ?_
  simp only [mj_step, mj_W_s, mj_fin, List.getElem?_cons_zero, List.getElem?_cons_succ, mj_go, Nat.reduceAdd, Nat.reduceSub, Nat.reduceLT, Nat.reduceLeDiff, Nat.zero_add, Nat.reduceEqDiff, Nat.reduceBEq, ↓reduceIte, Bool.false_eq_true, List.append_nil, List.nil_append, List.cons_append, Option.toList, and_true, true_and, true_or, or_true, reduceCtorEq, List.map_nil, bI_eq0, bI_eq1, bool_ft, pk_us, vnar0, vnar1, Bool.or_false, Bool.or_true, Bool.false_or, Bool.true_or, mj_kne, eq_self, Int32.reduceLT, Int32.reduceLE, Int32.reduceAdd, Int32.reduceSub, Int32.reduceMul, not_true_eq_false, not_false_eq_true, false_implies, true_implies, D_X11_quarrel, mj_F_aload_n_k, mj_F_getfield_i, mj_F_iconst_n, mj_F_ifCond_eq_off, mj_F_ifCond_ne_off, mj_F_iload_n_k, mj_F_invokestatic_i, mj_F_invokevirtual_i, mj_F_ireturn, mj_kc, FT_X11, L_X11_quarrel, List.take_succ_cons, List.take_zero, List.drop_succ_cons, List.drop_zero, List.reverse_cons, List.reverse_nil, List.length_cons, List.length_nil, gS_C0, gCf11_3, c_isShire_eq, c_isYear_eq, gS_C11, J_X11_quarrel]
  refine ⟨fun c => ?_, fun c => ?_⟩
  · replace hw := ok_t hw c
    exact (ok_some hw :)
  · replace hw := ok_f hw c
    refine ⟨fun c => ?_, fun c => ?_⟩
    · replace hw := ok_t hw c
      exact (ok_some hw :)
    · replace hw := ok_f hw c
      refine c_X11_isPast_in (ok_imp (ok_bind hw) ?_)
      intro p hw
      simp only [Option.toList, List.nil_append, List.cons_append, Nat.reduceSub]
      refine mj_run hG.1 (fun pc => pc == 19 || pc == 34) 4000 ?_
      simp only [mj_step, mj_W_s, mj_fin, List.getElem?_cons_zero, List.getElem?_cons_succ, mj_go, Nat.reduceAdd, Nat.reduceSub, Nat.reduceLT, Nat.reduceLeDiff, Nat.zero_add, Nat.reduceEqDiff, Nat.reduceBEq, ↓reduceIte, Bool.false_eq_true, List.append_nil, List.nil_append, List.cons_append, Option.toList, and_true, true_and, true_or, or_true, reduceCtorEq, List.map_nil, bI_eq0, bI_eq1, bool_ft, pk_us, vnar0, vnar1, Bool.or_false, Bool.or_true, Bool.false_or, Bool.true_or, mj_kne, eq_self, Int32.reduceLT, Int32.reduceLE, Int32.reduceAdd, Int32.reduceSub, Int32.reduceMul, not_true_eq_false, not_false_eq_true, false_implies, true_implies, D_X11_quarrel, mj_F_aload_n_k, mj_F_getfield_i, mj_F_iconst_n, mj_F_ifCond_eq_off, mj_F_ifCond_ne_off, mj_F_iload_n_k, mj_F_invokestatic_i, mj_F_invokevirtual_i, mj_F_ireturn, mj_kc, FT_X11, L_X11_quarrel, List.take_succ_cons, List.take_zero, List.drop_succ_cons, List.drop_zero, List.reverse_cons, List.reverse_nil, List.length_cons, List.length_nil, gS_C0, gCf11_3, c_isShire_eq, c_isYear_eq, gS_C11, J_X11_quarrel]
      refine ⟨fun c => ?_, fun c => ?_⟩
      · replace hw := ok_f hw c
        refine c_X0_quarrelled_in (ok_imp (ok_bind hw) ?_)
        intro p hw
        simp only [Option.toList, List.nil_append, List.cons_append, Nat.reduceSub]
        refine mj_run hG.1 (fun pc => pc == 19 || pc == 34) 4000 ?_
        simp only [mj_step, mj_W_s, mj_fin, List.getElem?_cons_zero, List.getElem?_cons_succ, mj_go, Nat.reduceAdd, Nat.reduceSub, Nat.reduceLT, Nat.reduceLeDiff, Nat.zero_add, Nat.reduceEqDiff, Nat.reduceBEq, ↓reduceIte, Bool.false_eq_true, List.append_nil, List.nil_append, List.cons_append, Option.toList, and_true, true_and, true_or, or_true, reduceCtorEq, List.map_nil, bI_eq0, bI_eq1, bool_ft, pk_us, vnar0, vnar1, Bool.or_false, Bool.or_true, Bool.false_or, Bool.true_or, mj_kne, eq_self, Int32.reduceLT, Int32.reduceLE, Int32.reduceAdd, Int32.reduceSub, Int32.reduceMul, not_true_eq_false, not_false_eq_true, false_implies, true_implies, D_X11_quarrel, mj_F_aload_n_k, mj_F_getfield_i, mj_F_iconst_n, mj_F_ifCond_eq_off, mj_F_ifCond_ne_off, mj_F_iload_n_k, mj_F_invokestatic_i, mj_F_invokevirtual_i, mj_F_ireturn, mj_kc, FT_X11, L_X11_quarrel, List.take_succ_cons, List.take_zero, List.drop_succ_cons, List.drop_zero, List.reverse_cons, List.reverse_nil, List.length_cons, List.length_nil, gS_C0, gCf11_3, c_isShire_eq, c_isYear_eq, gS_C11, J_X11_quarrel]
        exact (ok_some hw :)
      · replace hw := ok_t hw c
        exact (ok_some hw :)

def c_X11_quarrel : mj_S := fun as h k => ∃ (v1 : Int32) (v2 : Int32) (v3 : Int32) (s : St), as = [.ref 0, .int v1, .int v2, .int v3] ∧ h = mkCs s ∧ ok (F_X11_quarrel v1 v2 v3 s) (fun p => k (some (.int p.1)) (mkCs p.2))
theorem c_X11_quarrel_in {v1 : Int32} {v2 : Int32} {v3 : Int32} {s : St} {k : Option Value → mj_H → Prop} (hw : ok (F_X11_quarrel v1 v2 v3 s) (fun p => k (some (.int p.1)) (mkCs p.2))) : c_X11_quarrel [.ref 0, .int v1, .int v2, .int v3] (mkCs s) k := ⟨v1, v2, v3, s, rfl, rfl, hw⟩
theorem m_X11_quarrel (l : Launch) : mj_Met l yX11_quarrel cX11_quarrel 4 ((some FieldType.int)) 5 0 0 c_X11_quarrel := by
  refine mj_body2 false (TbX11 4 ((some FieldType.int)) ct_X11_quarrel) (by decide) rfl rfl (fun h => nomatch h) (tfX11 _ (List.forall_mem_cons.mpr ⟨cfX11_131 (m_X11_isShire l) (by decide), List.forall_mem_cons.mpr ⟨cfX11_141 (m_X11_isYear l) (by decide), List.forall_mem_cons.mpr ⟨cfX11_148 (m_X11_isPast l) (by decide), List.forall_mem_cons.mpr ⟨cfX11_236 (m_X0_quarrelled l) (by decide), fun _ h => nomatch h⟩⟩⟩⟩)) ?_
  rintro as h k ⟨v1, v2, v3, s, rfl, rfl, hw⟩
  exact ⟨rfl, fun G hG => g_X11_quarrel hG hw⟩
def F_X5_classesOf (v1 : Int32) (v2 : Int32) (v3 : Int32) (s : St) : Option (Int32 × St) :=
  (rd s 508 20 v1).bind fun x1 =>
  if x1 = (-1) then
    some (0, s)
  else
    (rd s 508 20 v1).bind fun x2 =>
    if v2 < x2 then
      some (0, s)
    else
      (rd s 507 20 v1).bind fun x3 =>
      if v3 < x3 then
        some (0, s)
      else
        (F_X5_isShut v1 (zmn v2 v3) s).bind fun r4 =>
        if r4 = 0 then
          (F_X0_spell 0 0 0 0 s).bind fun s5 =>
          (rd s5 503 20 v1).bind fun x6 =>
          (F_X0_worthOf 2 x6 (v2 / 52) v3 0 s5).bind fun r7 =>
          (rd r7.2 504 20 v1).bind fun x8 =>
          (rd r7.2 505 20 v1).bind fun x9 =>
          some ((x8 * (zmx 1 (zmn x9 r7.1))), r7.2)
        else
          some (0, s)
theorem J_X5_classesOf : mj_t 7 27 = 34 ∧ mj_t 17 17 = 34 ∧ mj_t 27 7 = 34 ∧ mj_t 31 4 = 35 ∧ mj_t 39 16 = 55 ∧ mj_t 52 5 = 57 ∧ (0 ≤ ((7 : Nat) : Int) + 27) = True ∧ (0 ≤ ((17 : Nat) : Int) + 17) = True ∧ (0 ≤ ((27 : Nat) : Int) + 7) = True ∧ (0 ≤ ((31 : Nat) : Int) + 4) = True ∧ (0 ≤ ((39 : Nat) : Int) + 16) = True ∧ (0 ≤ ((52 : Nat) : Int) + 5) = True := by and_intros <;> first | rfl | exact eq_true (by decide)
def ct_X5_classesOf : List (Nat × mj_Cs) := [(64, 0, 3, 5, 0, 0, c_X5_isShut), (68, 0, 5, 0, 0, 0, c_X0_spell), (74, 0, 6, 0, 0, 0, c_X0_worthOf)]
theorem L_X5_classesOf : mj_lk ct_X5_classesOf 64 = some (0, 3, 5, 0, 0, c_X5_isShut) ∧ mj_lk ct_X5_classesOf 68 = some (0, 5, 0, 0, 0, c_X0_spell) ∧ mj_lk ct_X5_classesOf 74 = some (0, 6, 0, 0, 0, c_X0_worthOf) := ⟨rfl, rfl, rfl⟩
set_option maxHeartbeats 4000000 in
set_option maxRecDepth 20000 in
theorem g_X5_classesOf {k : Option Value → mj_H → Prop} {G : mj_K} (hG : mj_cl2 cX5_classesOf (TbX5 6 ((some FieldType.int)) ct_X5_classesOf) k G) (hM : mj_ml cX5_classesOf yX5_classesOf.cls G) {v1 : Int32} {v2 : Int32} {v3 : Int32} {s : St} (hw : ok (F_X5_classesOf v1 v2 v3 s) (fun p => k (some (.int p.1)) (mkCs p.2))) : G 0 [.ref 35, .int v1, .int v2, .int v3] [] (mkCs s) 0 0 := by
  unfold F_X5_classesOf at hw
  refine mj_run hG.1 (fun pc => pc == 46 || pc == 52 || pc == 68 || pc == 88 || pc == 105 || pc == 108) 4000 ?_
  simp only [mj_step, mj_W_s, mj_fin, List.getElem?_cons_zero, List.getElem?_cons_succ, mj_go, Nat.reduceAdd, Nat.reduceSub, Nat.reduceLT, Nat.reduceLeDiff, Nat.zero_add, Nat.reduceEqDiff, Nat.reduceBEq, ↓reduceIte, Bool.false_eq_true, List.append_nil, List.nil_append, List.cons_append, Option.toList, and_true, true_and, true_or, or_true, reduceCtorEq, List.map_nil, bI_eq0, bI_eq1, bool_ft, pk_us, vnar0, vnar1, Bool.or_false, Bool.or_true, Bool.false_or, Bool.true_or, mj_kne, eq_self, Int32.reduceLT, Int32.reduceLE, Int32.reduceAdd, Int32.reduceSub, Int32.reduceMul, not_true_eq_false, not_false_eq_true, false_implies, true_implies, D_X5_classesOf_0, D_X5_classesOf_1, mj_F_aload_n_k, mj_F_bipush_n, mj_F_getfield_i, mj_F_goto_off, mj_F_iaload, mj_F_iconst_n, mj_F_idiv, mj_F_ifCond_eq_off, mj_F_if_icmp_eq_off, mj_F_if_icmp_gt_off, mj_F_iload_k, mj_F_iload_n_k, mj_F_imul, mj_F_invokestatic_i, mj_F_invokevirtual_i, mj_F_ireturn, mj_F_istore_k, mj_set, mj_set0, mj_unk, mj_c2, mj_kc, FT_X5, L_X5_classesOf, List.take_succ_cons, List.take_zero, List.drop_succ_cons, List.drop_zero, List.reverse_cons, List.reverse_nil, List.length_cons, List.length_nil, gS_C35, gCf5_8, gS_C42, sS_Ca_42, gCf5_7, gS_C41, sS_Ca_41, gCf5_0, gCf5_3, gS_C37, sS_Ca_37, gCf5_4, gS_C38, sS_Ca_38, gCf5_5, gS_C39, sS_Ca_39, gS_C11, J_X5_classesOf]
  refine ⟨(ok_rd hw).1, ?_⟩
  replace hw := (ok_rd hw).2
  refine ⟨fun c => ?_, fun c => ?_⟩
  · replace hw := ok_t hw c
    exact (ok_some hw :)
  · replace hw := ok_f hw c
    refine ⟨(ok_rd hw).1, ?_⟩
    replace hw := (ok_rd hw).2
    refine ⟨fun c => ?_, fun c => ?_⟩
    · replace hw := ok_t hw c
      exact (ok_some hw :)
    · replace hw := ok_f hw c
      refine ⟨(ok_rd hw).1, ?_⟩
      replace hw := (ok_rd hw).2
      refine ⟨fun c => ?_, fun c => ?_⟩
      · replace hw := ok_t hw c
        exact (ok_some hw :)
      · replace hw := ok_f hw c
        refine hM 46 58 0 _ _ _ _ _ _ _ _ (by simp only [D_X5_classesOf_0, D_X5_classesOf_1]) (lkX5_58) rfl (Nat.le_of_ble_eq_true rfl) ?_
        refine mj_run hG.1 (fun pc => pc == 46 || pc == 52 || pc == 68 || pc == 88 || pc == 105 || pc == 108) 4000 ?_
        simp only [mj_step, mj_W_s, mj_fin, List.getElem?_cons_zero, List.getElem?_cons_succ, mj_go, Nat.reduceAdd, Nat.reduceSub, Nat.reduceLT, Nat.reduceLeDiff, Nat.zero_add, Nat.reduceEqDiff, Nat.reduceBEq, ↓reduceIte, Bool.false_eq_true, List.append_nil, List.nil_append, List.cons_append, Option.toList, and_true, true_and, true_or, or_true, reduceCtorEq, List.map_nil, bI_eq0, bI_eq1, bool_ft, pk_us, vnar0, vnar1, Bool.or_false, Bool.or_true, Bool.false_or, Bool.true_or, mj_kne, eq_self, Int32.reduceLT, Int32.reduceLE, Int32.reduceAdd, Int32.reduceSub, Int32.reduceMul, not_true_eq_false, not_false_eq_true, false_implies, true_implies, D_X5_classesOf_0, D_X5_classesOf_1, mj_F_aload_n_k, mj_F_bipush_n, mj_F_getfield_i, mj_F_goto_off, mj_F_iaload, mj_F_iconst_n, mj_F_idiv, mj_F_ifCond_eq_off, mj_F_if_icmp_eq_off, mj_F_if_icmp_gt_off, mj_F_iload_k, mj_F_iload_n_k, mj_F_imul, mj_F_invokestatic_i, mj_F_invokevirtual_i, mj_F_ireturn, mj_F_istore_k, mj_set, mj_set0, mj_unk, mj_c2, mj_kc, FT_X5, L_X5_classesOf, List.take_succ_cons, List.take_zero, List.drop_succ_cons, List.drop_zero, List.reverse_cons, List.reverse_nil, List.length_cons, List.length_nil, gS_C35, gCf5_8, gS_C42, sS_Ca_42, gCf5_7, gS_C41, sS_Ca_41, gCf5_0, gCf5_3, gS_C37, sS_Ca_37, gCf5_4, gS_C38, sS_Ca_38, gCf5_5, gS_C39, sS_Ca_39, gS_C11, J_X5_classesOf]
        refine c_X5_isShut_in (ok_imp (ok_bind hw) ?_)
        intro p hw
        simp only [Option.toList, List.nil_append, List.cons_append, Nat.reduceSub]
        refine mj_run hG.1 (fun pc => pc == 46 || pc == 52 || pc == 68 || pc == 88 || pc == 105 || pc == 108) 4000 ?_
        simp only [mj_step, mj_W_s, mj_fin, List.getElem?_cons_zero, List.getElem?_cons_succ, mj_go, Nat.reduceAdd, Nat.reduceSub, Nat.reduceLT, Nat.reduceLeDiff, Nat.zero_add, Nat.reduceEqDiff, Nat.reduceBEq, ↓reduceIte, Bool.false_eq_true, List.append_nil, List.nil_append, List.cons_append, Option.toList, and_true, true_and, true_or, or_true, reduceCtorEq, List.map_nil, bI_eq0, bI_eq1, bool_ft, pk_us, vnar0, vnar1, Bool.or_false, Bool.or_true, Bool.false_or, Bool.true_or, mj_kne, eq_self, Int32.reduceLT, Int32.reduceLE, Int32.reduceAdd, Int32.reduceSub, Int32.reduceMul, not_true_eq_false, not_false_eq_true, false_implies, true_implies, D_X5_classesOf_0, D_X5_classesOf_1, mj_F_aload_n_k, mj_F_bipush_n, mj_F_getfield_i, mj_F_goto_off, mj_F_iaload, mj_F_iconst_n, mj_F_idiv, mj_F_ifCond_eq_off, mj_F_if_icmp_eq_off, mj_F_if_icmp_gt_off, mj_F_iload_k, mj_F_iload_n_k, mj_F_imul, mj_F_invokestatic_i, mj_F_invokevirtual_i, mj_F_ireturn, mj_F_istore_k, mj_set, mj_set0, mj_unk, mj_c2, mj_kc, FT_X5, L_X5_classesOf, List.take_succ_cons, List.take_zero, List.drop_succ_cons, List.drop_zero, List.reverse_cons, List.reverse_nil, List.length_cons, List.length_nil, gS_C35, gCf5_8, gS_C42, sS_Ca_42, gCf5_7, gS_C41, sS_Ca_41, gCf5_0, gCf5_3, gS_C37, sS_Ca_37, gCf5_4, gS_C38, sS_Ca_38, gCf5_5, gS_C39, sS_Ca_39, gS_C11, J_X5_classesOf]
        refine ⟨fun c => ?_, fun c => ?_⟩
        · replace hw := ok_t hw c
          refine c_X0_spell_in (ok_imp (ok_bind hw) ?_)
          intro p hw
          simp only [Option.toList, List.nil_append, List.cons_append, Nat.reduceSub]
          refine mj_run hG.1 (fun pc => pc == 46 || pc == 52 || pc == 68 || pc == 88 || pc == 105 || pc == 108) 4000 ?_
          simp only [mj_step, mj_W_s, mj_fin, List.getElem?_cons_zero, List.getElem?_cons_succ, mj_go, Nat.reduceAdd, Nat.reduceSub, Nat.reduceLT, Nat.reduceLeDiff, Nat.zero_add, Nat.reduceEqDiff, Nat.reduceBEq, ↓reduceIte, Bool.false_eq_true, List.append_nil, List.nil_append, List.cons_append, Option.toList, and_true, true_and, true_or, or_true, reduceCtorEq, List.map_nil, bI_eq0, bI_eq1, bool_ft, pk_us, vnar0, vnar1, Bool.or_false, Bool.or_true, Bool.false_or, Bool.true_or, mj_kne, eq_self, Int32.reduceLT, Int32.reduceLE, Int32.reduceAdd, Int32.reduceSub, Int32.reduceMul, not_true_eq_false, not_false_eq_true, false_implies, true_implies, D_X5_classesOf_0, D_X5_classesOf_1, mj_F_aload_n_k, mj_F_bipush_n, mj_F_getfield_i, mj_F_goto_off, mj_F_iaload, mj_F_iconst_n, mj_F_idiv, mj_F_ifCond_eq_off, mj_F_if_icmp_eq_off, mj_F_if_icmp_gt_off, mj_F_iload_k, mj_F_iload_n_k, mj_F_imul, mj_F_invokestatic_i, mj_F_invokevirtual_i, mj_F_ireturn, mj_F_istore_k, mj_set, mj_set0, mj_unk, mj_c2, mj_kc, FT_X5, L_X5_classesOf, List.take_succ_cons, List.take_zero, List.drop_succ_cons, List.drop_zero, List.reverse_cons, List.reverse_nil, List.length_cons, List.length_nil, gS_C35, gCf5_8, gS_C42, sS_Ca_42, gCf5_7, gS_C41, sS_Ca_41, gCf5_0, gCf5_3, gS_C37, sS_Ca_37, gCf5_4, gS_C38, sS_Ca_38, gCf5_5, gS_C39, sS_Ca_39, gS_C11, J_X5_classesOf]
          refine ⟨(ok_rd hw).1, ?_⟩
          replace hw := (ok_rd hw).2
          refine c_X0_worthOf_in (ok_imp (ok_bind hw) ?_)
          intro p hw
          simp only [Option.toList, List.nil_append, List.cons_append, Nat.reduceSub]
          refine mj_run hG.1 (fun pc => pc == 46 || pc == 52 || pc == 68 || pc == 88 || pc == 105 || pc == 108) 4000 ?_
          simp only [mj_step, mj_W_s, mj_fin, List.getElem?_cons_zero, List.getElem?_cons_succ, mj_go, Nat.reduceAdd, Nat.reduceSub, Nat.reduceLT, Nat.reduceLeDiff, Nat.zero_add, Nat.reduceEqDiff, Nat.reduceBEq, ↓reduceIte, Bool.false_eq_true, List.append_nil, List.nil_append, List.cons_append, Option.toList, and_true, true_and, true_or, or_true, reduceCtorEq, List.map_nil, bI_eq0, bI_eq1, bool_ft, pk_us, vnar0, vnar1, Bool.or_false, Bool.or_true, Bool.false_or, Bool.true_or, mj_kne, eq_self, Int32.reduceLT, Int32.reduceLE, Int32.reduceAdd, Int32.reduceSub, Int32.reduceMul, not_true_eq_false, not_false_eq_true, false_implies, true_implies, D_X5_classesOf_0, D_X5_classesOf_1, mj_F_aload_n_k, mj_F_bipush_n, mj_F_getfield_i, mj_F_goto_off, mj_F_iaload, mj_F_iconst_n, mj_F_idiv, mj_F_ifCond_eq_off, mj_F_if_icmp_eq_off, mj_F_if_icmp_gt_off, mj_F_iload_k, mj_F_iload_n_k, mj_F_imul, mj_F_invokestatic_i, mj_F_invokevirtual_i, mj_F_ireturn, mj_F_istore_k, mj_set, mj_set0, mj_unk, mj_c2, mj_kc, FT_X5, L_X5_classesOf, List.take_succ_cons, List.take_zero, List.drop_succ_cons, List.drop_zero, List.reverse_cons, List.reverse_nil, List.length_cons, List.length_nil, gS_C35, gCf5_8, gS_C42, sS_Ca_42, gCf5_7, gS_C41, sS_Ca_41, gCf5_0, gCf5_3, gS_C37, sS_Ca_37, gCf5_4, gS_C38, sS_Ca_38, gCf5_5, gS_C39, sS_Ca_39, gS_C11, J_X5_classesOf]
          refine ⟨(ok_rd hw).1, ?_⟩
          replace hw := (ok_rd hw).2
          refine ⟨(ok_rd hw).1, ?_⟩
          replace hw := (ok_rd hw).2
          refine hM 105 58 0 _ _ _ _ _ _ _ _ (by simp only [D_X5_classesOf_0, D_X5_classesOf_1]) (lkX5_58) rfl (Nat.le_of_ble_eq_true rfl) ?_
          refine hM 108 78 1 _ _ _ _ _ _ _ _ (by simp only [D_X5_classesOf_0, D_X5_classesOf_1]) (lkX5_78) rfl (Nat.le_of_ble_eq_true rfl) ?_
          refine mj_run hG.1 (fun pc => pc == 46 || pc == 52 || pc == 68 || pc == 88 || pc == 105 || pc == 108) 4000 ?_
          simp only [mj_step, mj_W_s, mj_fin, List.getElem?_cons_zero, List.getElem?_cons_succ, mj_go, Nat.reduceAdd, Nat.reduceSub, Nat.reduceLT, Nat.reduceLeDiff, Nat.zero_add, Nat.reduceEqDiff, Nat.reduceBEq, ↓reduceIte, Bool.false_eq_true, List.append_nil, List.nil_append, List.cons_append, Option.toList, and_true, true_and, true_or, or_true, reduceCtorEq, List.map_nil, bI_eq0, bI_eq1, bool_ft, pk_us, vnar0, vnar1, Bool.or_false, Bool.or_true, Bool.false_or, Bool.true_or, mj_kne, eq_self, Int32.reduceLT, Int32.reduceLE, Int32.reduceAdd, Int32.reduceSub, Int32.reduceMul, not_true_eq_false, not_false_eq_true, false_implies, true_implies, D_X5_classesOf_0, D_X5_classesOf_1, mj_F_aload_n_k, mj_F_bipush_n, mj_F_getfield_i, mj_F_goto_off, mj_F_iaload, mj_F_iconst_n, mj_F_idiv, mj_F_ifCond_eq_off, mj_F_if_icmp_eq_off, mj_F_if_icmp_gt_off, mj_F_iload_k, mj_F_iload_n_k, mj_F_imul, mj_F_invokestatic_i, mj_F_invokevirtual_i, mj_F_ireturn, mj_F_istore_k, mj_set, mj_set0, mj_unk, mj_c2, mj_kc, FT_X5, L_X5_classesOf, List.take_succ_cons, List.take_zero, List.drop_succ_cons, List.drop_zero, List.reverse_cons, List.reverse_nil, List.length_cons, List.length_nil, gS_C35, gCf5_8, gS_C42, sS_Ca_42, gCf5_7, gS_C41, sS_Ca_41, gCf5_0, gCf5_3, gS_C37, sS_Ca_37, gCf5_4, gS_C38, sS_Ca_38, gCf5_5, gS_C39, sS_Ca_39, gS_C11, J_X5_classesOf]
          exact (ok_some hw :)
        · replace hw := ok_f hw c
          exact (ok_some hw :)

def c_X5_classesOf : mj_S := fun as h k => ∃ (v1 : Int32) (v2 : Int32) (v3 : Int32) (s : St), as = [.ref 35, .int v1, .int v2, .int v3] ∧ h = mkCs s ∧ ok (F_X5_classesOf v1 v2 v3 s) (fun p => k (some (.int p.1)) (mkCs p.2))
theorem c_X5_classesOf_in {v1 : Int32} {v2 : Int32} {v3 : Int32} {s : St} {k : Option Value → mj_H → Prop} (hw : ok (F_X5_classesOf v1 v2 v3 s) (fun p => k (some (.int p.1)) (mkCs p.2))) : c_X5_classesOf [.ref 35, .int v1, .int v2, .int v3] (mkCs s) k := ⟨v1, v2, v3, s, rfl, rfl, hw⟩
theorem m_X5_classesOf (l : Launch) : mj_Met l yX5_classesOf cX5_classesOf 6 ((some FieldType.int)) 4 0 0 c_X5_classesOf := by
  refine mj_body3 false (TbX5 6 ((some FieldType.int)) ct_X5_classesOf) (by decide) (by decide) rfl rfl (fun h => nomatch h) (tfX5 _ (List.forall_mem_cons.mpr ⟨cfX5_64 (m_X5_isShut l) (by decide), List.forall_mem_cons.mpr ⟨cfX5_68 (m_X0_spell l) (by decide), List.forall_mem_cons.mpr ⟨cfX5_74 (m_X0_worthOf l) (by decide), fun _ h => nomatch h⟩⟩⟩)) ?_
  rintro as h k ⟨v1, v2, v3, s, rfl, rfl, hw⟩
  exact ⟨rfl, fun G hG hM => g_X5_classesOf hG hM hw⟩
def F_X5_headsOf (v1 : Int32) (v2 : Int32) (v3 : Int32) (s : St) : Option (Int32 × St) :=
  (F_X0_spell 0 0 0 0 s).bind fun s1 =>
  (rd s1 503 20 v1).bind fun x2 =>
  (F_X0_worthOf 1 x2 (v2 / 52) v3 0 s1).bind fun r3 =>
  some ((zmx 0 r3.1), r3.2)
def ct_X5_headsOf : List (Nat × mj_Cs) := [(68, 0, 5, 0, 0, 0, c_X0_spell), (74, 0, 6, 0, 0, 0, c_X0_worthOf)]
theorem L_X5_headsOf : mj_lk ct_X5_headsOf 68 = some (0, 5, 0, 0, 0, c_X0_spell) ∧ mj_lk ct_X5_headsOf 74 = some (0, 6, 0, 0, 0, c_X0_worthOf) := ⟨rfl, rfl⟩
set_option maxHeartbeats 4000000 in
set_option maxRecDepth 20000 in
theorem g_X5_headsOf {k : Option Value → mj_H → Prop} {G : mj_K} (hG : mj_cl2 cX5_headsOf (TbX5 4 ((some FieldType.int)) ct_X5_headsOf) k G) (hM : mj_ml cX5_headsOf yX5_headsOf.cls G) {v1 : Int32} {v2 : Int32} {v3 : Int32} {s : St} (hw : ok (F_X5_headsOf v1 v2 v3 s) (fun p => k (some (.int p.1)) (mkCs p.2))) : G 0 [.ref 35, .int v1, .int v2, .int v3] [] (mkCs s) 0 0 := by
  unfold F_X5_headsOf at hw
  refine mj_run hG.1 (fun pc => pc == 11 || pc == 32) 4000 ?_
  simp only [mj_step, mj_W_s, mj_fin, List.getElem?_cons_zero, List.getElem?_cons_succ, mj_go, Nat.reduceAdd, Nat.reduceSub, Nat.reduceLT, Nat.reduceLeDiff, Nat.zero_add, Nat.reduceEqDiff, Nat.reduceBEq, ↓reduceIte, Bool.false_eq_true, List.append_nil, List.nil_append, List.cons_append, Option.toList, and_true, true_and, true_or, or_true, reduceCtorEq, List.map_nil, bI_eq0, bI_eq1, bool_ft, pk_us, vnar0, vnar1, Bool.or_false, Bool.or_true, Bool.false_or, Bool.true_or, mj_kne, eq_self, Int32.reduceLT, Int32.reduceLE, Int32.reduceAdd, Int32.reduceSub, Int32.reduceMul, not_true_eq_false, not_false_eq_true, false_implies, true_implies, D_X5_headsOf, mj_F_aload_n_k, mj_F_bipush_n, mj_F_getfield_i, mj_F_iaload, mj_F_iconst_n, mj_F_idiv, mj_F_iload_n_k, mj_F_invokestatic_i, mj_F_invokevirtual_i, mj_F_ireturn, mj_kc, FT_X5, L_X5_headsOf, List.take_succ_cons, List.take_zero, List.drop_succ_cons, List.drop_zero, List.reverse_cons, List.reverse_nil, List.length_cons, List.length_nil, gS_C35, gCf5_0, gCf5_3, gS_C37, sS_Ca_37, gS_C11]
  refine c_X0_spell_in (ok_imp (ok_bind hw) ?_)
  intro p hw
  simp only [Option.toList, List.nil_append, List.cons_append, Nat.reduceSub]
  refine mj_run hG.1 (fun pc => pc == 11 || pc == 32) 4000 ?_
  simp only [mj_step, mj_W_s, mj_fin, List.getElem?_cons_zero, List.getElem?_cons_succ, mj_go, Nat.reduceAdd, Nat.reduceSub, Nat.reduceLT, Nat.reduceLeDiff, Nat.zero_add, Nat.reduceEqDiff, Nat.reduceBEq, ↓reduceIte, Bool.false_eq_true, List.append_nil, List.nil_append, List.cons_append, Option.toList, and_true, true_and, true_or, or_true, reduceCtorEq, List.map_nil, bI_eq0, bI_eq1, bool_ft, pk_us, vnar0, vnar1, Bool.or_false, Bool.or_true, Bool.false_or, Bool.true_or, mj_kne, eq_self, Int32.reduceLT, Int32.reduceLE, Int32.reduceAdd, Int32.reduceSub, Int32.reduceMul, not_true_eq_false, not_false_eq_true, false_implies, true_implies, D_X5_headsOf, mj_F_aload_n_k, mj_F_bipush_n, mj_F_getfield_i, mj_F_iaload, mj_F_iconst_n, mj_F_idiv, mj_F_iload_n_k, mj_F_invokestatic_i, mj_F_invokevirtual_i, mj_F_ireturn, mj_kc, FT_X5, L_X5_headsOf, List.take_succ_cons, List.take_zero, List.drop_succ_cons, List.drop_zero, List.reverse_cons, List.reverse_nil, List.length_cons, List.length_nil, gS_C35, gCf5_0, gCf5_3, gS_C37, sS_Ca_37, gS_C11]
  refine ⟨(ok_rd hw).1, ?_⟩
  replace hw := (ok_rd hw).2
  refine c_X0_worthOf_in (ok_imp (ok_bind hw) ?_)
  intro p hw
  simp only [Option.toList, List.nil_append, List.cons_append, Nat.reduceSub]
  refine hM 32 78 1 _ _ _ _ _ _ _ _ (by simp only [D_X5_headsOf]) (lkX5_78) rfl (Nat.le_of_ble_eq_true rfl) ?_
  refine mj_run hG.1 (fun pc => pc == 11 || pc == 32) 4000 ?_
  simp only [mj_step, mj_W_s, mj_fin, List.getElem?_cons_zero, List.getElem?_cons_succ, mj_go, Nat.reduceAdd, Nat.reduceSub, Nat.reduceLT, Nat.reduceLeDiff, Nat.zero_add, Nat.reduceEqDiff, Nat.reduceBEq, ↓reduceIte, Bool.false_eq_true, List.append_nil, List.nil_append, List.cons_append, Option.toList, and_true, true_and, true_or, or_true, reduceCtorEq, List.map_nil, bI_eq0, bI_eq1, bool_ft, pk_us, vnar0, vnar1, Bool.or_false, Bool.or_true, Bool.false_or, Bool.true_or, mj_kne, eq_self, Int32.reduceLT, Int32.reduceLE, Int32.reduceAdd, Int32.reduceSub, Int32.reduceMul, not_true_eq_false, not_false_eq_true, false_implies, true_implies, D_X5_headsOf, mj_F_aload_n_k, mj_F_bipush_n, mj_F_getfield_i, mj_F_iaload, mj_F_iconst_n, mj_F_idiv, mj_F_iload_n_k, mj_F_invokestatic_i, mj_F_invokevirtual_i, mj_F_ireturn, mj_kc, FT_X5, L_X5_headsOf, List.take_succ_cons, List.take_zero, List.drop_succ_cons, List.drop_zero, List.reverse_cons, List.reverse_nil, List.length_cons, List.length_nil, gS_C35, gCf5_0, gCf5_3, gS_C37, sS_Ca_37, gS_C11]
  exact (ok_some hw :)

def c_X5_headsOf : mj_S := fun as h k => ∃ (v1 : Int32) (v2 : Int32) (v3 : Int32) (s : St), as = [.ref 35, .int v1, .int v2, .int v3] ∧ h = mkCs s ∧ ok (F_X5_headsOf v1 v2 v3 s) (fun p => k (some (.int p.1)) (mkCs p.2))
theorem c_X5_headsOf_in {v1 : Int32} {v2 : Int32} {v3 : Int32} {s : St} {k : Option Value → mj_H → Prop} (hw : ok (F_X5_headsOf v1 v2 v3 s) (fun p => k (some (.int p.1)) (mkCs p.2))) : c_X5_headsOf [.ref 35, .int v1, .int v2, .int v3] (mkCs s) k := ⟨v1, v2, v3, s, rfl, rfl, hw⟩
theorem m_X5_headsOf (l : Launch) : mj_Met l yX5_headsOf cX5_headsOf 4 ((some FieldType.int)) 4 0 0 c_X5_headsOf := by
  refine mj_body3 false (TbX5 4 ((some FieldType.int)) ct_X5_headsOf) (by decide) (by decide) rfl rfl (fun h => nomatch h) (tfX5 _ (List.forall_mem_cons.mpr ⟨cfX5_68 (m_X0_spell l) (by decide), List.forall_mem_cons.mpr ⟨cfX5_74 (m_X0_worthOf l) (by decide), fun _ h => nomatch h⟩⟩)) ?_
  rintro as h k ⟨v1, v2, v3, s, rfl, rfl, hw⟩
  exact ⟨rfl, fun G hG hM => g_X5_headsOf hG hM hw⟩
def F_X11_places (v1 : Int32) (v2 : Int32) (v3 : Int32) (s : St) : Option (Int32 × St) :=
  (F_X11_isSchool v1 s).bind fun r1 =>
  if r1 = 0 then
    some ((-1), s)
  else
    (F_X11_isPast v2 s).bind fun r2 =>
    if r2 = 0 then
      some ((-1), s)
    else
      (F_X11_isPast v3 s).bind fun r3 =>
      if r3 = 0 then
        some ((-1), s)
      else
        (F_X5_classesOf v1 v2 v3 s).bind fun r4 =>
        (F_X5_headsOf v1 v2 v3 r4.2).bind fun r5 =>
        some ((r4.1 * r5.1), r5.2)
theorem J_X11_places : mj_t 5 19 = 24 ∧ mj_t 13 11 = 24 ∧ mj_t 21 5 = 26 ∧ (0 ≤ ((5 : Nat) : Int) + 19) = True ∧ (0 ≤ ((13 : Nat) : Int) + 11) = True ∧ (0 ≤ ((21 : Nat) : Int) + 5) = True := by and_intros <;> first | rfl | exact eq_true (by decide)
def ct_X11_places : List (Nat × mj_Cs) := [(148, 0, 2, 11, 0, 0, c_X11_isPast), (165, 0, 2, 11, 0, 0, c_X11_isSchool), (239, 0, 4, 5, 0, 0, c_X5_classesOf), (242, 0, 4, 5, 0, 0, c_X5_headsOf)]
theorem L_X11_places : mj_lk ct_X11_places 148 = some (0, 2, 11, 0, 0, c_X11_isPast) ∧ mj_lk ct_X11_places 165 = some (0, 2, 11, 0, 0, c_X11_isSchool) ∧ mj_lk ct_X11_places 239 = some (0, 4, 5, 0, 0, c_X5_classesOf) ∧ mj_lk ct_X11_places 242 = some (0, 4, 5, 0, 0, c_X5_headsOf) := ⟨rfl, rfl, rfl, rfl⟩
set_option maxHeartbeats 4000000 in
set_option maxRecDepth 20000 in
theorem g_X11_places {k : Option Value → mj_H → Prop} {G : mj_K} (hG : mj_cl2 cX11_places (TbX11 4 ((some FieldType.int)) ct_X11_places) k G) {v1 : Int32} {v2 : Int32} {v3 : Int32} {s : St} (hw : ok (F_X11_places v1 v2 v3 s) (fun p => k (some (.int p.1)) (mkCs p.2))) : G 0 [.ref 0, .int v1, .int v2, .int v3] [] (mkCs s) 0 0 := by
  unfold F_X11_places at hw
  refine mj_run hG.1 (fun pc => pc == 5 || pc == 13 || pc == 21 || pc == 36 || pc == 46) 4000 ?_
  simp only [mj_step, mj_W_s, mj_fin, List.getElem?_cons_zero, List.getElem?_cons_succ, mj_go, Nat.reduceAdd, Nat.reduceSub, Nat.reduceLT, Nat.reduceLeDiff, Nat.zero_add, Nat.reduceEqDiff, Nat.reduceBEq, ↓reduceIte, Bool.false_eq_true, List.append_nil, List.nil_append, List.cons_append, Option.toList, and_true, true_and, true_or, or_true, reduceCtorEq, List.map_nil, bI_eq0, bI_eq1, bool_ft, pk_us, vnar0, vnar1, Bool.or_false, Bool.or_true, Bool.false_or, Bool.true_or, mj_kne, eq_self, Int32.reduceLT, Int32.reduceLE, Int32.reduceAdd, Int32.reduceSub, Int32.reduceMul, not_true_eq_false, not_false_eq_true, false_implies, true_implies, D_X11_places, mj_F_aload_n_k, mj_F_getfield_i, mj_F_iconst_n, mj_F_ifCond_eq_off, mj_F_ifCond_ne_off, mj_F_iload_n_k, mj_F_imul, mj_F_invokevirtual_i, mj_F_ireturn, mj_kc, FT_X11, L_X11_places, List.take_succ_cons, List.take_zero, List.drop_succ_cons, List.drop_zero, List.reverse_cons, List.reverse_nil, List.length_cons, List.length_nil, gS_C0, gCf11_5, gS_C35, J_X11_places]
  refine c_X11_isSchool_in (ok_imp (ok_bind hw) ?_)
  intro p hw
  simp only [Option.toList, List.nil_append, List.cons_append, Nat.reduceSub]
  refine mj_run hG.1 (fun pc => pc == 5 || pc == 13 || pc == 21 || pc == 36 || pc == 46) 4000 ?_
  simp only [mj_step, mj_W_s, mj_fin, List.getElem?_cons_zero, List.getElem?_cons_succ, mj_go, Nat.reduceAdd, Nat.reduceSub, Nat.reduceLT, Nat.reduceLeDiff, Nat.zero_add, Nat.reduceEqDiff, Nat.reduceBEq, ↓reduceIte, Bool.false_eq_true, List.append_nil, List.nil_append, List.cons_append, Option.toList, and_true, true_and, true_or, or_true, reduceCtorEq, List.map_nil, bI_eq0, bI_eq1, bool_ft, pk_us, vnar0, vnar1, Bool.or_false, Bool.or_true, Bool.false_or, Bool.true_or, mj_kne, eq_self, Int32.reduceLT, Int32.reduceLE, Int32.reduceAdd, Int32.reduceSub, Int32.reduceMul, not_true_eq_false, not_false_eq_true, false_implies, true_implies, D_X11_places, mj_F_aload_n_k, mj_F_getfield_i, mj_F_iconst_n, mj_F_ifCond_eq_off, mj_F_ifCond_ne_off, mj_F_iload_n_k, mj_F_imul, mj_F_invokevirtual_i, mj_F_ireturn, mj_kc, FT_X11, L_X11_places, List.take_succ_cons, List.take_zero, List.drop_succ_cons, List.drop_zero, List.reverse_cons, List.reverse_nil, List.length_cons, List.length_nil, gS_C0, gCf11_5, gS_C35, J_X11_places]
  refine ⟨fun c => ?_, fun c => ?_⟩
  · replace hw := ok_t hw c
    exact (ok_some hw :)
  · replace hw := ok_f hw c
    refine c_X11_isPast_in (ok_imp (ok_bind hw) ?_)
    intro p hw
    simp only [Option.toList, List.nil_append, List.cons_append, Nat.reduceSub]
    refine mj_run hG.1 (fun pc => pc == 5 || pc == 13 || pc == 21 || pc == 36 || pc == 46) 4000 ?_
    simp only [mj_step, mj_W_s, mj_fin, List.getElem?_cons_zero, List.getElem?_cons_succ, mj_go, Nat.reduceAdd, Nat.reduceSub, Nat.reduceLT, Nat.reduceLeDiff, Nat.zero_add, Nat.reduceEqDiff, Nat.reduceBEq, ↓reduceIte, Bool.false_eq_true, List.append_nil, List.nil_append, List.cons_append, Option.toList, and_true, true_and, true_or, or_true, reduceCtorEq, List.map_nil, bI_eq0, bI_eq1, bool_ft, pk_us, vnar0, vnar1, Bool.or_false, Bool.or_true, Bool.false_or, Bool.true_or, mj_kne, eq_self, Int32.reduceLT, Int32.reduceLE, Int32.reduceAdd, Int32.reduceSub, Int32.reduceMul, not_true_eq_false, not_false_eq_true, false_implies, true_implies, D_X11_places, mj_F_aload_n_k, mj_F_getfield_i, mj_F_iconst_n, mj_F_ifCond_eq_off, mj_F_ifCond_ne_off, mj_F_iload_n_k, mj_F_imul, mj_F_invokevirtual_i, mj_F_ireturn, mj_kc, FT_X11, L_X11_places, List.take_succ_cons, List.take_zero, List.drop_succ_cons, List.drop_zero, List.reverse_cons, List.reverse_nil, List.length_cons, List.length_nil, gS_C0, gCf11_5, gS_C35, J_X11_places]
    refine ⟨fun c => ?_, fun c => ?_⟩
    · replace hw := ok_t hw c
      exact (ok_some hw :)
    · replace hw := ok_f hw c
      refine c_X11_isPast_in (ok_imp (ok_bind hw) ?_)
      intro p hw
      simp only [Option.toList, List.nil_append, List.cons_append, Nat.reduceSub]
      refine mj_run hG.1 (fun pc => pc == 5 || pc == 13 || pc == 21 || pc == 36 || pc == 46) 4000 ?_
      simp only [mj_step, mj_W_s, mj_fin, List.getElem?_cons_zero, List.getElem?_cons_succ, mj_go, Nat.reduceAdd, Nat.reduceSub, Nat.reduceLT, Nat.reduceLeDiff, Nat.zero_add, Nat.reduceEqDiff, Nat.reduceBEq, ↓reduceIte, Bool.false_eq_true, List.append_nil, List.nil_append, List.cons_append, Option.toList, and_true, true_and, true_or, or_true, reduceCtorEq, List.map_nil, bI_eq0, bI_eq1, bool_ft, pk_us, vnar0, vnar1, Bool.or_false, Bool.or_true, Bool.false_or, Bool.true_or, mj_kne, eq_self, Int32.reduceLT, Int32.reduceLE, Int32.reduceAdd, Int32.reduceSub, Int32.reduceMul, not_true_eq_false, not_false_eq_true, false_implies, true_implies, D_X11_places, mj_F_aload_n_k, mj_F_getfield_i, mj_F_iconst_n, mj_F_ifCond_eq_off, mj_F_ifCond_ne_off, mj_F_iload_n_k, mj_F_imul, mj_F_invokevirtual_i, mj_F_ireturn, mj_kc, FT_X11, L_X11_places, List.take_succ_cons, List.take_zero, List.drop_succ_cons, List.drop_zero, List.reverse_cons, List.reverse_nil, List.length_cons, List.length_nil, gS_C0, gCf11_5, gS_C35, J_X11_places]
      refine ⟨fun c => ?_, fun c => ?_⟩
      · replace hw := ok_f hw c
        refine c_X5_classesOf_in (ok_imp (ok_bind hw) ?_)
        intro p hw
        simp only [Option.toList, List.nil_append, List.cons_append, Nat.reduceSub]
        refine mj_run hG.1 (fun pc => pc == 5 || pc == 13 || pc == 21 || pc == 36 || pc == 46) 4000 ?_
        simp only [mj_step, mj_W_s, mj_fin, List.getElem?_cons_zero, List.getElem?_cons_succ, mj_go, Nat.reduceAdd, Nat.reduceSub, Nat.reduceLT, Nat.reduceLeDiff, Nat.zero_add, Nat.reduceEqDiff, Nat.reduceBEq, ↓reduceIte, Bool.false_eq_true, List.append_nil, List.nil_append, List.cons_append, Option.toList, and_true, true_and, true_or, or_true, reduceCtorEq, List.map_nil, bI_eq0, bI_eq1, bool_ft, pk_us, vnar0, vnar1, Bool.or_false, Bool.or_true, Bool.false_or, Bool.true_or, mj_kne, eq_self, Int32.reduceLT, Int32.reduceLE, Int32.reduceAdd, Int32.reduceSub, Int32.reduceMul, not_true_eq_false, not_false_eq_true, false_implies, true_implies, D_X11_places, mj_F_aload_n_k, mj_F_getfield_i, mj_F_iconst_n, mj_F_ifCond_eq_off, mj_F_ifCond_ne_off, mj_F_iload_n_k, mj_F_imul, mj_F_invokevirtual_i, mj_F_ireturn, mj_kc, FT_X11, L_X11_places, List.take_succ_cons, List.take_zero, List.drop_succ_cons, List.drop_zero, List.reverse_cons, List.reverse_nil, List.length_cons, List.length_nil, gS_C0, gCf11_5, gS_C35, J_X11_places]
        refine c_X5_headsOf_in (ok_imp (ok_bind hw) ?_)
        intro p hw
        simp only [Option.toList, List.nil_append, List.cons_append, Nat.reduceSub]
        refine mj_run hG.1 (fun pc => pc == 5 || pc == 13 || pc == 21 || pc == 36 || pc == 46) 4000 ?_
        simp only [mj_step, mj_W_s, mj_fin, List.getElem?_cons_zero, List.getElem?_cons_succ, mj_go, Nat.reduceAdd, Nat.reduceSub, Nat.reduceLT, Nat.reduceLeDiff, Nat.zero_add, Nat.reduceEqDiff, Nat.reduceBEq, ↓reduceIte, Bool.false_eq_true, List.append_nil, List.nil_append, List.cons_append, Option.toList, and_true, true_and, true_or, or_true, reduceCtorEq, List.map_nil, bI_eq0, bI_eq1, bool_ft, pk_us, vnar0, vnar1, Bool.or_false, Bool.or_true, Bool.false_or, Bool.true_or, mj_kne, eq_self, Int32.reduceLT, Int32.reduceLE, Int32.reduceAdd, Int32.reduceSub, Int32.reduceMul, not_true_eq_false, not_false_eq_true, false_implies, true_implies, D_X11_places, mj_F_aload_n_k, mj_F_getfield_i, mj_F_iconst_n, mj_F_ifCond_eq_off, mj_F_ifCond_ne_off, mj_F_iload_n_k, mj_F_imul, mj_F_invokevirtual_i, mj_F_ireturn, mj_kc, FT_X11, L_X11_places, List.take_succ_cons, List.take_zero, List.drop_succ_cons, List.drop_zero, List.reverse_cons, List.reverse_nil, List.length_cons, List.length_nil, gS_C0, gCf11_5, gS_C35, J_X11_places]
        exact (ok_some hw :)
      · replace hw := ok_t hw c
        exact (ok_some hw :)

def c_X11_places : mj_S := fun as h k => ∃ (v1 : Int32) (v2 : Int32) (v3 : Int32) (s : St), as = [.ref 0, .int v1, .int v2, .int v3] ∧ h = mkCs s ∧ ok (F_X11_places v1 v2 v3 s) (fun p => k (some (.int p.1)) (mkCs p.2))
theorem c_X11_places_in {v1 : Int32} {v2 : Int32} {v3 : Int32} {s : St} {k : Option Value → mj_H → Prop} (hw : ok (F_X11_places v1 v2 v3 s) (fun p => k (some (.int p.1)) (mkCs p.2))) : c_X11_places [.ref 0, .int v1, .int v2, .int v3] (mkCs s) k := ⟨v1, v2, v3, s, rfl, rfl, hw⟩
theorem m_X11_places (l : Launch) : mj_Met l yX11_places cX11_places 4 ((some FieldType.int)) 5 0 0 c_X11_places := by
  refine mj_body2 false (TbX11 4 ((some FieldType.int)) ct_X11_places) (by decide) rfl rfl (fun h => nomatch h) (tfX11 _ (List.forall_mem_cons.mpr ⟨cfX11_148 (m_X11_isPast l) (by decide), List.forall_mem_cons.mpr ⟨cfX11_165 (m_X11_isSchool l) (by decide), List.forall_mem_cons.mpr ⟨cfX11_239 (m_X5_classesOf l) (by decide), List.forall_mem_cons.mpr ⟨cfX11_242 (m_X5_headsOf l) (by decide), fun _ h => nomatch h⟩⟩⟩⟩)) ?_
  rintro as h k ⟨v1, v2, v3, s, rfl, rfl, hw⟩
  exact ⟨rfl, fun G hG => g_X11_places hG hw⟩
def F_X1_walkLimit (v1 : Int32) (v2 : Int32) (v3 : Int32) (s : St) : Option (Int32 × St) :=
  (F_X1_childrenOf v1 v2 v3 s).bind fun r1 =>
  (rd s 104 24 v1).bind fun x2 =>
  (F_X0_spell r1 x2 0 0 s).bind fun s3 =>
  (rd s3 103 24 v1).bind fun x4 =>
  (F_X0_worthOf 0 x4 v2 v3 0 s3).bind fun r5 =>
  some (r5.1, r5.2)
def ct_X1_walkLimit : List (Nat × mj_Cs) := [(78, 0, 4, 1, 0, 0, c_X1_childrenOf), (81, 0, 5, 0, 0, 0, c_X0_spell), (87, 0, 6, 0, 0, 0, c_X0_worthOf)]
theorem L_X1_walkLimit : mj_lk ct_X1_walkLimit 78 = some (0, 4, 1, 0, 0, c_X1_childrenOf) ∧ mj_lk ct_X1_walkLimit 81 = some (0, 5, 0, 0, 0, c_X0_spell) ∧ mj_lk ct_X1_walkLimit 87 = some (0, 6, 0, 0, 0, c_X0_worthOf) := ⟨rfl, rfl, rfl⟩
set_option maxHeartbeats 4000000 in
set_option maxRecDepth 20000 in
theorem g_X1_walkLimit {k : Option Value → mj_H → Prop} {G : mj_K} (hG : mj_cl2 cX1_walkLimit (TbX1 4 ((some FieldType.int)) ct_X1_walkLimit) k G) {v1 : Int32} {v2 : Int32} {v3 : Int32} {s : St} (hw : ok (F_X1_walkLimit v1 v2 v3 s) (fun p => k (some (.int p.1)) (mkCs p.2))) : G 0 [.ref 20, .int v1, .int v2, .int v3] [] (mkCs s) 0 0 := by
  unfold F_X1_walkLimit at hw
  refine mj_run hG.1 (fun pc => pc == 11 || pc == 22 || pc == 39) 4000 ?_
  simp only [mj_step, mj_W_s, mj_fin, List.getElem?_cons_zero, List.getElem?_cons_succ, mj_go, Nat.reduceAdd, Nat.reduceSub, Nat.reduceLT, Nat.reduceLeDiff, Nat.zero_add, Nat.reduceEqDiff, Nat.reduceBEq, ↓reduceIte, Bool.false_eq_true, List.append_nil, List.nil_append, List.cons_append, Option.toList, and_true, true_and, true_or, or_true, reduceCtorEq, List.map_nil, bI_eq0, bI_eq1, bool_ft, pk_us, vnar0, vnar1, Bool.or_false, Bool.or_true, Bool.false_or, Bool.true_or, mj_kne, eq_self, Int32.reduceLT, Int32.reduceLE, Int32.reduceAdd, Int32.reduceSub, Int32.reduceMul, not_true_eq_false, not_false_eq_true, false_implies, true_implies, D_X1_walkLimit, mj_F_aload_n_k, mj_F_getfield_i, mj_F_iaload, mj_F_iconst_n, mj_F_iload_n_k, mj_F_invokevirtual_i, mj_F_ireturn, mj_kc, FT_X1, L_X1_walkLimit, List.take_succ_cons, List.take_zero, List.drop_succ_cons, List.drop_zero, List.reverse_cons, List.reverse_nil, List.length_cons, List.length_nil, gS_C20, gCf1_0, gCf1_4, gS_C23, sS_Ca_23, gCf1_3, gS_C22, sS_Ca_22, gS_C11]
  refine c_X1_childrenOf_in (ok_imp (ok_bind hw) ?_)
  intro p hw
  simp only [Option.toList, List.nil_append, List.cons_append, Nat.reduceSub]
  refine mj_run hG.1 (fun pc => pc == 11 || pc == 22 || pc == 39) 4000 ?_
  simp only [mj_step, mj_W_s, mj_fin, List.getElem?_cons_zero, List.getElem?_cons_succ, mj_go, Nat.reduceAdd, Nat.reduceSub, Nat.reduceLT, Nat.reduceLeDiff, Nat.zero_add, Nat.reduceEqDiff, Nat.reduceBEq, ↓reduceIte, Bool.false_eq_true, List.append_nil, List.nil_append, List.cons_append, Option.toList, and_true, true_and, true_or, or_true, reduceCtorEq, List.map_nil, bI_eq0, bI_eq1, bool_ft, pk_us, vnar0, vnar1, Bool.or_false, Bool.or_true, Bool.false_or, Bool.true_or, mj_kne, eq_self, Int32.reduceLT, Int32.reduceLE, Int32.reduceAdd, Int32.reduceSub, Int32.reduceMul, not_true_eq_false, not_false_eq_true, false_implies, true_implies, D_X1_walkLimit, mj_F_aload_n_k, mj_F_getfield_i, mj_F_iaload, mj_F_iconst_n, mj_F_iload_n_k, mj_F_invokevirtual_i, mj_F_ireturn, mj_kc, FT_X1, L_X1_walkLimit, List.take_succ_cons, List.take_zero, List.drop_succ_cons, List.drop_zero, List.reverse_cons, List.reverse_nil, List.length_cons, List.length_nil, gS_C20, gCf1_0, gCf1_4, gS_C23, sS_Ca_23, gCf1_3, gS_C22, sS_Ca_22, gS_C11]
  refine ⟨(ok_rd hw).1, ?_⟩
  replace hw := (ok_rd hw).2
  refine c_X0_spell_in (ok_imp (ok_bind hw) ?_)
  intro p hw
  simp only [Option.toList, List.nil_append, List.cons_append, Nat.reduceSub]
  refine mj_run hG.1 (fun pc => pc == 11 || pc == 22 || pc == 39) 4000 ?_
  simp only [mj_step, mj_W_s, mj_fin, List.getElem?_cons_zero, List.getElem?_cons_succ, mj_go, Nat.reduceAdd, Nat.reduceSub, Nat.reduceLT, Nat.reduceLeDiff, Nat.zero_add, Nat.reduceEqDiff, Nat.reduceBEq, ↓reduceIte, Bool.false_eq_true, List.append_nil, List.nil_append, List.cons_append, Option.toList, and_true, true_and, true_or, or_true, reduceCtorEq, List.map_nil, bI_eq0, bI_eq1, bool_ft, pk_us, vnar0, vnar1, Bool.or_false, Bool.or_true, Bool.false_or, Bool.true_or, mj_kne, eq_self, Int32.reduceLT, Int32.reduceLE, Int32.reduceAdd, Int32.reduceSub, Int32.reduceMul, not_true_eq_false, not_false_eq_true, false_implies, true_implies, D_X1_walkLimit, mj_F_aload_n_k, mj_F_getfield_i, mj_F_iaload, mj_F_iconst_n, mj_F_iload_n_k, mj_F_invokevirtual_i, mj_F_ireturn, mj_kc, FT_X1, L_X1_walkLimit, List.take_succ_cons, List.take_zero, List.drop_succ_cons, List.drop_zero, List.reverse_cons, List.reverse_nil, List.length_cons, List.length_nil, gS_C20, gCf1_0, gCf1_4, gS_C23, sS_Ca_23, gCf1_3, gS_C22, sS_Ca_22, gS_C11]
  refine ⟨(ok_rd hw).1, ?_⟩
  replace hw := (ok_rd hw).2
  refine c_X0_worthOf_in (ok_imp (ok_bind hw) ?_)
  intro p hw
  simp only [Option.toList, List.nil_append, List.cons_append, Nat.reduceSub]
  refine mj_run hG.1 (fun pc => pc == 11 || pc == 22 || pc == 39) 4000 ?_
  simp only [mj_step, mj_W_s, mj_fin, List.getElem?_cons_zero, List.getElem?_cons_succ, mj_go, Nat.reduceAdd, Nat.reduceSub, Nat.reduceLT, Nat.reduceLeDiff, Nat.zero_add, Nat.reduceEqDiff, Nat.reduceBEq, ↓reduceIte, Bool.false_eq_true, List.append_nil, List.nil_append, List.cons_append, Option.toList, and_true, true_and, true_or, or_true, reduceCtorEq, List.map_nil, bI_eq0, bI_eq1, bool_ft, pk_us, vnar0, vnar1, Bool.or_false, Bool.or_true, Bool.false_or, Bool.true_or, mj_kne, eq_self, Int32.reduceLT, Int32.reduceLE, Int32.reduceAdd, Int32.reduceSub, Int32.reduceMul, not_true_eq_false, not_false_eq_true, false_implies, true_implies, D_X1_walkLimit, mj_F_aload_n_k, mj_F_getfield_i, mj_F_iaload, mj_F_iconst_n, mj_F_iload_n_k, mj_F_invokevirtual_i, mj_F_ireturn, mj_kc, FT_X1, L_X1_walkLimit, List.take_succ_cons, List.take_zero, List.drop_succ_cons, List.drop_zero, List.reverse_cons, List.reverse_nil, List.length_cons, List.length_nil, gS_C20, gCf1_0, gCf1_4, gS_C23, sS_Ca_23, gCf1_3, gS_C22, sS_Ca_22, gS_C11]
  exact (ok_some hw :)

def c_X1_walkLimit : mj_S := fun as h k => ∃ (v1 : Int32) (v2 : Int32) (v3 : Int32) (s : St), as = [.ref 20, .int v1, .int v2, .int v3] ∧ h = mkCs s ∧ ok (F_X1_walkLimit v1 v2 v3 s) (fun p => k (some (.int p.1)) (mkCs p.2))
theorem c_X1_walkLimit_in {v1 : Int32} {v2 : Int32} {v3 : Int32} {s : St} {k : Option Value → mj_H → Prop} (hw : ok (F_X1_walkLimit v1 v2 v3 s) (fun p => k (some (.int p.1)) (mkCs p.2))) : c_X1_walkLimit [.ref 20, .int v1, .int v2, .int v3] (mkCs s) k := ⟨v1, v2, v3, s, rfl, rfl, hw⟩
theorem m_X1_walkLimit (l : Launch) : mj_Met l yX1_walkLimit cX1_walkLimit 4 ((some FieldType.int)) 4 0 0 c_X1_walkLimit := by
  refine mj_body2 false (TbX1 4 ((some FieldType.int)) ct_X1_walkLimit) (by decide) rfl rfl (fun h => nomatch h) (tfX1 _ (List.forall_mem_cons.mpr ⟨cfX1_78 (m_X1_childrenOf l) (by decide), List.forall_mem_cons.mpr ⟨cfX1_81 (m_X0_spell l) (by decide), List.forall_mem_cons.mpr ⟨cfX1_87 (m_X0_worthOf l) (by decide), fun _ h => nomatch h⟩⟩⟩)) ?_
  rintro as h k ⟨v1, v2, v3, s, rfl, rfl, hw⟩
  exact ⟨rfl, fun G hG => g_X1_walkLimit hG hw⟩
def B_X6_measure_3 (v1 : Int32) (v2 : Int32) (v3 : Nat) : Int32 × St → Option ((Int32 × St) ⊕ ((St)))
  | (v4, s) =>
  if (s.1 501) ≤ v4 then
    some (.inr s)
  else
    (rd s 502 20 v4).bind fun x1 =>
    (ra s v3 x1).bind fun x2 =>
    (rd s 608 20 v4).bind fun x3 =>
    if x3 = 0 then
      if 100000000 ≤ x2 then
        (wr s 604 480 ((v1 * 20) + v4) (-1)).bind fun s4 =>
        some (.inl ((v4 + 1), s4))
      else
        if v2 < x2 then
          (wr s 604 480 ((v1 * 20) + v4) (-1)).bind fun s5 =>
          some (.inl ((v4 + 1), s5))
        else
          (wr s 604 480 ((v1 * 20) + v4) x2).bind fun s6 =>
          some (.inl ((v4 + 1), s6))
    else
      (rd s 506 20 v4).bind fun x7 =>
      (rd s 104 24 v1).bind fun x8 =>
      if ((x7 >>> (x8 &&& 31)) &&& 1) = 1 then
        if 100000000 ≤ x2 then
          (wr s 604 480 ((v1 * 20) + v4) (-1)).bind fun s12 =>
          some (.inl ((v4 + 1), s12))
        else
          if v2 < x2 then
            (wr s 604 480 ((v1 * 20) + v4) (-1)).bind fun s13 =>
            some (.inl ((v4 + 1), s13))
          else
            (wr s 604 480 ((v1 * 20) + v4) x2).bind fun s14 =>
            some (.inl ((v4 + 1), s14))
      else
        if 100000000 ≤ x2 then
          (wr s 604 480 ((v1 * 20) + v4) (-1)).bind fun s9 =>
          some (.inl ((v4 + 1), s9))
        else
          if v2 < x2 then
            (wr s 604 480 ((v1 * 20) + v4) (-1)).bind fun s10 =>
            some (.inl ((v4 + 1), s10))
          else
            (wr s 604 480 ((v1 * 20) + v4) (-1)).bind fun s11 =>
            some (.inl ((v4 + 1), s11))
def F_X6_measure_126 (s : St) : Option (St) :=
  some s
def F_X6_measure_3 (v1 : Int32) (v2 : Int32) (v3 : Nat) (v4 : Int32) (s : St) : Option (St) :=
  (lp (B_X6_measure_3 v1 v2 v3) FU (v4, s)).bind (fun y => F_X6_measure_126 y)
def F_X6_measure (v1 : Int32) (v2 : Int32) (v3 : Nat) (s : St) : Option (St) :=
  F_X6_measure_3 v1 v2 v3 0 s
theorem J_X6_measure : mj_t 12 114 = 126 ∧ mj_t 36 29 = 65 ∧ mj_t 62 7 = 69 ∧ mj_t 66 4 = 70 ∧ mj_t 76 18 = 94 ∧ mj_t 82 12 = 94 ∧ mj_t 87 7 = 94 ∧ mj_t 91 4 = 95 ∧ mj_t 110 8 = 118 ∧ mj_t 115 4 = 119 ∧ mj_t 123 (-120) = 3 ∧ (0 ≤ ((12 : Nat) : Int) + 114) = True ∧ (0 ≤ ((36 : Nat) : Int) + 29) = True ∧ (0 ≤ ((62 : Nat) : Int) + 7) = True ∧ (0 ≤ ((66 : Nat) : Int) + 4) = True ∧ (0 ≤ ((76 : Nat) : Int) + 18) = True ∧ (0 ≤ ((82 : Nat) : Int) + 12) = True ∧ (0 ≤ ((87 : Nat) : Int) + 7) = True ∧ (0 ≤ ((91 : Nat) : Int) + 4) = True ∧ (0 ≤ ((110 : Nat) : Int) + 8) = True ∧ (0 ≤ ((115 : Nat) : Int) + 4) = True ∧ (0 ≤ ((123 : Nat) : Int) + (-120)) = True := by and_intros <;> first | rfl | exact eq_true (by decide)
set_option maxHeartbeats 4000000 in
set_option maxRecDepth 20000 in
theorem b_X6_measure_3 {k : Option Value → mj_H → Prop} {G : mj_K} (hG : mj_cl2 cX6_measure (TbX6 8 (none) []) k G) {v1 : Int32} {v2 : Int32} {v3 : Nat} {P : Int32 × St → Prop} {K : (St) → Prop} (hP : ∀ x, P x → G 3 [.ref 55, .int v1, .int v2, .ref v3, .int x.1] [] (mkCs x.2) 0 0) (hK0 : ∀ y, K y → G 126 [] [] (mkCs y) 0 0) {v4 : Int32} {s : St} (hw : ok (B_X6_measure_3 v1 v2 v3 (v4, s)) (Sum.elim P K)) : G 3 [.ref 55, .int v1, .int v2, .ref v3, .int v4] [] (mkCs s) 0 0 := by
  unfold B_X6_measure_3 at hw
  refine mj_run hG.1 (fun pc => pc == 3 || pc == 26 || pc == 126) 4000 ?_
  simp only [mj_step, mj_W_s, mj_fin, List.getElem?_cons_zero, List.getElem?_cons_succ, mj_go, Nat.reduceAdd, Nat.reduceSub, Nat.reduceLT, Nat.reduceLeDiff, Nat.zero_add, Nat.reduceEqDiff, Nat.reduceBEq, ↓reduceIte, Bool.false_eq_true, List.append_nil, List.nil_append, List.cons_append, Option.toList, and_true, true_and, true_or, or_true, reduceCtorEq, List.map_nil, bI_eq0, bI_eq1, bool_ft, pk_us, vnar0, vnar1, Bool.or_false, Bool.or_true, Bool.false_or, Bool.true_or, mj_kne, eq_self, Int32.reduceLT, Int32.reduceLE, Int32.reduceAdd, Int32.reduceSub, Int32.reduceMul, not_true_eq_false, not_false_eq_true, false_implies, true_implies, D_X6_measure_0, D_X6_measure_1, mj_F_aload_n_k, mj_F_baload, mj_F_bipush_n, mj_F_getfield_i, mj_F_goto_off, mj_F_iadd, mj_F_iaload, mj_F_iand, mj_F_iastore, mj_F_iconst_n, mj_F_ifCond_eq_off, mj_F_if_icmp_ge_off, mj_F_if_icmp_gt_off, mj_F_if_icmp_ne_off, mj_F_iinc_k_n, mj_F_iload_k, mj_F_iload_n_k, mj_F_imul, mj_F_ishr, mj_F_istore_k, mj_F_ldc_i, mj_F_return_, mj_set, mj_set0, mj_unk, mj_c2, mj_kc, FT_X6, KT_X6, gS_C55, gCf6_3, gS_C35, gCf5_1, gCf5_2, gS_C36, sS_Ca_36, gCf6_8, gS_C60, sS_Ca_60, gCf5_6, gS_C40, sS_Ca_40, gCf6_2, gS_C20, gCf1_4, gS_C23, sS_Ca_23, gCf6_4, gS_C56, sS_Ca_56, J_X6_measure]
  refine ⟨fun c => ?_, fun c => ?_⟩
  · replace hw := ok_t hw c
    exact hG.2 _ _ _ _ _ _ _ _ _ (by exact trivial) (Nat.zero_le _) (Nat.zero_le _) (hK0 _ (ok_some hw :) :)
  · replace hw := ok_f hw c
    refine ⟨(ok_rd hw).1, ?_⟩
    replace hw := (ok_rd hw).2
    obtain ⟨_, _, e15, z, hw⟩ := ok_ra hw
    refine mj_run hG.1 (fun pc => pc == 3 || pc == 26 || pc == 126) 4000 ?_
    simp only [e15, mj_step, mj_W_s, mj_fin, List.getElem?_cons_zero, List.getElem?_cons_succ, mj_go, Nat.reduceAdd, Nat.reduceSub, Nat.reduceLT, Nat.reduceLeDiff, Nat.zero_add, Nat.reduceEqDiff, Nat.reduceBEq, ↓reduceIte, Bool.false_eq_true, List.append_nil, List.nil_append, List.cons_append, Option.toList, and_true, true_and, true_or, or_true, reduceCtorEq, List.map_nil, bI_eq0, bI_eq1, bool_ft, pk_us, vnar0, vnar1, Bool.or_false, Bool.or_true, Bool.false_or, Bool.true_or, mj_kne, eq_self, Int32.reduceLT, Int32.reduceLE, Int32.reduceAdd, Int32.reduceSub, Int32.reduceMul, not_true_eq_false, not_false_eq_true, false_implies, true_implies, D_X6_measure_0, D_X6_measure_1, mj_F_aload_n_k, mj_F_baload, mj_F_bipush_n, mj_F_getfield_i, mj_F_goto_off, mj_F_iadd, mj_F_iaload, mj_F_iand, mj_F_iastore, mj_F_iconst_n, mj_F_ifCond_eq_off, mj_F_if_icmp_ge_off, mj_F_if_icmp_gt_off, mj_F_if_icmp_ne_off, mj_F_iinc_k_n, mj_F_iload_k, mj_F_iload_n_k, mj_F_imul, mj_F_ishr, mj_F_istore_k, mj_F_ldc_i, mj_F_return_, mj_set, mj_set0, mj_unk, mj_c2, mj_kc, FT_X6, KT_X6, gS_C55, gCf6_3, gS_C35, gCf5_1, gCf5_2, gS_C36, sS_Ca_36, gCf6_8, gS_C60, sS_Ca_60, gCf5_6, gS_C40, sS_Ca_40, gCf6_2, gS_C20, gCf1_4, gS_C23, sS_Ca_23, gCf6_4, gS_C56, sS_Ca_56, J_X6_measure]
    refine ⟨z, ?_⟩
    refine ⟨(ok_rd hw).1, ?_⟩
    replace hw := (ok_rd hw).2
    refine ⟨fun c => ?_, fun c => ?_⟩
    · replace hw := ok_t hw c
      refine ⟨fun c => ?_, fun c => ?_⟩
      · replace hw := ok_t hw c
        refine ⟨(ok_wr hw).1, ?_⟩
        replace hw := (ok_wr hw).2
        exact hG.2 _ _ _ _ _ _ _ _ _ (by refine ⟨Or.inr rfl, ?_⟩; refine ⟨Or.inr rfl, ?_⟩; refine ⟨Or.inr rfl, ?_⟩; refine ⟨Or.inr rfl, ?_⟩; refine ⟨Or.inr rfl, ?_⟩; exact trivial) (Nat.zero_le _) (Nat.zero_le _) (hP _ (ok_some hw :) :)
      · replace hw := ok_f hw c
        refine ⟨fun c => ?_, fun c => ?_⟩
        · replace hw := ok_t hw c
          refine ⟨(ok_wr hw).1, ?_⟩
          replace hw := (ok_wr hw).2
          exact hG.2 _ _ _ _ _ _ _ _ _ (by refine ⟨Or.inr rfl, ?_⟩; refine ⟨Or.inr rfl, ?_⟩; refine ⟨Or.inr rfl, ?_⟩; refine ⟨Or.inr rfl, ?_⟩; refine ⟨Or.inr rfl, ?_⟩; exact trivial) (Nat.zero_le _) (Nat.zero_le _) (hP _ (ok_some hw :) :)
        · replace hw := ok_f hw c
          refine ⟨(ok_wr hw).1, ?_⟩
          replace hw := (ok_wr hw).2
          exact hG.2 _ _ _ _ _ _ _ _ _ (by refine ⟨Or.inr rfl, ?_⟩; refine ⟨Or.inr rfl, ?_⟩; refine ⟨Or.inr rfl, ?_⟩; refine ⟨Or.inr rfl, ?_⟩; refine ⟨Or.inr rfl, ?_⟩; exact trivial) (Nat.zero_le _) (Nat.zero_le _) (hP _ (ok_some hw :) :)
    · replace hw := ok_f hw c
      refine ⟨(ok_rd hw).1, ?_⟩
      replace hw := (ok_rd hw).2
      refine ⟨(ok_rd hw).1, ?_⟩
      replace hw := (ok_rd hw).2
      refine ⟨fun c => ?_, fun c => ?_⟩
      · replace hw := ok_f hw c
        refine ⟨fun c => ?_, fun c => ?_⟩
        · replace hw := ok_t hw c
          refine ⟨(ok_wr hw).1, ?_⟩
          replace hw := (ok_wr hw).2
          exact hG.2 _ _ _ _ _ _ _ _ _ (by refine ⟨Or.inr rfl, ?_⟩; refine ⟨Or.inr rfl, ?_⟩; refine ⟨Or.inr rfl, ?_⟩; refine ⟨Or.inr rfl, ?_⟩; refine ⟨Or.inr rfl, ?_⟩; exact trivial) (Nat.zero_le _) (Nat.zero_le _) (hP _ (ok_some hw :) :)
        · replace hw := ok_f hw c
          refine ⟨fun c => ?_, fun c => ?_⟩
          · replace hw := ok_t hw c
            refine ⟨(ok_wr hw).1, ?_⟩
            replace hw := (ok_wr hw).2
            exact hG.2 _ _ _ _ _ _ _ _ _ (by refine ⟨Or.inr rfl, ?_⟩; refine ⟨Or.inr rfl, ?_⟩; refine ⟨Or.inr rfl, ?_⟩; refine ⟨Or.inr rfl, ?_⟩; refine ⟨Or.inr rfl, ?_⟩; exact trivial) (Nat.zero_le _) (Nat.zero_le _) (hP _ (ok_some hw :) :)
          · replace hw := ok_f hw c
            refine ⟨(ok_wr hw).1, ?_⟩
            replace hw := (ok_wr hw).2
            exact hG.2 _ _ _ _ _ _ _ _ _ (by refine ⟨Or.inr rfl, ?_⟩; refine ⟨Or.inr rfl, ?_⟩; refine ⟨Or.inr rfl, ?_⟩; refine ⟨Or.inr rfl, ?_⟩; refine ⟨Or.inr rfl, ?_⟩; exact trivial) (Nat.zero_le _) (Nat.zero_le _) (hP _ (ok_some hw :) :)
      · replace hw := ok_t hw c
        refine ⟨fun c => ?_, fun c => ?_⟩
        · replace hw := ok_t hw c
          refine ⟨(ok_wr hw).1, ?_⟩
          replace hw := (ok_wr hw).2
          exact hG.2 _ _ _ _ _ _ _ _ _ (by refine ⟨Or.inr rfl, ?_⟩; refine ⟨Or.inr rfl, ?_⟩; refine ⟨Or.inr rfl, ?_⟩; refine ⟨Or.inr rfl, ?_⟩; refine ⟨Or.inr rfl, ?_⟩; exact trivial) (Nat.zero_le _) (Nat.zero_le _) (hP _ (ok_some hw :) :)
        · replace hw := ok_f hw c
          refine ⟨fun c => ?_, fun c => ?_⟩
          · replace hw := ok_t hw c
            refine ⟨(ok_wr hw).1, ?_⟩
            replace hw := (ok_wr hw).2
            exact hG.2 _ _ _ _ _ _ _ _ _ (by refine ⟨Or.inr rfl, ?_⟩; refine ⟨Or.inr rfl, ?_⟩; refine ⟨Or.inr rfl, ?_⟩; refine ⟨Or.inr rfl, ?_⟩; refine ⟨Or.inr rfl, ?_⟩; exact trivial) (Nat.zero_le _) (Nat.zero_le _) (hP _ (ok_some hw :) :)
          · replace hw := ok_f hw c
            refine ⟨(ok_wr hw).1, ?_⟩
            replace hw := (ok_wr hw).2
            exact hG.2 _ _ _ _ _ _ _ _ _ (by refine ⟨Or.inr rfl, ?_⟩; refine ⟨Or.inr rfl, ?_⟩; refine ⟨Or.inr rfl, ?_⟩; refine ⟨Or.inr rfl, ?_⟩; refine ⟨Or.inr rfl, ?_⟩; exact trivial) (Nat.zero_le _) (Nat.zero_le _) (hP _ (ok_some hw :) :)

set_option maxHeartbeats 4000000 in
set_option maxRecDepth 20000 in
theorem g_X6_measure_126 {k : Option Value → mj_H → Prop} {G : mj_K} (hG : mj_cl2 cX6_measure (TbX6 8 (none) []) k G)   {s : St} (hw : ok (F_X6_measure_126 s) (fun p => k none (mkCs p))) : G 126 [] [] (mkCs s) 0 0 := by
  unfold F_X6_measure_126 at hw
  refine mj_run hG.1 (fun pc => pc == 3 || pc == 26 || pc == 126) 4000 ?_
  simp only [mj_step, mj_W_s, mj_fin, List.getElem?_cons_zero, List.getElem?_cons_succ, mj_go, Nat.reduceAdd, Nat.reduceSub, Nat.reduceLT, Nat.reduceLeDiff, Nat.zero_add, Nat.reduceEqDiff, Nat.reduceBEq, ↓reduceIte, Bool.false_eq_true, List.append_nil, List.nil_append, List.cons_append, Option.toList, and_true, true_and, true_or, or_true, reduceCtorEq, List.map_nil, bI_eq0, bI_eq1, bool_ft, pk_us, vnar0, vnar1, Bool.or_false, Bool.or_true, Bool.false_or, Bool.true_or, mj_kne, eq_self, Int32.reduceLT, Int32.reduceLE, Int32.reduceAdd, Int32.reduceSub, Int32.reduceMul, not_true_eq_false, not_false_eq_true, false_implies, true_implies, D_X6_measure_0, D_X6_measure_1, mj_F_aload_n_k, mj_F_baload, mj_F_bipush_n, mj_F_getfield_i, mj_F_goto_off, mj_F_iadd, mj_F_iaload, mj_F_iand, mj_F_iastore, mj_F_iconst_n, mj_F_ifCond_eq_off, mj_F_if_icmp_ge_off, mj_F_if_icmp_gt_off, mj_F_if_icmp_ne_off, mj_F_iinc_k_n, mj_F_iload_k, mj_F_iload_n_k, mj_F_imul, mj_F_ishr, mj_F_istore_k, mj_F_ldc_i, mj_F_return_, mj_set, mj_set0, mj_unk, mj_c2, mj_kc, FT_X6, KT_X6, gS_C55, gCf6_3, gS_C35, gCf5_1, gCf5_2, gS_C36, sS_Ca_36, gCf6_8, gS_C60, sS_Ca_60, gCf5_6, gS_C40, sS_Ca_40, gCf6_2, gS_C20, gCf1_4, gS_C23, sS_Ca_23, gCf6_4, gS_C56, sS_Ca_56, J_X6_measure]
  exact (ok_some hw :)

set_option maxHeartbeats 4000000 in
theorem g_X6_measure_3 {k : Option Value → mj_H → Prop} {G : mj_K} (hG : mj_cl2 cX6_measure (TbX6 8 (none) []) k G)   {v1 : Int32} {v2 : Int32} {v3 : Nat} {v4 : Int32} {s : St} (hw : ok (F_X6_measure_3 v1 v2 v3 v4 s) (fun p => k none (mkCs p))) : G 3 [.ref 55, .int v1, .int v2, .ref v3, .int v4] [] (mkCs s) 0 0 := by
  unfold F_X6_measure_3 at hw
  refine lp_ok (B_X6_measure_3 v1 v2 v3) (fun x => G 3 [.ref 55, .int v1, .int v2, .ref v3, .int x.1] [] (mkCs x.2) 0 0) _ ?_ _ _ (ok_bind hw)
  rintro ⟨v4, s⟩ hb
  exact b_X6_measure_3 hG (fun _ z => z) (fun y hw => by exact hG.2 _ _ _ _ _ _ _ _ _ (by exact trivial) (Nat.zero_le _) (Nat.zero_le _) (g_X6_measure_126 hG  hw :)) hb

set_option maxHeartbeats 4000000 in
set_option maxRecDepth 20000 in
theorem g_X6_measure {k : Option Value → mj_H → Prop} {G : mj_K} (hG : mj_cl2 cX6_measure (TbX6 8 (none) []) k G) {v1 : Int32} {v2 : Int32} {v3 : Nat} {s : St} (hw : ok (F_X6_measure v1 v2 v3 s) (fun p => k none (mkCs p))) : G 0 [.ref 55, .int v1, .int v2, .ref v3] [] (mkCs s) 0 0 := by
  unfold F_X6_measure at hw
  refine mj_run hG.1 (fun pc => pc == 3 || pc == 26 || pc == 126) 4000 ?_
  simp only [mj_step, mj_W_s, mj_fin, List.getElem?_cons_zero, List.getElem?_cons_succ, mj_go, Nat.reduceAdd, Nat.reduceSub, Nat.reduceLT, Nat.reduceLeDiff, Nat.zero_add, Nat.reduceEqDiff, Nat.reduceBEq, ↓reduceIte, Bool.false_eq_true, List.append_nil, List.nil_append, List.cons_append, Option.toList, and_true, true_and, true_or, or_true, reduceCtorEq, List.map_nil, bI_eq0, bI_eq1, bool_ft, pk_us, vnar0, vnar1, Bool.or_false, Bool.or_true, Bool.false_or, Bool.true_or, mj_kne, eq_self, Int32.reduceLT, Int32.reduceLE, Int32.reduceAdd, Int32.reduceSub, Int32.reduceMul, not_true_eq_false, not_false_eq_true, false_implies, true_implies, D_X6_measure_0, D_X6_measure_1, mj_F_aload_n_k, mj_F_baload, mj_F_bipush_n, mj_F_getfield_i, mj_F_goto_off, mj_F_iadd, mj_F_iaload, mj_F_iand, mj_F_iastore, mj_F_iconst_n, mj_F_ifCond_eq_off, mj_F_if_icmp_ge_off, mj_F_if_icmp_gt_off, mj_F_if_icmp_ne_off, mj_F_iinc_k_n, mj_F_iload_k, mj_F_iload_n_k, mj_F_imul, mj_F_ishr, mj_F_istore_k, mj_F_ldc_i, mj_F_return_, mj_set, mj_set0, mj_unk, mj_c2, mj_kc, FT_X6, KT_X6, gS_C55, gCf6_3, gS_C35, gCf5_1, gCf5_2, gS_C36, sS_Ca_36, gCf6_8, gS_C60, sS_Ca_60, gCf5_6, gS_C40, sS_Ca_40, gCf6_2, gS_C20, gCf1_4, gS_C23, sS_Ca_23, gCf6_4, gS_C56, sS_Ca_56, J_X6_measure]
  exact hG.2 _ _ _ _ _ _ _ _ _ (by refine ⟨Or.inr rfl, ?_⟩; refine ⟨Or.inr rfl, ?_⟩; refine ⟨Or.inr rfl, ?_⟩; refine ⟨Or.inr rfl, ?_⟩; refine ⟨Or.inr rfl, ?_⟩; exact trivial) (Nat.zero_le _) (Nat.zero_le _) (g_X6_measure_3 hG  hw :)

def c_X6_measure : mj_S := fun as h k => ∃ (v1 : Int32) (v2 : Int32) (v3 : Nat) (s : St), as = [.ref 55, .int v1, .int v2, .ref v3] ∧ h = mkCs s ∧ ok (F_X6_measure v1 v2 v3 s) (fun p => k none (mkCs p))
theorem c_X6_measure_in {v1 : Int32} {v2 : Int32} {v3 : Nat} {s : St} {k : Option Value → mj_H → Prop} (hw : ok (F_X6_measure v1 v2 v3 s) (fun p => k none (mkCs p))) : c_X6_measure [.ref 55, .int v1, .int v2, .ref v3] (mkCs s) k := ⟨v1, v2, v3, s, rfl, rfl, hw⟩
theorem m_X6_measure (l : Launch) : mj_Met l yX6_measure cX6_measure 8 (none) 0 0 0 c_X6_measure := by
  refine mj_body2 false (TbX6 8 (none) []) (by decide) rfl rfl (fun h => nomatch h) (tfX6 _ (fun _ h => nomatch h)) ?_
  rintro as h k ⟨v1, v2, v3, s, rfl, rfl, hw⟩
  exact ⟨rfl, fun G hG => g_X6_measure hG hw⟩
def B_X6_survey_8 (v1 : Int32) (v2 : Int32) (v3 : Int32) : Int32 × St → Option ((Int32 × St) ⊕ ((St)))
  | (v4, s) =>
  if (s.1 501) ≤ v4 then
    some (.inr s)
  else
    (F_X5_classesOf v4 v1 v2 s).bind fun r1 =>
    (F_X5_headsOf v4 v1 v2 r1.2).bind fun r2 =>
    (wr r2.2 607 20 v4 (r1.1 * r2.1)).bind fun s3 =>
    (F_X0_spell 0 0 0 0 s3).bind fun s4 =>
    (rd s4 503 20 v4).bind fun x5 =>
    (F_X0_worthOf 6 x5 v3 v2 0 s4).bind fun r6 =>
    if r6.1 = 0 then
      (wr r6.2 608 20 v4 0).bind fun s7 =>
      some (.inl ((v4 + 1), s7))
    else
      (wr r6.2 608 20 v4 1).bind fun s8 =>
      some (.inl ((v4 + 1), s8))
def B_X6_survey_107 (v1 : Int32) (v2 : Int32) (v3 : Int32) : Int32 × St → Option ((Int32 × St) ⊕ ((St)))
  | (v4, s) =>
  if (s.1 101) ≤ v4 then
    some (.inr s)
  else
    (F_X1_childrenOf v4 v3 v2 s).bind fun r9 =>
    (wr s 606 24 v4 r9).bind fun s10 =>
    (F_X1_walkLimit v4 v3 v2 s10).bind fun r11 =>
    (rd r11.2 102 24 v4).bind fun x12 =>
    (F_X2_isWet v1 r11.2).bind fun r13 =>
    (F_X2_rowFrom x12 r13 r11.2).bind fun r14 =>
    (F_X6_measure v4 r11.1 r14.1 r14.2).bind fun s15 =>
    some (.inl ((v4 + 1), s15))
def F_X6_survey_189 (s : St) : Option (St) :=
  some s
def F_X6_survey_107 (v1 : Int32) (v2 : Int32) (v3 : Int32) (v4 : Int32) (s : St) : Option (St) :=
  (lp (B_X6_survey_107 v1 v2 v3) 25 (v4, s)).bind (fun y => F_X6_survey_189 y)
def F_X6_survey_104 (v1 : Int32) (v2 : Int32) (v3 : Int32) (s : St) : Option (St) :=
  F_X6_survey_107 v1 v2 v3 0 s
def F_X6_survey_8 (v1 : Int32) (v2 : Int32) (v3 : Int32) (v4 : Int32) (s : St) : Option (St) :=
  (lp (B_X6_survey_8 v1 v2 v3) FU (v4, s)).bind (fun y => F_X6_survey_104 v1 v2 v3 y)
def F_X6_survey (v1 : Int32) (v2 : Int32) (s : St) : Option (St) :=
  F_X6_survey_8 v1 v2 (v1 / 52) 0 s
theorem J_X6_survey : mj_t 17 87 = 104 ∧ mj_t 89 7 = 96 ∧ mj_t 93 4 = 97 ∧ mj_t 101 (-93) = 8 ∧ mj_t 116 73 = 189 ∧ mj_t 186 (-79) = 107 ∧ (0 ≤ ((17 : Nat) : Int) + 87) = True ∧ (0 ≤ ((89 : Nat) : Int) + 7) = True ∧ (0 ≤ ((93 : Nat) : Int) + 4) = True ∧ (0 ≤ ((101 : Nat) : Int) + (-93)) = True ∧ (0 ≤ ((116 : Nat) : Int) + 73) = True ∧ (0 ≤ ((186 : Nat) : Int) + (-79)) = True := by and_intros <;> first | rfl | exact eq_true (by decide)
def ct_X6_survey : List (Nat × mj_Cs) := [(59, 0, 4, 5, 0, 0, c_X5_classesOf), (63, 0, 4, 5, 0, 0, c_X5_headsOf), (66, 0, 5, 0, 0, 0, c_X0_spell), (75, 0, 6, 0, 0, 0, c_X0_worthOf), (82, 0, 4, 1, 0, 0, c_X1_childrenOf), (85, 0, 4, 1, 0, 0, c_X1_walkLimit), (91, 0, 2, 2, 0, 0, c_X2_isWet), (97, 0, 3, 2, 1, 120, c_X2_rowFrom), (101, 0, 4, 6, 0, 0, c_X6_measure)]
theorem L_X6_survey : mj_lk ct_X6_survey 59 = some (0, 4, 5, 0, 0, c_X5_classesOf) ∧ mj_lk ct_X6_survey 63 = some (0, 4, 5, 0, 0, c_X5_headsOf) ∧ mj_lk ct_X6_survey 66 = some (0, 5, 0, 0, 0, c_X0_spell) ∧ mj_lk ct_X6_survey 75 = some (0, 6, 0, 0, 0, c_X0_worthOf) ∧ mj_lk ct_X6_survey 82 = some (0, 4, 1, 0, 0, c_X1_childrenOf) ∧ mj_lk ct_X6_survey 85 = some (0, 4, 1, 0, 0, c_X1_walkLimit) ∧ mj_lk ct_X6_survey 91 = some (0, 2, 2, 0, 0, c_X2_isWet) ∧ mj_lk ct_X6_survey 97 = some (0, 3, 2, 1, 120, c_X2_rowFrom) ∧ mj_lk ct_X6_survey 101 = some (0, 4, 6, 0, 0, c_X6_measure) := ⟨rfl, rfl, rfl, rfl, rfl, rfl, rfl, rfl, rfl⟩
set_option maxHeartbeats 4000000 in
set_option maxRecDepth 20000 in
theorem b_X6_survey_8 {k : Option Value → mj_H → Prop} {G : mj_K} (hG : mj_cl2 cX6_survey (TbX6 6 (none) ct_X6_survey) k G) (hC : mj_c8 cX6_survey (TbX6 6 (none) ct_X6_survey) G) {v1 : Int32} {v2 : Int32} {v3 : Int32} {P : Int32 × St → Prop} {K : (St) → Prop} (hP : ∀ x, P x → G 8 [.ref 55, .int v1, .int v2, .int v3, .int x.1] [] (mkCs x.2) 25 3000) (hK0 : ∀ y, K y → G 104 [.ref 55, .int v1, .int v2, .int v3] [] (mkCs y) 25 3000) {v4 : Int32} {s : St} (hw : ok (B_X6_survey_8 v1 v2 v3 (v4, s)) (Sum.elim P K)) : G 8 [.ref 55, .int v1, .int v2, .int v3, .int v4] [] (mkCs s) 25 3000 := by
  unfold B_X6_survey_8 at hw
  refine mj_run hG.1 (fun pc => pc == 8 || pc == 37 || pc == 48 || pc == 61 || pc == 89 || pc == 104 || pc == 107 || pc == 136 || pc == 148 || pc == 174 || pc == 177 || pc == 180 || pc == 183 || pc == 189) 4000 ?_
  simp only [mj_step, mj_W_s, mj_fin, List.getElem?_cons_zero, List.getElem?_cons_succ, mj_go, Nat.reduceAdd, Nat.reduceSub, Nat.reduceLT, Nat.reduceLeDiff, Nat.zero_add, Nat.reduceEqDiff, Nat.reduceBEq, ↓reduceIte, Bool.false_eq_true, List.append_nil, List.nil_append, List.cons_append, Option.toList, and_true, true_and, true_or, or_true, reduceCtorEq, List.map_nil, bI_eq0, bI_eq1, bool_ft, pk_us, vnar0, vnar1, Bool.or_false, Bool.or_true, Bool.false_or, Bool.true_or, mj_kne, eq_self, Int32.reduceLT, Int32.reduceLE, Int32.reduceAdd, Int32.reduceSub, Int32.reduceMul, not_true_eq_false, not_false_eq_true, false_implies, true_implies, D_X6_survey_0, D_X6_survey_1, mj_F_aload_n_k, mj_F_bastore, mj_F_bipush_n, mj_F_getfield_i, mj_F_goto_off, mj_F_iaload, mj_F_iastore, mj_F_iconst_n, mj_F_idiv, mj_F_ifCond_eq_off, mj_F_if_icmp_ge_off, mj_F_iinc_k_n, mj_F_iload_k, mj_F_iload_n_k, mj_F_imul, mj_F_invokevirtual_i, mj_F_istore_k, mj_F_istore_n_k, mj_F_return_, mj_set, mj_set0, mj_unk, mj_c2, mj_kc, FT_X6, L_X6_survey, List.take_succ_cons, List.take_zero, List.drop_succ_cons, List.drop_zero, List.reverse_cons, List.reverse_nil, List.length_cons, List.length_nil, gS_C55, gCf6_3, gS_C35, gCf5_1, gCf6_7, gS_C59, sS_Ca_59, gCf6_1, gCf6_8, gS_C60, sS_Ca_60, gCf5_3, gS_C37, sS_Ca_37, gCf6_2, gS_C20, gCf1_1, gCf6_6, gS_C58, sS_Ca_58, gCf6_0, gCf1_2, gS_C21, sS_Ca_21, gS_C11, gS_C1, Nat.zero_le, Nat.sub_zero, J_X6_survey]
  refine ⟨fun c => ?_, fun c => ?_⟩
  · replace hw := ok_t hw c
    exact hG.2 _ _ _ _ _ _ _ _ _ (by refine ⟨Or.inr rfl, ?_⟩; refine ⟨Or.inr rfl, ?_⟩; refine ⟨Or.inr rfl, ?_⟩; refine ⟨Or.inr rfl, ?_⟩; exact trivial) (by omega) (by omega) (hK0 _ (ok_some hw :) :)
  · replace hw := ok_f hw c
    refine c_X5_classesOf_in (ok_imp (ok_bind hw) ?_)
    intro p hw
    simp only [Option.toList, List.nil_append, List.cons_append, Nat.reduceSub]
    refine mj_run hG.1 (fun pc => pc == 8 || pc == 37 || pc == 48 || pc == 61 || pc == 89 || pc == 104 || pc == 107 || pc == 136 || pc == 148 || pc == 174 || pc == 177 || pc == 180 || pc == 183 || pc == 189) 4000 ?_
    simp only [mj_step, mj_W_s, mj_fin, List.getElem?_cons_zero, List.getElem?_cons_succ, mj_go, Nat.reduceAdd, Nat.reduceSub, Nat.reduceLT, Nat.reduceLeDiff, Nat.zero_add, Nat.reduceEqDiff, Nat.reduceBEq, ↓reduceIte, Bool.false_eq_true, List.append_nil, List.nil_append, List.cons_append, Option.toList, and_true, true_and, true_or, or_true, reduceCtorEq, List.map_nil, bI_eq0, bI_eq1, bool_ft, pk_us, vnar0, vnar1, Bool.or_false, Bool.or_true, Bool.false_or, Bool.true_or, mj_kne, eq_self, Int32.reduceLT, Int32.reduceLE, Int32.reduceAdd, Int32.reduceSub, Int32.reduceMul, not_true_eq_false, not_false_eq_true, false_implies, true_implies, D_X6_survey_0, D_X6_survey_1, mj_F_aload_n_k, mj_F_bastore, mj_F_bipush_n, mj_F_getfield_i, mj_F_goto_off, mj_F_iaload, mj_F_iastore, mj_F_iconst_n, mj_F_idiv, mj_F_ifCond_eq_off, mj_F_if_icmp_ge_off, mj_F_iinc_k_n, mj_F_iload_k, mj_F_iload_n_k, mj_F_imul, mj_F_invokevirtual_i, mj_F_istore_k, mj_F_istore_n_k, mj_F_return_, mj_set, mj_set0, mj_unk, mj_c2, mj_kc, FT_X6, L_X6_survey, List.take_succ_cons, List.take_zero, List.drop_succ_cons, List.drop_zero, List.reverse_cons, List.reverse_nil, List.length_cons, List.length_nil, gS_C55, gCf6_3, gS_C35, gCf5_1, gCf6_7, gS_C59, sS_Ca_59, gCf6_1, gCf6_8, gS_C60, sS_Ca_60, gCf5_3, gS_C37, sS_Ca_37, gCf6_2, gS_C20, gCf1_1, gCf6_6, gS_C58, sS_Ca_58, gCf6_0, gCf1_2, gS_C21, sS_Ca_21, gS_C11, gS_C1, Nat.zero_le, Nat.sub_zero, J_X6_survey]
    refine c_X5_headsOf_in (ok_imp (ok_bind hw) ?_)
    intro p hw
    simp only [Option.toList, List.nil_append, List.cons_append, Nat.reduceSub]
    refine mj_run hG.1 (fun pc => pc == 8 || pc == 37 || pc == 48 || pc == 61 || pc == 89 || pc == 104 || pc == 107 || pc == 136 || pc == 148 || pc == 174 || pc == 177 || pc == 180 || pc == 183 || pc == 189) 4000 ?_
    simp only [mj_step, mj_W_s, mj_fin, List.getElem?_cons_zero, List.getElem?_cons_succ, mj_go, Nat.reduceAdd, Nat.reduceSub, Nat.reduceLT, Nat.reduceLeDiff, Nat.zero_add, Nat.reduceEqDiff, Nat.reduceBEq, ↓reduceIte, Bool.false_eq_true, List.append_nil, List.nil_append, List.cons_append, Option.toList, and_true, true_and, true_or, or_true, reduceCtorEq, List.map_nil, bI_eq0, bI_eq1, bool_ft, pk_us, vnar0, vnar1, Bool.or_false, Bool.or_true, Bool.false_or, Bool.true_or, mj_kne, eq_self, Int32.reduceLT, Int32.reduceLE, Int32.reduceAdd, Int32.reduceSub, Int32.reduceMul, not_true_eq_false, not_false_eq_true, false_implies, true_implies, D_X6_survey_0, D_X6_survey_1, mj_F_aload_n_k, mj_F_bastore, mj_F_bipush_n, mj_F_getfield_i, mj_F_goto_off, mj_F_iaload, mj_F_iastore, mj_F_iconst_n, mj_F_idiv, mj_F_ifCond_eq_off, mj_F_if_icmp_ge_off, mj_F_iinc_k_n, mj_F_iload_k, mj_F_iload_n_k, mj_F_imul, mj_F_invokevirtual_i, mj_F_istore_k, mj_F_istore_n_k, mj_F_return_, mj_set, mj_set0, mj_unk, mj_c2, mj_kc, FT_X6, L_X6_survey, List.take_succ_cons, List.take_zero, List.drop_succ_cons, List.drop_zero, List.reverse_cons, List.reverse_nil, List.length_cons, List.length_nil, gS_C55, gCf6_3, gS_C35, gCf5_1, gCf6_7, gS_C59, sS_Ca_59, gCf6_1, gCf6_8, gS_C60, sS_Ca_60, gCf5_3, gS_C37, sS_Ca_37, gCf6_2, gS_C20, gCf1_1, gCf6_6, gS_C58, sS_Ca_58, gCf6_0, gCf1_2, gS_C21, sS_Ca_21, gS_C11, gS_C1, Nat.zero_le, Nat.sub_zero, J_X6_survey]
    refine ⟨(ok_wr hw).1, ?_⟩
    replace hw := (ok_wr hw).2
    refine c_X0_spell_in (ok_imp (ok_bind hw) ?_)
    intro p hw
    simp only [Option.toList, List.nil_append, List.cons_append, Nat.reduceSub]
    refine mj_run hG.1 (fun pc => pc == 8 || pc == 37 || pc == 48 || pc == 61 || pc == 89 || pc == 104 || pc == 107 || pc == 136 || pc == 148 || pc == 174 || pc == 177 || pc == 180 || pc == 183 || pc == 189) 4000 ?_
    simp only [mj_step, mj_W_s, mj_fin, List.getElem?_cons_zero, List.getElem?_cons_succ, mj_go, Nat.reduceAdd, Nat.reduceSub, Nat.reduceLT, Nat.reduceLeDiff, Nat.zero_add, Nat.reduceEqDiff, Nat.reduceBEq, ↓reduceIte, Bool.false_eq_true, List.append_nil, List.nil_append, List.cons_append, Option.toList, and_true, true_and, true_or, or_true, reduceCtorEq, List.map_nil, bI_eq0, bI_eq1, bool_ft, pk_us, vnar0, vnar1, Bool.or_false, Bool.or_true, Bool.false_or, Bool.true_or, mj_kne, eq_self, Int32.reduceLT, Int32.reduceLE, Int32.reduceAdd, Int32.reduceSub, Int32.reduceMul, not_true_eq_false, not_false_eq_true, false_implies, true_implies, D_X6_survey_0, D_X6_survey_1, mj_F_aload_n_k, mj_F_bastore, mj_F_bipush_n, mj_F_getfield_i, mj_F_goto_off, mj_F_iaload, mj_F_iastore, mj_F_iconst_n, mj_F_idiv, mj_F_ifCond_eq_off, mj_F_if_icmp_ge_off, mj_F_iinc_k_n, mj_F_iload_k, mj_F_iload_n_k, mj_F_imul, mj_F_invokevirtual_i, mj_F_istore_k, mj_F_istore_n_k, mj_F_return_, mj_set, mj_set0, mj_unk, mj_c2, mj_kc, FT_X6, L_X6_survey, List.take_succ_cons, List.take_zero, List.drop_succ_cons, List.drop_zero, List.reverse_cons, List.reverse_nil, List.length_cons, List.length_nil, gS_C55, gCf6_3, gS_C35, gCf5_1, gCf6_7, gS_C59, sS_Ca_59, gCf6_1, gCf6_8, gS_C60, sS_Ca_60, gCf5_3, gS_C37, sS_Ca_37, gCf6_2, gS_C20, gCf1_1, gCf6_6, gS_C58, sS_Ca_58, gCf6_0, gCf1_2, gS_C21, sS_Ca_21, gS_C11, gS_C1, Nat.zero_le, Nat.sub_zero, J_X6_survey]
    refine ⟨(ok_rd hw).1, ?_⟩
    replace hw := (ok_rd hw).2
    refine c_X0_worthOf_in (ok_imp (ok_bind hw) ?_)
    intro p hw
    simp only [Option.toList, List.nil_append, List.cons_append, Nat.reduceSub]
    refine mj_run hG.1 (fun pc => pc == 8 || pc == 37 || pc == 48 || pc == 61 || pc == 89 || pc == 104 || pc == 107 || pc == 136 || pc == 148 || pc == 174 || pc == 177 || pc == 180 || pc == 183 || pc == 189) 4000 ?_
    simp only [mj_step, mj_W_s, mj_fin, List.getElem?_cons_zero, List.getElem?_cons_succ, mj_go, Nat.reduceAdd, Nat.reduceSub, Nat.reduceLT, Nat.reduceLeDiff, Nat.zero_add, Nat.reduceEqDiff, Nat.reduceBEq, ↓reduceIte, Bool.false_eq_true, List.append_nil, List.nil_append, List.cons_append, Option.toList, and_true, true_and, true_or, or_true, reduceCtorEq, List.map_nil, bI_eq0, bI_eq1, bool_ft, pk_us, vnar0, vnar1, Bool.or_false, Bool.or_true, Bool.false_or, Bool.true_or, mj_kne, eq_self, Int32.reduceLT, Int32.reduceLE, Int32.reduceAdd, Int32.reduceSub, Int32.reduceMul, not_true_eq_false, not_false_eq_true, false_implies, true_implies, D_X6_survey_0, D_X6_survey_1, mj_F_aload_n_k, mj_F_bastore, mj_F_bipush_n, mj_F_getfield_i, mj_F_goto_off, mj_F_iaload, mj_F_iastore, mj_F_iconst_n, mj_F_idiv, mj_F_ifCond_eq_off, mj_F_if_icmp_ge_off, mj_F_iinc_k_n, mj_F_iload_k, mj_F_iload_n_k, mj_F_imul, mj_F_invokevirtual_i, mj_F_istore_k, mj_F_istore_n_k, mj_F_return_, mj_set, mj_set0, mj_unk, mj_c2, mj_kc, FT_X6, L_X6_survey, List.take_succ_cons, List.take_zero, List.drop_succ_cons, List.drop_zero, List.reverse_cons, List.reverse_nil, List.length_cons, List.length_nil, gS_C55, gCf6_3, gS_C35, gCf5_1, gCf6_7, gS_C59, sS_Ca_59, gCf6_1, gCf6_8, gS_C60, sS_Ca_60, gCf5_3, gS_C37, sS_Ca_37, gCf6_2, gS_C20, gCf1_1, gCf6_6, gS_C58, sS_Ca_58, gCf6_0, gCf1_2, gS_C21, sS_Ca_21, gS_C11, gS_C1, Nat.zero_le, Nat.sub_zero, J_X6_survey]
    refine ⟨fun c => ?_, fun c => ?_⟩
    · replace hw := ok_t hw c
      refine ⟨(ok_wr hw).1, ?_⟩
      replace hw := (ok_wr hw).2
      exact hG.2 _ _ _ _ _ _ _ _ _ (by refine ⟨Or.inr rfl, ?_⟩; refine ⟨Or.inr rfl, ?_⟩; refine ⟨Or.inr rfl, ?_⟩; refine ⟨Or.inr rfl, ?_⟩; refine ⟨Or.inr rfl, ?_⟩; exact trivial) (by omega) (by omega) (hP _ (ok_some hw :) :)
    · replace hw := ok_f hw c
      refine ⟨(ok_wr hw).1, ?_⟩
      replace hw := (ok_wr hw).2
      exact hG.2 _ _ _ _ _ _ _ _ _ (by refine ⟨Or.inr rfl, ?_⟩; refine ⟨Or.inr rfl, ?_⟩; refine ⟨Or.inr rfl, ?_⟩; refine ⟨Or.inr rfl, ?_⟩; refine ⟨Or.inr rfl, ?_⟩; exact trivial) (by omega) (by omega) (hP _ (ok_some hw :) :)

set_option maxHeartbeats 4000000 in
set_option maxRecDepth 20000 in
theorem b_X6_survey_107 {k : Option Value → mj_H → Prop} {G : mj_K} (hG : mj_cl2 cX6_survey (TbX6 6 (none) ct_X6_survey) k G) (hC : mj_c8 cX6_survey (TbX6 6 (none) ct_X6_survey) G) {v1 : Int32} {v2 : Int32} {v3 : Int32} {n : Nat} {P : Int32 × St → Prop} {K : (St) → Prop} (hP : ∀ x, P x → G 107 [.ref 55, .int v1, .int v2, .int v3, .int x.1] [] (mkCs x.2) (n * 1) (n * 120)) (hK0 : ∀ y, K y → G 189 [] [] (mkCs y) 0 0) {v4 : Int32} {s : St} (hw : ok (B_X6_survey_107 v1 v2 v3 (v4, s)) (Sum.elim P K)) : G 107 [.ref 55, .int v1, .int v2, .int v3, .int v4] [] (mkCs s) ((n + 1) * 1) ((n + 1) * 120) := by
  unfold B_X6_survey_107 at hw
  refine mj_run hG.1 (fun pc => pc == 8 || pc == 37 || pc == 48 || pc == 61 || pc == 89 || pc == 104 || pc == 107 || pc == 136 || pc == 148 || pc == 174 || pc == 177 || pc == 180 || pc == 183 || pc == 189) 4000 ?_
  simp only [mj_step, mj_W_s, mj_fin, List.getElem?_cons_zero, List.getElem?_cons_succ, mj_go, Nat.reduceAdd, Nat.reduceSub, Nat.reduceLT, Nat.reduceLeDiff, Nat.zero_add, Nat.reduceEqDiff, Nat.reduceBEq, ↓reduceIte, Bool.false_eq_true, List.append_nil, List.nil_append, List.cons_append, Option.toList, and_true, true_and, true_or, or_true, reduceCtorEq, List.map_nil, bI_eq0, bI_eq1, bool_ft, pk_us, vnar0, vnar1, Bool.or_false, Bool.or_true, Bool.false_or, Bool.true_or, mj_kne, eq_self, Int32.reduceLT, Int32.reduceLE, Int32.reduceAdd, Int32.reduceSub, Int32.reduceMul, not_true_eq_false, not_false_eq_true, false_implies, true_implies, D_X6_survey_0, D_X6_survey_1, mj_F_aload_n_k, mj_F_bastore, mj_F_bipush_n, mj_F_getfield_i, mj_F_goto_off, mj_F_iaload, mj_F_iastore, mj_F_iconst_n, mj_F_idiv, mj_F_ifCond_eq_off, mj_F_if_icmp_ge_off, mj_F_iinc_k_n, mj_F_iload_k, mj_F_iload_n_k, mj_F_imul, mj_F_invokevirtual_i, mj_F_istore_k, mj_F_istore_n_k, mj_F_return_, mj_set, mj_set0, mj_unk, mj_c2, mj_kc, FT_X6, L_X6_survey, List.take_succ_cons, List.take_zero, List.drop_succ_cons, List.drop_zero, List.reverse_cons, List.reverse_nil, List.length_cons, List.length_nil, gS_C55, gCf6_3, gS_C35, gCf5_1, gCf6_7, gS_C59, sS_Ca_59, gCf6_1, gCf6_8, gS_C60, sS_Ca_60, gCf5_3, gS_C37, sS_Ca_37, gCf6_2, gS_C20, gCf1_1, gCf6_6, gS_C58, sS_Ca_58, gCf6_0, gCf1_2, gS_C21, sS_Ca_21, gS_C11, gS_C1, Nat.zero_le, Nat.sub_zero, J_X6_survey]
  refine ⟨fun c => ?_, fun c => ?_⟩
  · replace hw := ok_t hw c
    exact hG.2 _ _ _ _ _ _ _ _ _ (by exact trivial) (by omega) (by omega) (hK0 _ (ok_some hw :) :)
  · replace hw := ok_f hw c
    refine c_X1_childrenOf_in (ok_imp (ok_bind hw) ?_)
    intro p hw
    simp only [Option.toList, List.nil_append, List.cons_append, Nat.reduceSub]
    refine mj_run hG.1 (fun pc => pc == 8 || pc == 37 || pc == 48 || pc == 61 || pc == 89 || pc == 104 || pc == 107 || pc == 136 || pc == 148 || pc == 174 || pc == 177 || pc == 180 || pc == 183 || pc == 189) 4000 ?_
    simp only [mj_step, mj_W_s, mj_fin, List.getElem?_cons_zero, List.getElem?_cons_succ, mj_go, Nat.reduceAdd, Nat.reduceSub, Nat.reduceLT, Nat.reduceLeDiff, Nat.zero_add, Nat.reduceEqDiff, Nat.reduceBEq, ↓reduceIte, Bool.false_eq_true, List.append_nil, List.nil_append, List.cons_append, Option.toList, and_true, true_and, true_or, or_true, reduceCtorEq, List.map_nil, bI_eq0, bI_eq1, bool_ft, pk_us, vnar0, vnar1, Bool.or_false, Bool.or_true, Bool.false_or, Bool.true_or, mj_kne, eq_self, Int32.reduceLT, Int32.reduceLE, Int32.reduceAdd, Int32.reduceSub, Int32.reduceMul, not_true_eq_false, not_false_eq_true, false_implies, true_implies, D_X6_survey_0, D_X6_survey_1, mj_F_aload_n_k, mj_F_bastore, mj_F_bipush_n, mj_F_getfield_i, mj_F_goto_off, mj_F_iaload, mj_F_iastore, mj_F_iconst_n, mj_F_idiv, mj_F_ifCond_eq_off, mj_F_if_icmp_ge_off, mj_F_iinc_k_n, mj_F_iload_k, mj_F_iload_n_k, mj_F_imul, mj_F_invokevirtual_i, mj_F_istore_k, mj_F_istore_n_k, mj_F_return_, mj_set, mj_set0, mj_unk, mj_c2, mj_kc, FT_X6, L_X6_survey, List.take_succ_cons, List.take_zero, List.drop_succ_cons, List.drop_zero, List.reverse_cons, List.reverse_nil, List.length_cons, List.length_nil, gS_C55, gCf6_3, gS_C35, gCf5_1, gCf6_7, gS_C59, sS_Ca_59, gCf6_1, gCf6_8, gS_C60, sS_Ca_60, gCf5_3, gS_C37, sS_Ca_37, gCf6_2, gS_C20, gCf1_1, gCf6_6, gS_C58, sS_Ca_58, gCf6_0, gCf1_2, gS_C21, sS_Ca_21, gS_C11, gS_C1, Nat.zero_le, Nat.sub_zero, J_X6_survey]
    refine ⟨(ok_wr hw).1, ?_⟩
    replace hw := (ok_wr hw).2
    refine c_X1_walkLimit_in (ok_imp (ok_bind hw) ?_)
    intro p hw
    simp only [Option.toList, List.nil_append, List.cons_append, Nat.reduceSub]
    refine mj_run hG.1 (fun pc => pc == 8 || pc == 37 || pc == 48 || pc == 61 || pc == 89 || pc == 104 || pc == 107 || pc == 136 || pc == 148 || pc == 174 || pc == 177 || pc == 180 || pc == 183 || pc == 189) 4000 ?_
    simp only [mj_step, mj_W_s, mj_fin, List.getElem?_cons_zero, List.getElem?_cons_succ, mj_go, Nat.reduceAdd, Nat.reduceSub, Nat.reduceLT, Nat.reduceLeDiff, Nat.zero_add, Nat.reduceEqDiff, Nat.reduceBEq, ↓reduceIte, Bool.false_eq_true, List.append_nil, List.nil_append, List.cons_append, Option.toList, and_true, true_and, true_or, or_true, reduceCtorEq, List.map_nil, bI_eq0, bI_eq1, bool_ft, pk_us, vnar0, vnar1, Bool.or_false, Bool.or_true, Bool.false_or, Bool.true_or, mj_kne, eq_self, Int32.reduceLT, Int32.reduceLE, Int32.reduceAdd, Int32.reduceSub, Int32.reduceMul, not_true_eq_false, not_false_eq_true, false_implies, true_implies, D_X6_survey_0, D_X6_survey_1, mj_F_aload_n_k, mj_F_bastore, mj_F_bipush_n, mj_F_getfield_i, mj_F_goto_off, mj_F_iaload, mj_F_iastore, mj_F_iconst_n, mj_F_idiv, mj_F_ifCond_eq_off, mj_F_if_icmp_ge_off, mj_F_iinc_k_n, mj_F_iload_k, mj_F_iload_n_k, mj_F_imul, mj_F_invokevirtual_i, mj_F_istore_k, mj_F_istore_n_k, mj_F_return_, mj_set, mj_set0, mj_unk, mj_c2, mj_kc, FT_X6, L_X6_survey, List.take_succ_cons, List.take_zero, List.drop_succ_cons, List.drop_zero, List.reverse_cons, List.reverse_nil, List.length_cons, List.length_nil, gS_C55, gCf6_3, gS_C35, gCf5_1, gCf6_7, gS_C59, sS_Ca_59, gCf6_1, gCf6_8, gS_C60, sS_Ca_60, gCf5_3, gS_C37, sS_Ca_37, gCf6_2, gS_C20, gCf1_1, gCf6_6, gS_C58, sS_Ca_58, gCf6_0, gCf1_2, gS_C21, sS_Ca_21, gS_C11, gS_C1, Nat.zero_le, Nat.sub_zero, J_X6_survey]
    refine ⟨(ok_rd hw).1, ?_⟩
    replace hw := (ok_rd hw).2
    refine hC 174 91 _ _ _ _ _ (by simp only [D_X6_survey_0, D_X6_survey_1]) ?_
    simp only [List.all_cons, List.all_nil, mj_isi, Bool.and_self, mj_fin, List.getElem?_cons_zero, List.getElem?_cons_succ, mj_go, Nat.reduceAdd, Nat.reduceSub, Nat.reduceLT, Nat.reduceLeDiff, Nat.zero_add, Nat.reduceEqDiff, Nat.reduceBEq, ↓reduceIte, Bool.false_eq_true, List.append_nil, List.nil_append, List.cons_append, Option.toList, and_true, true_and, true_or, or_true, reduceCtorEq, List.map_nil, bI_eq0, bI_eq1, bool_ft, pk_us, vnar0, vnar1, Bool.or_false, Bool.or_true, Bool.false_or, Bool.true_or, mj_kne, eq_self, Int32.reduceLT, Int32.reduceLE, Int32.reduceAdd, Int32.reduceSub, Int32.reduceMul, not_true_eq_false, not_false_eq_true, false_implies, true_implies, mj_set, mj_set0, mj_unk, mj_c2, mj_kc, FT_X6, L_X6_survey, List.take_succ_cons, List.take_zero, List.drop_succ_cons, List.drop_zero, List.reverse_cons, List.reverse_nil, List.length_cons, List.length_nil, gS_C55, gCf6_3, gS_C35, gCf5_1, gCf6_7, gS_C59, sS_Ca_59, gCf6_1, gCf6_8, gS_C60, sS_Ca_60, gCf5_3, gS_C37, sS_Ca_37, gCf6_2, gS_C20, gCf1_1, gCf6_6, gS_C58, sS_Ca_58, gCf6_0, gCf1_2, gS_C21, sS_Ca_21, gS_C11, gS_C1, Nat.zero_le, Nat.sub_zero, J_X6_survey]
    refine c_X2_isWet_in (ok_imp (ok_bind hw) ?_)
    intro p hw
    simp only [Option.toList, List.nil_append, List.cons_append, Nat.reduceSub]
    refine mj_run hG.1 (fun pc => pc == 8 || pc == 37 || pc == 48 || pc == 61 || pc == 89 || pc == 104 || pc == 107 || pc == 136 || pc == 148 || pc == 174 || pc == 177 || pc == 180 || pc == 183 || pc == 189) 4000 ?_
    simp only [mj_step, mj_W_s, mj_fin, List.getElem?_cons_zero, List.getElem?_cons_succ, mj_go, Nat.reduceAdd, Nat.reduceSub, Nat.reduceLT, Nat.reduceLeDiff, Nat.zero_add, Nat.reduceEqDiff, Nat.reduceBEq, ↓reduceIte, Bool.false_eq_true, List.append_nil, List.nil_append, List.cons_append, Option.toList, and_true, true_and, true_or, or_true, reduceCtorEq, List.map_nil, bI_eq0, bI_eq1, bool_ft, pk_us, vnar0, vnar1, Bool.or_false, Bool.or_true, Bool.false_or, Bool.true_or, mj_kne, eq_self, Int32.reduceLT, Int32.reduceLE, Int32.reduceAdd, Int32.reduceSub, Int32.reduceMul, not_true_eq_false, not_false_eq_true, false_implies, true_implies, D_X6_survey_0, D_X6_survey_1, mj_F_aload_n_k, mj_F_bastore, mj_F_bipush_n, mj_F_getfield_i, mj_F_goto_off, mj_F_iaload, mj_F_iastore, mj_F_iconst_n, mj_F_idiv, mj_F_ifCond_eq_off, mj_F_if_icmp_ge_off, mj_F_iinc_k_n, mj_F_iload_k, mj_F_iload_n_k, mj_F_imul, mj_F_invokevirtual_i, mj_F_istore_k, mj_F_istore_n_k, mj_F_return_, mj_set, mj_set0, mj_unk, mj_c2, mj_kc, FT_X6, L_X6_survey, List.take_succ_cons, List.take_zero, List.drop_succ_cons, List.drop_zero, List.reverse_cons, List.reverse_nil, List.length_cons, List.length_nil, gS_C55, gCf6_3, gS_C35, gCf5_1, gCf6_7, gS_C59, sS_Ca_59, gCf6_1, gCf6_8, gS_C60, sS_Ca_60, gCf5_3, gS_C37, sS_Ca_37, gCf6_2, gS_C20, gCf1_1, gCf6_6, gS_C58, sS_Ca_58, gCf6_0, gCf1_2, gS_C21, sS_Ca_21, gS_C11, gS_C1, Nat.zero_le, Nat.sub_zero, J_X6_survey]
    refine ⟨by omega, by omega, ?_⟩
    refine c_X2_rowFrom_in (ok_imp (ok_bind hw) ?_)
    intro p hw
    simp only [Option.toList, List.nil_append, List.cons_append, Nat.reduceSub]
    refine mj_run hG.1 (fun pc => pc == 8 || pc == 37 || pc == 48 || pc == 61 || pc == 89 || pc == 104 || pc == 107 || pc == 136 || pc == 148 || pc == 174 || pc == 177 || pc == 180 || pc == 183 || pc == 189) 4000 ?_
    simp only [mj_step, mj_W_s, mj_fin, List.getElem?_cons_zero, List.getElem?_cons_succ, mj_go, Nat.reduceAdd, Nat.reduceSub, Nat.reduceLT, Nat.reduceLeDiff, Nat.zero_add, Nat.reduceEqDiff, Nat.reduceBEq, ↓reduceIte, Bool.false_eq_true, List.append_nil, List.nil_append, List.cons_append, Option.toList, and_true, true_and, true_or, or_true, reduceCtorEq, List.map_nil, bI_eq0, bI_eq1, bool_ft, pk_us, vnar0, vnar1, Bool.or_false, Bool.or_true, Bool.false_or, Bool.true_or, mj_kne, eq_self, Int32.reduceLT, Int32.reduceLE, Int32.reduceAdd, Int32.reduceSub, Int32.reduceMul, not_true_eq_false, not_false_eq_true, false_implies, true_implies, D_X6_survey_0, D_X6_survey_1, mj_F_aload_n_k, mj_F_bastore, mj_F_bipush_n, mj_F_getfield_i, mj_F_goto_off, mj_F_iaload, mj_F_iastore, mj_F_iconst_n, mj_F_idiv, mj_F_ifCond_eq_off, mj_F_if_icmp_ge_off, mj_F_iinc_k_n, mj_F_iload_k, mj_F_iload_n_k, mj_F_imul, mj_F_invokevirtual_i, mj_F_istore_k, mj_F_istore_n_k, mj_F_return_, mj_set, mj_set0, mj_unk, mj_c2, mj_kc, FT_X6, L_X6_survey, List.take_succ_cons, List.take_zero, List.drop_succ_cons, List.drop_zero, List.reverse_cons, List.reverse_nil, List.length_cons, List.length_nil, gS_C55, gCf6_3, gS_C35, gCf5_1, gCf6_7, gS_C59, sS_Ca_59, gCf6_1, gCf6_8, gS_C60, sS_Ca_60, gCf5_3, gS_C37, sS_Ca_37, gCf6_2, gS_C20, gCf1_1, gCf6_6, gS_C58, sS_Ca_58, gCf6_0, gCf1_2, gS_C21, sS_Ca_21, gS_C11, gS_C1, Nat.zero_le, Nat.sub_zero, J_X6_survey]
    refine c_X6_measure_in (ok_imp (ok_bind hw) ?_)
    intro p hw
    simp only [Option.toList, List.nil_append, List.cons_append, Nat.reduceSub]
    refine mj_run hG.1 (fun pc => pc == 8 || pc == 37 || pc == 48 || pc == 61 || pc == 89 || pc == 104 || pc == 107 || pc == 136 || pc == 148 || pc == 174 || pc == 177 || pc == 180 || pc == 183 || pc == 189) 4000 ?_
    simp only [mj_step, mj_W_s, mj_fin, List.getElem?_cons_zero, List.getElem?_cons_succ, mj_go, Nat.reduceAdd, Nat.reduceSub, Nat.reduceLT, Nat.reduceLeDiff, Nat.zero_add, Nat.reduceEqDiff, Nat.reduceBEq, ↓reduceIte, Bool.false_eq_true, List.append_nil, List.nil_append, List.cons_append, Option.toList, and_true, true_and, true_or, or_true, reduceCtorEq, List.map_nil, bI_eq0, bI_eq1, bool_ft, pk_us, vnar0, vnar1, Bool.or_false, Bool.or_true, Bool.false_or, Bool.true_or, mj_kne, eq_self, Int32.reduceLT, Int32.reduceLE, Int32.reduceAdd, Int32.reduceSub, Int32.reduceMul, not_true_eq_false, not_false_eq_true, false_implies, true_implies, D_X6_survey_0, D_X6_survey_1, mj_F_aload_n_k, mj_F_bastore, mj_F_bipush_n, mj_F_getfield_i, mj_F_goto_off, mj_F_iaload, mj_F_iastore, mj_F_iconst_n, mj_F_idiv, mj_F_ifCond_eq_off, mj_F_if_icmp_ge_off, mj_F_iinc_k_n, mj_F_iload_k, mj_F_iload_n_k, mj_F_imul, mj_F_invokevirtual_i, mj_F_istore_k, mj_F_istore_n_k, mj_F_return_, mj_set, mj_set0, mj_unk, mj_c2, mj_kc, FT_X6, L_X6_survey, List.take_succ_cons, List.take_zero, List.drop_succ_cons, List.drop_zero, List.reverse_cons, List.reverse_nil, List.length_cons, List.length_nil, gS_C55, gCf6_3, gS_C35, gCf5_1, gCf6_7, gS_C59, sS_Ca_59, gCf6_1, gCf6_8, gS_C60, sS_Ca_60, gCf5_3, gS_C37, sS_Ca_37, gCf6_2, gS_C20, gCf1_1, gCf6_6, gS_C58, sS_Ca_58, gCf6_0, gCf1_2, gS_C21, sS_Ca_21, gS_C11, gS_C1, Nat.zero_le, Nat.sub_zero, J_X6_survey]
    exact hG.2 _ _ _ _ _ _ _ _ _ (by refine ⟨Or.inr rfl, ?_⟩; refine ⟨Or.inr rfl, ?_⟩; refine ⟨Or.inr rfl, ?_⟩; refine ⟨Or.inr rfl, ?_⟩; refine ⟨Or.inr rfl, ?_⟩; exact trivial) (by omega) (by omega) (hP _ (ok_some hw :) :)

set_option maxHeartbeats 4000000 in
set_option maxRecDepth 20000 in
theorem g_X6_survey_189 {k : Option Value → mj_H → Prop} {G : mj_K} (hG : mj_cl2 cX6_survey (TbX6 6 (none) ct_X6_survey) k G) (hC : mj_c8 cX6_survey (TbX6 6 (none) ct_X6_survey) G)   {s : St} (hw : ok (F_X6_survey_189 s) (fun p => k none (mkCs p))) : G 189 [] [] (mkCs s) 0 0 := by
  unfold F_X6_survey_189 at hw
  refine mj_run hG.1 (fun pc => pc == 8 || pc == 37 || pc == 48 || pc == 61 || pc == 89 || pc == 104 || pc == 107 || pc == 136 || pc == 148 || pc == 174 || pc == 177 || pc == 180 || pc == 183 || pc == 189) 4000 ?_
  simp only [mj_step, mj_W_s, mj_fin, List.getElem?_cons_zero, List.getElem?_cons_succ, mj_go, Nat.reduceAdd, Nat.reduceSub, Nat.reduceLT, Nat.reduceLeDiff, Nat.zero_add, Nat.reduceEqDiff, Nat.reduceBEq, ↓reduceIte, Bool.false_eq_true, List.append_nil, List.nil_append, List.cons_append, Option.toList, and_true, true_and, true_or, or_true, reduceCtorEq, List.map_nil, bI_eq0, bI_eq1, bool_ft, pk_us, vnar0, vnar1, Bool.or_false, Bool.or_true, Bool.false_or, Bool.true_or, mj_kne, eq_self, Int32.reduceLT, Int32.reduceLE, Int32.reduceAdd, Int32.reduceSub, Int32.reduceMul, not_true_eq_false, not_false_eq_true, false_implies, true_implies, D_X6_survey_0, D_X6_survey_1, mj_F_aload_n_k, mj_F_bastore, mj_F_bipush_n, mj_F_getfield_i, mj_F_goto_off, mj_F_iaload, mj_F_iastore, mj_F_iconst_n, mj_F_idiv, mj_F_ifCond_eq_off, mj_F_if_icmp_ge_off, mj_F_iinc_k_n, mj_F_iload_k, mj_F_iload_n_k, mj_F_imul, mj_F_invokevirtual_i, mj_F_istore_k, mj_F_istore_n_k, mj_F_return_, mj_set, mj_set0, mj_unk, mj_c2, mj_kc, FT_X6, L_X6_survey, List.take_succ_cons, List.take_zero, List.drop_succ_cons, List.drop_zero, List.reverse_cons, List.reverse_nil, List.length_cons, List.length_nil, gS_C55, gCf6_3, gS_C35, gCf5_1, gCf6_7, gS_C59, sS_Ca_59, gCf6_1, gCf6_8, gS_C60, sS_Ca_60, gCf5_3, gS_C37, sS_Ca_37, gCf6_2, gS_C20, gCf1_1, gCf6_6, gS_C58, sS_Ca_58, gCf6_0, gCf1_2, gS_C21, sS_Ca_21, gS_C11, gS_C1, Nat.zero_le, Nat.sub_zero, J_X6_survey]
  exact (ok_some hw :)

set_option maxHeartbeats 4000000 in
theorem g_X6_survey_107 {k : Option Value → mj_H → Prop} {G : mj_K} (hG : mj_cl2 cX6_survey (TbX6 6 (none) ct_X6_survey) k G) (hC : mj_c8 cX6_survey (TbX6 6 (none) ct_X6_survey) G)   {v1 : Int32} {v2 : Int32} {v3 : Int32} {v4 : Int32} {s : St} (hw : ok (F_X6_survey_107 v1 v2 v3 v4 s) (fun p => k none (mkCs p))) : G 107 [.ref 55, .int v1, .int v2, .int v3, .int v4] [] (mkCs s) 25 3000 := by
  unfold F_X6_survey_107 at hw
  refine lp_okN (B_X6_survey_107 v1 v2 v3) (fun n x => G 107 [.ref 55, .int v1, .int v2, .int v3, .int x.1] [] (mkCs x.2) (n * 1) (n * 120)) _ ?_ 25 _ (ok_bind hw)
  intro n
  rintro ⟨v4, s⟩ hb
  exact b_X6_survey_107 hG hC (fun _ z => z) (fun y hw => by exact hG.2 _ _ _ _ _ _ _ _ _ (by exact trivial) (by omega) (by omega) (g_X6_survey_189 hG hC  hw :)) hb

set_option maxHeartbeats 4000000 in
set_option maxRecDepth 20000 in
theorem g_X6_survey_104 {k : Option Value → mj_H → Prop} {G : mj_K} (hG : mj_cl2 cX6_survey (TbX6 6 (none) ct_X6_survey) k G) (hC : mj_c8 cX6_survey (TbX6 6 (none) ct_X6_survey) G)   {v1 : Int32} {v2 : Int32} {v3 : Int32} {s : St} (hw : ok (F_X6_survey_104 v1 v2 v3 s) (fun p => k none (mkCs p))) : G 104 [.ref 55, .int v1, .int v2, .int v3] [] (mkCs s) 25 3000 := by
  unfold F_X6_survey_104 at hw
  refine mj_run hG.1 (fun pc => pc == 8 || pc == 37 || pc == 48 || pc == 61 || pc == 89 || pc == 104 || pc == 107 || pc == 136 || pc == 148 || pc == 174 || pc == 177 || pc == 180 || pc == 183 || pc == 189) 4000 ?_
  simp only [mj_step, mj_W_s, mj_fin, List.getElem?_cons_zero, List.getElem?_cons_succ, mj_go, Nat.reduceAdd, Nat.reduceSub, Nat.reduceLT, Nat.reduceLeDiff, Nat.zero_add, Nat.reduceEqDiff, Nat.reduceBEq, ↓reduceIte, Bool.false_eq_true, List.append_nil, List.nil_append, List.cons_append, Option.toList, and_true, true_and, true_or, or_true, reduceCtorEq, List.map_nil, bI_eq0, bI_eq1, bool_ft, pk_us, vnar0, vnar1, Bool.or_false, Bool.or_true, Bool.false_or, Bool.true_or, mj_kne, eq_self, Int32.reduceLT, Int32.reduceLE, Int32.reduceAdd, Int32.reduceSub, Int32.reduceMul, not_true_eq_false, not_false_eq_true, false_implies, true_implies, D_X6_survey_0, D_X6_survey_1, mj_F_aload_n_k, mj_F_bastore, mj_F_bipush_n, mj_F_getfield_i, mj_F_goto_off, mj_F_iaload, mj_F_iastore, mj_F_iconst_n, mj_F_idiv, mj_F_ifCond_eq_off, mj_F_if_icmp_ge_off, mj_F_iinc_k_n, mj_F_iload_k, mj_F_iload_n_k, mj_F_imul, mj_F_invokevirtual_i, mj_F_istore_k, mj_F_istore_n_k, mj_F_return_, mj_set, mj_set0, mj_unk, mj_c2, mj_kc, FT_X6, L_X6_survey, List.take_succ_cons, List.take_zero, List.drop_succ_cons, List.drop_zero, List.reverse_cons, List.reverse_nil, List.length_cons, List.length_nil, gS_C55, gCf6_3, gS_C35, gCf5_1, gCf6_7, gS_C59, sS_Ca_59, gCf6_1, gCf6_8, gS_C60, sS_Ca_60, gCf5_3, gS_C37, sS_Ca_37, gCf6_2, gS_C20, gCf1_1, gCf6_6, gS_C58, sS_Ca_58, gCf6_0, gCf1_2, gS_C21, sS_Ca_21, gS_C11, gS_C1, Nat.zero_le, Nat.sub_zero, J_X6_survey]
  exact hG.2 _ _ _ _ _ _ _ _ _ (by refine ⟨Or.inr rfl, ?_⟩; refine ⟨Or.inr rfl, ?_⟩; refine ⟨Or.inr rfl, ?_⟩; refine ⟨Or.inr rfl, ?_⟩; refine ⟨Or.inr rfl, ?_⟩; exact trivial) (by omega) (by omega) (g_X6_survey_107 hG hC  hw :)

set_option maxHeartbeats 4000000 in
theorem g_X6_survey_8 {k : Option Value → mj_H → Prop} {G : mj_K} (hG : mj_cl2 cX6_survey (TbX6 6 (none) ct_X6_survey) k G) (hC : mj_c8 cX6_survey (TbX6 6 (none) ct_X6_survey) G)   {v1 : Int32} {v2 : Int32} {v3 : Int32} {v4 : Int32} {s : St} (hw : ok (F_X6_survey_8 v1 v2 v3 v4 s) (fun p => k none (mkCs p))) : G 8 [.ref 55, .int v1, .int v2, .int v3, .int v4] [] (mkCs s) 25 3000 := by
  unfold F_X6_survey_8 at hw
  refine lp_ok (B_X6_survey_8 v1 v2 v3) (fun x => G 8 [.ref 55, .int v1, .int v2, .int v3, .int x.1] [] (mkCs x.2) 25 3000) _ ?_ _ _ (ok_bind hw)
  rintro ⟨v4, s⟩ hb
  exact b_X6_survey_8 hG hC (fun _ z => z) (fun y hw => by exact hG.2 _ _ _ _ _ _ _ _ _ (by refine ⟨Or.inr rfl, ?_⟩; refine ⟨Or.inr rfl, ?_⟩; refine ⟨Or.inr rfl, ?_⟩; refine ⟨Or.inr rfl, ?_⟩; exact trivial) (by omega) (by omega) (g_X6_survey_104 hG hC  hw :)) hb

set_option maxHeartbeats 4000000 in
set_option maxRecDepth 20000 in
theorem g_X6_survey {k : Option Value → mj_H → Prop} {G : mj_K} (hG : mj_cl2 cX6_survey (TbX6 6 (none) ct_X6_survey) k G) (hC : mj_c8 cX6_survey (TbX6 6 (none) ct_X6_survey) G) {v1 : Int32} {v2 : Int32} {s : St} (hw : ok (F_X6_survey v1 v2 s) (fun p => k none (mkCs p))) : G 0 [.ref 55, .int v1, .int v2] [] (mkCs s) 25 3000 := by
  unfold F_X6_survey at hw
  refine mj_run hG.1 (fun pc => pc == 8 || pc == 37 || pc == 48 || pc == 61 || pc == 89 || pc == 104 || pc == 107 || pc == 136 || pc == 148 || pc == 174 || pc == 177 || pc == 180 || pc == 183 || pc == 189) 4000 ?_
  simp only [mj_step, mj_W_s, mj_fin, List.getElem?_cons_zero, List.getElem?_cons_succ, mj_go, Nat.reduceAdd, Nat.reduceSub, Nat.reduceLT, Nat.reduceLeDiff, Nat.zero_add, Nat.reduceEqDiff, Nat.reduceBEq, ↓reduceIte, Bool.false_eq_true, List.append_nil, List.nil_append, List.cons_append, Option.toList, and_true, true_and, true_or, or_true, reduceCtorEq, List.map_nil, bI_eq0, bI_eq1, bool_ft, pk_us, vnar0, vnar1, Bool.or_false, Bool.or_true, Bool.false_or, Bool.true_or, mj_kne, eq_self, Int32.reduceLT, Int32.reduceLE, Int32.reduceAdd, Int32.reduceSub, Int32.reduceMul, not_true_eq_false, not_false_eq_true, false_implies, true_implies, D_X6_survey_0, D_X6_survey_1, mj_F_aload_n_k, mj_F_bastore, mj_F_bipush_n, mj_F_getfield_i, mj_F_goto_off, mj_F_iaload, mj_F_iastore, mj_F_iconst_n, mj_F_idiv, mj_F_ifCond_eq_off, mj_F_if_icmp_ge_off, mj_F_iinc_k_n, mj_F_iload_k, mj_F_iload_n_k, mj_F_imul, mj_F_invokevirtual_i, mj_F_istore_k, mj_F_istore_n_k, mj_F_return_, mj_set, mj_set0, mj_unk, mj_c2, mj_kc, FT_X6, L_X6_survey, List.take_succ_cons, List.take_zero, List.drop_succ_cons, List.drop_zero, List.reverse_cons, List.reverse_nil, List.length_cons, List.length_nil, gS_C55, gCf6_3, gS_C35, gCf5_1, gCf6_7, gS_C59, sS_Ca_59, gCf6_1, gCf6_8, gS_C60, sS_Ca_60, gCf5_3, gS_C37, sS_Ca_37, gCf6_2, gS_C20, gCf1_1, gCf6_6, gS_C58, sS_Ca_58, gCf6_0, gCf1_2, gS_C21, sS_Ca_21, gS_C11, gS_C1, Nat.zero_le, Nat.sub_zero, J_X6_survey]
  exact hG.2 _ _ _ _ _ _ _ _ _ (by refine ⟨Or.inr rfl, ?_⟩; refine ⟨Or.inr rfl, ?_⟩; refine ⟨Or.inr rfl, ?_⟩; refine ⟨Or.inr rfl, ?_⟩; refine ⟨Or.inr rfl, ?_⟩; exact trivial) (by omega) (by omega) (g_X6_survey_8 hG hC  hw :)

def c_X6_survey : mj_S := fun as h k => ∃ (v1 : Int32) (v2 : Int32) (s : St), as = [.ref 55, .int v1, .int v2] ∧ h = mkCs s ∧ ok (F_X6_survey v1 v2 s) (fun p => k none (mkCs p))
theorem c_X6_survey_in {v1 : Int32} {v2 : Int32} {s : St} {k : Option Value → mj_H → Prop} (hw : ok (F_X6_survey v1 v2 s) (fun p => k none (mkCs p))) : c_X6_survey [.ref 55, .int v1, .int v2] (mkCs s) k := ⟨v1, v2, s, rfl, rfl, hw⟩
theorem m_X6_survey (l : Launch) : mj_Met l yX6_survey cX6_survey 6 (none) 5 25 3000 c_X6_survey := by
  refine mj_body5 false (TbX6 6 (none) ct_X6_survey) (by decide) rfl rfl (fun h => nomatch h) (tfX6 _ (List.forall_mem_cons.mpr ⟨cfX6_59 (m_X5_classesOf l) (by decide), List.forall_mem_cons.mpr ⟨cfX6_63 (m_X5_headsOf l) (by decide), List.forall_mem_cons.mpr ⟨cfX6_66 (m_X0_spell l) (by decide), List.forall_mem_cons.mpr ⟨cfX6_75 (m_X0_worthOf l) (by decide), List.forall_mem_cons.mpr ⟨cfX6_82 (m_X1_childrenOf l) (by decide), List.forall_mem_cons.mpr ⟨cfX6_85 (m_X1_walkLimit l) (by decide), List.forall_mem_cons.mpr ⟨cfX6_91 (m_X2_isWet l) (by decide), List.forall_mem_cons.mpr ⟨cfX6_97 (m_X2_rowFrom l) (by decide), List.forall_mem_cons.mpr ⟨cfX6_101 (m_X6_measure l) (by decide), fun _ h => nomatch h⟩⟩⟩⟩⟩⟩⟩⟩⟩)) ?_
  rintro as h k ⟨v1, v2, s, rfl, rfl, hw⟩
  exact ⟨rfl, fun G hG hC => g_X6_survey hG hC hw⟩
def F_X11_reach (v1 : Int32) (v2 : Int32) (v3 : Int32) (v4 : Int32) (s : St) : Option (Int32 × St) :=
  (F_X11_isVillage v1 s).bind fun r1 =>
  if r1 = 0 then
    some ((-1), s)
  else
    (F_X11_isSchool v2 s).bind fun r2 =>
    if r2 = 0 then
      some ((-1), s)
    else
      (F_X11_isPast v3 s).bind fun r3 =>
      if r3 = 0 then
        some ((-1), s)
      else
        (F_X11_isPast v4 s).bind fun r4 =>
        if r4 = 0 then
          some ((-1), s)
        else
          (F_X6_survey v3 v4 s).bind fun s5 =>
          (rd s5 604 480 ((v1 * 20) + v2)).bind fun x6 =>
          if x6 = (-1) then
            some (0, s5)
          else
            some (1, s5)
theorem J_X11_reach : mj_t 5 28 = 33 ∧ mj_t 13 20 = 33 ∧ mj_t 21 12 = 33 ∧ mj_t 30 5 = 35 ∧ mj_t 60 7 = 67 ∧ mj_t 64 4 = 68 ∧ (0 ≤ ((5 : Nat) : Int) + 28) = True ∧ (0 ≤ ((13 : Nat) : Int) + 20) = True ∧ (0 ≤ ((21 : Nat) : Int) + 12) = True ∧ (0 ≤ ((30 : Nat) : Int) + 5) = True ∧ (0 ≤ ((60 : Nat) : Int) + 7) = True ∧ (0 ≤ ((64 : Nat) : Int) + 4) = True := by and_intros <;> first | rfl | exact eq_true (by decide)
def ct_X11_reach : List (Nat × mj_Cs) := [(138, 0, 2, 11, 0, 0, c_X11_isVillage), (148, 0, 2, 11, 0, 0, c_X11_isPast), (165, 0, 2, 11, 0, 0, c_X11_isSchool), (245, 0, 3, 6, 25, 3000, c_X6_survey)]
theorem L_X11_reach : mj_lk ct_X11_reach 138 = some (0, 2, 11, 0, 0, c_X11_isVillage) ∧ mj_lk ct_X11_reach 148 = some (0, 2, 11, 0, 0, c_X11_isPast) ∧ mj_lk ct_X11_reach 165 = some (0, 2, 11, 0, 0, c_X11_isSchool) ∧ mj_lk ct_X11_reach 245 = some (0, 3, 6, 25, 3000, c_X6_survey) := ⟨rfl, rfl, rfl, rfl⟩
set_option maxHeartbeats 4000000 in
set_option maxRecDepth 20000 in
theorem g_X11_reach {k : Option Value → mj_H → Prop} {G : mj_K} (hG : mj_cl2 cX11_reach (TbX11 5 ((some FieldType.int)) ct_X11_reach) k G) {v1 : Int32} {v2 : Int32} {v3 : Int32} {v4 : Int32} {s : St} (hw : ok (F_X11_reach v1 v2 v3 v4 s) (fun p => k (some (.int p.1)) (mkCs p.2))) : G 0 [.ref 0, .int v1, .int v2, .int v3, .int v4] [] (mkCs s) 25 3000 := by
  unfold F_X11_reach at hw
  refine mj_run hG.1 (fun pc => pc == 5 || pc == 13 || pc == 21 || pc == 30 || pc == 45) 4000 ?_
  simp only [mj_step, mj_W_s, mj_fin, List.getElem?_cons_zero, List.getElem?_cons_succ, mj_go, Nat.reduceAdd, Nat.reduceSub, Nat.reduceLT, Nat.reduceLeDiff, Nat.zero_add, Nat.reduceEqDiff, Nat.reduceBEq, ↓reduceIte, Bool.false_eq_true, List.append_nil, List.nil_append, List.cons_append, Option.toList, and_true, true_and, true_or, or_true, reduceCtorEq, List.map_nil, bI_eq0, bI_eq1, bool_ft, pk_us, vnar0, vnar1, Bool.or_false, Bool.or_true, Bool.false_or, Bool.true_or, mj_kne, eq_self, Int32.reduceLT, Int32.reduceLE, Int32.reduceAdd, Int32.reduceSub, Int32.reduceMul, not_true_eq_false, not_false_eq_true, false_implies, true_implies, D_X11_reach, mj_F_aload_n_k, mj_F_bipush_n, mj_F_getfield_i, mj_F_goto_off, mj_F_iadd, mj_F_iaload, mj_F_iconst_n, mj_F_ifCond_eq_off, mj_F_ifCond_ne_off, mj_F_if_icmp_ne_off, mj_F_iload_k, mj_F_iload_n_k, mj_F_imul, mj_F_invokevirtual_i, mj_F_ireturn, mj_kc, FT_X11, L_X11_reach, List.take_succ_cons, List.take_zero, List.drop_succ_cons, List.drop_zero, List.reverse_cons, List.reverse_nil, List.length_cons, List.length_nil, gS_C0, gCf11_7, gS_C55, gCf6_4, gS_C56, sS_Ca_56, J_X11_reach]
  refine c_X11_isVillage_in (ok_imp (ok_bind hw) ?_)
  intro p hw
  simp only [Option.toList, List.nil_append, List.cons_append, Nat.reduceSub]
  refine mj_run hG.1 (fun pc => pc == 5 || pc == 13 || pc == 21 || pc == 30 || pc == 45) 4000 ?_
  simp only [mj_step, mj_W_s, mj_fin, List.getElem?_cons_zero, List.getElem?_cons_succ, mj_go, Nat.reduceAdd, Nat.reduceSub, Nat.reduceLT, Nat.reduceLeDiff, Nat.zero_add, Nat.reduceEqDiff, Nat.reduceBEq, ↓reduceIte, Bool.false_eq_true, List.append_nil, List.nil_append, List.cons_append, Option.toList, and_true, true_and, true_or, or_true, reduceCtorEq, List.map_nil, bI_eq0, bI_eq1, bool_ft, pk_us, vnar0, vnar1, Bool.or_false, Bool.or_true, Bool.false_or, Bool.true_or, mj_kne, eq_self, Int32.reduceLT, Int32.reduceLE, Int32.reduceAdd, Int32.reduceSub, Int32.reduceMul, not_true_eq_false, not_false_eq_true, false_implies, true_implies, D_X11_reach, mj_F_aload_n_k, mj_F_bipush_n, mj_F_getfield_i, mj_F_goto_off, mj_F_iadd, mj_F_iaload, mj_F_iconst_n, mj_F_ifCond_eq_off, mj_F_ifCond_ne_off, mj_F_if_icmp_ne_off, mj_F_iload_k, mj_F_iload_n_k, mj_F_imul, mj_F_invokevirtual_i, mj_F_ireturn, mj_kc, FT_X11, L_X11_reach, List.take_succ_cons, List.take_zero, List.drop_succ_cons, List.drop_zero, List.reverse_cons, List.reverse_nil, List.length_cons, List.length_nil, gS_C0, gCf11_7, gS_C55, gCf6_4, gS_C56, sS_Ca_56, J_X11_reach]
  refine ⟨fun c => ?_, fun c => ?_⟩
  · replace hw := ok_t hw c
    exact (ok_some hw :)
  · replace hw := ok_f hw c
    refine c_X11_isSchool_in (ok_imp (ok_bind hw) ?_)
    intro p hw
    simp only [Option.toList, List.nil_append, List.cons_append, Nat.reduceSub]
    refine mj_run hG.1 (fun pc => pc == 5 || pc == 13 || pc == 21 || pc == 30 || pc == 45) 4000 ?_
    simp only [mj_step, mj_W_s, mj_fin, List.getElem?_cons_zero, List.getElem?_cons_succ, mj_go, Nat.reduceAdd, Nat.reduceSub, Nat.reduceLT, Nat.reduceLeDiff, Nat.zero_add, Nat.reduceEqDiff, Nat.reduceBEq, ↓reduceIte, Bool.false_eq_true, List.append_nil, List.nil_append, List.cons_append, Option.toList, and_true, true_and, true_or, or_true, reduceCtorEq, List.map_nil, bI_eq0, bI_eq1, bool_ft, pk_us, vnar0, vnar1, Bool.or_false, Bool.or_true, Bool.false_or, Bool.true_or, mj_kne, eq_self, Int32.reduceLT, Int32.reduceLE, Int32.reduceAdd, Int32.reduceSub, Int32.reduceMul, not_true_eq_false, not_false_eq_true, false_implies, true_implies, D_X11_reach, mj_F_aload_n_k, mj_F_bipush_n, mj_F_getfield_i, mj_F_goto_off, mj_F_iadd, mj_F_iaload, mj_F_iconst_n, mj_F_ifCond_eq_off, mj_F_ifCond_ne_off, mj_F_if_icmp_ne_off, mj_F_iload_k, mj_F_iload_n_k, mj_F_imul, mj_F_invokevirtual_i, mj_F_ireturn, mj_kc, FT_X11, L_X11_reach, List.take_succ_cons, List.take_zero, List.drop_succ_cons, List.drop_zero, List.reverse_cons, List.reverse_nil, List.length_cons, List.length_nil, gS_C0, gCf11_7, gS_C55, gCf6_4, gS_C56, sS_Ca_56, J_X11_reach]
    refine ⟨fun c => ?_, fun c => ?_⟩
    · replace hw := ok_t hw c
      exact (ok_some hw :)
    · replace hw := ok_f hw c
      refine c_X11_isPast_in (ok_imp (ok_bind hw) ?_)
      intro p hw
      simp only [Option.toList, List.nil_append, List.cons_append, Nat.reduceSub]
      refine mj_run hG.1 (fun pc => pc == 5 || pc == 13 || pc == 21 || pc == 30 || pc == 45) 4000 ?_
      simp only [mj_step, mj_W_s, mj_fin, List.getElem?_cons_zero, List.getElem?_cons_succ, mj_go, Nat.reduceAdd, Nat.reduceSub, Nat.reduceLT, Nat.reduceLeDiff, Nat.zero_add, Nat.reduceEqDiff, Nat.reduceBEq, ↓reduceIte, Bool.false_eq_true, List.append_nil, List.nil_append, List.cons_append, Option.toList, and_true, true_and, true_or, or_true, reduceCtorEq, List.map_nil, bI_eq0, bI_eq1, bool_ft, pk_us, vnar0, vnar1, Bool.or_false, Bool.or_true, Bool.false_or, Bool.true_or, mj_kne, eq_self, Int32.reduceLT, Int32.reduceLE, Int32.reduceAdd, Int32.reduceSub, Int32.reduceMul, not_true_eq_false, not_false_eq_true, false_implies, true_implies, D_X11_reach, mj_F_aload_n_k, mj_F_bipush_n, mj_F_getfield_i, mj_F_goto_off, mj_F_iadd, mj_F_iaload, mj_F_iconst_n, mj_F_ifCond_eq_off, mj_F_ifCond_ne_off, mj_F_if_icmp_ne_off, mj_F_iload_k, mj_F_iload_n_k, mj_F_imul, mj_F_invokevirtual_i, mj_F_ireturn, mj_kc, FT_X11, L_X11_reach, List.take_succ_cons, List.take_zero, List.drop_succ_cons, List.drop_zero, List.reverse_cons, List.reverse_nil, List.length_cons, List.length_nil, gS_C0, gCf11_7, gS_C55, gCf6_4, gS_C56, sS_Ca_56, J_X11_reach]
      refine ⟨fun c => ?_, fun c => ?_⟩
      · replace hw := ok_t hw c
        exact (ok_some hw :)
      · replace hw := ok_f hw c
        refine c_X11_isPast_in (ok_imp (ok_bind hw) ?_)
        intro p hw
        simp only [Option.toList, List.nil_append, List.cons_append, Nat.reduceSub]
        refine mj_run hG.1 (fun pc => pc == 5 || pc == 13 || pc == 21 || pc == 30 || pc == 45) 4000 ?_
        simp only [mj_step, mj_W_s, mj_fin, List.getElem?_cons_zero, List.getElem?_cons_succ, mj_go, Nat.reduceAdd, Nat.reduceSub, Nat.reduceLT, Nat.reduceLeDiff, Nat.zero_add, Nat.reduceEqDiff, Nat.reduceBEq, ↓reduceIte, Bool.false_eq_true, List.append_nil, List.nil_append, List.cons_append, Option.toList, and_true, true_and, true_or, or_true, reduceCtorEq, List.map_nil, bI_eq0, bI_eq1, bool_ft, pk_us, vnar0, vnar1, Bool.or_false, Bool.or_true, Bool.false_or, Bool.true_or, mj_kne, eq_self, Int32.reduceLT, Int32.reduceLE, Int32.reduceAdd, Int32.reduceSub, Int32.reduceMul, not_true_eq_false, not_false_eq_true, false_implies, true_implies, D_X11_reach, mj_F_aload_n_k, mj_F_bipush_n, mj_F_getfield_i, mj_F_goto_off, mj_F_iadd, mj_F_iaload, mj_F_iconst_n, mj_F_ifCond_eq_off, mj_F_ifCond_ne_off, mj_F_if_icmp_ne_off, mj_F_iload_k, mj_F_iload_n_k, mj_F_imul, mj_F_invokevirtual_i, mj_F_ireturn, mj_kc, FT_X11, L_X11_reach, List.take_succ_cons, List.take_zero, List.drop_succ_cons, List.drop_zero, List.reverse_cons, List.reverse_nil, List.length_cons, List.length_nil, gS_C0, gCf11_7, gS_C55, gCf6_4, gS_C56, sS_Ca_56, J_X11_reach]
        refine ⟨fun c => ?_, fun c => ?_⟩
        · replace hw := ok_f hw c
          refine c_X6_survey_in (ok_imp (ok_bind hw) ?_)
          intro p hw
          simp only [Option.toList, List.nil_append, List.cons_append, Nat.reduceSub]
          refine mj_run hG.1 (fun pc => pc == 5 || pc == 13 || pc == 21 || pc == 30 || pc == 45) 4000 ?_
          simp only [mj_step, mj_W_s, mj_fin, List.getElem?_cons_zero, List.getElem?_cons_succ, mj_go, Nat.reduceAdd, Nat.reduceSub, Nat.reduceLT, Nat.reduceLeDiff, Nat.zero_add, Nat.reduceEqDiff, Nat.reduceBEq, ↓reduceIte, Bool.false_eq_true, List.append_nil, List.nil_append, List.cons_append, Option.toList, and_true, true_and, true_or, or_true, reduceCtorEq, List.map_nil, bI_eq0, bI_eq1, bool_ft, pk_us, vnar0, vnar1, Bool.or_false, Bool.or_true, Bool.false_or, Bool.true_or, mj_kne, eq_self, Int32.reduceLT, Int32.reduceLE, Int32.reduceAdd, Int32.reduceSub, Int32.reduceMul, not_true_eq_false, not_false_eq_true, false_implies, true_implies, D_X11_reach, mj_F_aload_n_k, mj_F_bipush_n, mj_F_getfield_i, mj_F_goto_off, mj_F_iadd, mj_F_iaload, mj_F_iconst_n, mj_F_ifCond_eq_off, mj_F_ifCond_ne_off, mj_F_if_icmp_ne_off, mj_F_iload_k, mj_F_iload_n_k, mj_F_imul, mj_F_invokevirtual_i, mj_F_ireturn, mj_kc, FT_X11, L_X11_reach, List.take_succ_cons, List.take_zero, List.drop_succ_cons, List.drop_zero, List.reverse_cons, List.reverse_nil, List.length_cons, List.length_nil, gS_C0, gCf11_7, gS_C55, gCf6_4, gS_C56, sS_Ca_56, J_X11_reach]
          refine ⟨(ok_rd hw).1, ?_⟩
          replace hw := (ok_rd hw).2
          refine ⟨fun c => ?_, fun c => ?_⟩
          · replace hw := ok_f hw c
            exact (ok_some hw :)
          · replace hw := ok_t hw c
            exact (ok_some hw :)
        · replace hw := ok_t hw c
          exact (ok_some hw :)

def c_X11_reach : mj_S := fun as h k => ∃ (v1 : Int32) (v2 : Int32) (v3 : Int32) (v4 : Int32) (s : St), as = [.ref 0, .int v1, .int v2, .int v3, .int v4] ∧ h = mkCs s ∧ ok (F_X11_reach v1 v2 v3 v4 s) (fun p => k (some (.int p.1)) (mkCs p.2))
theorem c_X11_reach_in {v1 : Int32} {v2 : Int32} {v3 : Int32} {v4 : Int32} {s : St} {k : Option Value → mj_H → Prop} (hw : ok (F_X11_reach v1 v2 v3 v4 s) (fun p => k (some (.int p.1)) (mkCs p.2))) : c_X11_reach [.ref 0, .int v1, .int v2, .int v3, .int v4] (mkCs s) k := ⟨v1, v2, v3, v4, s, rfl, rfl, hw⟩
theorem m_X11_reach (l : Launch) : mj_Met l yX11_reach cX11_reach 5 ((some FieldType.int)) 6 25 3000 c_X11_reach := by
  refine mj_body2 false (TbX11 5 ((some FieldType.int)) ct_X11_reach) (by decide) rfl rfl (fun h => nomatch h) (tfX11 _ (List.forall_mem_cons.mpr ⟨cfX11_138 (m_X11_isVillage l) (by decide), List.forall_mem_cons.mpr ⟨cfX11_148 (m_X11_isPast l) (by decide), List.forall_mem_cons.mpr ⟨cfX11_165 (m_X11_isSchool l) (by decide), List.forall_mem_cons.mpr ⟨cfX11_245 (m_X6_survey l) (by decide), fun _ h => nomatch h⟩⟩⟩⟩)) ?_
  rintro as h k ⟨v1, v2, v3, v4, s, rfl, rfl, hw⟩
  exact ⟨rfl, fun G hG => g_X11_reach hG hw⟩
def F_X11_isSchoolOrAll (v1 : Int32) (s : St) : Option (Int32) :=
  some (bI (inb v1 (-1) ((s.1 501) - 1)))
def ct_X11_isSchoolOrAll : List (Nat × mj_Cs) := [(96, 2, 3, 11, 0, 0, c_in)]
theorem L_X11_isSchoolOrAll : mj_lk ct_X11_isSchoolOrAll 96 = some (2, 3, 11, 0, 0, c_in) := rfl
set_option maxHeartbeats 4000000 in
set_option maxRecDepth 20000 in
theorem g_X11_isSchoolOrAll {k : Option Value → mj_H → Prop} {G : mj_K} (hG : mj_cl2 cX11_isSchoolOrAll (TbX11 2 ((some FieldType.boolean)) ct_X11_isSchoolOrAll) k G) {v1 : Int32} {s : St} (hw : ok (F_X11_isSchoolOrAll v1 s) (fun p => k (some (.int p)) (mkCs s))) : G 0 [.ref 0, .int v1] [] (mkCs s) 0 0 := by
  unfold F_X11_isSchoolOrAll at hw
  refine mj_run hG.1 (fun _ => false) 4000 ?_
  simp only [mj_step, mj_W_s, mj_fin, List.getElem?_cons_zero, List.getElem?_cons_succ, mj_go, Nat.reduceAdd, Nat.reduceSub, Nat.reduceLT, Nat.reduceLeDiff, Nat.zero_add, Nat.reduceEqDiff, Nat.reduceBEq, ↓reduceIte, Bool.false_eq_true, List.append_nil, List.nil_append, List.cons_append, Option.toList, and_true, true_and, true_or, or_true, reduceCtorEq, List.map_nil, bI_eq0, bI_eq1, bool_ft, pk_us, vnar0, vnar1, Bool.or_false, Bool.or_true, Bool.false_or, Bool.true_or, mj_kne, eq_self, Int32.reduceLT, Int32.reduceLE, Int32.reduceAdd, Int32.reduceSub, Int32.reduceMul, not_true_eq_false, not_false_eq_true, false_implies, true_implies, D_X11_isSchoolOrAll, mj_F_aload_n_k, mj_F_getfield_i, mj_F_iconst_n, mj_F_iload_n_k, mj_F_invokestatic_i, mj_F_ireturn, mj_F_isub, mj_kc, FT_X11, L_X11_isSchoolOrAll, List.take_succ_cons, List.take_zero, List.drop_succ_cons, List.drop_zero, List.reverse_cons, List.reverse_nil, List.length_cons, List.length_nil, gS_C0, gCf11_5, gS_C35, gCf5_1, c_in_eq]
  exact (ok_some hw :)

def c_X11_isSchoolOrAll : mj_S := fun as h k => ∃ (v1 : Int32) (s : St), as = [.ref 0, .int v1] ∧ h = mkCs s ∧ ok (F_X11_isSchoolOrAll v1 s) (fun p => k (some (.int p)) (mkCs s))
theorem c_X11_isSchoolOrAll_in {v1 : Int32} {s : St} {k : Option Value → mj_H → Prop} (hw : ok (F_X11_isSchoolOrAll v1 s) (fun p => k (some (.int p)) (mkCs s))) : c_X11_isSchoolOrAll [.ref 0, .int v1] (mkCs s) k := ⟨v1, s, rfl, rfl, hw⟩
theorem m_X11_isSchoolOrAll (l : Launch) : mj_Met l yX11_isSchoolOrAll cX11_isSchoolOrAll 2 ((some FieldType.boolean)) 1 0 0 c_X11_isSchoolOrAll := by
  refine mj_body2 false (TbX11 2 ((some FieldType.boolean)) ct_X11_isSchoolOrAll) (by decide) rfl rfl (fun h => nomatch h) (tfX11 _ (List.forall_mem_cons.mpr ⟨cfX11_96 (m_X11_within l) (by decide), fun _ h => nomatch h⟩)) ?_
  rintro as h k ⟨v1, s, rfl, rfl, hw⟩
  exact ⟨rfl, fun G hG => g_X11_isSchoolOrAll hG hw⟩
def B_X6_nearest_8 (v1 : Int32) (s : St) : Int32 × Int32 × Int32 → Option ((Int32 × Int32 × Int32) ⊕ ((Int32)))
  | (v2, v3, v4) =>
  if (s.1 501) ≤ v4 then
    some (.inr v2)
  else
    (rd s 604 480 ((v1 * 20) + v4)).bind fun x1 =>
    if x1 = (-1) then
      some (.inl (v2, v3, (v4 + 1)))
    else
      (rd s 607 20 v4).bind fun x2 =>
      if x2 ≤ 0 then
        some (.inl (v2, v3, (v4 + 1)))
      else
        if v3 ≤ x1 then
          some (.inl (v2, v3, (v4 + 1)))
        else
          some (.inl (v4, x1, (v4 + 1)))
def F_X6_nearest_68 (v2 : Int32) (s : St) : Option (Int32) :=
  some v2
def F_X6_nearest_8 (v1 : Int32) (v2 : Int32) (v3 : Int32) (v4 : Int32) (s : St) : Option (Int32) :=
  (lp (B_X6_nearest_8 v1 s) FU (v2, v3, v4)).bind (fun y => F_X6_nearest_68 y s)
def F_X6_nearest (v1 : Int32) (s : St) : Option (Int32) :=
  F_X6_nearest_8 v1 (-1) 100000000 0 s
theorem J_X6_nearest : mj_t 17 51 = 68 ∧ mj_t 37 25 = 62 ∧ mj_t 47 15 = 62 ∧ mj_t 53 9 = 62 ∧ mj_t 65 (-57) = 8 ∧ (0 ≤ ((17 : Nat) : Int) + 51) = True ∧ (0 ≤ ((37 : Nat) : Int) + 25) = True ∧ (0 ≤ ((47 : Nat) : Int) + 15) = True ∧ (0 ≤ ((53 : Nat) : Int) + 9) = True ∧ (0 ≤ ((65 : Nat) : Int) + (-57)) = True := by and_intros <;> first | rfl | exact eq_true (by decide)
set_option maxHeartbeats 4000000 in
set_option maxRecDepth 20000 in
theorem b_X6_nearest_8 {k : Option Value → mj_H → Prop} {G : mj_K} (hG : mj_cl2 cX6_nearest (TbX6 6 ((some FieldType.int)) []) k G) {v1 : Int32} {s : St} {P : Int32 × Int32 × Int32 → Prop} {K : (Int32) → Prop} (hP : ∀ x, P x → G 8 [.ref 55, .int v1, .int x.1, .int x.2.1, .int x.2.2] [] (mkCs s) 0 0) (hK0 : ∀ y, K y → G 68 [mj_unk, mj_unk, .int y] [] (mkCs s) 0 0) {v2 : Int32} {v3 : Int32} {v4 : Int32} (hw : ok (B_X6_nearest_8 v1 s (v2, v3, v4)) (Sum.elim P K)) : G 8 [.ref 55, .int v1, .int v2, .int v3, .int v4] [] (mkCs s) 0 0 := by
  unfold B_X6_nearest_8 at hw
  refine mj_run hG.1 (fun pc => pc == 8 || pc == 68) 4000 ?_
  simp only [mj_step, mj_W_s, mj_fin, List.getElem?_cons_zero, List.getElem?_cons_succ, mj_go, Nat.reduceAdd, Nat.reduceSub, Nat.reduceLT, Nat.reduceLeDiff, Nat.zero_add, Nat.reduceEqDiff, Nat.reduceBEq, ↓reduceIte, Bool.false_eq_true, List.append_nil, List.nil_append, List.cons_append, Option.toList, and_true, true_and, true_or, or_true, reduceCtorEq, List.map_nil, bI_eq0, bI_eq1, bool_ft, pk_us, vnar0, vnar1, Bool.or_false, Bool.or_true, Bool.false_or, Bool.true_or, mj_kne, eq_self, Int32.reduceLT, Int32.reduceLE, Int32.reduceAdd, Int32.reduceSub, Int32.reduceMul, not_true_eq_false, not_false_eq_true, false_implies, true_implies, D_X6_nearest, mj_F_aload_n_k, mj_F_bipush_n, mj_F_getfield_i, mj_F_goto_off, mj_F_iadd, mj_F_iaload, mj_F_iconst_n, mj_F_ifCond_le_off, mj_F_if_icmp_eq_off, mj_F_if_icmp_ge_off, mj_F_iinc_k_n, mj_F_iload_k, mj_F_iload_n_k, mj_F_imul, mj_F_ireturn, mj_F_istore_k, mj_F_istore_n_k, mj_F_ldc_i, mj_set, mj_set0, mj_unk, mj_c2, mj_kc, FT_X6, KT_X6, gS_C55, gCf6_3, gS_C35, gCf5_1, gCf6_4, gS_C56, sS_Ca_56, gCf6_7, gS_C59, sS_Ca_59, J_X6_nearest]
  refine ⟨fun c => ?_, fun c => ?_⟩
  · replace hw := ok_t hw c
    exact hG.2 _ _ _ _ _ _ _ _ _ (by refine ⟨Or.inl rfl, ?_⟩; refine ⟨Or.inl rfl, ?_⟩; refine ⟨Or.inr rfl, ?_⟩; exact trivial) (Nat.zero_le _) (Nat.zero_le _) (hK0 _ (ok_some hw :) :)
  · replace hw := ok_f hw c
    refine ⟨(ok_rd hw).1, ?_⟩
    replace hw := (ok_rd hw).2
    refine ⟨fun c => ?_, fun c => ?_⟩
    · replace hw := ok_t hw c
      exact hG.2 _ _ _ _ _ _ _ _ _ (by refine ⟨Or.inr rfl, ?_⟩; refine ⟨Or.inr rfl, ?_⟩; refine ⟨Or.inr rfl, ?_⟩; refine ⟨Or.inr rfl, ?_⟩; refine ⟨Or.inr rfl, ?_⟩; exact trivial) (Nat.zero_le _) (Nat.zero_le _) (hP _ (ok_some hw :) :)
    · replace hw := ok_f hw c
      refine ⟨(ok_rd hw).1, ?_⟩
      replace hw := (ok_rd hw).2
      refine ⟨fun c => ?_, fun c => ?_⟩
      · replace hw := ok_t hw c
        exact hG.2 _ _ _ _ _ _ _ _ _ (by refine ⟨Or.inr rfl, ?_⟩; refine ⟨Or.inr rfl, ?_⟩; refine ⟨Or.inr rfl, ?_⟩; refine ⟨Or.inr rfl, ?_⟩; refine ⟨Or.inr rfl, ?_⟩; exact trivial) (Nat.zero_le _) (Nat.zero_le _) (hP _ (ok_some hw :) :)
      · replace hw := ok_f hw c
        refine ⟨fun c => ?_, fun c => ?_⟩
        · replace hw := ok_t hw c
          exact hG.2 _ _ _ _ _ _ _ _ _ (by refine ⟨Or.inr rfl, ?_⟩; refine ⟨Or.inr rfl, ?_⟩; refine ⟨Or.inr rfl, ?_⟩; refine ⟨Or.inr rfl, ?_⟩; refine ⟨Or.inr rfl, ?_⟩; exact trivial) (Nat.zero_le _) (Nat.zero_le _) (hP _ (ok_some hw :) :)
        · replace hw := ok_f hw c
          exact hG.2 _ _ _ _ _ _ _ _ _ (by refine ⟨Or.inr rfl, ?_⟩; refine ⟨Or.inr rfl, ?_⟩; refine ⟨Or.inr rfl, ?_⟩; refine ⟨Or.inr rfl, ?_⟩; refine ⟨Or.inr rfl, ?_⟩; exact trivial) (Nat.zero_le _) (Nat.zero_le _) (hP _ (ok_some hw :) :)

set_option maxHeartbeats 4000000 in
set_option maxRecDepth 20000 in
theorem g_X6_nearest_68 {k : Option Value → mj_H → Prop} {G : mj_K} (hG : mj_cl2 cX6_nearest (TbX6 6 ((some FieldType.int)) []) k G)   {v2 : Int32} {s : St} (hw : ok (F_X6_nearest_68 v2 s) (fun p => k (some (.int p)) (mkCs s))) : G 68 [mj_unk, mj_unk, .int v2] [] (mkCs s) 0 0 := by
  unfold F_X6_nearest_68 at hw
  refine mj_run hG.1 (fun pc => pc == 8 || pc == 68) 4000 ?_
  simp only [mj_step, mj_W_s, mj_fin, List.getElem?_cons_zero, List.getElem?_cons_succ, mj_go, Nat.reduceAdd, Nat.reduceSub, Nat.reduceLT, Nat.reduceLeDiff, Nat.zero_add, Nat.reduceEqDiff, Nat.reduceBEq, ↓reduceIte, Bool.false_eq_true, List.append_nil, List.nil_append, List.cons_append, Option.toList, and_true, true_and, true_or, or_true, reduceCtorEq, List.map_nil, bI_eq0, bI_eq1, bool_ft, pk_us, vnar0, vnar1, Bool.or_false, Bool.or_true, Bool.false_or, Bool.true_or, mj_kne, eq_self, Int32.reduceLT, Int32.reduceLE, Int32.reduceAdd, Int32.reduceSub, Int32.reduceMul, not_true_eq_false, not_false_eq_true, false_implies, true_implies, D_X6_nearest, mj_F_aload_n_k, mj_F_bipush_n, mj_F_getfield_i, mj_F_goto_off, mj_F_iadd, mj_F_iaload, mj_F_iconst_n, mj_F_ifCond_le_off, mj_F_if_icmp_eq_off, mj_F_if_icmp_ge_off, mj_F_iinc_k_n, mj_F_iload_k, mj_F_iload_n_k, mj_F_imul, mj_F_ireturn, mj_F_istore_k, mj_F_istore_n_k, mj_F_ldc_i, mj_set, mj_set0, mj_unk, mj_c2, mj_kc, FT_X6, KT_X6, gS_C55, gCf6_3, gS_C35, gCf5_1, gCf6_4, gS_C56, sS_Ca_56, gCf6_7, gS_C59, sS_Ca_59, J_X6_nearest]
  exact (ok_some hw :)

set_option maxHeartbeats 4000000 in
theorem g_X6_nearest_8 {k : Option Value → mj_H → Prop} {G : mj_K} (hG : mj_cl2 cX6_nearest (TbX6 6 ((some FieldType.int)) []) k G)   {v1 : Int32} {v2 : Int32} {v3 : Int32} {v4 : Int32} {s : St} (hw : ok (F_X6_nearest_8 v1 v2 v3 v4 s) (fun p => k (some (.int p)) (mkCs s))) : G 8 [.ref 55, .int v1, .int v2, .int v3, .int v4] [] (mkCs s) 0 0 := by
  unfold F_X6_nearest_8 at hw
  refine lp_ok (B_X6_nearest_8 v1 s) (fun x => G 8 [.ref 55, .int v1, .int x.1, .int x.2.1, .int x.2.2] [] (mkCs s) 0 0) _ ?_ _ _ (ok_bind hw)
  rintro ⟨v2, v3, v4⟩ hb
  exact b_X6_nearest_8 hG (fun _ z => z) (fun y hw => by exact hG.2 _ _ _ _ _ _ _ _ _ (by refine ⟨Or.inl rfl, ?_⟩; refine ⟨Or.inl rfl, ?_⟩; refine ⟨Or.inr rfl, ?_⟩; exact trivial) (Nat.zero_le _) (Nat.zero_le _) (g_X6_nearest_68 hG  hw :)) hb

set_option maxHeartbeats 4000000 in
set_option maxRecDepth 20000 in
theorem g_X6_nearest {k : Option Value → mj_H → Prop} {G : mj_K} (hG : mj_cl2 cX6_nearest (TbX6 6 ((some FieldType.int)) []) k G) {v1 : Int32} {s : St} (hw : ok (F_X6_nearest v1 s) (fun p => k (some (.int p)) (mkCs s))) : G 0 [.ref 55, .int v1] [] (mkCs s) 0 0 := by
  unfold F_X6_nearest at hw
  refine mj_run hG.1 (fun pc => pc == 8 || pc == 68) 4000 ?_
  simp only [mj_step, mj_W_s, mj_fin, List.getElem?_cons_zero, List.getElem?_cons_succ, mj_go, Nat.reduceAdd, Nat.reduceSub, Nat.reduceLT, Nat.reduceLeDiff, Nat.zero_add, Nat.reduceEqDiff, Nat.reduceBEq, ↓reduceIte, Bool.false_eq_true, List.append_nil, List.nil_append, List.cons_append, Option.toList, and_true, true_and, true_or, or_true, reduceCtorEq, List.map_nil, bI_eq0, bI_eq1, bool_ft, pk_us, vnar0, vnar1, Bool.or_false, Bool.or_true, Bool.false_or, Bool.true_or, mj_kne, eq_self, Int32.reduceLT, Int32.reduceLE, Int32.reduceAdd, Int32.reduceSub, Int32.reduceMul, not_true_eq_false, not_false_eq_true, false_implies, true_implies, D_X6_nearest, mj_F_aload_n_k, mj_F_bipush_n, mj_F_getfield_i, mj_F_goto_off, mj_F_iadd, mj_F_iaload, mj_F_iconst_n, mj_F_ifCond_le_off, mj_F_if_icmp_eq_off, mj_F_if_icmp_ge_off, mj_F_iinc_k_n, mj_F_iload_k, mj_F_iload_n_k, mj_F_imul, mj_F_ireturn, mj_F_istore_k, mj_F_istore_n_k, mj_F_ldc_i, mj_set, mj_set0, mj_unk, mj_c2, mj_kc, FT_X6, KT_X6, gS_C55, gCf6_3, gS_C35, gCf5_1, gCf6_4, gS_C56, sS_Ca_56, gCf6_7, gS_C59, sS_Ca_59, J_X6_nearest]
  exact hG.2 _ _ _ _ _ _ _ _ _ (by refine ⟨Or.inr rfl, ?_⟩; refine ⟨Or.inr rfl, ?_⟩; refine ⟨Or.inr rfl, ?_⟩; refine ⟨Or.inr rfl, ?_⟩; refine ⟨Or.inr rfl, ?_⟩; exact trivial) (Nat.zero_le _) (Nat.zero_le _) (g_X6_nearest_8 hG  hw :)

def c_X6_nearest : mj_S := fun as h k => ∃ (v1 : Int32) (s : St), as = [.ref 55, .int v1] ∧ h = mkCs s ∧ ok (F_X6_nearest v1 s) (fun p => k (some (.int p)) (mkCs s))
theorem c_X6_nearest_in {v1 : Int32} {s : St} {k : Option Value → mj_H → Prop} (hw : ok (F_X6_nearest v1 s) (fun p => k (some (.int p)) (mkCs s))) : c_X6_nearest [.ref 55, .int v1] (mkCs s) k := ⟨v1, s, rfl, rfl, hw⟩
theorem m_X6_nearest (l : Launch) : mj_Met l yX6_nearest cX6_nearest 6 ((some FieldType.int)) 0 0 0 c_X6_nearest := by
  refine mj_body2 false (TbX6 6 ((some FieldType.int)) []) (by decide) rfl rfl (fun h => nomatch h) (tfX6 _ (fun _ h => nomatch h)) ?_
  rintro as h k ⟨v1, s, rfl, rfl, hw⟩
  exact ⟨rfl, fun G hG => g_X6_nearest hG hw⟩
def B_X6_seatAll_23 (v1 : Int32) : Int32 × St → Option ((Int32 × St) ⊕ ((St) ⊕ (St)))
  | (v2, s) =>
  if (s.1 501) ≤ v2 then
    some (.inr (.inl s))
  else
    (rd s 606 24 v1).bind fun x2 =>
    if x2 ≤ 0 then
      some (.inr (.inl s))
    else
      (F_X6_nearest v1 s).bind fun r3 =>
      if r3 = (-1) then
        some (.inr (.inr s))
      else
        (rd s 606 24 v1).bind fun x4 =>
        (rd s 607 20 r3).bind fun x5 =>
        (rd s 605 480 ((v1 * 20) + r3)).bind fun x6 =>
        (wr s 605 480 ((v1 * 20) + r3) (x6 + (zmn x4 x5))).bind fun s7 =>
        (rd s7 607 20 r3).bind fun x8 =>
        (wr s7 607 20 r3 (x8 - (zmn x4 x5))).bind fun s9 =>
        (rd s9 606 24 v1).bind fun x10 =>
        (wr s9 606 24 v1 (x10 - (zmn x4 x5))).bind fun s11 =>
        some (.inl ((v2 + 1), s11))
def F_X6_seatAll_118 (v1 : Int32) (s : St) : Option ((Int32 × St) ⊕ ((St))) :=
  some (.inl ((v1 + 1), s))
def F_X6_seatAll_54 (v1 : Int32) (s : St) : Option ((Int32 × St) ⊕ ((St))) :=
  F_X6_seatAll_118 v1 s
def F_X6_seatAll_23 (v1 : Int32) (v2 : Int32) (s : St) : Option ((Int32 × St) ⊕ ((St))) :=
  (lp (B_X6_seatAll_23 v1) FU (v2, s)).bind (Sum.elim (fun y => F_X6_seatAll_118 v1 y) (fun y => F_X6_seatAll_54 v1 y))
def B_X6_seatAll_10  : Int32 × St → Option ((Int32 × St) ⊕ ((St)))
  | (v1, s) =>
  if (s.1 101) ≤ v1 then
    some (.inr s)
  else
    F_X6_seatAll_23 v1 0 s
def F_X6_seatAll_124 (s : St) : Option (St) :=
  some s
def F_X6_seatAll_10 (v1 : Int32) (s : St) : Option (St) :=
  (lp (B_X6_seatAll_10 ) FU (v1, s)).bind (fun y => F_X6_seatAll_124 y)
def F_X6_seatAll (s : St) : Option (St) :=
  (wF s 605 480 0).bind fun s1 =>
  F_X6_seatAll_10 0 s1
theorem J_X6_seatAll : mj_t 18 106 = 124 ∧ mj_t 31 87 = 118 ∧ mj_t 40 78 = 118 ∧ mj_t 51 6 = 57 ∧ mj_t 54 64 = 118 ∧ mj_t 115 (-92) = 23 ∧ mj_t 121 (-111) = 10 ∧ (0 ≤ ((18 : Nat) : Int) + 106) = True ∧ (0 ≤ ((31 : Nat) : Int) + 87) = True ∧ (0 ≤ ((40 : Nat) : Int) + 78) = True ∧ (0 ≤ ((51 : Nat) : Int) + 6) = True ∧ (0 ≤ ((54 : Nat) : Int) + 64) = True ∧ (0 ≤ ((115 : Nat) : Int) + (-92)) = True ∧ (0 ≤ ((121 : Nat) : Int) + (-111)) = True := by and_intros <;> first | rfl | exact eq_true (by decide)
def ct_X6_seatAll : List (Nat × mj_Cs) := [(105, 2, 2, 99, 0, 0, c_fill), (111, 0, 2, 6, 0, 0, c_X6_nearest)]
theorem L_X6_seatAll : mj_lk ct_X6_seatAll 105 = some (2, 2, 99, 0, 0, c_fill) ∧ mj_lk ct_X6_seatAll 111 = some (0, 2, 6, 0, 0, c_X6_nearest) := ⟨rfl, rfl⟩
set_option maxHeartbeats 4000000 in
set_option maxRecDepth 20000 in
theorem b_X6_seatAll_23 {k : Option Value → mj_H → Prop} {G : mj_K} (hG : mj_cl2 cX6_seatAll (TbX6 5 (none) ct_X6_seatAll) k G) (hM : mj_ml cX6_seatAll yX6_seatAll.cls G) {v1 : Int32} {P : Int32 × St → Prop} {K : (St) ⊕ (St) → Prop} (hP : ∀ x, P x → G 23 [.ref 55, .int v1, .int x.1] [] (mkCs x.2) 0 0) (hK0 : ∀ y, K (.inl y) → G 118 [.ref 55, .int v1] [] (mkCs y) 0 0) (hK1 : ∀ y, K (.inr y) → G 54 [.ref 55, .int v1] [] (mkCs y) 0 0) {v2 : Int32} {s : St} (hw : ok (B_X6_seatAll_23 v1 (v2, s)) (Sum.elim P K)) : G 23 [.ref 55, .int v1, .int v2] [] (mkCs s) 0 0 := by
  unfold B_X6_seatAll_23 at hw
  refine mj_run hG.1 (fun pc => pc == 8 || pc == 10 || pc == 23 || pc == 48 || pc == 54 || pc == 69 || pc == 118 || pc == 124) 4000 ?_
  simp only [mj_step, mj_W_s, mj_fin, List.getElem?_cons_zero, List.getElem?_cons_succ, mj_go, Nat.reduceAdd, Nat.reduceSub, Nat.reduceLT, Nat.reduceLeDiff, Nat.zero_add, Nat.reduceEqDiff, Nat.reduceBEq, ↓reduceIte, Bool.false_eq_true, List.append_nil, List.nil_append, List.cons_append, Option.toList, and_true, true_and, true_or, or_true, reduceCtorEq, List.map_nil, bI_eq0, bI_eq1, bool_ft, pk_us, vnar0, vnar1, Bool.or_false, Bool.or_true, Bool.false_or, Bool.true_or, mj_kne, eq_self, Int32.reduceLT, Int32.reduceLE, Int32.reduceAdd, Int32.reduceSub, Int32.reduceMul, not_true_eq_false, not_false_eq_true, false_implies, true_implies, D_X6_seatAll_0, D_X6_seatAll_1, mj_F_aload_n_k, mj_F_bipush_n, mj_F_dup2, mj_F_getfield_i, mj_F_goto_off, mj_F_iadd, mj_F_iaload, mj_F_iastore, mj_F_iconst_n, mj_F_ifCond_le_off, mj_F_if_icmp_ge_off, mj_F_if_icmp_ne_off, mj_F_iinc_k_n, mj_F_iload_k, mj_F_iload_n_k, mj_F_imul, mj_F_invokestatic_i, mj_F_invokevirtual_i, mj_F_istore_k, mj_F_istore_n_k, mj_F_isub, mj_F_return_, mj_set, mj_set0, mj_unk, mj_c2, mj_kc, FT_X6, L_X6_seatAll, List.take_succ_cons, List.take_zero, List.drop_succ_cons, List.drop_zero, List.reverse_cons, List.reverse_nil, List.length_cons, List.length_nil, gS_C55, gCf6_5, gS_C57, sS_Ca_57, gCf6_2, gS_C20, gCf1_1, gCf6_3, gS_C35, gCf5_1, gCf6_6, gS_C58, sS_Ca_58, gCf6_7, gS_C59, sS_Ca_59, sS_CF_57, sS_CF_58, sS_CF_59, J_X6_seatAll]
  refine ⟨fun c => ?_, fun c => ?_⟩
  · replace hw := ok_t hw c
    exact hG.2 _ _ _ _ _ _ _ _ _ (by refine ⟨Or.inr rfl, ?_⟩; refine ⟨Or.inr rfl, ?_⟩; exact trivial) (Nat.zero_le _) (Nat.zero_le _) (hK0 _ (ok_some hw :) :)
  · replace hw := ok_f hw c
    refine ⟨(ok_rd hw).1, ?_⟩
    replace hw := (ok_rd hw).2
    refine ⟨fun c => ?_, fun c => ?_⟩
    · replace hw := ok_t hw c
      exact hG.2 _ _ _ _ _ _ _ _ _ (by refine ⟨Or.inr rfl, ?_⟩; refine ⟨Or.inr rfl, ?_⟩; exact trivial) (Nat.zero_le _) (Nat.zero_le _) (hK0 _ (ok_some hw :) :)
    · replace hw := ok_f hw c
      refine c_X6_nearest_in (ok_imp (ok_bind hw) ?_)
      intro p hw
      simp only [Option.toList, List.nil_append, List.cons_append, Nat.reduceSub]
      refine mj_run hG.1 (fun pc => pc == 8 || pc == 10 || pc == 23 || pc == 48 || pc == 54 || pc == 69 || pc == 118 || pc == 124) 4000 ?_
      simp only [mj_step, mj_W_s, mj_fin, List.getElem?_cons_zero, List.getElem?_cons_succ, mj_go, Nat.reduceAdd, Nat.reduceSub, Nat.reduceLT, Nat.reduceLeDiff, Nat.zero_add, Nat.reduceEqDiff, Nat.reduceBEq, ↓reduceIte, Bool.false_eq_true, List.append_nil, List.nil_append, List.cons_append, Option.toList, and_true, true_and, true_or, or_true, reduceCtorEq, List.map_nil, bI_eq0, bI_eq1, bool_ft, pk_us, vnar0, vnar1, Bool.or_false, Bool.or_true, Bool.false_or, Bool.true_or, mj_kne, eq_self, Int32.reduceLT, Int32.reduceLE, Int32.reduceAdd, Int32.reduceSub, Int32.reduceMul, not_true_eq_false, not_false_eq_true, false_implies, true_implies, D_X6_seatAll_0, D_X6_seatAll_1, mj_F_aload_n_k, mj_F_bipush_n, mj_F_dup2, mj_F_getfield_i, mj_F_goto_off, mj_F_iadd, mj_F_iaload, mj_F_iastore, mj_F_iconst_n, mj_F_ifCond_le_off, mj_F_if_icmp_ge_off, mj_F_if_icmp_ne_off, mj_F_iinc_k_n, mj_F_iload_k, mj_F_iload_n_k, mj_F_imul, mj_F_invokestatic_i, mj_F_invokevirtual_i, mj_F_istore_k, mj_F_istore_n_k, mj_F_isub, mj_F_return_, mj_set, mj_set0, mj_unk, mj_c2, mj_kc, FT_X6, L_X6_seatAll, List.take_succ_cons, List.take_zero, List.drop_succ_cons, List.drop_zero, List.reverse_cons, List.reverse_nil, List.length_cons, List.length_nil, gS_C55, gCf6_5, gS_C57, sS_Ca_57, gCf6_2, gS_C20, gCf1_1, gCf6_3, gS_C35, gCf5_1, gCf6_6, gS_C58, sS_Ca_58, gCf6_7, gS_C59, sS_Ca_59, sS_CF_57, sS_CF_58, sS_CF_59, J_X6_seatAll]
      refine ⟨fun c => ?_, fun c => ?_⟩
      · replace hw := ok_f hw c
        refine ⟨(ok_rd hw).1, ?_⟩
        replace hw := (ok_rd hw).2
        refine ⟨(ok_rd hw).1, ?_⟩
        replace hw := (ok_rd hw).2
        refine hM 69 115 0 _ _ _ _ _ _ _ _ (by simp only [D_X6_seatAll_0, D_X6_seatAll_1]) (lkX6_115) rfl (Nat.le_of_ble_eq_true rfl) ?_
        refine mj_run hG.1 (fun pc => pc == 8 || pc == 10 || pc == 23 || pc == 48 || pc == 54 || pc == 69 || pc == 118 || pc == 124) 4000 ?_
        simp only [mj_step, mj_W_s, mj_fin, List.getElem?_cons_zero, List.getElem?_cons_succ, mj_go, Nat.reduceAdd, Nat.reduceSub, Nat.reduceLT, Nat.reduceLeDiff, Nat.zero_add, Nat.reduceEqDiff, Nat.reduceBEq, ↓reduceIte, Bool.false_eq_true, List.append_nil, List.nil_append, List.cons_append, Option.toList, and_true, true_and, true_or, or_true, reduceCtorEq, List.map_nil, bI_eq0, bI_eq1, bool_ft, pk_us, vnar0, vnar1, Bool.or_false, Bool.or_true, Bool.false_or, Bool.true_or, mj_kne, eq_self, Int32.reduceLT, Int32.reduceLE, Int32.reduceAdd, Int32.reduceSub, Int32.reduceMul, not_true_eq_false, not_false_eq_true, false_implies, true_implies, D_X6_seatAll_0, D_X6_seatAll_1, mj_F_aload_n_k, mj_F_bipush_n, mj_F_dup2, mj_F_getfield_i, mj_F_goto_off, mj_F_iadd, mj_F_iaload, mj_F_iastore, mj_F_iconst_n, mj_F_ifCond_le_off, mj_F_if_icmp_ge_off, mj_F_if_icmp_ne_off, mj_F_iinc_k_n, mj_F_iload_k, mj_F_iload_n_k, mj_F_imul, mj_F_invokestatic_i, mj_F_invokevirtual_i, mj_F_istore_k, mj_F_istore_n_k, mj_F_isub, mj_F_return_, mj_set, mj_set0, mj_unk, mj_c2, mj_kc, FT_X6, L_X6_seatAll, List.take_succ_cons, List.take_zero, List.drop_succ_cons, List.drop_zero, List.reverse_cons, List.reverse_nil, List.length_cons, List.length_nil, gS_C55, gCf6_5, gS_C57, sS_Ca_57, gCf6_2, gS_C20, gCf1_1, gCf6_3, gS_C35, gCf5_1, gCf6_6, gS_C58, sS_Ca_58, gCf6_7, gS_C59, sS_Ca_59, sS_CF_57, sS_CF_58, sS_CF_59, J_X6_seatAll]
        refine ⟨(ok_rd hw).1, ?_⟩
        replace hw := (ok_rd hw).2
        refine ⟨(ok_wr hw).1, ?_⟩
        replace hw := (ok_wr hw).2
        refine ⟨(ok_rd hw).1, ?_⟩
        replace hw := (ok_rd hw).2
        refine ⟨(ok_wr hw).1, ?_⟩
        replace hw := (ok_wr hw).2
        refine ⟨(ok_rd hw).1, ?_⟩
        replace hw := (ok_rd hw).2
        refine ⟨(ok_wr hw).1, ?_⟩
        replace hw := (ok_wr hw).2
        exact hG.2 _ _ _ _ _ _ _ _ _ (by refine ⟨Or.inr rfl, ?_⟩; refine ⟨Or.inr rfl, ?_⟩; refine ⟨Or.inr rfl, ?_⟩; exact trivial) (Nat.zero_le _) (Nat.zero_le _) (hP _ (ok_some hw :) :)
      · replace hw := ok_t hw c
        exact hG.2 _ _ _ _ _ _ _ _ _ (by refine ⟨Or.inr rfl, ?_⟩; refine ⟨Or.inr rfl, ?_⟩; exact trivial) (Nat.zero_le _) (Nat.zero_le _) (hK1 _ (ok_some hw :) :)

set_option maxHeartbeats 4000000 in
set_option maxRecDepth 20000 in
theorem g_X6_seatAll_118 {k : Option Value → mj_H → Prop} {G : mj_K} (hG : mj_cl2 cX6_seatAll (TbX6 5 (none) ct_X6_seatAll) k G) (hM : mj_ml cX6_seatAll yX6_seatAll.cls G)  {P : Int32 × St → Prop} {K : (St) → Prop} (hP : ∀ x, P x → G 10 [.ref 55, .int x.1] [] (mkCs x.2) 0 0) (hK0 : ∀ y, K y → G 124 [] [] (mkCs y) 0 0) {v1 : Int32} {s : St} (hw : ok (F_X6_seatAll_118 v1 s) (Sum.elim P K)) : G 118 [.ref 55, .int v1] [] (mkCs s) 0 0 := by
  unfold F_X6_seatAll_118 at hw
  refine mj_run hG.1 (fun pc => pc == 8 || pc == 10 || pc == 23 || pc == 48 || pc == 54 || pc == 69 || pc == 118 || pc == 124) 4000 ?_
  simp only [mj_step, mj_W_s, mj_fin, List.getElem?_cons_zero, List.getElem?_cons_succ, mj_go, Nat.reduceAdd, Nat.reduceSub, Nat.reduceLT, Nat.reduceLeDiff, Nat.zero_add, Nat.reduceEqDiff, Nat.reduceBEq, ↓reduceIte, Bool.false_eq_true, List.append_nil, List.nil_append, List.cons_append, Option.toList, and_true, true_and, true_or, or_true, reduceCtorEq, List.map_nil, bI_eq0, bI_eq1, bool_ft, pk_us, vnar0, vnar1, Bool.or_false, Bool.or_true, Bool.false_or, Bool.true_or, mj_kne, eq_self, Int32.reduceLT, Int32.reduceLE, Int32.reduceAdd, Int32.reduceSub, Int32.reduceMul, not_true_eq_false, not_false_eq_true, false_implies, true_implies, D_X6_seatAll_0, D_X6_seatAll_1, mj_F_aload_n_k, mj_F_bipush_n, mj_F_dup2, mj_F_getfield_i, mj_F_goto_off, mj_F_iadd, mj_F_iaload, mj_F_iastore, mj_F_iconst_n, mj_F_ifCond_le_off, mj_F_if_icmp_ge_off, mj_F_if_icmp_ne_off, mj_F_iinc_k_n, mj_F_iload_k, mj_F_iload_n_k, mj_F_imul, mj_F_invokestatic_i, mj_F_invokevirtual_i, mj_F_istore_k, mj_F_istore_n_k, mj_F_isub, mj_F_return_, mj_set, mj_set0, mj_unk, mj_c2, mj_kc, FT_X6, L_X6_seatAll, List.take_succ_cons, List.take_zero, List.drop_succ_cons, List.drop_zero, List.reverse_cons, List.reverse_nil, List.length_cons, List.length_nil, gS_C55, gCf6_5, gS_C57, sS_Ca_57, gCf6_2, gS_C20, gCf1_1, gCf6_3, gS_C35, gCf5_1, gCf6_6, gS_C58, sS_Ca_58, gCf6_7, gS_C59, sS_Ca_59, sS_CF_57, sS_CF_58, sS_CF_59, J_X6_seatAll]
  exact hG.2 _ _ _ _ _ _ _ _ _ (by refine ⟨Or.inr rfl, ?_⟩; refine ⟨Or.inr rfl, ?_⟩; exact trivial) (Nat.zero_le _) (Nat.zero_le _) (hP _ (ok_some hw :) :)

set_option maxHeartbeats 4000000 in
set_option maxRecDepth 20000 in
theorem g_X6_seatAll_54 {k : Option Value → mj_H → Prop} {G : mj_K} (hG : mj_cl2 cX6_seatAll (TbX6 5 (none) ct_X6_seatAll) k G) (hM : mj_ml cX6_seatAll yX6_seatAll.cls G)  {P : Int32 × St → Prop} {K : (St) → Prop} (hP : ∀ x, P x → G 10 [.ref 55, .int x.1] [] (mkCs x.2) 0 0) (hK0 : ∀ y, K y → G 124 [] [] (mkCs y) 0 0) {v1 : Int32} {s : St} (hw : ok (F_X6_seatAll_54 v1 s) (Sum.elim P K)) : G 54 [.ref 55, .int v1] [] (mkCs s) 0 0 := by
  unfold F_X6_seatAll_54 at hw
  refine mj_run hG.1 (fun pc => pc == 8 || pc == 10 || pc == 23 || pc == 48 || pc == 54 || pc == 69 || pc == 118 || pc == 124) 4000 ?_
  simp only [mj_step, mj_W_s, mj_fin, List.getElem?_cons_zero, List.getElem?_cons_succ, mj_go, Nat.reduceAdd, Nat.reduceSub, Nat.reduceLT, Nat.reduceLeDiff, Nat.zero_add, Nat.reduceEqDiff, Nat.reduceBEq, ↓reduceIte, Bool.false_eq_true, List.append_nil, List.nil_append, List.cons_append, Option.toList, and_true, true_and, true_or, or_true, reduceCtorEq, List.map_nil, bI_eq0, bI_eq1, bool_ft, pk_us, vnar0, vnar1, Bool.or_false, Bool.or_true, Bool.false_or, Bool.true_or, mj_kne, eq_self, Int32.reduceLT, Int32.reduceLE, Int32.reduceAdd, Int32.reduceSub, Int32.reduceMul, not_true_eq_false, not_false_eq_true, false_implies, true_implies, D_X6_seatAll_0, D_X6_seatAll_1, mj_F_aload_n_k, mj_F_bipush_n, mj_F_dup2, mj_F_getfield_i, mj_F_goto_off, mj_F_iadd, mj_F_iaload, mj_F_iastore, mj_F_iconst_n, mj_F_ifCond_le_off, mj_F_if_icmp_ge_off, mj_F_if_icmp_ne_off, mj_F_iinc_k_n, mj_F_iload_k, mj_F_iload_n_k, mj_F_imul, mj_F_invokestatic_i, mj_F_invokevirtual_i, mj_F_istore_k, mj_F_istore_n_k, mj_F_isub, mj_F_return_, mj_set, mj_set0, mj_unk, mj_c2, mj_kc, FT_X6, L_X6_seatAll, List.take_succ_cons, List.take_zero, List.drop_succ_cons, List.drop_zero, List.reverse_cons, List.reverse_nil, List.length_cons, List.length_nil, gS_C55, gCf6_5, gS_C57, sS_Ca_57, gCf6_2, gS_C20, gCf1_1, gCf6_3, gS_C35, gCf5_1, gCf6_6, gS_C58, sS_Ca_58, gCf6_7, gS_C59, sS_Ca_59, sS_CF_57, sS_CF_58, sS_CF_59, J_X6_seatAll]
  exact hG.2 _ _ _ _ _ _ _ _ _ (by refine ⟨Or.inr rfl, ?_⟩; refine ⟨Or.inr rfl, ?_⟩; exact trivial) (Nat.zero_le _) (Nat.zero_le _) (g_X6_seatAll_118 hG hM hP hK0  hw :)

set_option maxHeartbeats 4000000 in
theorem g_X6_seatAll_23 {k : Option Value → mj_H → Prop} {G : mj_K} (hG : mj_cl2 cX6_seatAll (TbX6 5 (none) ct_X6_seatAll) k G) (hM : mj_ml cX6_seatAll yX6_seatAll.cls G)  {P : Int32 × St → Prop} {K : (St) → Prop} (hP : ∀ x, P x → G 10 [.ref 55, .int x.1] [] (mkCs x.2) 0 0) (hK0 : ∀ y, K y → G 124 [] [] (mkCs y) 0 0) {v1 : Int32} {v2 : Int32} {s : St} (hw : ok (F_X6_seatAll_23 v1 v2 s) (Sum.elim P K)) : G 23 [.ref 55, .int v1, .int v2] [] (mkCs s) 0 0 := by
  unfold F_X6_seatAll_23 at hw
  refine lp_ok (B_X6_seatAll_23 v1) (fun x => G 23 [.ref 55, .int v1, .int x.1] [] (mkCs x.2) 0 0) _ ?_ _ _ (ok_bind hw)
  rintro ⟨v2, s⟩ hb
  exact b_X6_seatAll_23 hG hM (fun _ z => z) (fun y hw => by exact hG.2 _ _ _ _ _ _ _ _ _ (by refine ⟨Or.inr rfl, ?_⟩; refine ⟨Or.inr rfl, ?_⟩; exact trivial) (Nat.zero_le _) (Nat.zero_le _) (g_X6_seatAll_118 hG hM hP hK0  hw :)) (fun y hw => by exact hG.2 _ _ _ _ _ _ _ _ _ (by refine ⟨Or.inr rfl, ?_⟩; refine ⟨Or.inr rfl, ?_⟩; exact trivial) (Nat.zero_le _) (Nat.zero_le _) (g_X6_seatAll_54 hG hM hP hK0  hw :)) hb

set_option maxHeartbeats 4000000 in
set_option maxRecDepth 20000 in
theorem b_X6_seatAll_10 {k : Option Value → mj_H → Prop} {G : mj_K} (hG : mj_cl2 cX6_seatAll (TbX6 5 (none) ct_X6_seatAll) k G) (hM : mj_ml cX6_seatAll yX6_seatAll.cls G)  {P : Int32 × St → Prop} {K : (St) → Prop} (hP : ∀ x, P x → G 10 [.ref 55, .int x.1] [] (mkCs x.2) 0 0) (hK0 : ∀ y, K y → G 124 [] [] (mkCs y) 0 0) {v1 : Int32} {s : St} (hw : ok (B_X6_seatAll_10  (v1, s)) (Sum.elim P K)) : G 10 [.ref 55, .int v1] [] (mkCs s) 0 0 := by
  unfold B_X6_seatAll_10 at hw
  refine mj_run hG.1 (fun pc => pc == 8 || pc == 10 || pc == 23 || pc == 48 || pc == 54 || pc == 69 || pc == 118 || pc == 124) 4000 ?_
  simp only [mj_step, mj_W_s, mj_fin, List.getElem?_cons_zero, List.getElem?_cons_succ, mj_go, Nat.reduceAdd, Nat.reduceSub, Nat.reduceLT, Nat.reduceLeDiff, Nat.zero_add, Nat.reduceEqDiff, Nat.reduceBEq, ↓reduceIte, Bool.false_eq_true, List.append_nil, List.nil_append, List.cons_append, Option.toList, and_true, true_and, true_or, or_true, reduceCtorEq, List.map_nil, bI_eq0, bI_eq1, bool_ft, pk_us, vnar0, vnar1, Bool.or_false, Bool.or_true, Bool.false_or, Bool.true_or, mj_kne, eq_self, Int32.reduceLT, Int32.reduceLE, Int32.reduceAdd, Int32.reduceSub, Int32.reduceMul, not_true_eq_false, not_false_eq_true, false_implies, true_implies, D_X6_seatAll_0, D_X6_seatAll_1, mj_F_aload_n_k, mj_F_bipush_n, mj_F_dup2, mj_F_getfield_i, mj_F_goto_off, mj_F_iadd, mj_F_iaload, mj_F_iastore, mj_F_iconst_n, mj_F_ifCond_le_off, mj_F_if_icmp_ge_off, mj_F_if_icmp_ne_off, mj_F_iinc_k_n, mj_F_iload_k, mj_F_iload_n_k, mj_F_imul, mj_F_invokestatic_i, mj_F_invokevirtual_i, mj_F_istore_k, mj_F_istore_n_k, mj_F_isub, mj_F_return_, mj_set, mj_set0, mj_unk, mj_c2, mj_kc, FT_X6, L_X6_seatAll, List.take_succ_cons, List.take_zero, List.drop_succ_cons, List.drop_zero, List.reverse_cons, List.reverse_nil, List.length_cons, List.length_nil, gS_C55, gCf6_5, gS_C57, sS_Ca_57, gCf6_2, gS_C20, gCf1_1, gCf6_3, gS_C35, gCf5_1, gCf6_6, gS_C58, sS_Ca_58, gCf6_7, gS_C59, sS_Ca_59, sS_CF_57, sS_CF_58, sS_CF_59, J_X6_seatAll]
  refine ⟨fun c => ?_, fun c => ?_⟩
  · replace hw := ok_t hw c
    exact hG.2 _ _ _ _ _ _ _ _ _ (by exact trivial) (Nat.zero_le _) (Nat.zero_le _) (hK0 _ (ok_some hw :) :)
  · replace hw := ok_f hw c
    exact hG.2 _ _ _ _ _ _ _ _ _ (by refine ⟨Or.inr rfl, ?_⟩; refine ⟨Or.inr rfl, ?_⟩; refine ⟨Or.inr rfl, ?_⟩; exact trivial) (Nat.zero_le _) (Nat.zero_le _) (g_X6_seatAll_23 hG hM hP hK0  hw :)

set_option maxHeartbeats 4000000 in
set_option maxRecDepth 20000 in
theorem g_X6_seatAll_124 {k : Option Value → mj_H → Prop} {G : mj_K} (hG : mj_cl2 cX6_seatAll (TbX6 5 (none) ct_X6_seatAll) k G) (hM : mj_ml cX6_seatAll yX6_seatAll.cls G)   {s : St} (hw : ok (F_X6_seatAll_124 s) (fun p => k none (mkCs p))) : G 124 [] [] (mkCs s) 0 0 := by
  unfold F_X6_seatAll_124 at hw
  refine mj_run hG.1 (fun pc => pc == 8 || pc == 10 || pc == 23 || pc == 48 || pc == 54 || pc == 69 || pc == 118 || pc == 124) 4000 ?_
  simp only [mj_step, mj_W_s, mj_fin, List.getElem?_cons_zero, List.getElem?_cons_succ, mj_go, Nat.reduceAdd, Nat.reduceSub, Nat.reduceLT, Nat.reduceLeDiff, Nat.zero_add, Nat.reduceEqDiff, Nat.reduceBEq, ↓reduceIte, Bool.false_eq_true, List.append_nil, List.nil_append, List.cons_append, Option.toList, and_true, true_and, true_or, or_true, reduceCtorEq, List.map_nil, bI_eq0, bI_eq1, bool_ft, pk_us, vnar0, vnar1, Bool.or_false, Bool.or_true, Bool.false_or, Bool.true_or, mj_kne, eq_self, Int32.reduceLT, Int32.reduceLE, Int32.reduceAdd, Int32.reduceSub, Int32.reduceMul, not_true_eq_false, not_false_eq_true, false_implies, true_implies, D_X6_seatAll_0, D_X6_seatAll_1, mj_F_aload_n_k, mj_F_bipush_n, mj_F_dup2, mj_F_getfield_i, mj_F_goto_off, mj_F_iadd, mj_F_iaload, mj_F_iastore, mj_F_iconst_n, mj_F_ifCond_le_off, mj_F_if_icmp_ge_off, mj_F_if_icmp_ne_off, mj_F_iinc_k_n, mj_F_iload_k, mj_F_iload_n_k, mj_F_imul, mj_F_invokestatic_i, mj_F_invokevirtual_i, mj_F_istore_k, mj_F_istore_n_k, mj_F_isub, mj_F_return_, mj_set, mj_set0, mj_unk, mj_c2, mj_kc, FT_X6, L_X6_seatAll, List.take_succ_cons, List.take_zero, List.drop_succ_cons, List.drop_zero, List.reverse_cons, List.reverse_nil, List.length_cons, List.length_nil, gS_C55, gCf6_5, gS_C57, sS_Ca_57, gCf6_2, gS_C20, gCf1_1, gCf6_3, gS_C35, gCf5_1, gCf6_6, gS_C58, sS_Ca_58, gCf6_7, gS_C59, sS_Ca_59, sS_CF_57, sS_CF_58, sS_CF_59, J_X6_seatAll]
  exact (ok_some hw :)

set_option maxHeartbeats 4000000 in
theorem g_X6_seatAll_10 {k : Option Value → mj_H → Prop} {G : mj_K} (hG : mj_cl2 cX6_seatAll (TbX6 5 (none) ct_X6_seatAll) k G) (hM : mj_ml cX6_seatAll yX6_seatAll.cls G)   {v1 : Int32} {s : St} (hw : ok (F_X6_seatAll_10 v1 s) (fun p => k none (mkCs p))) : G 10 [.ref 55, .int v1] [] (mkCs s) 0 0 := by
  unfold F_X6_seatAll_10 at hw
  refine lp_ok (B_X6_seatAll_10 ) (fun x => G 10 [.ref 55, .int x.1] [] (mkCs x.2) 0 0) _ ?_ _ _ (ok_bind hw)
  rintro ⟨v1, s⟩ hb
  exact b_X6_seatAll_10 hG hM (fun _ z => z) (fun y hw => by exact hG.2 _ _ _ _ _ _ _ _ _ (by exact trivial) (Nat.zero_le _) (Nat.zero_le _) (g_X6_seatAll_124 hG hM  hw :)) hb

set_option maxHeartbeats 4000000 in
set_option maxRecDepth 20000 in
theorem g_X6_seatAll {k : Option Value → mj_H → Prop} {G : mj_K} (hG : mj_cl2 cX6_seatAll (TbX6 5 (none) ct_X6_seatAll) k G) (hM : mj_ml cX6_seatAll yX6_seatAll.cls G) {s : St} (hw : ok (F_X6_seatAll s) (fun p => k none (mkCs p))) : G 0 [.ref 55] [] (mkCs s) 0 0 := by
  unfold F_X6_seatAll at hw
  refine mj_run hG.1 (fun pc => pc == 8 || pc == 10 || pc == 23 || pc == 48 || pc == 54 || pc == 69 || pc == 118 || pc == 124) 4000 ?_
  simp only [mj_step, mj_W_s, mj_fin, List.getElem?_cons_zero, List.getElem?_cons_succ, mj_go, Nat.reduceAdd, Nat.reduceSub, Nat.reduceLT, Nat.reduceLeDiff, Nat.zero_add, Nat.reduceEqDiff, Nat.reduceBEq, ↓reduceIte, Bool.false_eq_true, List.append_nil, List.nil_append, List.cons_append, Option.toList, and_true, true_and, true_or, or_true, reduceCtorEq, List.map_nil, bI_eq0, bI_eq1, bool_ft, pk_us, vnar0, vnar1, Bool.or_false, Bool.or_true, Bool.false_or, Bool.true_or, mj_kne, eq_self, Int32.reduceLT, Int32.reduceLE, Int32.reduceAdd, Int32.reduceSub, Int32.reduceMul, not_true_eq_false, not_false_eq_true, false_implies, true_implies, D_X6_seatAll_0, D_X6_seatAll_1, mj_F_aload_n_k, mj_F_bipush_n, mj_F_dup2, mj_F_getfield_i, mj_F_goto_off, mj_F_iadd, mj_F_iaload, mj_F_iastore, mj_F_iconst_n, mj_F_ifCond_le_off, mj_F_if_icmp_ge_off, mj_F_if_icmp_ne_off, mj_F_iinc_k_n, mj_F_iload_k, mj_F_iload_n_k, mj_F_imul, mj_F_invokestatic_i, mj_F_invokevirtual_i, mj_F_istore_k, mj_F_istore_n_k, mj_F_isub, mj_F_return_, mj_set, mj_set0, mj_unk, mj_c2, mj_kc, FT_X6, L_X6_seatAll, List.take_succ_cons, List.take_zero, List.drop_succ_cons, List.drop_zero, List.reverse_cons, List.reverse_nil, List.length_cons, List.length_nil, gS_C55, gCf6_5, gS_C57, sS_Ca_57, gCf6_2, gS_C20, gCf1_1, gCf6_3, gS_C35, gCf5_1, gCf6_6, gS_C58, sS_Ca_58, gCf6_7, gS_C59, sS_Ca_59, sS_CF_57, sS_CF_58, sS_CF_59, J_X6_seatAll]
  replace hw := ok_wF hw
  refine c_fill_in (gS_C57 _) (by decide) ?_
  simp only [Nat.reduceSub, List.nil_append, Option.toList, sS_Ca_57, sS_Ca_58, sS_Ca_59, sS_CF_57, sS_CF_58, sS_CF_59]
  refine mj_run hG.1 (fun pc => pc == 8 || pc == 10 || pc == 23 || pc == 48 || pc == 54 || pc == 69 || pc == 118 || pc == 124) 4000 ?_
  simp only [mj_step, mj_W_s, mj_fin, List.getElem?_cons_zero, List.getElem?_cons_succ, mj_go, Nat.reduceAdd, Nat.reduceSub, Nat.reduceLT, Nat.reduceLeDiff, Nat.zero_add, Nat.reduceEqDiff, Nat.reduceBEq, ↓reduceIte, Bool.false_eq_true, List.append_nil, List.nil_append, List.cons_append, Option.toList, and_true, true_and, true_or, or_true, reduceCtorEq, List.map_nil, bI_eq0, bI_eq1, bool_ft, pk_us, vnar0, vnar1, Bool.or_false, Bool.or_true, Bool.false_or, Bool.true_or, mj_kne, eq_self, Int32.reduceLT, Int32.reduceLE, Int32.reduceAdd, Int32.reduceSub, Int32.reduceMul, not_true_eq_false, not_false_eq_true, false_implies, true_implies, D_X6_seatAll_0, D_X6_seatAll_1, mj_F_aload_n_k, mj_F_bipush_n, mj_F_dup2, mj_F_getfield_i, mj_F_goto_off, mj_F_iadd, mj_F_iaload, mj_F_iastore, mj_F_iconst_n, mj_F_ifCond_le_off, mj_F_if_icmp_ge_off, mj_F_if_icmp_ne_off, mj_F_iinc_k_n, mj_F_iload_k, mj_F_iload_n_k, mj_F_imul, mj_F_invokestatic_i, mj_F_invokevirtual_i, mj_F_istore_k, mj_F_istore_n_k, mj_F_isub, mj_F_return_, mj_set, mj_set0, mj_unk, mj_c2, mj_kc, FT_X6, L_X6_seatAll, List.take_succ_cons, List.take_zero, List.drop_succ_cons, List.drop_zero, List.reverse_cons, List.reverse_nil, List.length_cons, List.length_nil, gS_C55, gCf6_5, gS_C57, sS_Ca_57, gCf6_2, gS_C20, gCf1_1, gCf6_3, gS_C35, gCf5_1, gCf6_6, gS_C58, sS_Ca_58, gCf6_7, gS_C59, sS_Ca_59, sS_CF_57, sS_CF_58, sS_CF_59, J_X6_seatAll]
  exact hG.2 _ _ _ _ _ _ _ _ _ (by refine ⟨Or.inr rfl, ?_⟩; refine ⟨Or.inr rfl, ?_⟩; exact trivial) (Nat.zero_le _) (Nat.zero_le _) (g_X6_seatAll_10 hG hM  hw :)

def c_X6_seatAll : mj_S := fun as h k => ∃ (s : St), as = [.ref 55] ∧ h = mkCs s ∧ ok (F_X6_seatAll s) (fun p => k none (mkCs p))
theorem c_X6_seatAll_in {s : St} {k : Option Value → mj_H → Prop} (hw : ok (F_X6_seatAll s) (fun p => k none (mkCs p))) : c_X6_seatAll [.ref 55] (mkCs s) k := ⟨s, rfl, rfl, hw⟩
theorem m_X6_seatAll (l : Launch) : mj_Met l yX6_seatAll cX6_seatAll 5 (none) 1 0 0 c_X6_seatAll := by
  refine mj_body3 false (TbX6 5 (none) ct_X6_seatAll) (by decide) (by decide) rfl rfl (fun h => nomatch h) (tfX6 _ (List.forall_mem_cons.mpr ⟨cfX6_105 (m_J7_fill_53178 l) (by decide), List.forall_mem_cons.mpr ⟨cfX6_111 (m_X6_nearest l) (by decide), fun _ h => nomatch h⟩⟩)) ?_
  rintro as h k ⟨s, rfl, rfl, hw⟩
  exact ⟨rfl, fun G hG hM => g_X6_seatAll hG hM hw⟩
def B_X6_seatedOf_4 (v1 : Int32) (s : St) : Int32 × Int32 → Option ((Int32 × Int32) ⊕ ((Int32)))
  | (v2, v3) =>
  if (s.1 501) ≤ v3 then
    some (.inr v2)
  else
    (rd s 605 480 ((v1 * 20) + v3)).bind fun x1 =>
    some (.inl ((v2 + x1), (v3 + 1)))
def F_X6_seatedOf_35 (v2 : Int32) (s : St) : Option (Int32) :=
  some v2
def F_X6_seatedOf_4 (v1 : Int32) (v2 : Int32) (v3 : Int32) (s : St) : Option (Int32) :=
  (lp (B_X6_seatedOf_4 v1 s) FU (v2, v3)).bind (fun y => F_X6_seatedOf_35 y s)
def F_X6_seatedOf (v1 : Int32) (s : St) : Option (Int32) :=
  F_X6_seatedOf_4 v1 0 0 s
theorem J_X6_seatedOf : mj_t 12 23 = 35 ∧ mj_t 32 (-28) = 4 ∧ (0 ≤ ((12 : Nat) : Int) + 23) = True ∧ (0 ≤ ((32 : Nat) : Int) + (-28)) = True := by and_intros <;> first | rfl | exact eq_true (by decide)
set_option maxHeartbeats 4000000 in
set_option maxRecDepth 20000 in
theorem b_X6_seatedOf_4 {k : Option Value → mj_H → Prop} {G : mj_K} (hG : mj_cl2 cX6_seatedOf (TbX6 4 ((some FieldType.int)) []) k G) {v1 : Int32} {s : St} {P : Int32 × Int32 → Prop} {K : (Int32) → Prop} (hP : ∀ x, P x → G 4 [.ref 55, .int v1, .int x.1, .int x.2] [] (mkCs s) 0 0) (hK0 : ∀ y, K y → G 35 [mj_unk, mj_unk, .int y] [] (mkCs s) 0 0) {v2 : Int32} {v3 : Int32} (hw : ok (B_X6_seatedOf_4 v1 s (v2, v3)) (Sum.elim P K)) : G 4 [.ref 55, .int v1, .int v2, .int v3] [] (mkCs s) 0 0 := by
  unfold B_X6_seatedOf_4 at hw
  refine mj_run hG.1 (fun pc => pc == 4 || pc == 35) 4000 ?_
  simp only [mj_step, mj_W_s, mj_fin, List.getElem?_cons_zero, List.getElem?_cons_succ, mj_go, Nat.reduceAdd, Nat.reduceSub, Nat.reduceLT, Nat.reduceLeDiff, Nat.zero_add, Nat.reduceEqDiff, Nat.reduceBEq, ↓reduceIte, Bool.false_eq_true, List.append_nil, List.nil_append, List.cons_append, Option.toList, and_true, true_and, true_or, or_true, reduceCtorEq, List.map_nil, bI_eq0, bI_eq1, bool_ft, pk_us, vnar0, vnar1, Bool.or_false, Bool.or_true, Bool.false_or, Bool.true_or, mj_kne, eq_self, Int32.reduceLT, Int32.reduceLE, Int32.reduceAdd, Int32.reduceSub, Int32.reduceMul, not_true_eq_false, not_false_eq_true, false_implies, true_implies, D_X6_seatedOf, mj_F_aload_n_k, mj_F_bipush_n, mj_F_getfield_i, mj_F_goto_off, mj_F_iadd, mj_F_iaload, mj_F_iconst_n, mj_F_if_icmp_ge_off, mj_F_iinc_k_n, mj_F_iload_n_k, mj_F_imul, mj_F_ireturn, mj_F_istore_n_k, mj_set, mj_set0, mj_unk, mj_c2, mj_kc, FT_X6, gS_C55, gCf6_3, gS_C35, gCf5_1, gCf6_5, gS_C57, sS_Ca_57, J_X6_seatedOf]
  refine ⟨fun c => ?_, fun c => ?_⟩
  · replace hw := ok_t hw c
    exact hG.2 _ _ _ _ _ _ _ _ _ (by refine ⟨Or.inl rfl, ?_⟩; refine ⟨Or.inl rfl, ?_⟩; refine ⟨Or.inr rfl, ?_⟩; exact trivial) (Nat.zero_le _) (Nat.zero_le _) (hK0 _ (ok_some hw :) :)
  · replace hw := ok_f hw c
    refine ⟨(ok_rd hw).1, ?_⟩
    replace hw := (ok_rd hw).2
    exact hG.2 _ _ _ _ _ _ _ _ _ (by refine ⟨Or.inr rfl, ?_⟩; refine ⟨Or.inr rfl, ?_⟩; refine ⟨Or.inr rfl, ?_⟩; refine ⟨Or.inr rfl, ?_⟩; exact trivial) (Nat.zero_le _) (Nat.zero_le _) (hP _ (ok_some hw :) :)

set_option maxHeartbeats 4000000 in
set_option maxRecDepth 20000 in
theorem g_X6_seatedOf_35 {k : Option Value → mj_H → Prop} {G : mj_K} (hG : mj_cl2 cX6_seatedOf (TbX6 4 ((some FieldType.int)) []) k G)   {v2 : Int32} {s : St} (hw : ok (F_X6_seatedOf_35 v2 s) (fun p => k (some (.int p)) (mkCs s))) : G 35 [mj_unk, mj_unk, .int v2] [] (mkCs s) 0 0 := by
  unfold F_X6_seatedOf_35 at hw
  refine mj_run hG.1 (fun pc => pc == 4 || pc == 35) 4000 ?_
  simp only [mj_step, mj_W_s, mj_fin, List.getElem?_cons_zero, List.getElem?_cons_succ, mj_go, Nat.reduceAdd, Nat.reduceSub, Nat.reduceLT, Nat.reduceLeDiff, Nat.zero_add, Nat.reduceEqDiff, Nat.reduceBEq, ↓reduceIte, Bool.false_eq_true, List.append_nil, List.nil_append, List.cons_append, Option.toList, and_true, true_and, true_or, or_true, reduceCtorEq, List.map_nil, bI_eq0, bI_eq1, bool_ft, pk_us, vnar0, vnar1, Bool.or_false, Bool.or_true, Bool.false_or, Bool.true_or, mj_kne, eq_self, Int32.reduceLT, Int32.reduceLE, Int32.reduceAdd, Int32.reduceSub, Int32.reduceMul, not_true_eq_false, not_false_eq_true, false_implies, true_implies, D_X6_seatedOf, mj_F_aload_n_k, mj_F_bipush_n, mj_F_getfield_i, mj_F_goto_off, mj_F_iadd, mj_F_iaload, mj_F_iconst_n, mj_F_if_icmp_ge_off, mj_F_iinc_k_n, mj_F_iload_n_k, mj_F_imul, mj_F_ireturn, mj_F_istore_n_k, mj_set, mj_set0, mj_unk, mj_c2, mj_kc, FT_X6, gS_C55, gCf6_3, gS_C35, gCf5_1, gCf6_5, gS_C57, sS_Ca_57, J_X6_seatedOf]
  exact (ok_some hw :)

set_option maxHeartbeats 4000000 in
theorem g_X6_seatedOf_4 {k : Option Value → mj_H → Prop} {G : mj_K} (hG : mj_cl2 cX6_seatedOf (TbX6 4 ((some FieldType.int)) []) k G)   {v1 : Int32} {v2 : Int32} {v3 : Int32} {s : St} (hw : ok (F_X6_seatedOf_4 v1 v2 v3 s) (fun p => k (some (.int p)) (mkCs s))) : G 4 [.ref 55, .int v1, .int v2, .int v3] [] (mkCs s) 0 0 := by
  unfold F_X6_seatedOf_4 at hw
  refine lp_ok (B_X6_seatedOf_4 v1 s) (fun x => G 4 [.ref 55, .int v1, .int x.1, .int x.2] [] (mkCs s) 0 0) _ ?_ _ _ (ok_bind hw)
  rintro ⟨v2, v3⟩ hb
  exact b_X6_seatedOf_4 hG (fun _ z => z) (fun y hw => by exact hG.2 _ _ _ _ _ _ _ _ _ (by refine ⟨Or.inl rfl, ?_⟩; refine ⟨Or.inl rfl, ?_⟩; refine ⟨Or.inr rfl, ?_⟩; exact trivial) (Nat.zero_le _) (Nat.zero_le _) (g_X6_seatedOf_35 hG  hw :)) hb

set_option maxHeartbeats 4000000 in
set_option maxRecDepth 20000 in
theorem g_X6_seatedOf {k : Option Value → mj_H → Prop} {G : mj_K} (hG : mj_cl2 cX6_seatedOf (TbX6 4 ((some FieldType.int)) []) k G) {v1 : Int32} {s : St} (hw : ok (F_X6_seatedOf v1 s) (fun p => k (some (.int p)) (mkCs s))) : G 0 [.ref 55, .int v1] [] (mkCs s) 0 0 := by
  unfold F_X6_seatedOf at hw
  refine mj_run hG.1 (fun pc => pc == 4 || pc == 35) 4000 ?_
  simp only [mj_step, mj_W_s, mj_fin, List.getElem?_cons_zero, List.getElem?_cons_succ, mj_go, Nat.reduceAdd, Nat.reduceSub, Nat.reduceLT, Nat.reduceLeDiff, Nat.zero_add, Nat.reduceEqDiff, Nat.reduceBEq, ↓reduceIte, Bool.false_eq_true, List.append_nil, List.nil_append, List.cons_append, Option.toList, and_true, true_and, true_or, or_true, reduceCtorEq, List.map_nil, bI_eq0, bI_eq1, bool_ft, pk_us, vnar0, vnar1, Bool.or_false, Bool.or_true, Bool.false_or, Bool.true_or, mj_kne, eq_self, Int32.reduceLT, Int32.reduceLE, Int32.reduceAdd, Int32.reduceSub, Int32.reduceMul, not_true_eq_false, not_false_eq_true, false_implies, true_implies, D_X6_seatedOf, mj_F_aload_n_k, mj_F_bipush_n, mj_F_getfield_i, mj_F_goto_off, mj_F_iadd, mj_F_iaload, mj_F_iconst_n, mj_F_if_icmp_ge_off, mj_F_iinc_k_n, mj_F_iload_n_k, mj_F_imul, mj_F_ireturn, mj_F_istore_n_k, mj_set, mj_set0, mj_unk, mj_c2, mj_kc, FT_X6, gS_C55, gCf6_3, gS_C35, gCf5_1, gCf6_5, gS_C57, sS_Ca_57, J_X6_seatedOf]
  exact hG.2 _ _ _ _ _ _ _ _ _ (by refine ⟨Or.inr rfl, ?_⟩; refine ⟨Or.inr rfl, ?_⟩; refine ⟨Or.inr rfl, ?_⟩; refine ⟨Or.inr rfl, ?_⟩; exact trivial) (Nat.zero_le _) (Nat.zero_le _) (g_X6_seatedOf_4 hG  hw :)

def c_X6_seatedOf : mj_S := fun as h k => ∃ (v1 : Int32) (s : St), as = [.ref 55, .int v1] ∧ h = mkCs s ∧ ok (F_X6_seatedOf v1 s) (fun p => k (some (.int p)) (mkCs s))
theorem c_X6_seatedOf_in {v1 : Int32} {s : St} {k : Option Value → mj_H → Prop} (hw : ok (F_X6_seatedOf v1 s) (fun p => k (some (.int p)) (mkCs s))) : c_X6_seatedOf [.ref 55, .int v1] (mkCs s) k := ⟨v1, s, rfl, rfl, hw⟩
theorem m_X6_seatedOf (l : Launch) : mj_Met l yX6_seatedOf cX6_seatedOf 4 ((some FieldType.int)) 0 0 0 c_X6_seatedOf := by
  refine mj_body2 false (TbX6 4 ((some FieldType.int)) []) (by decide) rfl rfl (fun h => nomatch h) (tfX6 _ (fun _ h => nomatch h)) ?_
  rintro as h k ⟨v1, s, rfl, rfl, hw⟩
  exact ⟨rfl, fun G hG => g_X6_seatedOf hG hw⟩
def F_X11_seated (v1 : Int32) (v2 : Int32) (v3 : Int32) (v4 : Int32) (s : St) : Option (Int32 × St) :=
  (F_X11_isVillage v1 s).bind fun r1 =>
  if r1 = 0 then
    some ((-1), s)
  else
    (F_X11_isSchoolOrAll v2 s).bind fun r2 =>
    if r2 = 0 then
      some ((-1), s)
    else
      (F_X11_isPast v3 s).bind fun r3 =>
      if r3 = 0 then
        some ((-1), s)
      else
        (F_X11_isPast v4 s).bind fun r4 =>
        if r4 = 0 then
          some ((-1), s)
        else
          (F_X6_survey v3 v4 s).bind fun s5 =>
          (F_X6_seatAll s5).bind fun s6 =>
          if v2 = (-1) then
            (F_X6_seatedOf v1 s6).bind fun r8 =>
            some (r8, s6)
          else
            (rd s6 605 480 ((v1 * 20) + v2)).bind fun x7 =>
            some (x7, s6)
theorem J_X11_seated : mj_t 5 28 = 33 ∧ mj_t 13 20 = 33 ∧ mj_t 21 12 = 33 ∧ mj_t 30 5 = 35 ∧ mj_t 54 14 = 68 ∧ mj_t 65 17 = 82 ∧ (0 ≤ ((5 : Nat) : Int) + 28) = True ∧ (0 ≤ ((13 : Nat) : Int) + 20) = True ∧ (0 ≤ ((21 : Nat) : Int) + 12) = True ∧ (0 ≤ ((30 : Nat) : Int) + 5) = True ∧ (0 ≤ ((54 : Nat) : Int) + 14) = True ∧ (0 ≤ ((65 : Nat) : Int) + 17) = True := by and_intros <;> first | rfl | exact eq_true (by decide)
def ct_X11_seated : List (Nat × mj_Cs) := [(138, 0, 2, 11, 0, 0, c_X11_isVillage), (148, 0, 2, 11, 0, 0, c_X11_isPast), (245, 0, 3, 6, 25, 3000, c_X6_survey), (251, 0, 2, 11, 0, 0, c_X11_isSchoolOrAll), (254, 0, 1, 6, 0, 0, c_X6_seatAll), (257, 0, 2, 6, 0, 0, c_X6_seatedOf)]
theorem L_X11_seated : mj_lk ct_X11_seated 138 = some (0, 2, 11, 0, 0, c_X11_isVillage) ∧ mj_lk ct_X11_seated 148 = some (0, 2, 11, 0, 0, c_X11_isPast) ∧ mj_lk ct_X11_seated 245 = some (0, 3, 6, 25, 3000, c_X6_survey) ∧ mj_lk ct_X11_seated 251 = some (0, 2, 11, 0, 0, c_X11_isSchoolOrAll) ∧ mj_lk ct_X11_seated 254 = some (0, 1, 6, 0, 0, c_X6_seatAll) ∧ mj_lk ct_X11_seated 257 = some (0, 2, 6, 0, 0, c_X6_seatedOf) := ⟨rfl, rfl, rfl, rfl, rfl, rfl⟩
set_option maxHeartbeats 4000000 in
set_option maxRecDepth 20000 in
theorem g_X11_seated {k : Option Value → mj_H → Prop} {G : mj_K} (hG : mj_cl2 cX11_seated (TbX11 5 ((some FieldType.int)) ct_X11_seated) k G) {v1 : Int32} {v2 : Int32} {v3 : Int32} {v4 : Int32} {s : St} (hw : ok (F_X11_seated v1 v2 v3 v4 s) (fun p => k (some (.int p.1)) (mkCs p.2))) : G 0 [.ref 0, .int v1, .int v2, .int v3, .int v4] [] (mkCs s) 25 3000 := by
  unfold F_X11_seated at hw
  refine mj_run hG.1 (fun pc => pc == 5 || pc == 13 || pc == 21 || pc == 30 || pc == 45 || pc == 52 || pc == 65) 4000 ?_
  simp only [mj_step, mj_W_s, mj_fin, List.getElem?_cons_zero, List.getElem?_cons_succ, mj_go, Nat.reduceAdd, Nat.reduceSub, Nat.reduceLT, Nat.reduceLeDiff, Nat.zero_add, Nat.reduceEqDiff, Nat.reduceBEq, ↓reduceIte, Bool.false_eq_true, List.append_nil, List.nil_append, List.cons_append, Option.toList, and_true, true_and, true_or, or_true, reduceCtorEq, List.map_nil, bI_eq0, bI_eq1, bool_ft, pk_us, vnar0, vnar1, Bool.or_false, Bool.or_true, Bool.false_or, Bool.true_or, mj_kne, eq_self, Int32.reduceLT, Int32.reduceLE, Int32.reduceAdd, Int32.reduceSub, Int32.reduceMul, not_true_eq_false, not_false_eq_true, false_implies, true_implies, D_X11_seated, mj_F_aload_n_k, mj_F_bipush_n, mj_F_getfield_i, mj_F_goto_off, mj_F_iadd, mj_F_iaload, mj_F_iconst_n, mj_F_ifCond_eq_off, mj_F_ifCond_ne_off, mj_F_if_icmp_ne_off, mj_F_iload_k, mj_F_iload_n_k, mj_F_imul, mj_F_invokevirtual_i, mj_F_ireturn, mj_kc, FT_X11, L_X11_seated, List.take_succ_cons, List.take_zero, List.drop_succ_cons, List.drop_zero, List.reverse_cons, List.reverse_nil, List.length_cons, List.length_nil, gS_C0, gCf11_7, gS_C55, gCf6_5, gS_C57, sS_Ca_57, J_X11_seated]
  refine c_X11_isVillage_in (ok_imp (ok_bind hw) ?_)
  intro p hw
  simp only [Option.toList, List.nil_append, List.cons_append, Nat.reduceSub]
  refine mj_run hG.1 (fun pc => pc == 5 || pc == 13 || pc == 21 || pc == 30 || pc == 45 || pc == 52 || pc == 65) 4000 ?_
  simp only [mj_step, mj_W_s, mj_fin, List.getElem?_cons_zero, List.getElem?_cons_succ, mj_go, Nat.reduceAdd, Nat.reduceSub, Nat.reduceLT, Nat.reduceLeDiff, Nat.zero_add, Nat.reduceEqDiff, Nat.reduceBEq, ↓reduceIte, Bool.false_eq_true, List.append_nil, List.nil_append, List.cons_append, Option.toList, and_true, true_and, true_or, or_true, reduceCtorEq, List.map_nil, bI_eq0, bI_eq1, bool_ft, pk_us, vnar0, vnar1, Bool.or_false, Bool.or_true, Bool.false_or, Bool.true_or, mj_kne, eq_self, Int32.reduceLT, Int32.reduceLE, Int32.reduceAdd, Int32.reduceSub, Int32.reduceMul, not_true_eq_false, not_false_eq_true, false_implies, true_implies, D_X11_seated, mj_F_aload_n_k, mj_F_bipush_n, mj_F_getfield_i, mj_F_goto_off, mj_F_iadd, mj_F_iaload, mj_F_iconst_n, mj_F_ifCond_eq_off, mj_F_ifCond_ne_off, mj_F_if_icmp_ne_off, mj_F_iload_k, mj_F_iload_n_k, mj_F_imul, mj_F_invokevirtual_i, mj_F_ireturn, mj_kc, FT_X11, L_X11_seated, List.take_succ_cons, List.take_zero, List.drop_succ_cons, List.drop_zero, List.reverse_cons, List.reverse_nil, List.length_cons, List.length_nil, gS_C0, gCf11_7, gS_C55, gCf6_5, gS_C57, sS_Ca_57, J_X11_seated]
  refine ⟨fun c => ?_, fun c => ?_⟩
  · replace hw := ok_t hw c
    exact (ok_some hw :)
  · replace hw := ok_f hw c
    refine c_X11_isSchoolOrAll_in (ok_imp (ok_bind hw) ?_)
    intro p hw
    simp only [Option.toList, List.nil_append, List.cons_append, Nat.reduceSub]
    refine mj_run hG.1 (fun pc => pc == 5 || pc == 13 || pc == 21 || pc == 30 || pc == 45 || pc == 52 || pc == 65) 4000 ?_
    simp only [mj_step, mj_W_s, mj_fin, List.getElem?_cons_zero, List.getElem?_cons_succ, mj_go, Nat.reduceAdd, Nat.reduceSub, Nat.reduceLT, Nat.reduceLeDiff, Nat.zero_add, Nat.reduceEqDiff, Nat.reduceBEq, ↓reduceIte, Bool.false_eq_true, List.append_nil, List.nil_append, List.cons_append, Option.toList, and_true, true_and, true_or, or_true, reduceCtorEq, List.map_nil, bI_eq0, bI_eq1, bool_ft, pk_us, vnar0, vnar1, Bool.or_false, Bool.or_true, Bool.false_or, Bool.true_or, mj_kne, eq_self, Int32.reduceLT, Int32.reduceLE, Int32.reduceAdd, Int32.reduceSub, Int32.reduceMul, not_true_eq_false, not_false_eq_true, false_implies, true_implies, D_X11_seated, mj_F_aload_n_k, mj_F_bipush_n, mj_F_getfield_i, mj_F_goto_off, mj_F_iadd, mj_F_iaload, mj_F_iconst_n, mj_F_ifCond_eq_off, mj_F_ifCond_ne_off, mj_F_if_icmp_ne_off, mj_F_iload_k, mj_F_iload_n_k, mj_F_imul, mj_F_invokevirtual_i, mj_F_ireturn, mj_kc, FT_X11, L_X11_seated, List.take_succ_cons, List.take_zero, List.drop_succ_cons, List.drop_zero, List.reverse_cons, List.reverse_nil, List.length_cons, List.length_nil, gS_C0, gCf11_7, gS_C55, gCf6_5, gS_C57, sS_Ca_57, J_X11_seated]
    refine ⟨fun c => ?_, fun c => ?_⟩
    · replace hw := ok_t hw c
      exact (ok_some hw :)
    · replace hw := ok_f hw c
      refine c_X11_isPast_in (ok_imp (ok_bind hw) ?_)
      intro p hw
      simp only [Option.toList, List.nil_append, List.cons_append, Nat.reduceSub]
      refine mj_run hG.1 (fun pc => pc == 5 || pc == 13 || pc == 21 || pc == 30 || pc == 45 || pc == 52 || pc == 65) 4000 ?_
      simp only [mj_step, mj_W_s, mj_fin, List.getElem?_cons_zero, List.getElem?_cons_succ, mj_go, Nat.reduceAdd, Nat.reduceSub, Nat.reduceLT, Nat.reduceLeDiff, Nat.zero_add, Nat.reduceEqDiff, Nat.reduceBEq, ↓reduceIte, Bool.false_eq_true, List.append_nil, List.nil_append, List.cons_append, Option.toList, and_true, true_and, true_or, or_true, reduceCtorEq, List.map_nil, bI_eq0, bI_eq1, bool_ft, pk_us, vnar0, vnar1, Bool.or_false, Bool.or_true, Bool.false_or, Bool.true_or, mj_kne, eq_self, Int32.reduceLT, Int32.reduceLE, Int32.reduceAdd, Int32.reduceSub, Int32.reduceMul, not_true_eq_false, not_false_eq_true, false_implies, true_implies, D_X11_seated, mj_F_aload_n_k, mj_F_bipush_n, mj_F_getfield_i, mj_F_goto_off, mj_F_iadd, mj_F_iaload, mj_F_iconst_n, mj_F_ifCond_eq_off, mj_F_ifCond_ne_off, mj_F_if_icmp_ne_off, mj_F_iload_k, mj_F_iload_n_k, mj_F_imul, mj_F_invokevirtual_i, mj_F_ireturn, mj_kc, FT_X11, L_X11_seated, List.take_succ_cons, List.take_zero, List.drop_succ_cons, List.drop_zero, List.reverse_cons, List.reverse_nil, List.length_cons, List.length_nil, gS_C0, gCf11_7, gS_C55, gCf6_5, gS_C57, sS_Ca_57, J_X11_seated]
      refine ⟨fun c => ?_, fun c => ?_⟩
      · replace hw := ok_t hw c
        exact (ok_some hw :)
      · replace hw := ok_f hw c
        refine c_X11_isPast_in (ok_imp (ok_bind hw) ?_)
        intro p hw
        simp only [Option.toList, List.nil_append, List.cons_append, Nat.reduceSub]
        refine mj_run hG.1 (fun pc => pc == 5 || pc == 13 || pc == 21 || pc == 30 || pc == 45 || pc == 52 || pc == 65) 4000 ?_
        simp only [mj_step, mj_W_s, mj_fin, List.getElem?_cons_zero, List.getElem?_cons_succ, mj_go, Nat.reduceAdd, Nat.reduceSub, Nat.reduceLT, Nat.reduceLeDiff, Nat.zero_add, Nat.reduceEqDiff, Nat.reduceBEq, ↓reduceIte, Bool.false_eq_true, List.append_nil, List.nil_append, List.cons_append, Option.toList, and_true, true_and, true_or, or_true, reduceCtorEq, List.map_nil, bI_eq0, bI_eq1, bool_ft, pk_us, vnar0, vnar1, Bool.or_false, Bool.or_true, Bool.false_or, Bool.true_or, mj_kne, eq_self, Int32.reduceLT, Int32.reduceLE, Int32.reduceAdd, Int32.reduceSub, Int32.reduceMul, not_true_eq_false, not_false_eq_true, false_implies, true_implies, D_X11_seated, mj_F_aload_n_k, mj_F_bipush_n, mj_F_getfield_i, mj_F_goto_off, mj_F_iadd, mj_F_iaload, mj_F_iconst_n, mj_F_ifCond_eq_off, mj_F_ifCond_ne_off, mj_F_if_icmp_ne_off, mj_F_iload_k, mj_F_iload_n_k, mj_F_imul, mj_F_invokevirtual_i, mj_F_ireturn, mj_kc, FT_X11, L_X11_seated, List.take_succ_cons, List.take_zero, List.drop_succ_cons, List.drop_zero, List.reverse_cons, List.reverse_nil, List.length_cons, List.length_nil, gS_C0, gCf11_7, gS_C55, gCf6_5, gS_C57, sS_Ca_57, J_X11_seated]
        refine ⟨fun c => ?_, fun c => ?_⟩
        · replace hw := ok_f hw c
          refine c_X6_survey_in (ok_imp (ok_bind hw) ?_)
          intro p hw
          simp only [Option.toList, List.nil_append, List.cons_append, Nat.reduceSub]
          refine mj_run hG.1 (fun pc => pc == 5 || pc == 13 || pc == 21 || pc == 30 || pc == 45 || pc == 52 || pc == 65) 4000 ?_
          simp only [mj_step, mj_W_s, mj_fin, List.getElem?_cons_zero, List.getElem?_cons_succ, mj_go, Nat.reduceAdd, Nat.reduceSub, Nat.reduceLT, Nat.reduceLeDiff, Nat.zero_add, Nat.reduceEqDiff, Nat.reduceBEq, ↓reduceIte, Bool.false_eq_true, List.append_nil, List.nil_append, List.cons_append, Option.toList, and_true, true_and, true_or, or_true, reduceCtorEq, List.map_nil, bI_eq0, bI_eq1, bool_ft, pk_us, vnar0, vnar1, Bool.or_false, Bool.or_true, Bool.false_or, Bool.true_or, mj_kne, eq_self, Int32.reduceLT, Int32.reduceLE, Int32.reduceAdd, Int32.reduceSub, Int32.reduceMul, not_true_eq_false, not_false_eq_true, false_implies, true_implies, D_X11_seated, mj_F_aload_n_k, mj_F_bipush_n, mj_F_getfield_i, mj_F_goto_off, mj_F_iadd, mj_F_iaload, mj_F_iconst_n, mj_F_ifCond_eq_off, mj_F_ifCond_ne_off, mj_F_if_icmp_ne_off, mj_F_iload_k, mj_F_iload_n_k, mj_F_imul, mj_F_invokevirtual_i, mj_F_ireturn, mj_kc, FT_X11, L_X11_seated, List.take_succ_cons, List.take_zero, List.drop_succ_cons, List.drop_zero, List.reverse_cons, List.reverse_nil, List.length_cons, List.length_nil, gS_C0, gCf11_7, gS_C55, gCf6_5, gS_C57, sS_Ca_57, J_X11_seated]
          refine c_X6_seatAll_in (ok_imp (ok_bind hw) ?_)
          intro p hw
          simp only [Option.toList, List.nil_append, List.cons_append, Nat.reduceSub]
          refine mj_run hG.1 (fun pc => pc == 5 || pc == 13 || pc == 21 || pc == 30 || pc == 45 || pc == 52 || pc == 65) 4000 ?_
          simp only [mj_step, mj_W_s, mj_fin, List.getElem?_cons_zero, List.getElem?_cons_succ, mj_go, Nat.reduceAdd, Nat.reduceSub, Nat.reduceLT, Nat.reduceLeDiff, Nat.zero_add, Nat.reduceEqDiff, Nat.reduceBEq, ↓reduceIte, Bool.false_eq_true, List.append_nil, List.nil_append, List.cons_append, Option.toList, and_true, true_and, true_or, or_true, reduceCtorEq, List.map_nil, bI_eq0, bI_eq1, bool_ft, pk_us, vnar0, vnar1, Bool.or_false, Bool.or_true, Bool.false_or, Bool.true_or, mj_kne, eq_self, Int32.reduceLT, Int32.reduceLE, Int32.reduceAdd, Int32.reduceSub, Int32.reduceMul, not_true_eq_false, not_false_eq_true, false_implies, true_implies, D_X11_seated, mj_F_aload_n_k, mj_F_bipush_n, mj_F_getfield_i, mj_F_goto_off, mj_F_iadd, mj_F_iaload, mj_F_iconst_n, mj_F_ifCond_eq_off, mj_F_ifCond_ne_off, mj_F_if_icmp_ne_off, mj_F_iload_k, mj_F_iload_n_k, mj_F_imul, mj_F_invokevirtual_i, mj_F_ireturn, mj_kc, FT_X11, L_X11_seated, List.take_succ_cons, List.take_zero, List.drop_succ_cons, List.drop_zero, List.reverse_cons, List.reverse_nil, List.length_cons, List.length_nil, gS_C0, gCf11_7, gS_C55, gCf6_5, gS_C57, sS_Ca_57, J_X11_seated]
          refine ⟨fun c => ?_, fun c => ?_⟩
          · replace hw := ok_f hw c
            refine ⟨(ok_rd hw).1, ?_⟩
            replace hw := (ok_rd hw).2
            exact (ok_some hw :)
          · replace hw := ok_t hw c
            refine c_X6_seatedOf_in (ok_imp (ok_bind hw) ?_)
            intro p hw
            simp only [Option.toList, List.nil_append, List.cons_append, Nat.reduceSub]
            refine mj_run hG.1 (fun pc => pc == 5 || pc == 13 || pc == 21 || pc == 30 || pc == 45 || pc == 52 || pc == 65) 4000 ?_
            simp only [mj_step, mj_W_s, mj_fin, List.getElem?_cons_zero, List.getElem?_cons_succ, mj_go, Nat.reduceAdd, Nat.reduceSub, Nat.reduceLT, Nat.reduceLeDiff, Nat.zero_add, Nat.reduceEqDiff, Nat.reduceBEq, ↓reduceIte, Bool.false_eq_true, List.append_nil, List.nil_append, List.cons_append, Option.toList, and_true, true_and, true_or, or_true, reduceCtorEq, List.map_nil, bI_eq0, bI_eq1, bool_ft, pk_us, vnar0, vnar1, Bool.or_false, Bool.or_true, Bool.false_or, Bool.true_or, mj_kne, eq_self, Int32.reduceLT, Int32.reduceLE, Int32.reduceAdd, Int32.reduceSub, Int32.reduceMul, not_true_eq_false, not_false_eq_true, false_implies, true_implies, D_X11_seated, mj_F_aload_n_k, mj_F_bipush_n, mj_F_getfield_i, mj_F_goto_off, mj_F_iadd, mj_F_iaload, mj_F_iconst_n, mj_F_ifCond_eq_off, mj_F_ifCond_ne_off, mj_F_if_icmp_ne_off, mj_F_iload_k, mj_F_iload_n_k, mj_F_imul, mj_F_invokevirtual_i, mj_F_ireturn, mj_kc, FT_X11, L_X11_seated, List.take_succ_cons, List.take_zero, List.drop_succ_cons, List.drop_zero, List.reverse_cons, List.reverse_nil, List.length_cons, List.length_nil, gS_C0, gCf11_7, gS_C55, gCf6_5, gS_C57, sS_Ca_57, J_X11_seated]
            exact (ok_some hw :)
        · replace hw := ok_t hw c
          exact (ok_some hw :)

def c_X11_seated : mj_S := fun as h k => ∃ (v1 : Int32) (v2 : Int32) (v3 : Int32) (v4 : Int32) (s : St), as = [.ref 0, .int v1, .int v2, .int v3, .int v4] ∧ h = mkCs s ∧ ok (F_X11_seated v1 v2 v3 v4 s) (fun p => k (some (.int p.1)) (mkCs p.2))
theorem c_X11_seated_in {v1 : Int32} {v2 : Int32} {v3 : Int32} {v4 : Int32} {s : St} {k : Option Value → mj_H → Prop} (hw : ok (F_X11_seated v1 v2 v3 v4 s) (fun p => k (some (.int p.1)) (mkCs p.2))) : c_X11_seated [.ref 0, .int v1, .int v2, .int v3, .int v4] (mkCs s) k := ⟨v1, v2, v3, v4, s, rfl, rfl, hw⟩
theorem m_X11_seated (l : Launch) : mj_Met l yX11_seated cX11_seated 5 ((some FieldType.int)) 6 25 3000 c_X11_seated := by
  refine mj_body2 false (TbX11 5 ((some FieldType.int)) ct_X11_seated) (by decide) rfl rfl (fun h => nomatch h) (tfX11 _ (List.forall_mem_cons.mpr ⟨cfX11_138 (m_X11_isVillage l) (by decide), List.forall_mem_cons.mpr ⟨cfX11_148 (m_X11_isPast l) (by decide), List.forall_mem_cons.mpr ⟨cfX11_245 (m_X6_survey l) (by decide), List.forall_mem_cons.mpr ⟨cfX11_251 (m_X11_isSchoolOrAll l) (by decide), List.forall_mem_cons.mpr ⟨cfX11_254 (m_X6_seatAll l) (by decide), List.forall_mem_cons.mpr ⟨cfX11_257 (m_X6_seatedOf l) (by decide), fun _ h => nomatch h⟩⟩⟩⟩⟩⟩)) ?_
  rintro as h k ⟨v1, v2, v3, v4, s, rfl, rfl, hw⟩
  exact ⟨rfl, fun G hG => g_X11_seated hG hw⟩
def B_X6_standing_4 (s : St) : Int32 × Int32 → Option ((Int32 × Int32) ⊕ ((Int32)))
  | (v1, v2) =>
  if (s.1 101) ≤ v2 then
    some (.inr v1)
  else
    (rd s 606 24 v2).bind fun x1 =>
    some (.inl ((v1 + x1), (v2 + 1)))
def F_X6_standing_30 (v1 : Int32) (s : St) : Option (Int32) :=
  some v1
def F_X6_standing_4 (v1 : Int32) (v2 : Int32) (s : St) : Option (Int32) :=
  (lp (B_X6_standing_4 s) FU (v1, v2)).bind (fun y => F_X6_standing_30 y s)
def F_X6_standing (s : St) : Option (Int32) :=
  F_X6_standing_4 0 0 s
theorem J_X6_standing : mj_t 12 18 = 30 ∧ mj_t 27 (-23) = 4 ∧ (0 ≤ ((12 : Nat) : Int) + 18) = True ∧ (0 ≤ ((27 : Nat) : Int) + (-23)) = True := by and_intros <;> first | rfl | exact eq_true (by decide)
set_option maxHeartbeats 4000000 in
set_option maxRecDepth 20000 in
theorem b_X6_standing_4 {k : Option Value → mj_H → Prop} {G : mj_K} (hG : mj_cl2 cX6_standing (TbX6 3 ((some FieldType.int)) []) k G) {s : St} {P : Int32 × Int32 → Prop} {K : (Int32) → Prop} (hP : ∀ x, P x → G 4 [.ref 55, .int x.1, .int x.2] [] (mkCs s) 0 0) (hK0 : ∀ y, K y → G 30 [mj_unk, .int y] [] (mkCs s) 0 0) {v1 : Int32} {v2 : Int32} (hw : ok (B_X6_standing_4 s (v1, v2)) (Sum.elim P K)) : G 4 [.ref 55, .int v1, .int v2] [] (mkCs s) 0 0 := by
  unfold B_X6_standing_4 at hw
  refine mj_run hG.1 (fun pc => pc == 4 || pc == 30) 4000 ?_
  simp only [mj_step, mj_W_s, mj_fin, List.getElem?_cons_zero, List.getElem?_cons_succ, mj_go, Nat.reduceAdd, Nat.reduceSub, Nat.reduceLT, Nat.reduceLeDiff, Nat.zero_add, Nat.reduceEqDiff, Nat.reduceBEq, ↓reduceIte, Bool.false_eq_true, List.append_nil, List.nil_append, List.cons_append, Option.toList, and_true, true_and, true_or, or_true, reduceCtorEq, List.map_nil, bI_eq0, bI_eq1, bool_ft, pk_us, vnar0, vnar1, Bool.or_false, Bool.or_true, Bool.false_or, Bool.true_or, mj_kne, eq_self, Int32.reduceLT, Int32.reduceLE, Int32.reduceAdd, Int32.reduceSub, Int32.reduceMul, not_true_eq_false, not_false_eq_true, false_implies, true_implies, D_X6_standing, mj_F_aload_n_k, mj_F_getfield_i, mj_F_goto_off, mj_F_iadd, mj_F_iaload, mj_F_iconst_n, mj_F_if_icmp_ge_off, mj_F_iinc_k_n, mj_F_iload_n_k, mj_F_ireturn, mj_F_istore_n_k, mj_set, mj_set0, mj_unk, mj_c2, mj_kc, FT_X6, gS_C55, gCf6_2, gS_C20, gCf1_1, gCf6_6, gS_C58, sS_Ca_58, J_X6_standing]
  refine ⟨fun c => ?_, fun c => ?_⟩
  · replace hw := ok_t hw c
    exact hG.2 _ _ _ _ _ _ _ _ _ (by refine ⟨Or.inl rfl, ?_⟩; refine ⟨Or.inr rfl, ?_⟩; exact trivial) (Nat.zero_le _) (Nat.zero_le _) (hK0 _ (ok_some hw :) :)
  · replace hw := ok_f hw c
    refine ⟨(ok_rd hw).1, ?_⟩
    replace hw := (ok_rd hw).2
    exact hG.2 _ _ _ _ _ _ _ _ _ (by refine ⟨Or.inr rfl, ?_⟩; refine ⟨Or.inr rfl, ?_⟩; refine ⟨Or.inr rfl, ?_⟩; exact trivial) (Nat.zero_le _) (Nat.zero_le _) (hP _ (ok_some hw :) :)

set_option maxHeartbeats 4000000 in
set_option maxRecDepth 20000 in
theorem g_X6_standing_30 {k : Option Value → mj_H → Prop} {G : mj_K} (hG : mj_cl2 cX6_standing (TbX6 3 ((some FieldType.int)) []) k G)   {v1 : Int32} {s : St} (hw : ok (F_X6_standing_30 v1 s) (fun p => k (some (.int p)) (mkCs s))) : G 30 [mj_unk, .int v1] [] (mkCs s) 0 0 := by
  unfold F_X6_standing_30 at hw
  refine mj_run hG.1 (fun pc => pc == 4 || pc == 30) 4000 ?_
  simp only [mj_step, mj_W_s, mj_fin, List.getElem?_cons_zero, List.getElem?_cons_succ, mj_go, Nat.reduceAdd, Nat.reduceSub, Nat.reduceLT, Nat.reduceLeDiff, Nat.zero_add, Nat.reduceEqDiff, Nat.reduceBEq, ↓reduceIte, Bool.false_eq_true, List.append_nil, List.nil_append, List.cons_append, Option.toList, and_true, true_and, true_or, or_true, reduceCtorEq, List.map_nil, bI_eq0, bI_eq1, bool_ft, pk_us, vnar0, vnar1, Bool.or_false, Bool.or_true, Bool.false_or, Bool.true_or, mj_kne, eq_self, Int32.reduceLT, Int32.reduceLE, Int32.reduceAdd, Int32.reduceSub, Int32.reduceMul, not_true_eq_false, not_false_eq_true, false_implies, true_implies, D_X6_standing, mj_F_aload_n_k, mj_F_getfield_i, mj_F_goto_off, mj_F_iadd, mj_F_iaload, mj_F_iconst_n, mj_F_if_icmp_ge_off, mj_F_iinc_k_n, mj_F_iload_n_k, mj_F_ireturn, mj_F_istore_n_k, mj_set, mj_set0, mj_unk, mj_c2, mj_kc, FT_X6, gS_C55, gCf6_2, gS_C20, gCf1_1, gCf6_6, gS_C58, sS_Ca_58, J_X6_standing]
  exact (ok_some hw :)

set_option maxHeartbeats 4000000 in
theorem g_X6_standing_4 {k : Option Value → mj_H → Prop} {G : mj_K} (hG : mj_cl2 cX6_standing (TbX6 3 ((some FieldType.int)) []) k G)   {v1 : Int32} {v2 : Int32} {s : St} (hw : ok (F_X6_standing_4 v1 v2 s) (fun p => k (some (.int p)) (mkCs s))) : G 4 [.ref 55, .int v1, .int v2] [] (mkCs s) 0 0 := by
  unfold F_X6_standing_4 at hw
  refine lp_ok (B_X6_standing_4 s) (fun x => G 4 [.ref 55, .int x.1, .int x.2] [] (mkCs s) 0 0) _ ?_ _ _ (ok_bind hw)
  rintro ⟨v1, v2⟩ hb
  exact b_X6_standing_4 hG (fun _ z => z) (fun y hw => by exact hG.2 _ _ _ _ _ _ _ _ _ (by refine ⟨Or.inl rfl, ?_⟩; refine ⟨Or.inr rfl, ?_⟩; exact trivial) (Nat.zero_le _) (Nat.zero_le _) (g_X6_standing_30 hG  hw :)) hb

set_option maxHeartbeats 4000000 in
set_option maxRecDepth 20000 in
theorem g_X6_standing {k : Option Value → mj_H → Prop} {G : mj_K} (hG : mj_cl2 cX6_standing (TbX6 3 ((some FieldType.int)) []) k G) {s : St} (hw : ok (F_X6_standing s) (fun p => k (some (.int p)) (mkCs s))) : G 0 [.ref 55] [] (mkCs s) 0 0 := by
  unfold F_X6_standing at hw
  refine mj_run hG.1 (fun pc => pc == 4 || pc == 30) 4000 ?_
  simp only [mj_step, mj_W_s, mj_fin, List.getElem?_cons_zero, List.getElem?_cons_succ, mj_go, Nat.reduceAdd, Nat.reduceSub, Nat.reduceLT, Nat.reduceLeDiff, Nat.zero_add, Nat.reduceEqDiff, Nat.reduceBEq, ↓reduceIte, Bool.false_eq_true, List.append_nil, List.nil_append, List.cons_append, Option.toList, and_true, true_and, true_or, or_true, reduceCtorEq, List.map_nil, bI_eq0, bI_eq1, bool_ft, pk_us, vnar0, vnar1, Bool.or_false, Bool.or_true, Bool.false_or, Bool.true_or, mj_kne, eq_self, Int32.reduceLT, Int32.reduceLE, Int32.reduceAdd, Int32.reduceSub, Int32.reduceMul, not_true_eq_false, not_false_eq_true, false_implies, true_implies, D_X6_standing, mj_F_aload_n_k, mj_F_getfield_i, mj_F_goto_off, mj_F_iadd, mj_F_iaload, mj_F_iconst_n, mj_F_if_icmp_ge_off, mj_F_iinc_k_n, mj_F_iload_n_k, mj_F_ireturn, mj_F_istore_n_k, mj_set, mj_set0, mj_unk, mj_c2, mj_kc, FT_X6, gS_C55, gCf6_2, gS_C20, gCf1_1, gCf6_6, gS_C58, sS_Ca_58, J_X6_standing]
  exact hG.2 _ _ _ _ _ _ _ _ _ (by refine ⟨Or.inr rfl, ?_⟩; refine ⟨Or.inr rfl, ?_⟩; refine ⟨Or.inr rfl, ?_⟩; exact trivial) (Nat.zero_le _) (Nat.zero_le _) (g_X6_standing_4 hG  hw :)

def c_X6_standing : mj_S := fun as h k => ∃ (s : St), as = [.ref 55] ∧ h = mkCs s ∧ ok (F_X6_standing s) (fun p => k (some (.int p)) (mkCs s))
theorem c_X6_standing_in {s : St} {k : Option Value → mj_H → Prop} (hw : ok (F_X6_standing s) (fun p => k (some (.int p)) (mkCs s))) : c_X6_standing [.ref 55] (mkCs s) k := ⟨s, rfl, rfl, hw⟩
theorem m_X6_standing (l : Launch) : mj_Met l yX6_standing cX6_standing 3 ((some FieldType.int)) 0 0 0 c_X6_standing := by
  refine mj_body2 false (TbX6 3 ((some FieldType.int)) []) (by decide) rfl rfl (fun h => nomatch h) (tfX6 _ (fun _ h => nomatch h)) ?_
  rintro as h k ⟨s, rfl, rfl, hw⟩
  exact ⟨rfl, fun G hG => g_X6_standing hG hw⟩
def F_X11_unseated (v1 : Int32) (v2 : Int32) (v3 : Int32) (s : St) : Option (Int32 × St) :=
  (F_X11_isVillage v1 s).bind fun r1 =>
  if r1 = 0 then
    if v1 = (-1) then
      (F_X11_isPast v2 s).bind fun r8 =>
      if r8 = 0 then
        some ((-1), s)
      else
        (F_X11_isPast v3 s).bind fun r9 =>
        if r9 = 0 then
          some ((-1), s)
        else
          (F_X6_survey v2 v3 s).bind fun s10 =>
          (F_X6_seatAll s10).bind fun s11 =>
          if v1 = (-1) then
            (F_X6_standing s11).bind fun r13 =>
            some (r13, s11)
          else
            (rd s11 606 24 v1).bind fun x12 =>
            some (x12, s11)
    else
      some ((-1), s)
  else
    (F_X11_isPast v2 s).bind fun r2 =>
    if r2 = 0 then
      some ((-1), s)
    else
      (F_X11_isPast v3 s).bind fun r3 =>
      if r3 = 0 then
        some ((-1), s)
      else
        (F_X6_survey v2 v3 s).bind fun s4 =>
        (F_X6_seatAll s4).bind fun s5 =>
        if v1 = (-1) then
          (F_X6_standing s5).bind fun r7 =>
          some (r7, s5)
        else
          (rd s5 606 24 v1).bind fun x6 =>
          some (x6, s5)
theorem J_X11_unseated : mj_t 5 8 = 13 ∧ mj_t 10 19 = 29 ∧ mj_t 18 11 = 29 ∧ mj_t 26 5 = 31 ∧ mj_t 49 13 = 62 ∧ mj_t 59 12 = 71 ∧ (0 ≤ ((5 : Nat) : Int) + 8) = True ∧ (0 ≤ ((10 : Nat) : Int) + 19) = True ∧ (0 ≤ ((18 : Nat) : Int) + 11) = True ∧ (0 ≤ ((26 : Nat) : Int) + 5) = True ∧ (0 ≤ ((49 : Nat) : Int) + 13) = True ∧ (0 ≤ ((59 : Nat) : Int) + 12) = True := by and_intros <;> first | rfl | exact eq_true (by decide)
def ct_X11_unseated : List (Nat × mj_Cs) := [(138, 0, 2, 11, 0, 0, c_X11_isVillage), (148, 0, 2, 11, 0, 0, c_X11_isPast), (245, 0, 3, 6, 25, 3000, c_X6_survey), (254, 0, 1, 6, 0, 0, c_X6_seatAll), (263, 0, 1, 6, 0, 0, c_X6_standing)]
theorem L_X11_unseated : mj_lk ct_X11_unseated 138 = some (0, 2, 11, 0, 0, c_X11_isVillage) ∧ mj_lk ct_X11_unseated 148 = some (0, 2, 11, 0, 0, c_X11_isPast) ∧ mj_lk ct_X11_unseated 245 = some (0, 3, 6, 25, 3000, c_X6_survey) ∧ mj_lk ct_X11_unseated 254 = some (0, 1, 6, 0, 0, c_X6_seatAll) ∧ mj_lk ct_X11_unseated 263 = some (0, 1, 6, 0, 0, c_X6_standing) := ⟨rfl, rfl, rfl, rfl, rfl⟩
set_option maxHeartbeats 4000000 in
set_option maxRecDepth 20000 in
theorem g_X11_unseated {k : Option Value → mj_H → Prop} {G : mj_K} (hG : mj_cl2 cX11_unseated (TbX11 4 ((some FieldType.int)) ct_X11_unseated) k G) {v1 : Int32} {v2 : Int32} {v3 : Int32} {s : St} (hw : ok (F_X11_unseated v1 v2 v3 s) (fun p => k (some (.int p.1)) (mkCs p.2))) : G 0 [.ref 0, .int v1, .int v2, .int v3] [] (mkCs s) 25 3000 := by
  unfold F_X11_unseated at hw
  refine mj_run hG.1 (fun pc => pc == 5 || pc == 18 || pc == 26 || pc == 40 || pc == 47 || pc == 59) 4000 ?_
  simp only [mj_step, mj_W_s, mj_fin, List.getElem?_cons_zero, List.getElem?_cons_succ, mj_go, Nat.reduceAdd, Nat.reduceSub, Nat.reduceLT, Nat.reduceLeDiff, Nat.zero_add, Nat.reduceEqDiff, Nat.reduceBEq, ↓reduceIte, Bool.false_eq_true, List.append_nil, List.nil_append, List.cons_append, Option.toList, and_true, true_and, true_or, or_true, reduceCtorEq, List.map_nil, bI_eq0, bI_eq1, bool_ft, pk_us, vnar0, vnar1, Bool.or_false, Bool.or_true, Bool.false_or, Bool.true_or, mj_kne, eq_self, Int32.reduceLT, Int32.reduceLE, Int32.reduceAdd, Int32.reduceSub, Int32.reduceMul, not_true_eq_false, not_false_eq_true, false_implies, true_implies, D_X11_unseated, mj_F_aload_n_k, mj_F_getfield_i, mj_F_goto_off, mj_F_iaload, mj_F_iconst_n, mj_F_ifCond_eq_off, mj_F_ifCond_ne_off, mj_F_if_icmp_ne_off, mj_F_iload_n_k, mj_F_invokevirtual_i, mj_F_ireturn, mj_kc, FT_X11, L_X11_unseated, List.take_succ_cons, List.take_zero, List.drop_succ_cons, List.drop_zero, List.reverse_cons, List.reverse_nil, List.length_cons, List.length_nil, gS_C0, gCf11_7, gS_C55, gCf6_6, gS_C58, sS_Ca_58, J_X11_unseated]
  refine c_X11_isVillage_in (ok_imp (ok_bind hw) ?_)
  intro p hw
  simp only [Option.toList, List.nil_append, List.cons_append, Nat.reduceSub]
  refine mj_run hG.1 (fun pc => pc == 5 || pc == 18 || pc == 26 || pc == 40 || pc == 47 || pc == 59) 4000 ?_
  simp only [mj_step, mj_W_s, mj_fin, List.getElem?_cons_zero, List.getElem?_cons_succ, mj_go, Nat.reduceAdd, Nat.reduceSub, Nat.reduceLT, Nat.reduceLeDiff, Nat.zero_add, Nat.reduceEqDiff, Nat.reduceBEq, ↓reduceIte, Bool.false_eq_true, List.append_nil, List.nil_append, List.cons_append, Option.toList, and_true, true_and, true_or, or_true, reduceCtorEq, List.map_nil, bI_eq0, bI_eq1, bool_ft, pk_us, vnar0, vnar1, Bool.or_false, Bool.or_true, Bool.false_or, Bool.true_or, mj_kne, eq_self, Int32.reduceLT, Int32.reduceLE, Int32.reduceAdd, Int32.reduceSub, Int32.reduceMul, not_true_eq_false, not_false_eq_true, false_implies, true_implies, D_X11_unseated, mj_F_aload_n_k, mj_F_getfield_i, mj_F_goto_off, mj_F_iaload, mj_F_iconst_n, mj_F_ifCond_eq_off, mj_F_ifCond_ne_off, mj_F_if_icmp_ne_off, mj_F_iload_n_k, mj_F_invokevirtual_i, mj_F_ireturn, mj_kc, FT_X11, L_X11_unseated, List.take_succ_cons, List.take_zero, List.drop_succ_cons, List.drop_zero, List.reverse_cons, List.reverse_nil, List.length_cons, List.length_nil, gS_C0, gCf11_7, gS_C55, gCf6_6, gS_C58, sS_Ca_58, J_X11_unseated]
  refine ⟨fun c => ?_, fun c => ?_⟩
  · replace hw := ok_f hw c
    refine c_X11_isPast_in (ok_imp (ok_bind hw) ?_)
    intro p hw
    simp only [Option.toList, List.nil_append, List.cons_append, Nat.reduceSub]
    refine mj_run hG.1 (fun pc => pc == 5 || pc == 18 || pc == 26 || pc == 40 || pc == 47 || pc == 59) 4000 ?_
    simp only [mj_step, mj_W_s, mj_fin, List.getElem?_cons_zero, List.getElem?_cons_succ, mj_go, Nat.reduceAdd, Nat.reduceSub, Nat.reduceLT, Nat.reduceLeDiff, Nat.zero_add, Nat.reduceEqDiff, Nat.reduceBEq, ↓reduceIte, Bool.false_eq_true, List.append_nil, List.nil_append, List.cons_append, Option.toList, and_true, true_and, true_or, or_true, reduceCtorEq, List.map_nil, bI_eq0, bI_eq1, bool_ft, pk_us, vnar0, vnar1, Bool.or_false, Bool.or_true, Bool.false_or, Bool.true_or, mj_kne, eq_self, Int32.reduceLT, Int32.reduceLE, Int32.reduceAdd, Int32.reduceSub, Int32.reduceMul, not_true_eq_false, not_false_eq_true, false_implies, true_implies, D_X11_unseated, mj_F_aload_n_k, mj_F_getfield_i, mj_F_goto_off, mj_F_iaload, mj_F_iconst_n, mj_F_ifCond_eq_off, mj_F_ifCond_ne_off, mj_F_if_icmp_ne_off, mj_F_iload_n_k, mj_F_invokevirtual_i, mj_F_ireturn, mj_kc, FT_X11, L_X11_unseated, List.take_succ_cons, List.take_zero, List.drop_succ_cons, List.drop_zero, List.reverse_cons, List.reverse_nil, List.length_cons, List.length_nil, gS_C0, gCf11_7, gS_C55, gCf6_6, gS_C58, sS_Ca_58, J_X11_unseated]
    refine ⟨fun c => ?_, fun c => ?_⟩
    · replace hw := ok_t hw c
      exact (ok_some hw :)
    · replace hw := ok_f hw c
      refine c_X11_isPast_in (ok_imp (ok_bind hw) ?_)
      intro p hw
      simp only [Option.toList, List.nil_append, List.cons_append, Nat.reduceSub]
      refine mj_run hG.1 (fun pc => pc == 5 || pc == 18 || pc == 26 || pc == 40 || pc == 47 || pc == 59) 4000 ?_
      simp only [mj_step, mj_W_s, mj_fin, List.getElem?_cons_zero, List.getElem?_cons_succ, mj_go, Nat.reduceAdd, Nat.reduceSub, Nat.reduceLT, Nat.reduceLeDiff, Nat.zero_add, Nat.reduceEqDiff, Nat.reduceBEq, ↓reduceIte, Bool.false_eq_true, List.append_nil, List.nil_append, List.cons_append, Option.toList, and_true, true_and, true_or, or_true, reduceCtorEq, List.map_nil, bI_eq0, bI_eq1, bool_ft, pk_us, vnar0, vnar1, Bool.or_false, Bool.or_true, Bool.false_or, Bool.true_or, mj_kne, eq_self, Int32.reduceLT, Int32.reduceLE, Int32.reduceAdd, Int32.reduceSub, Int32.reduceMul, not_true_eq_false, not_false_eq_true, false_implies, true_implies, D_X11_unseated, mj_F_aload_n_k, mj_F_getfield_i, mj_F_goto_off, mj_F_iaload, mj_F_iconst_n, mj_F_ifCond_eq_off, mj_F_ifCond_ne_off, mj_F_if_icmp_ne_off, mj_F_iload_n_k, mj_F_invokevirtual_i, mj_F_ireturn, mj_kc, FT_X11, L_X11_unseated, List.take_succ_cons, List.take_zero, List.drop_succ_cons, List.drop_zero, List.reverse_cons, List.reverse_nil, List.length_cons, List.length_nil, gS_C0, gCf11_7, gS_C55, gCf6_6, gS_C58, sS_Ca_58, J_X11_unseated]
      refine ⟨fun c => ?_, fun c => ?_⟩
      · replace hw := ok_f hw c
        refine c_X6_survey_in (ok_imp (ok_bind hw) ?_)
        intro p hw
        simp only [Option.toList, List.nil_append, List.cons_append, Nat.reduceSub]
        refine mj_run hG.1 (fun pc => pc == 5 || pc == 18 || pc == 26 || pc == 40 || pc == 47 || pc == 59) 4000 ?_
        simp only [mj_step, mj_W_s, mj_fin, List.getElem?_cons_zero, List.getElem?_cons_succ, mj_go, Nat.reduceAdd, Nat.reduceSub, Nat.reduceLT, Nat.reduceLeDiff, Nat.zero_add, Nat.reduceEqDiff, Nat.reduceBEq, ↓reduceIte, Bool.false_eq_true, List.append_nil, List.nil_append, List.cons_append, Option.toList, and_true, true_and, true_or, or_true, reduceCtorEq, List.map_nil, bI_eq0, bI_eq1, bool_ft, pk_us, vnar0, vnar1, Bool.or_false, Bool.or_true, Bool.false_or, Bool.true_or, mj_kne, eq_self, Int32.reduceLT, Int32.reduceLE, Int32.reduceAdd, Int32.reduceSub, Int32.reduceMul, not_true_eq_false, not_false_eq_true, false_implies, true_implies, D_X11_unseated, mj_F_aload_n_k, mj_F_getfield_i, mj_F_goto_off, mj_F_iaload, mj_F_iconst_n, mj_F_ifCond_eq_off, mj_F_ifCond_ne_off, mj_F_if_icmp_ne_off, mj_F_iload_n_k, mj_F_invokevirtual_i, mj_F_ireturn, mj_kc, FT_X11, L_X11_unseated, List.take_succ_cons, List.take_zero, List.drop_succ_cons, List.drop_zero, List.reverse_cons, List.reverse_nil, List.length_cons, List.length_nil, gS_C0, gCf11_7, gS_C55, gCf6_6, gS_C58, sS_Ca_58, J_X11_unseated]
        refine c_X6_seatAll_in (ok_imp (ok_bind hw) ?_)
        intro p hw
        simp only [Option.toList, List.nil_append, List.cons_append, Nat.reduceSub]
        refine mj_run hG.1 (fun pc => pc == 5 || pc == 18 || pc == 26 || pc == 40 || pc == 47 || pc == 59) 4000 ?_
        simp only [mj_step, mj_W_s, mj_fin, List.getElem?_cons_zero, List.getElem?_cons_succ, mj_go, Nat.reduceAdd, Nat.reduceSub, Nat.reduceLT, Nat.reduceLeDiff, Nat.zero_add, Nat.reduceEqDiff, Nat.reduceBEq, ↓reduceIte, Bool.false_eq_true, List.append_nil, List.nil_append, List.cons_append, Option.toList, and_true, true_and, true_or, or_true, reduceCtorEq, List.map_nil, bI_eq0, bI_eq1, bool_ft, pk_us, vnar0, vnar1, Bool.or_false, Bool.or_true, Bool.false_or, Bool.true_or, mj_kne, eq_self, Int32.reduceLT, Int32.reduceLE, Int32.reduceAdd, Int32.reduceSub, Int32.reduceMul, not_true_eq_false, not_false_eq_true, false_implies, true_implies, D_X11_unseated, mj_F_aload_n_k, mj_F_getfield_i, mj_F_goto_off, mj_F_iaload, mj_F_iconst_n, mj_F_ifCond_eq_off, mj_F_ifCond_ne_off, mj_F_if_icmp_ne_off, mj_F_iload_n_k, mj_F_invokevirtual_i, mj_F_ireturn, mj_kc, FT_X11, L_X11_unseated, List.take_succ_cons, List.take_zero, List.drop_succ_cons, List.drop_zero, List.reverse_cons, List.reverse_nil, List.length_cons, List.length_nil, gS_C0, gCf11_7, gS_C55, gCf6_6, gS_C58, sS_Ca_58, J_X11_unseated]
        refine ⟨fun c => ?_, fun c => ?_⟩
        · replace hw := ok_f hw c
          refine ⟨(ok_rd hw).1, ?_⟩
          replace hw := (ok_rd hw).2
          exact (ok_some hw :)
        · replace hw := ok_t hw c
          refine c_X6_standing_in (ok_imp (ok_bind hw) ?_)
          intro p hw
          simp only [Option.toList, List.nil_append, List.cons_append, Nat.reduceSub]
          refine mj_run hG.1 (fun pc => pc == 5 || pc == 18 || pc == 26 || pc == 40 || pc == 47 || pc == 59) 4000 ?_
          simp only [mj_step, mj_W_s, mj_fin, List.getElem?_cons_zero, List.getElem?_cons_succ, mj_go, Nat.reduceAdd, Nat.reduceSub, Nat.reduceLT, Nat.reduceLeDiff, Nat.zero_add, Nat.reduceEqDiff, Nat.reduceBEq, ↓reduceIte, Bool.false_eq_true, List.append_nil, List.nil_append, List.cons_append, Option.toList, and_true, true_and, true_or, or_true, reduceCtorEq, List.map_nil, bI_eq0, bI_eq1, bool_ft, pk_us, vnar0, vnar1, Bool.or_false, Bool.or_true, Bool.false_or, Bool.true_or, mj_kne, eq_self, Int32.reduceLT, Int32.reduceLE, Int32.reduceAdd, Int32.reduceSub, Int32.reduceMul, not_true_eq_false, not_false_eq_true, false_implies, true_implies, D_X11_unseated, mj_F_aload_n_k, mj_F_getfield_i, mj_F_goto_off, mj_F_iaload, mj_F_iconst_n, mj_F_ifCond_eq_off, mj_F_ifCond_ne_off, mj_F_if_icmp_ne_off, mj_F_iload_n_k, mj_F_invokevirtual_i, mj_F_ireturn, mj_kc, FT_X11, L_X11_unseated, List.take_succ_cons, List.take_zero, List.drop_succ_cons, List.drop_zero, List.reverse_cons, List.reverse_nil, List.length_cons, List.length_nil, gS_C0, gCf11_7, gS_C55, gCf6_6, gS_C58, sS_Ca_58, J_X11_unseated]
          exact (ok_some hw :)
      · replace hw := ok_t hw c
        exact (ok_some hw :)
  · replace hw := ok_t hw c
    refine ⟨fun c => ?_, fun c => ?_⟩
    · replace hw := ok_f hw c
      exact (ok_some hw :)
    · replace hw := ok_t hw c
      refine c_X11_isPast_in (ok_imp (ok_bind hw) ?_)
      intro p hw
      simp only [Option.toList, List.nil_append, List.cons_append, Nat.reduceSub]
      refine mj_run hG.1 (fun pc => pc == 5 || pc == 18 || pc == 26 || pc == 40 || pc == 47 || pc == 59) 4000 ?_
      simp only [mj_step, mj_W_s, mj_fin, List.getElem?_cons_zero, List.getElem?_cons_succ, mj_go, Nat.reduceAdd, Nat.reduceSub, Nat.reduceLT, Nat.reduceLeDiff, Nat.zero_add, Nat.reduceEqDiff, Nat.reduceBEq, ↓reduceIte, Bool.false_eq_true, List.append_nil, List.nil_append, List.cons_append, Option.toList, and_true, true_and, true_or, or_true, reduceCtorEq, List.map_nil, bI_eq0, bI_eq1, bool_ft, pk_us, vnar0, vnar1, Bool.or_false, Bool.or_true, Bool.false_or, Bool.true_or, mj_kne, eq_self, Int32.reduceLT, Int32.reduceLE, Int32.reduceAdd, Int32.reduceSub, Int32.reduceMul, not_true_eq_false, not_false_eq_true, false_implies, true_implies, D_X11_unseated, mj_F_aload_n_k, mj_F_getfield_i, mj_F_goto_off, mj_F_iaload, mj_F_iconst_n, mj_F_ifCond_eq_off, mj_F_ifCond_ne_off, mj_F_if_icmp_ne_off, mj_F_iload_n_k, mj_F_invokevirtual_i, mj_F_ireturn, mj_kc, FT_X11, L_X11_unseated, List.take_succ_cons, List.take_zero, List.drop_succ_cons, List.drop_zero, List.reverse_cons, List.reverse_nil, List.length_cons, List.length_nil, gS_C0, gCf11_7, gS_C55, gCf6_6, gS_C58, sS_Ca_58, J_X11_unseated]
      refine ⟨fun c => ?_, fun c => ?_⟩
      · replace hw := ok_t hw c
        exact (ok_some hw :)
      · replace hw := ok_f hw c
        refine c_X11_isPast_in (ok_imp (ok_bind hw) ?_)
        intro p hw
        simp only [Option.toList, List.nil_append, List.cons_append, Nat.reduceSub]
        refine mj_run hG.1 (fun pc => pc == 5 || pc == 18 || pc == 26 || pc == 40 || pc == 47 || pc == 59) 4000 ?_
        simp only [mj_step, mj_W_s, mj_fin, List.getElem?_cons_zero, List.getElem?_cons_succ, mj_go, Nat.reduceAdd, Nat.reduceSub, Nat.reduceLT, Nat.reduceLeDiff, Nat.zero_add, Nat.reduceEqDiff, Nat.reduceBEq, ↓reduceIte, Bool.false_eq_true, List.append_nil, List.nil_append, List.cons_append, Option.toList, and_true, true_and, true_or, or_true, reduceCtorEq, List.map_nil, bI_eq0, bI_eq1, bool_ft, pk_us, vnar0, vnar1, Bool.or_false, Bool.or_true, Bool.false_or, Bool.true_or, mj_kne, eq_self, Int32.reduceLT, Int32.reduceLE, Int32.reduceAdd, Int32.reduceSub, Int32.reduceMul, not_true_eq_false, not_false_eq_true, false_implies, true_implies, D_X11_unseated, mj_F_aload_n_k, mj_F_getfield_i, mj_F_goto_off, mj_F_iaload, mj_F_iconst_n, mj_F_ifCond_eq_off, mj_F_ifCond_ne_off, mj_F_if_icmp_ne_off, mj_F_iload_n_k, mj_F_invokevirtual_i, mj_F_ireturn, mj_kc, FT_X11, L_X11_unseated, List.take_succ_cons, List.take_zero, List.drop_succ_cons, List.drop_zero, List.reverse_cons, List.reverse_nil, List.length_cons, List.length_nil, gS_C0, gCf11_7, gS_C55, gCf6_6, gS_C58, sS_Ca_58, J_X11_unseated]
        refine ⟨fun c => ?_, fun c => ?_⟩
        · replace hw := ok_f hw c
          refine c_X6_survey_in (ok_imp (ok_bind hw) ?_)
          intro p hw
          simp only [Option.toList, List.nil_append, List.cons_append, Nat.reduceSub]
          refine mj_run hG.1 (fun pc => pc == 5 || pc == 18 || pc == 26 || pc == 40 || pc == 47 || pc == 59) 4000 ?_
          simp only [mj_step, mj_W_s, mj_fin, List.getElem?_cons_zero, List.getElem?_cons_succ, mj_go, Nat.reduceAdd, Nat.reduceSub, Nat.reduceLT, Nat.reduceLeDiff, Nat.zero_add, Nat.reduceEqDiff, Nat.reduceBEq, ↓reduceIte, Bool.false_eq_true, List.append_nil, List.nil_append, List.cons_append, Option.toList, and_true, true_and, true_or, or_true, reduceCtorEq, List.map_nil, bI_eq0, bI_eq1, bool_ft, pk_us, vnar0, vnar1, Bool.or_false, Bool.or_true, Bool.false_or, Bool.true_or, mj_kne, eq_self, Int32.reduceLT, Int32.reduceLE, Int32.reduceAdd, Int32.reduceSub, Int32.reduceMul, not_true_eq_false, not_false_eq_true, false_implies, true_implies, D_X11_unseated, mj_F_aload_n_k, mj_F_getfield_i, mj_F_goto_off, mj_F_iaload, mj_F_iconst_n, mj_F_ifCond_eq_off, mj_F_ifCond_ne_off, mj_F_if_icmp_ne_off, mj_F_iload_n_k, mj_F_invokevirtual_i, mj_F_ireturn, mj_kc, FT_X11, L_X11_unseated, List.take_succ_cons, List.take_zero, List.drop_succ_cons, List.drop_zero, List.reverse_cons, List.reverse_nil, List.length_cons, List.length_nil, gS_C0, gCf11_7, gS_C55, gCf6_6, gS_C58, sS_Ca_58, J_X11_unseated]
          refine c_X6_seatAll_in (ok_imp (ok_bind hw) ?_)
          intro p hw
          simp only [Option.toList, List.nil_append, List.cons_append, Nat.reduceSub]
          refine mj_run hG.1 (fun pc => pc == 5 || pc == 18 || pc == 26 || pc == 40 || pc == 47 || pc == 59) 4000 ?_
          simp only [mj_step, mj_W_s, mj_fin, List.getElem?_cons_zero, List.getElem?_cons_succ, mj_go, Nat.reduceAdd, Nat.reduceSub, Nat.reduceLT, Nat.reduceLeDiff, Nat.zero_add, Nat.reduceEqDiff, Nat.reduceBEq, ↓reduceIte, Bool.false_eq_true, List.append_nil, List.nil_append, List.cons_append, Option.toList, and_true, true_and, true_or, or_true, reduceCtorEq, List.map_nil, bI_eq0, bI_eq1, bool_ft, pk_us, vnar0, vnar1, Bool.or_false, Bool.or_true, Bool.false_or, Bool.true_or, mj_kne, eq_self, Int32.reduceLT, Int32.reduceLE, Int32.reduceAdd, Int32.reduceSub, Int32.reduceMul, not_true_eq_false, not_false_eq_true, false_implies, true_implies, D_X11_unseated, mj_F_aload_n_k, mj_F_getfield_i, mj_F_goto_off, mj_F_iaload, mj_F_iconst_n, mj_F_ifCond_eq_off, mj_F_ifCond_ne_off, mj_F_if_icmp_ne_off, mj_F_iload_n_k, mj_F_invokevirtual_i, mj_F_ireturn, mj_kc, FT_X11, L_X11_unseated, List.take_succ_cons, List.take_zero, List.drop_succ_cons, List.drop_zero, List.reverse_cons, List.reverse_nil, List.length_cons, List.length_nil, gS_C0, gCf11_7, gS_C55, gCf6_6, gS_C58, sS_Ca_58, J_X11_unseated]
          refine ⟨fun c => ?_, fun c => ?_⟩
          · replace hw := ok_f hw c
            refine ⟨(ok_rd hw).1, ?_⟩
            replace hw := (ok_rd hw).2
            exact (ok_some hw :)
          · replace hw := ok_t hw c
            refine c_X6_standing_in (ok_imp (ok_bind hw) ?_)
            intro p hw
            simp only [Option.toList, List.nil_append, List.cons_append, Nat.reduceSub]
            refine mj_run hG.1 (fun pc => pc == 5 || pc == 18 || pc == 26 || pc == 40 || pc == 47 || pc == 59) 4000 ?_
            simp only [mj_step, mj_W_s, mj_fin, List.getElem?_cons_zero, List.getElem?_cons_succ, mj_go, Nat.reduceAdd, Nat.reduceSub, Nat.reduceLT, Nat.reduceLeDiff, Nat.zero_add, Nat.reduceEqDiff, Nat.reduceBEq, ↓reduceIte, Bool.false_eq_true, List.append_nil, List.nil_append, List.cons_append, Option.toList, and_true, true_and, true_or, or_true, reduceCtorEq, List.map_nil, bI_eq0, bI_eq1, bool_ft, pk_us, vnar0, vnar1, Bool.or_false, Bool.or_true, Bool.false_or, Bool.true_or, mj_kne, eq_self, Int32.reduceLT, Int32.reduceLE, Int32.reduceAdd, Int32.reduceSub, Int32.reduceMul, not_true_eq_false, not_false_eq_true, false_implies, true_implies, D_X11_unseated, mj_F_aload_n_k, mj_F_getfield_i, mj_F_goto_off, mj_F_iaload, mj_F_iconst_n, mj_F_ifCond_eq_off, mj_F_ifCond_ne_off, mj_F_if_icmp_ne_off, mj_F_iload_n_k, mj_F_invokevirtual_i, mj_F_ireturn, mj_kc, FT_X11, L_X11_unseated, List.take_succ_cons, List.take_zero, List.drop_succ_cons, List.drop_zero, List.reverse_cons, List.reverse_nil, List.length_cons, List.length_nil, gS_C0, gCf11_7, gS_C55, gCf6_6, gS_C58, sS_Ca_58, J_X11_unseated]
            exact (ok_some hw :)
        · replace hw := ok_t hw c
          exact (ok_some hw :)

def c_X11_unseated : mj_S := fun as h k => ∃ (v1 : Int32) (v2 : Int32) (v3 : Int32) (s : St), as = [.ref 0, .int v1, .int v2, .int v3] ∧ h = mkCs s ∧ ok (F_X11_unseated v1 v2 v3 s) (fun p => k (some (.int p.1)) (mkCs p.2))
theorem c_X11_unseated_in {v1 : Int32} {v2 : Int32} {v3 : Int32} {s : St} {k : Option Value → mj_H → Prop} (hw : ok (F_X11_unseated v1 v2 v3 s) (fun p => k (some (.int p.1)) (mkCs p.2))) : c_X11_unseated [.ref 0, .int v1, .int v2, .int v3] (mkCs s) k := ⟨v1, v2, v3, s, rfl, rfl, hw⟩
theorem m_X11_unseated (l : Launch) : mj_Met l yX11_unseated cX11_unseated 4 ((some FieldType.int)) 6 25 3000 c_X11_unseated := by
  refine mj_body2 false (TbX11 4 ((some FieldType.int)) ct_X11_unseated) (by decide) rfl rfl (fun h => nomatch h) (tfX11 _ (List.forall_mem_cons.mpr ⟨cfX11_138 (m_X11_isVillage l) (by decide), List.forall_mem_cons.mpr ⟨cfX11_148 (m_X11_isPast l) (by decide), List.forall_mem_cons.mpr ⟨cfX11_245 (m_X6_survey l) (by decide), List.forall_mem_cons.mpr ⟨cfX11_254 (m_X6_seatAll l) (by decide), List.forall_mem_cons.mpr ⟨cfX11_263 (m_X6_standing l) (by decide), fun _ h => nomatch h⟩⟩⟩⟩⟩)) ?_
  rintro as h k ⟨v1, v2, v3, s, rfl, rfl, hw⟩
  exact ⟨rfl, fun G hG => g_X11_unseated hG hw⟩
def B_X6_seatedInAll_4 (s : St) : Int32 × Int32 → Option ((Int32 × Int32) ⊕ ((Int32)))
  | (v1, v2) =>
  if (s.1 101) ≤ v2 then
    some (.inr v1)
  else
    (F_X6_seatedOf v2 s).bind fun r1 =>
    some (.inl ((v1 + r1), (v2 + 1)))
def F_X6_seatedInAll_29 (v1 : Int32) (s : St) : Option (Int32) :=
  some v1
def F_X6_seatedInAll_4 (v1 : Int32) (v2 : Int32) (s : St) : Option (Int32) :=
  (lp (B_X6_seatedInAll_4 s) FU (v1, v2)).bind (fun y => F_X6_seatedInAll_29 y s)
def F_X6_seatedInAll (s : St) : Option (Int32) :=
  F_X6_seatedInAll_4 0 0 s
theorem J_X6_seatedInAll : mj_t 12 17 = 29 ∧ mj_t 26 (-22) = 4 ∧ (0 ≤ ((12 : Nat) : Int) + 17) = True ∧ (0 ≤ ((26 : Nat) : Int) + (-22)) = True := by and_intros <;> first | rfl | exact eq_true (by decide)
def ct_X6_seatedInAll : List (Nat × mj_Cs) := [(132, 0, 2, 6, 0, 0, c_X6_seatedOf)]
theorem L_X6_seatedInAll : mj_lk ct_X6_seatedInAll 132 = some (0, 2, 6, 0, 0, c_X6_seatedOf) := rfl
set_option maxHeartbeats 4000000 in
set_option maxRecDepth 20000 in
theorem b_X6_seatedInAll_4 {k : Option Value → mj_H → Prop} {G : mj_K} (hG : mj_cl2 cX6_seatedInAll (TbX6 3 ((some FieldType.int)) ct_X6_seatedInAll) k G) {s : St} {P : Int32 × Int32 → Prop} {K : (Int32) → Prop} (hP : ∀ x, P x → G 4 [.ref 55, .int x.1, .int x.2] [] (mkCs s) 0 0) (hK0 : ∀ y, K y → G 29 [mj_unk, .int y] [] (mkCs s) 0 0) {v1 : Int32} {v2 : Int32} (hw : ok (B_X6_seatedInAll_4 s (v1, v2)) (Sum.elim P K)) : G 4 [.ref 55, .int v1, .int v2] [] (mkCs s) 0 0 := by
  unfold B_X6_seatedInAll_4 at hw
  refine mj_run hG.1 (fun pc => pc == 4 || pc == 21 || pc == 29) 4000 ?_
  simp only [mj_step, mj_W_s, mj_fin, List.getElem?_cons_zero, List.getElem?_cons_succ, mj_go, Nat.reduceAdd, Nat.reduceSub, Nat.reduceLT, Nat.reduceLeDiff, Nat.zero_add, Nat.reduceEqDiff, Nat.reduceBEq, ↓reduceIte, Bool.false_eq_true, List.append_nil, List.nil_append, List.cons_append, Option.toList, and_true, true_and, true_or, or_true, reduceCtorEq, List.map_nil, bI_eq0, bI_eq1, bool_ft, pk_us, vnar0, vnar1, Bool.or_false, Bool.or_true, Bool.false_or, Bool.true_or, mj_kne, eq_self, Int32.reduceLT, Int32.reduceLE, Int32.reduceAdd, Int32.reduceSub, Int32.reduceMul, not_true_eq_false, not_false_eq_true, false_implies, true_implies, D_X6_seatedInAll, mj_F_aload_n_k, mj_F_getfield_i, mj_F_goto_off, mj_F_iadd, mj_F_iconst_n, mj_F_if_icmp_ge_off, mj_F_iinc_k_n, mj_F_iload_n_k, mj_F_invokevirtual_i, mj_F_ireturn, mj_F_istore_n_k, mj_set, mj_set0, mj_unk, mj_c2, mj_kc, FT_X6, L_X6_seatedInAll, List.take_succ_cons, List.take_zero, List.drop_succ_cons, List.drop_zero, List.reverse_cons, List.reverse_nil, List.length_cons, List.length_nil, gS_C55, gCf6_2, gS_C20, gCf1_1, J_X6_seatedInAll]
  refine ⟨fun c => ?_, fun c => ?_⟩
  · replace hw := ok_t hw c
    exact hG.2 _ _ _ _ _ _ _ _ _ (by refine ⟨Or.inl rfl, ?_⟩; refine ⟨Or.inr rfl, ?_⟩; exact trivial) (Nat.zero_le _) (Nat.zero_le _) (hK0 _ (ok_some hw :) :)
  · replace hw := ok_f hw c
    refine c_X6_seatedOf_in (ok_imp (ok_bind hw) ?_)
    intro p hw
    simp only [Option.toList, List.nil_append, List.cons_append, Nat.reduceSub]
    refine mj_run hG.1 (fun pc => pc == 4 || pc == 21 || pc == 29) 4000 ?_
    simp only [mj_step, mj_W_s, mj_fin, List.getElem?_cons_zero, List.getElem?_cons_succ, mj_go, Nat.reduceAdd, Nat.reduceSub, Nat.reduceLT, Nat.reduceLeDiff, Nat.zero_add, Nat.reduceEqDiff, Nat.reduceBEq, ↓reduceIte, Bool.false_eq_true, List.append_nil, List.nil_append, List.cons_append, Option.toList, and_true, true_and, true_or, or_true, reduceCtorEq, List.map_nil, bI_eq0, bI_eq1, bool_ft, pk_us, vnar0, vnar1, Bool.or_false, Bool.or_true, Bool.false_or, Bool.true_or, mj_kne, eq_self, Int32.reduceLT, Int32.reduceLE, Int32.reduceAdd, Int32.reduceSub, Int32.reduceMul, not_true_eq_false, not_false_eq_true, false_implies, true_implies, D_X6_seatedInAll, mj_F_aload_n_k, mj_F_getfield_i, mj_F_goto_off, mj_F_iadd, mj_F_iconst_n, mj_F_if_icmp_ge_off, mj_F_iinc_k_n, mj_F_iload_n_k, mj_F_invokevirtual_i, mj_F_ireturn, mj_F_istore_n_k, mj_set, mj_set0, mj_unk, mj_c2, mj_kc, FT_X6, L_X6_seatedInAll, List.take_succ_cons, List.take_zero, List.drop_succ_cons, List.drop_zero, List.reverse_cons, List.reverse_nil, List.length_cons, List.length_nil, gS_C55, gCf6_2, gS_C20, gCf1_1, J_X6_seatedInAll]
    exact hG.2 _ _ _ _ _ _ _ _ _ (by refine ⟨Or.inr rfl, ?_⟩; refine ⟨Or.inr rfl, ?_⟩; refine ⟨Or.inr rfl, ?_⟩; exact trivial) (Nat.zero_le _) (Nat.zero_le _) (hP _ (ok_some hw :) :)

set_option maxHeartbeats 4000000 in
set_option maxRecDepth 20000 in
theorem g_X6_seatedInAll_29 {k : Option Value → mj_H → Prop} {G : mj_K} (hG : mj_cl2 cX6_seatedInAll (TbX6 3 ((some FieldType.int)) ct_X6_seatedInAll) k G)   {v1 : Int32} {s : St} (hw : ok (F_X6_seatedInAll_29 v1 s) (fun p => k (some (.int p)) (mkCs s))) : G 29 [mj_unk, .int v1] [] (mkCs s) 0 0 := by
  unfold F_X6_seatedInAll_29 at hw
  refine mj_run hG.1 (fun pc => pc == 4 || pc == 21 || pc == 29) 4000 ?_
  simp only [mj_step, mj_W_s, mj_fin, List.getElem?_cons_zero, List.getElem?_cons_succ, mj_go, Nat.reduceAdd, Nat.reduceSub, Nat.reduceLT, Nat.reduceLeDiff, Nat.zero_add, Nat.reduceEqDiff, Nat.reduceBEq, ↓reduceIte, Bool.false_eq_true, List.append_nil, List.nil_append, List.cons_append, Option.toList, and_true, true_and, true_or, or_true, reduceCtorEq, List.map_nil, bI_eq0, bI_eq1, bool_ft, pk_us, vnar0, vnar1, Bool.or_false, Bool.or_true, Bool.false_or, Bool.true_or, mj_kne, eq_self, Int32.reduceLT, Int32.reduceLE, Int32.reduceAdd, Int32.reduceSub, Int32.reduceMul, not_true_eq_false, not_false_eq_true, false_implies, true_implies, D_X6_seatedInAll, mj_F_aload_n_k, mj_F_getfield_i, mj_F_goto_off, mj_F_iadd, mj_F_iconst_n, mj_F_if_icmp_ge_off, mj_F_iinc_k_n, mj_F_iload_n_k, mj_F_invokevirtual_i, mj_F_ireturn, mj_F_istore_n_k, mj_set, mj_set0, mj_unk, mj_c2, mj_kc, FT_X6, L_X6_seatedInAll, List.take_succ_cons, List.take_zero, List.drop_succ_cons, List.drop_zero, List.reverse_cons, List.reverse_nil, List.length_cons, List.length_nil, gS_C55, gCf6_2, gS_C20, gCf1_1, J_X6_seatedInAll]
  exact (ok_some hw :)

set_option maxHeartbeats 4000000 in
theorem g_X6_seatedInAll_4 {k : Option Value → mj_H → Prop} {G : mj_K} (hG : mj_cl2 cX6_seatedInAll (TbX6 3 ((some FieldType.int)) ct_X6_seatedInAll) k G)   {v1 : Int32} {v2 : Int32} {s : St} (hw : ok (F_X6_seatedInAll_4 v1 v2 s) (fun p => k (some (.int p)) (mkCs s))) : G 4 [.ref 55, .int v1, .int v2] [] (mkCs s) 0 0 := by
  unfold F_X6_seatedInAll_4 at hw
  refine lp_ok (B_X6_seatedInAll_4 s) (fun x => G 4 [.ref 55, .int x.1, .int x.2] [] (mkCs s) 0 0) _ ?_ _ _ (ok_bind hw)
  rintro ⟨v1, v2⟩ hb
  exact b_X6_seatedInAll_4 hG (fun _ z => z) (fun y hw => by exact hG.2 _ _ _ _ _ _ _ _ _ (by refine ⟨Or.inl rfl, ?_⟩; refine ⟨Or.inr rfl, ?_⟩; exact trivial) (Nat.zero_le _) (Nat.zero_le _) (g_X6_seatedInAll_29 hG  hw :)) hb

set_option maxHeartbeats 4000000 in
set_option maxRecDepth 20000 in
theorem g_X6_seatedInAll {k : Option Value → mj_H → Prop} {G : mj_K} (hG : mj_cl2 cX6_seatedInAll (TbX6 3 ((some FieldType.int)) ct_X6_seatedInAll) k G) {s : St} (hw : ok (F_X6_seatedInAll s) (fun p => k (some (.int p)) (mkCs s))) : G 0 [.ref 55] [] (mkCs s) 0 0 := by
  unfold F_X6_seatedInAll at hw
  refine mj_run hG.1 (fun pc => pc == 4 || pc == 21 || pc == 29) 4000 ?_
  simp only [mj_step, mj_W_s, mj_fin, List.getElem?_cons_zero, List.getElem?_cons_succ, mj_go, Nat.reduceAdd, Nat.reduceSub, Nat.reduceLT, Nat.reduceLeDiff, Nat.zero_add, Nat.reduceEqDiff, Nat.reduceBEq, ↓reduceIte, Bool.false_eq_true, List.append_nil, List.nil_append, List.cons_append, Option.toList, and_true, true_and, true_or, or_true, reduceCtorEq, List.map_nil, bI_eq0, bI_eq1, bool_ft, pk_us, vnar0, vnar1, Bool.or_false, Bool.or_true, Bool.false_or, Bool.true_or, mj_kne, eq_self, Int32.reduceLT, Int32.reduceLE, Int32.reduceAdd, Int32.reduceSub, Int32.reduceMul, not_true_eq_false, not_false_eq_true, false_implies, true_implies, D_X6_seatedInAll, mj_F_aload_n_k, mj_F_getfield_i, mj_F_goto_off, mj_F_iadd, mj_F_iconst_n, mj_F_if_icmp_ge_off, mj_F_iinc_k_n, mj_F_iload_n_k, mj_F_invokevirtual_i, mj_F_ireturn, mj_F_istore_n_k, mj_set, mj_set0, mj_unk, mj_c2, mj_kc, FT_X6, L_X6_seatedInAll, List.take_succ_cons, List.take_zero, List.drop_succ_cons, List.drop_zero, List.reverse_cons, List.reverse_nil, List.length_cons, List.length_nil, gS_C55, gCf6_2, gS_C20, gCf1_1, J_X6_seatedInAll]
  exact hG.2 _ _ _ _ _ _ _ _ _ (by refine ⟨Or.inr rfl, ?_⟩; refine ⟨Or.inr rfl, ?_⟩; refine ⟨Or.inr rfl, ?_⟩; exact trivial) (Nat.zero_le _) (Nat.zero_le _) (g_X6_seatedInAll_4 hG  hw :)

def c_X6_seatedInAll : mj_S := fun as h k => ∃ (s : St), as = [.ref 55] ∧ h = mkCs s ∧ ok (F_X6_seatedInAll s) (fun p => k (some (.int p)) (mkCs s))
theorem c_X6_seatedInAll_in {s : St} {k : Option Value → mj_H → Prop} (hw : ok (F_X6_seatedInAll s) (fun p => k (some (.int p)) (mkCs s))) : c_X6_seatedInAll [.ref 55] (mkCs s) k := ⟨s, rfl, rfl, hw⟩
theorem m_X6_seatedInAll (l : Launch) : mj_Met l yX6_seatedInAll cX6_seatedInAll 3 ((some FieldType.int)) 1 0 0 c_X6_seatedInAll := by
  refine mj_body2 false (TbX6 3 ((some FieldType.int)) ct_X6_seatedInAll) (by decide) rfl rfl (fun h => nomatch h) (tfX6 _ (List.forall_mem_cons.mpr ⟨cfX6_132 (m_X6_seatedOf l) (by decide), fun _ h => nomatch h⟩)) ?_
  rintro as h k ⟨s, rfl, rfl, hw⟩
  exact ⟨rfl, fun G hG => g_X6_seatedInAll hG hw⟩
def B_X6_queueThoseIn_5 (v1 : Int32) : Int32 × Int32 × St → Option ((Int32 × Int32 × St) ⊕ ((Int32 × St)))
  | (v3, v4, s) =>
  if (s.1 101) ≤ v4 then
    some (.inr (v3, s))
  else
    (rd s 609 24 v4).bind fun x1 =>
    if x1 = (-1) then
      (rd s 605 480 ((v4 * 20) + v1)).bind fun x2 =>
      if x2 ≤ 0 then
        some (.inl (v3, (v4 + 1), s))
      else
        if 24 ≤ v3 then
          some (.inl (v3, (v4 + 1), s))
        else
          (wr s 609 24 v4 v1).bind fun s3 =>
          (wr s3 611 24 v3 v4).bind fun s4 =>
          some (.inl ((v3 + 1), (v4 + 1), s4))
    else
      some (.inl (v3, (v4 + 1), s))
def F_X6_queueThoseIn_86 (v3 : Int32) (s : St) : Option (Int32 × St) :=
  some (v3, s)
def F_X6_queueThoseIn_5 (v1 : Int32) (v3 : Int32) (v4 : Int32) (s : St) : Option (Int32 × St) :=
  (lp (B_X6_queueThoseIn_5 v1) FU (v3, v4, s)).bind (fun y => F_X6_queueThoseIn_86 y.1 y.2)
def F_X6_queueThoseIn (v1 : Int32) (v2 : Int32) (s : St) : Option (Int32 × St) :=
  F_X6_queueThoseIn_5 v1 v2 0 s
theorem J_X6_queueThoseIn : mj_t 14 72 = 86 ∧ mj_t 25 22 = 47 ∧ mj_t 40 7 = 47 ∧ mj_t 44 4 = 48 ∧ mj_t 52 28 = 80 ∧ mj_t 58 22 = 80 ∧ mj_t 83 (-78) = 5 ∧ (0 ≤ ((14 : Nat) : Int) + 72) = True ∧ (0 ≤ ((25 : Nat) : Int) + 22) = True ∧ (0 ≤ ((40 : Nat) : Int) + 7) = True ∧ (0 ≤ ((44 : Nat) : Int) + 4) = True ∧ (0 ≤ ((52 : Nat) : Int) + 28) = True ∧ (0 ≤ ((58 : Nat) : Int) + 22) = True ∧ (0 ≤ ((83 : Nat) : Int) + (-78)) = True := by and_intros <;> first | rfl | exact eq_true (by decide)
set_option maxHeartbeats 4000000 in
set_option maxRecDepth 20000 in
theorem b_X6_queueThoseIn_5 {k : Option Value → mj_H → Prop} {G : mj_K} (hG : mj_cl2 cX6_queueThoseIn (TbX6 6 ((some FieldType.int)) []) k G) {v1 : Int32} {P : Int32 × Int32 × St → Prop} {K : (Int32 × St) → Prop} (hP : ∀ x, P x → G 5 [.ref 55, .int v1, mj_unk, .int x.1, .int x.2.1] [] (mkCs x.2.2) 0 0) (hK0 : ∀ y, K y → G 86 [mj_unk, mj_unk, mj_unk, .int y.1] [] (mkCs y.2) 0 0) {v3 : Int32} {v4 : Int32} {s : St} (hw : ok (B_X6_queueThoseIn_5 v1 (v3, v4, s)) (Sum.elim P K)) : G 5 [.ref 55, .int v1, mj_unk, .int v3, .int v4] [] (mkCs s) 0 0 := by
  unfold B_X6_queueThoseIn_5 at hw
  refine mj_run hG.1 (fun pc => pc == 5 || pc == 86) 4000 ?_
  simp only [mj_step, mj_W_s, mj_fin, List.getElem?_cons_zero, List.getElem?_cons_succ, mj_go, Nat.reduceAdd, Nat.reduceSub, Nat.reduceLT, Nat.reduceLeDiff, Nat.zero_add, Nat.reduceEqDiff, Nat.reduceBEq, ↓reduceIte, Bool.false_eq_true, List.append_nil, List.nil_append, List.cons_append, Option.toList, and_true, true_and, true_or, or_true, reduceCtorEq, List.map_nil, bI_eq0, bI_eq1, bool_ft, pk_us, vnar0, vnar1, Bool.or_false, Bool.or_true, Bool.false_or, Bool.true_or, mj_kne, eq_self, Int32.reduceLT, Int32.reduceLE, Int32.reduceAdd, Int32.reduceSub, Int32.reduceMul, not_true_eq_false, not_false_eq_true, false_implies, true_implies, D_X6_queueThoseIn, mj_F_aload_n_k, mj_F_bipush_n, mj_F_getfield_i, mj_F_goto_off, mj_F_iadd, mj_F_iaload, mj_F_iastore, mj_F_iconst_n, mj_F_ifCond_eq_off, mj_F_ifCond_le_off, mj_F_if_icmp_ge_off, mj_F_if_icmp_ne_off, mj_F_iinc_k_n, mj_F_iload_k, mj_F_iload_n_k, mj_F_imul, mj_F_ireturn, mj_F_istore_k, mj_F_istore_n_k, mj_set, mj_set0, mj_unk, mj_c2, mj_kc, FT_X6, gS_C55, gCf6_2, gS_C20, gCf1_1, gCf6_9, gS_C61, sS_Ca_61, gCf6_5, gS_C57, sS_Ca_57, gCf6_11, gS_C63, sS_Ca_63, J_X6_queueThoseIn]
  refine ⟨fun c => ?_, fun c => ?_⟩
  · replace hw := ok_t hw c
    exact hG.2 _ _ _ _ _ _ _ _ _ (by refine ⟨Or.inl rfl, ?_⟩; refine ⟨Or.inl rfl, ?_⟩; refine ⟨Or.inl rfl, ?_⟩; refine ⟨Or.inr rfl, ?_⟩; exact trivial) (Nat.zero_le _) (Nat.zero_le _) (hK0 _ (ok_some hw :) :)
  · replace hw := ok_f hw c
    refine ⟨(ok_rd hw).1, ?_⟩
    replace hw := (ok_rd hw).2
    refine ⟨fun c => ?_, fun c => ?_⟩
    · replace hw := ok_f hw c
      exact hG.2 _ _ _ _ _ _ _ _ _ (by refine ⟨Or.inr rfl, ?_⟩; refine ⟨Or.inr rfl, ?_⟩; refine ⟨Or.inl rfl, ?_⟩; refine ⟨Or.inr rfl, ?_⟩; refine ⟨Or.inr rfl, ?_⟩; exact trivial) (Nat.zero_le _) (Nat.zero_le _) (hP _ (ok_some hw :) :)
    · replace hw := ok_t hw c
      refine ⟨(ok_rd hw).1, ?_⟩
      replace hw := (ok_rd hw).2
      refine ⟨fun c => ?_, fun c => ?_⟩
      · replace hw := ok_t hw c
        exact hG.2 _ _ _ _ _ _ _ _ _ (by refine ⟨Or.inr rfl, ?_⟩; refine ⟨Or.inr rfl, ?_⟩; refine ⟨Or.inl rfl, ?_⟩; refine ⟨Or.inr rfl, ?_⟩; refine ⟨Or.inr rfl, ?_⟩; exact trivial) (Nat.zero_le _) (Nat.zero_le _) (hP _ (ok_some hw :) :)
      · replace hw := ok_f hw c
        refine ⟨fun c => ?_, fun c => ?_⟩
        · replace hw := ok_t hw c
          exact hG.2 _ _ _ _ _ _ _ _ _ (by refine ⟨Or.inr rfl, ?_⟩; refine ⟨Or.inr rfl, ?_⟩; refine ⟨Or.inl rfl, ?_⟩; refine ⟨Or.inr rfl, ?_⟩; refine ⟨Or.inr rfl, ?_⟩; exact trivial) (Nat.zero_le _) (Nat.zero_le _) (hP _ (ok_some hw :) :)
        · replace hw := ok_f hw c
          refine ⟨(ok_wr hw).1, ?_⟩
          replace hw := (ok_wr hw).2
          refine ⟨(ok_wr hw).1, ?_⟩
          replace hw := (ok_wr hw).2
          exact hG.2 _ _ _ _ _ _ _ _ _ (by refine ⟨Or.inr rfl, ?_⟩; refine ⟨Or.inr rfl, ?_⟩; refine ⟨Or.inl rfl, ?_⟩; refine ⟨Or.inr rfl, ?_⟩; refine ⟨Or.inr rfl, ?_⟩; exact trivial) (Nat.zero_le _) (Nat.zero_le _) (hP _ (ok_some hw :) :)

set_option maxHeartbeats 4000000 in
set_option maxRecDepth 20000 in
theorem g_X6_queueThoseIn_86 {k : Option Value → mj_H → Prop} {G : mj_K} (hG : mj_cl2 cX6_queueThoseIn (TbX6 6 ((some FieldType.int)) []) k G)   {v3 : Int32} {s : St} (hw : ok (F_X6_queueThoseIn_86 v3 s) (fun p => k (some (.int p.1)) (mkCs p.2))) : G 86 [mj_unk, mj_unk, mj_unk, .int v3] [] (mkCs s) 0 0 := by
  unfold F_X6_queueThoseIn_86 at hw
  refine mj_run hG.1 (fun pc => pc == 5 || pc == 86) 4000 ?_
  simp only [mj_step, mj_W_s, mj_fin, List.getElem?_cons_zero, List.getElem?_cons_succ, mj_go, Nat.reduceAdd, Nat.reduceSub, Nat.reduceLT, Nat.reduceLeDiff, Nat.zero_add, Nat.reduceEqDiff, Nat.reduceBEq, ↓reduceIte, Bool.false_eq_true, List.append_nil, List.nil_append, List.cons_append, Option.toList, and_true, true_and, true_or, or_true, reduceCtorEq, List.map_nil, bI_eq0, bI_eq1, bool_ft, pk_us, vnar0, vnar1, Bool.or_false, Bool.or_true, Bool.false_or, Bool.true_or, mj_kne, eq_self, Int32.reduceLT, Int32.reduceLE, Int32.reduceAdd, Int32.reduceSub, Int32.reduceMul, not_true_eq_false, not_false_eq_true, false_implies, true_implies, D_X6_queueThoseIn, mj_F_aload_n_k, mj_F_bipush_n, mj_F_getfield_i, mj_F_goto_off, mj_F_iadd, mj_F_iaload, mj_F_iastore, mj_F_iconst_n, mj_F_ifCond_eq_off, mj_F_ifCond_le_off, mj_F_if_icmp_ge_off, mj_F_if_icmp_ne_off, mj_F_iinc_k_n, mj_F_iload_k, mj_F_iload_n_k, mj_F_imul, mj_F_ireturn, mj_F_istore_k, mj_F_istore_n_k, mj_set, mj_set0, mj_unk, mj_c2, mj_kc, FT_X6, gS_C55, gCf6_2, gS_C20, gCf1_1, gCf6_9, gS_C61, sS_Ca_61, gCf6_5, gS_C57, sS_Ca_57, gCf6_11, gS_C63, sS_Ca_63, J_X6_queueThoseIn]
  exact (ok_some hw :)

set_option maxHeartbeats 4000000 in
theorem g_X6_queueThoseIn_5 {k : Option Value → mj_H → Prop} {G : mj_K} (hG : mj_cl2 cX6_queueThoseIn (TbX6 6 ((some FieldType.int)) []) k G)   {v1 : Int32} {v3 : Int32} {v4 : Int32} {s : St} (hw : ok (F_X6_queueThoseIn_5 v1 v3 v4 s) (fun p => k (some (.int p.1)) (mkCs p.2))) : G 5 [.ref 55, .int v1, mj_unk, .int v3, .int v4] [] (mkCs s) 0 0 := by
  unfold F_X6_queueThoseIn_5 at hw
  refine lp_ok (B_X6_queueThoseIn_5 v1) (fun x => G 5 [.ref 55, .int v1, mj_unk, .int x.1, .int x.2.1] [] (mkCs x.2.2) 0 0) _ ?_ _ _ (ok_bind hw)
  rintro ⟨v3, v4, s⟩ hb
  exact b_X6_queueThoseIn_5 hG (fun _ z => z) (fun y hw => by exact hG.2 _ _ _ _ _ _ _ _ _ (by refine ⟨Or.inl rfl, ?_⟩; refine ⟨Or.inl rfl, ?_⟩; refine ⟨Or.inl rfl, ?_⟩; refine ⟨Or.inr rfl, ?_⟩; exact trivial) (Nat.zero_le _) (Nat.zero_le _) (g_X6_queueThoseIn_86 hG  hw :)) hb

set_option maxHeartbeats 4000000 in
set_option maxRecDepth 20000 in
theorem g_X6_queueThoseIn {k : Option Value → mj_H → Prop} {G : mj_K} (hG : mj_cl2 cX6_queueThoseIn (TbX6 6 ((some FieldType.int)) []) k G) {v1 : Int32} {v2 : Int32} {s : St} (hw : ok (F_X6_queueThoseIn v1 v2 s) (fun p => k (some (.int p.1)) (mkCs p.2))) : G 0 [.ref 55, .int v1, .int v2] [] (mkCs s) 0 0 := by
  unfold F_X6_queueThoseIn at hw
  refine mj_run hG.1 (fun pc => pc == 5 || pc == 86) 4000 ?_
  simp only [mj_step, mj_W_s, mj_fin, List.getElem?_cons_zero, List.getElem?_cons_succ, mj_go, Nat.reduceAdd, Nat.reduceSub, Nat.reduceLT, Nat.reduceLeDiff, Nat.zero_add, Nat.reduceEqDiff, Nat.reduceBEq, ↓reduceIte, Bool.false_eq_true, List.append_nil, List.nil_append, List.cons_append, Option.toList, and_true, true_and, true_or, or_true, reduceCtorEq, List.map_nil, bI_eq0, bI_eq1, bool_ft, pk_us, vnar0, vnar1, Bool.or_false, Bool.or_true, Bool.false_or, Bool.true_or, mj_kne, eq_self, Int32.reduceLT, Int32.reduceLE, Int32.reduceAdd, Int32.reduceSub, Int32.reduceMul, not_true_eq_false, not_false_eq_true, false_implies, true_implies, D_X6_queueThoseIn, mj_F_aload_n_k, mj_F_bipush_n, mj_F_getfield_i, mj_F_goto_off, mj_F_iadd, mj_F_iaload, mj_F_iastore, mj_F_iconst_n, mj_F_ifCond_eq_off, mj_F_ifCond_le_off, mj_F_if_icmp_ge_off, mj_F_if_icmp_ne_off, mj_F_iinc_k_n, mj_F_iload_k, mj_F_iload_n_k, mj_F_imul, mj_F_ireturn, mj_F_istore_k, mj_F_istore_n_k, mj_set, mj_set0, mj_unk, mj_c2, mj_kc, FT_X6, gS_C55, gCf6_2, gS_C20, gCf1_1, gCf6_9, gS_C61, sS_Ca_61, gCf6_5, gS_C57, sS_Ca_57, gCf6_11, gS_C63, sS_Ca_63, J_X6_queueThoseIn]
  exact hG.2 _ _ _ _ _ _ _ _ _ (by refine ⟨Or.inr rfl, ?_⟩; refine ⟨Or.inr rfl, ?_⟩; refine ⟨Or.inl rfl, ?_⟩; refine ⟨Or.inr rfl, ?_⟩; refine ⟨Or.inr rfl, ?_⟩; exact trivial) (Nat.zero_le _) (Nat.zero_le _) (g_X6_queueThoseIn_5 hG  hw :)

def c_X6_queueThoseIn : mj_S := fun as h k => ∃ (v1 : Int32) (v2 : Int32) (s : St), as = [.ref 55, .int v1, .int v2] ∧ h = mkCs s ∧ ok (F_X6_queueThoseIn v1 v2 s) (fun p => k (some (.int p.1)) (mkCs p.2))
theorem c_X6_queueThoseIn_in {v1 : Int32} {v2 : Int32} {s : St} {k : Option Value → mj_H → Prop} (hw : ok (F_X6_queueThoseIn v1 v2 s) (fun p => k (some (.int p.1)) (mkCs p.2))) : c_X6_queueThoseIn [.ref 55, .int v1, .int v2] (mkCs s) k := ⟨v1, v2, s, rfl, rfl, hw⟩
theorem m_X6_queueThoseIn (l : Launch) : mj_Met l yX6_queueThoseIn cX6_queueThoseIn 6 ((some FieldType.int)) 0 0 0 c_X6_queueThoseIn := by
  refine mj_body2 false (TbX6 6 ((some FieldType.int)) []) (by decide) rfl rfl (fun h => nomatch h) (tfX6 _ (fun _ h => nomatch h)) ?_
  rintro as h k ⟨v1, v2, s, rfl, rfl, hw⟩
  exact ⟨rfl, fun G hG => g_X6_queueThoseIn hG hw⟩
