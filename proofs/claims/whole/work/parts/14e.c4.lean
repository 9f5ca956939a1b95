/-! functional pictures, and that the bytecode keeps them (c4) -/
def B_X6_endOfChain_12  : Int32 × Int32 × St → Option ((Int32 × Int32 × St) ⊕ ((Int32 × St)))
  | (v1, v2, s) =>
  if (s.1 101) ≤ v2 then
    some (.inr (v1, s))
  else
    (wr s 609 24 v2 (-1)).bind fun s2 =>
    (rd s2 606 24 v2).bind fun x3 =>
    if x3 ≤ 0 then
      some (.inl (v1, (v2 + 1), s2))
    else
      (wr s2 609 24 v2 (-2)).bind fun s4 =>
      (wr s4 611 24 v1 v2).bind fun s5 =>
      some (.inl ((v1 + 1), (v2 + 1), s5))
def B_X6_endOfChain_86 (v2 : Int32) (v3 : Int32) : Int32 × Int32 × St → Option ((Int32 × Int32 × St) ⊕ ((Int32 × St) ⊕ (Int32 × St)))
  | (v1, v4, s) =>
  if (s.1 501) ≤ v4 then
    some (.inr (.inl (v1, s)))
  else
    (rd s 604 480 ((v3 * 20) + v4)).bind fun x7 =>
    if x7 = (-1) then
      some (.inl (v1, (v4 + 1), s))
    else
      (rd s 610 20 v4).bind fun x8 =>
      if x8 = (-1) then
        (wr s 610 20 v4 v3).bind fun s9 =>
        (rd s9 607 20 v4).bind fun x10 =>
        if x10 ≤ 0 then
          (F_X6_queueThoseIn v4 v1 s9).bind fun r11 =>
          some (.inl (r11.1, (v4 + 1), r11.2))
        else
          some (.inr (.inr (v4, s9)))
      else
        some (.inl (v1, (v4 + 1), s))
def F_X6_endOfChain_163 (v1 : Int32) (v2 : Int32) (s : St) : Option ((Int32 × Int32 × St) ⊕ ((St) ⊕ (Int32 × St))) :=
  some (.inl (v1, (v2 + 1), s))
def F_X6_endOfChain_86 (v1 : Int32) (v2 : Int32) (v3 : Int32) (v4 : Int32) (s : St) : Option ((Int32 × Int32 × St) ⊕ ((St) ⊕ (Int32 × St))) :=
  (lp (B_X6_endOfChain_86 v2 v3) FU (v1, v4, s)).bind (Sum.elim (fun y => F_X6_endOfChain_163 y.1 v2 y.2) (fun y => some (.inr (.inr (y.1, y.2)))))
def B_X6_endOfChain_65  : Int32 × Int32 × St → Option ((Int32 × Int32 × St) ⊕ ((St) ⊕ (Int32 × St)))
  | (v1, v2, s) =>
  if v1 ≤ v2 then
    some (.inr (.inl s))
  else
    if 24 ≤ v2 then
      some (.inr (.inl s))
    else
      (rd s 611 24 v2).bind fun x6 =>
      F_X6_endOfChain_86 v1 v2 x6 0 s
def F_X6_endOfChain_169 (s : St) : Option (Int32 × St) :=
  some ((-1), s)
def F_X6_endOfChain_146 (v4 : Int32) (s : St) : Option (Int32 × St) :=
  some (v4, s)
def F_X6_endOfChain_65 (v1 : Int32) (v2 : Int32) (s : St) : Option (Int32 × St) :=
  (lp (B_X6_endOfChain_65 ) FU (v1, v2, s)).bind (Sum.elim (fun y => F_X6_endOfChain_169 y) (fun y => F_X6_endOfChain_146 y.1 y.2))
def F_X6_endOfChain_63 (v1 : Int32) (s : St) : Option (Int32 × St) :=
  F_X6_endOfChain_65 v1 0 s
def F_X6_endOfChain_12 (v1 : Int32) (v2 : Int32) (s : St) : Option (Int32 × St) :=
  (lp (B_X6_endOfChain_12 ) FU (v1, v2, s)).bind (fun y => F_X6_endOfChain_63 y.1 y.2)
def F_X6_endOfChain (s : St) : Option (Int32 × St) :=
  (wF s 610 20 (-1)).bind fun s1 =>
  F_X6_endOfChain_12 0 0 s1
theorem J_X6_endOfChain : mj_t 20 43 = 63 ∧ mj_t 36 21 = 57 ∧ mj_t 60 (-48) = 12 ∧ mj_t 67 102 = 169 ∧ mj_t 73 96 = 169 ∧ mj_t 95 68 = 163 ∧ mj_t 111 46 = 157 ∧ mj_t 122 6 = 128 ∧ mj_t 125 32 = 157 ∧ mj_t 143 6 = 149 ∧ mj_t 160 (-74) = 86 ∧ mj_t 166 (-101) = 65 ∧ (0 ≤ ((20 : Nat) : Int) + 43) = True ∧ (0 ≤ ((36 : Nat) : Int) + 21) = True ∧ (0 ≤ ((60 : Nat) : Int) + (-48)) = True ∧ (0 ≤ ((67 : Nat) : Int) + 102) = True ∧ (0 ≤ ((73 : Nat) : Int) + 96) = True ∧ (0 ≤ ((95 : Nat) : Int) + 68) = True ∧ (0 ≤ ((111 : Nat) : Int) + 46) = True ∧ (0 ≤ ((122 : Nat) : Int) + 6) = True ∧ (0 ≤ ((125 : Nat) : Int) + 32) = True ∧ (0 ≤ ((143 : Nat) : Int) + 6) = True ∧ (0 ≤ ((160 : Nat) : Int) + (-74)) = True ∧ (0 ≤ ((166 : Nat) : Int) + (-101)) = True := by and_intros <;> first | rfl | exact eq_true (by decide)
def ct_X6_endOfChain : List (Nat × mj_Cs) := [(105, 2, 2, 99, 0, 0, c_fill), (143, 0, 3, 6, 0, 0, c_X6_queueThoseIn)]
theorem L_X6_endOfChain : mj_lk ct_X6_endOfChain 105 = some (2, 2, 99, 0, 0, c_fill) ∧ mj_lk ct_X6_endOfChain 143 = some (0, 3, 6, 0, 0, c_X6_queueThoseIn) := ⟨rfl, rfl⟩
set_option maxHeartbeats 4000000 in
set_option maxRecDepth 20000 in
theorem b_X6_endOfChain_12 {k : Option Value → mj_H → Prop} {G : mj_K} (hG : mj_cl2 cX6_endOfChain (TbX6 5 ((some FieldType.int)) ct_X6_endOfChain) k G)  {P : Int32 × Int32 × St → Prop} {K : (Int32 × St) → Prop} (hP : ∀ x, P x → G 12 [.ref 55, .int x.1, .int x.2.1] [] (mkCs x.2.2) 0 0) (hK0 : ∀ y, K y → G 63 [.ref 55, .int y.1] [] (mkCs y.2) 0 0) {v1 : Int32} {v2 : Int32} {s : St} (hw : ok (B_X6_endOfChain_12  (v1, v2, s)) (Sum.elim P K)) : G 12 [.ref 55, .int v1, .int v2] [] (mkCs s) 0 0 := by
  unfold B_X6_endOfChain_12 at hw
  refine mj_run hG.1 (fun pc => pc == 8 || pc == 12 || pc == 63 || pc == 65 || pc == 86 || pc == 146 || pc == 156 || pc == 163 || pc == 169) 4000 ?_
  simp only [mj_step, mj_W_s, mj_fin, List.getElem?_cons_zero, List.getElem?_cons_succ, mj_go, Nat.reduceAdd, Nat.reduceSub, Nat.reduceLT, Nat.reduceLeDiff, Nat.zero_add, Nat.reduceEqDiff, Nat.reduceBEq, ↓reduceIte, Bool.false_eq_true, List.append_nil, List.nil_append, List.cons_append, Option.toList, and_true, true_and, true_or, or_true, reduceCtorEq, List.map_nil, bI_eq0, bI_eq1, bool_ft, pk_us, vnar0, vnar1, Bool.or_false, Bool.or_true, Bool.false_or, Bool.true_or, mj_kne, eq_self, Int32.reduceLT, Int32.reduceLE, Int32.reduceAdd, Int32.reduceSub, Int32.reduceMul, not_true_eq_false, not_false_eq_true, false_implies, true_implies, D_X6_endOfChain_0, D_X6_endOfChain_1, mj_F_aload_n_k, mj_F_bipush_n, mj_F_getfield_i, mj_F_goto_off, mj_F_iadd, mj_F_iaload, mj_F_iastore, mj_F_iconst_n, mj_F_ifCond_le_off, mj_F_if_icmp_eq_off, mj_F_if_icmp_ge_off, mj_F_iinc_k_n, mj_F_iload_k, mj_F_iload_n_k, mj_F_imul, mj_F_invokestatic_i, mj_F_invokevirtual_i, mj_F_ireturn, mj_F_istore_k, mj_F_istore_n_k, mj_set, mj_set0, mj_unk, mj_c2, mj_kc, FT_X6, L_X6_endOfChain, List.take_succ_cons, List.take_zero, List.drop_succ_cons, List.drop_zero, List.reverse_cons, List.reverse_nil, List.length_cons, List.length_nil, gS_C55, gCf6_10, gS_C62, sS_Ca_62, gCf6_2, gS_C20, gCf1_1, gCf6_9, gS_C61, sS_Ca_61, gCf6_6, gS_C58, sS_Ca_58, gCf6_11, gS_C63, sS_Ca_63, gCf6_3, gS_C35, gCf5_1, gCf6_4, gS_C56, sS_Ca_56, gCf6_7, gS_C59, sS_Ca_59, sS_CF_62, sS_CF_61, sS_CF_58, sS_CF_63, sS_CF_56, sS_CF_59, J_X6_endOfChain]
  refine ⟨fun c => ?_, fun c => ?_⟩
  · replace hw := ok_t hw c
    exact hG.2 _ _ _ _ _ _ _ _ _ (by refine ⟨Or.inr rfl, ?_⟩; refine ⟨Or.inr rfl, ?_⟩; exact trivial) (Nat.zero_le _) (Nat.zero_le _) (hK0 _ (ok_some hw :) :)
  · replace hw := ok_f hw c
    refine ⟨(ok_wr hw).1, ?_⟩
    replace hw := (ok_wr hw).2
    refine ⟨(ok_rd hw).1, ?_⟩
    replace hw := (ok_rd hw).2
    refine ⟨fun c => ?_, fun c => ?_⟩
    · replace hw := ok_t hw c
      exact hG.2 _ _ _ _ _ _ _ _ _ (by refine ⟨Or.inr rfl, ?_⟩; refine ⟨Or.inr rfl, ?_⟩; refine ⟨Or.inr rfl, ?_⟩; exact trivial) (Nat.zero_le _) (Nat.zero_le _) (hP _ (ok_some hw :) :)
    · replace hw := ok_f hw c
      refine ⟨(ok_wr hw).1, ?_⟩
      replace hw := (ok_wr hw).2
      refine ⟨(ok_wr hw).1, ?_⟩
      replace hw := (ok_wr hw).2
      exact hG.2 _ _ _ _ _ _ _ _ _ (by refine ⟨Or.inr rfl, ?_⟩; refine ⟨Or.inr rfl, ?_⟩; refine ⟨Or.inr rfl, ?_⟩; exact trivial) (Nat.zero_le _) (Nat.zero_le _) (hP _ (ok_some hw :) :)

set_option maxHeartbeats 4000000 in
set_option maxRecDepth 20000 in
theorem b_X6_endOfChain_86 {k : Option Value → mj_H → Prop} {G : mj_K} (hG : mj_cl2 cX6_endOfChain (TbX6 5 ((some FieldType.int)) ct_X6_endOfChain) k G) {v2 : Int32} {v3 : Int32} {P : Int32 × Int32 × St → Prop} {K : (Int32 × St) ⊕ (Int32 × St) → Prop} (hP : ∀ x, P x → G 86 [.ref 55, .int x.1, .int v2, .int v3, .int x.2.1] [] (mkCs x.2.2) 0 0) (hK0 : ∀ y, K (.inl y) → G 163 [.ref 55, .int y.1, .int v2] [] (mkCs y.2) 0 0) (hK1 : ∀ y, K (.inr y) → G 146 [mj_unk, mj_unk, mj_unk, mj_unk, .int y.1] [] (mkCs y.2) 0 0) {v1 : Int32} {v4 : Int32} {s : St} (hw : ok (B_X6_endOfChain_86 v2 v3 (v1, v4, s)) (Sum.elim P K)) : G 86 [.ref 55, .int v1, .int v2, .int v3, .int v4] [] (mkCs s) 0 0 := by
  unfold B_X6_endOfChain_86 at hw
  refine mj_run hG.1 (fun pc => pc == 8 || pc == 12 || pc == 63 || pc == 65 || pc == 86 || pc == 146 || pc == 156 || pc == 163 || pc == 169) 4000 ?_
  simp only [mj_step, mj_W_s, mj_fin, List.getElem?_cons_zero, List.getElem?_cons_succ, mj_go, Nat.reduceAdd, Nat.reduceSub, Nat.reduceLT, Nat.reduceLeDiff, Nat.zero_add, Nat.reduceEqDiff, Nat.reduceBEq, ↓reduceIte, Bool.false_eq_true, List.append_nil, List.nil_append, List.cons_append, Option.toList, and_true, true_and, true_or, or_true, reduceCtorEq, List.map_nil, bI_eq0, bI_eq1, bool_ft, pk_us, vnar0, vnar1, Bool.or_false, Bool.or_true, Bool.false_or, Bool.true_or, mj_kne, eq_self, Int32.reduceLT, Int32.reduceLE, Int32.reduceAdd, Int32.reduceSub, Int32.reduceMul, not_true_eq_false, not_false_eq_true, false_implies, true_implies, D_X6_endOfChain_0, D_X6_endOfChain_1, mj_F_aload_n_k, mj_F_bipush_n, mj_F_getfield_i, mj_F_goto_off, mj_F_iadd, mj_F_iaload, mj_F_iastore, mj_F_iconst_n, mj_F_ifCond_le_off, mj_F_if_icmp_eq_off, mj_F_if_icmp_ge_off, mj_F_iinc_k_n, mj_F_iload_k, mj_F_iload_n_k, mj_F_imul, mj_F_invokestatic_i, mj_F_invokevirtual_i, mj_F_ireturn, mj_F_istore_k, mj_F_istore_n_k, mj_set, mj_set0, mj_unk, mj_c2, mj_kc, FT_X6, L_X6_endOfChain, List.take_succ_cons, List.take_zero, List.drop_succ_cons, List.drop_zero, List.reverse_cons, List.reverse_nil, List.length_cons, List.length_nil, gS_C55, gCf6_10, gS_C62, sS_Ca_62, gCf6_2, gS_C20, gCf1_1, gCf6_9, gS_C61, sS_Ca_61, gCf6_6, gS_C58, sS_Ca_58, gCf6_11, gS_C63, sS_Ca_63, gCf6_3, gS_C35, gCf5_1, gCf6_4, gS_C56, sS_Ca_56, gCf6_7, gS_C59, sS_Ca_59, sS_CF_62, sS_CF_61, sS_CF_58, sS_CF_63, sS_CF_56, sS_CF_59, J_X6_endOfChain]
  refine ⟨fun c => ?_, fun c => ?_⟩
  · replace hw := ok_t hw c
    exact hG.2 _ _ _ _ _ _ _ _ _ (by refine ⟨Or.inr rfl, ?_⟩; refine ⟨Or.inr rfl, ?_⟩; refine ⟨Or.inr rfl, ?_⟩; exact trivial) (Nat.zero_le _) (Nat.zero_le _) (hK0 _ (ok_some hw :) :)
  · replace hw := ok_f hw c
    refine ⟨(ok_rd hw).1, ?_⟩
    replace hw := (ok_rd hw).2
    refine ⟨fun c => ?_, fun c => ?_⟩
    · replace hw := ok_t hw c
      exact hG.2 _ _ _ _ _ _ _ _ _ (by refine ⟨Or.inr rfl, ?_⟩; refine ⟨Or.inr rfl, ?_⟩; refine ⟨Or.inr rfl, ?_⟩; refine ⟨Or.inr rfl, ?_⟩; refine ⟨Or.inr rfl, ?_⟩; exact trivial) (Nat.zero_le _) (Nat.zero_le _) (hP _ (ok_some hw :) :)
    · replace hw := ok_f hw c
      refine ⟨(ok_rd hw).1, ?_⟩
      replace hw := (ok_rd hw).2
      refine ⟨fun c => ?_, fun c => ?_⟩
      · replace hw := ok_t hw c
        refine ⟨(ok_wr hw).1, ?_⟩
        replace hw := (ok_wr hw).2
        refine ⟨(ok_rd hw).1, ?_⟩
        replace hw := (ok_rd hw).2
        refine ⟨fun c => ?_, fun c => ?_⟩
        · replace hw := ok_t hw c
          refine c_X6_queueThoseIn_in (ok_imp (ok_bind hw) ?_)
          intro p hw
          simp only [Option.toList, List.nil_append, List.cons_append, Nat.reduceSub]
          refine mj_run hG.1 (fun pc => pc == 8 || pc == 12 || pc == 63 || pc == 65 || pc == 86 || pc == 146 || pc == 156 || pc == 163 || pc == 169) 4000 ?_
          simp only [mj_step, mj_W_s, mj_fin, List.getElem?_cons_zero, List.getElem?_cons_succ, mj_go, Nat.reduceAdd, Nat.reduceSub, Nat.reduceLT, Nat.reduceLeDiff, Nat.zero_add, Nat.reduceEqDiff, Nat.reduceBEq, ↓reduceIte, Bool.false_eq_true, List.append_nil, List.nil_append, List.cons_append, Option.toList, and_true, true_and, true_or, or_true, reduceCtorEq, List.map_nil, bI_eq0, bI_eq1, bool_ft, pk_us, vnar0, vnar1, Bool.or_false, Bool.or_true, Bool.false_or, Bool.true_or, mj_kne, eq_self, Int32.reduceLT, Int32.reduceLE, Int32.reduceAdd, Int32.reduceSub, Int32.reduceMul, not_true_eq_false, not_false_eq_true, false_implies, true_implies, D_X6_endOfChain_0, D_X6_endOfChain_1, mj_F_aload_n_k, mj_F_bipush_n, mj_F_getfield_i, mj_F_goto_off, mj_F_iadd, mj_F_iaload, mj_F_iastore, mj_F_iconst_n, mj_F_ifCond_le_off, mj_F_if_icmp_eq_off, mj_F_if_icmp_ge_off, mj_F_iinc_k_n, mj_F_iload_k, mj_F_iload_n_k, mj_F_imul, mj_F_invokestatic_i, mj_F_invokevirtual_i, mj_F_ireturn, mj_F_istore_k, mj_F_istore_n_k, mj_set, mj_set0, mj_unk, mj_c2, mj_kc, FT_X6, L_X6_endOfChain, List.take_succ_cons, List.take_zero, List.drop_succ_cons, List.drop_zero, List.reverse_cons, List.reverse_nil, List.length_cons, List.length_nil, gS_C55, gCf6_10, gS_C62, sS_Ca_62, gCf6_2, gS_C20, gCf1_1, gCf6_9, gS_C61, sS_Ca_61, gCf6_6, gS_C58, sS_Ca_58, gCf6_11, gS_C63, sS_Ca_63, gCf6_3, gS_C35, gCf5_1, gCf6_4, gS_C56, sS_Ca_56, gCf6_7, gS_C59, sS_Ca_59, sS_CF_62, sS_CF_61, sS_CF_58, sS_CF_63, sS_CF_56, sS_CF_59, J_X6_endOfChain]
          exact hG.2 _ _ _ _ _ _ _ _ _ (by refine ⟨Or.inr rfl, ?_⟩; refine ⟨Or.inr rfl, ?_⟩; refine ⟨Or.inr rfl, ?_⟩; refine ⟨Or.inr rfl, ?_⟩; refine ⟨Or.inr rfl, ?_⟩; exact trivial) (Nat.zero_le _) (Nat.zero_le _) (hP _ (ok_some hw :) :)
        · replace hw := ok_f hw c
          exact hG.2 _ _ _ _ _ _ _ _ _ (by refine ⟨Or.inl rfl, ?_⟩; refine ⟨Or.inl rfl, ?_⟩; refine ⟨Or.inl rfl, ?_⟩; refine ⟨Or.inl rfl, ?_⟩; refine ⟨Or.inr rfl, ?_⟩; exact trivial) (Nat.zero_le _) (Nat.zero_le _) (hK1 _ (ok_some hw :) :)
      · replace hw := ok_f hw c
        exact hG.2 _ _ _ _ _ _ _ _ _ (by refine ⟨Or.inr rfl, ?_⟩; refine ⟨Or.inr rfl, ?_⟩; refine ⟨Or.inr rfl, ?_⟩; refine ⟨Or.inr rfl, ?_⟩; refine ⟨Or.inr rfl, ?_⟩; exact trivial) (Nat.zero_le _) (Nat.zero_le _) (hP _ (ok_some hw :) :)

set_option maxHeartbeats 4000000 in
set_option maxRecDepth 20000 in
theorem g_X6_endOfChain_163 {k : Option Value → mj_H → Prop} {G : mj_K} (hG : mj_cl2 cX6_endOfChain (TbX6 5 ((some FieldType.int)) ct_X6_endOfChain) k G)  {P : Int32 × Int32 × St → Prop} {K : (St) ⊕ (Int32 × St) → Prop} (hP : ∀ x, P x → G 65 [.ref 55, .int x.1, .int x.2.1] [] (mkCs x.2.2) 0 0) (hK0 : ∀ y, K (.inl y) → G 169 [] [] (mkCs y) 0 0) (hK1 : ∀ y, K (.inr y) → G 146 [mj_unk, mj_unk, mj_unk, mj_unk, .int y.1] [] (mkCs y.2) 0 0) {v1 : Int32} {v2 : Int32} {s : St} (hw : ok (F_X6_endOfChain_163 v1 v2 s) (Sum.elim P K)) : G 163 [.ref 55, .int v1, .int v2] [] (mkCs s) 0 0 := by
  unfold F_X6_endOfChain_163 at hw
  refine mj_run hG.1 (fun pc => pc == 8 || pc == 12 || pc == 63 || pc == 65 || pc == 86 || pc == 146 || pc == 156 || pc == 163 || pc == 169) 4000 ?_
  simp only [mj_step, mj_W_s, mj_fin, List.getElem?_cons_zero, List.getElem?_cons_succ, mj_go, Nat.reduceAdd, Nat.reduceSub, Nat.reduceLT, Nat.reduceLeDiff, Nat.zero_add, Nat.reduceEqDiff, Nat.reduceBEq, ↓reduceIte, Bool.false_eq_true, List.append_nil, List.nil_append, List.cons_append, Option.toList, and_true, true_and, true_or, or_true, reduceCtorEq, List.map_nil, bI_eq0, bI_eq1, bool_ft, pk_us, vnar0, vnar1, Bool.or_false, Bool.or_true, Bool.false_or, Bool.true_or, mj_kne, eq_self, Int32.reduceLT, Int32.reduceLE, Int32.reduceAdd, Int32.reduceSub, Int32.reduceMul, not_true_eq_false, not_false_eq_true, false_implies, true_implies, D_X6_endOfChain_0, D_X6_endOfChain_1, mj_F_aload_n_k, mj_F_bipush_n, mj_F_getfield_i, mj_F_goto_off, mj_F_iadd, mj_F_iaload, mj_F_iastore, mj_F_iconst_n, mj_F_ifCond_le_off, mj_F_if_icmp_eq_off, mj_F_if_icmp_ge_off, mj_F_iinc_k_n, mj_F_iload_k, mj_F_iload_n_k, mj_F_imul, mj_F_invokestatic_i, mj_F_invokevirtual_i, mj_F_ireturn, mj_F_istore_k, mj_F_istore_n_k, mj_set, mj_set0, mj_unk, mj_c2, mj_kc, FT_X6, L_X6_endOfChain, List.take_succ_cons, List.take_zero, List.drop_succ_cons, List.drop_zero, List.reverse_cons, List.reverse_nil, List.length_cons, List.length_nil, gS_C55, gCf6_10, gS_C62, sS_Ca_62, gCf6_2, gS_C20, gCf1_1, gCf6_9, gS_C61, sS_Ca_61, gCf6_6, gS_C58, sS_Ca_58, gCf6_11, gS_C63, sS_Ca_63, gCf6_3, gS_C35, gCf5_1, gCf6_4, gS_C56, sS_Ca_56, gCf6_7, gS_C59, sS_Ca_59, sS_CF_62, sS_CF_61, sS_CF_58, sS_CF_63, sS_CF_56, sS_CF_59, J_X6_endOfChain]
  exact hG.2 _ _ _ _ _ _ _ _ _ (by refine ⟨Or.inr rfl, ?_⟩; refine ⟨Or.inr rfl, ?_⟩; refine ⟨Or.inr rfl, ?_⟩; exact trivial) (Nat.zero_le _) (Nat.zero_le _) (hP _ (ok_some hw :) :)

set_option maxHeartbeats 4000000 in
theorem g_X6_endOfChain_86 {k : Option Value → mj_H → Prop} {G : mj_K} (hG : mj_cl2 cX6_endOfChain (TbX6 5 ((some FieldType.int)) ct_X6_endOfChain) k G)  {P : Int32 × Int32 × St → Prop} {K : (St) ⊕ (Int32 × St) → Prop} (hP : ∀ x, P x → G 65 [.ref 55, .int x.1, .int x.2.1] [] (mkCs x.2.2) 0 0) (hK0 : ∀ y, K (.inl y) → G 169 [] [] (mkCs y) 0 0) (hK1 : ∀ y, K (.inr y) → G 146 [mj_unk, mj_unk, mj_unk, mj_unk, .int y.1] [] (mkCs y.2) 0 0) {v1 : Int32} {v2 : Int32} {v3 : Int32} {v4 : Int32} {s : St} (hw : ok (F_X6_endOfChain_86 v1 v2 v3 v4 s) (Sum.elim P K)) : G 86 [.ref 55, .int v1, .int v2, .int v3, .int v4] [] (mkCs s) 0 0 := by
  unfold F_X6_endOfChain_86 at hw
  refine lp_ok (B_X6_endOfChain_86 v2 v3) (fun x => G 86 [.ref 55, .int x.1, .int v2, .int v3, .int x.2.1] [] (mkCs x.2.2) 0 0) _ ?_ _ _ (ok_bind hw)
  rintro ⟨v1, v4, s⟩ hb
  exact b_X6_endOfChain_86 hG (fun _ z => z) (fun y hw => by exact hG.2 _ _ _ _ _ _ _ _ _ (by refine ⟨Or.inr rfl, ?_⟩; refine ⟨Or.inr rfl, ?_⟩; refine ⟨Or.inr rfl, ?_⟩; exact trivial) (Nat.zero_le _) (Nat.zero_le _) (g_X6_endOfChain_163 hG hP hK0 hK1  hw :)) (fun y hw => by exact hG.2 _ _ _ _ _ _ _ _ _ (by refine ⟨Or.inl rfl, ?_⟩; refine ⟨Or.inl rfl, ?_⟩; refine ⟨Or.inl rfl, ?_⟩; refine ⟨Or.inl rfl, ?_⟩; refine ⟨Or.inr rfl, ?_⟩; exact trivial) (Nat.zero_le _) (Nat.zero_le _) (hK1 _ (ok_some hw :) :)) hb

set_option maxHeartbeats 4000000 in
set_option maxRecDepth 20000 in
theorem b_X6_endOfChain_65 {k : Option Value → mj_H → Prop} {G : mj_K} (hG : mj_cl2 cX6_endOfChain (TbX6 5 ((some FieldType.int)) ct_X6_endOfChain) k G)  {P : Int32 × Int32 × St → Prop} {K : (St) ⊕ (Int32 × St) → Prop} (hP : ∀ x, P x → G 65 [.ref 55, .int x.1, .int x.2.1] [] (mkCs x.2.2) 0 0) (hK0 : ∀ y, K (.inl y) → G 169 [] [] (mkCs y) 0 0) (hK1 : ∀ y, K (.inr y) → G 146 [mj_unk, mj_unk, mj_unk, mj_unk, .int y.1] [] (mkCs y.2) 0 0) {v1 : Int32} {v2 : Int32} {s : St} (hw : ok (B_X6_endOfChain_65  (v1, v2, s)) (Sum.elim P K)) : G 65 [.ref 55, .int v1, .int v2] [] (mkCs s) 0 0 := by
  unfold B_X6_endOfChain_65 at hw
  refine mj_run hG.1 (fun pc => pc == 8 || pc == 12 || pc == 63 || pc == 65 || pc == 86 || pc == 146 || pc == 156 || pc == 163 || pc == 169) 4000 ?_
  simp only [mj_step, mj_W_s, mj_fin, List.getElem?_cons_zero, List.getElem?_cons_succ, mj_go, Nat.reduceAdd, Nat.reduceSub, Nat.reduceLT, Nat.reduceLeDiff, Nat.zero_add, Nat.reduceEqDiff, Nat.reduceBEq, ↓reduceIte, Bool.false_eq_true, List.append_nil, List.nil_append, List.cons_append, Option.toList, and_true, true_and, true_or, or_true, reduceCtorEq, List.map_nil, bI_eq0, bI_eq1, bool_ft, pk_us, vnar0, vnar1, Bool.or_false, Bool.or_true, Bool.false_or, Bool.true_or, mj_kne, eq_self, Int32.reduceLT, Int32.reduceLE, Int32.reduceAdd, Int32.reduceSub, Int32.reduceMul, not_true_eq_false, not_false_eq_true, false_implies, true_implies, D_X6_endOfChain_0, D_X6_endOfChain_1, mj_F_aload_n_k, mj_F_bipush_n, mj_F_getfield_i, mj_F_goto_off, mj_F_iadd, mj_F_iaload, mj_F_iastore, mj_F_iconst_n, mj_F_ifCond_le_off, mj_F_if_icmp_eq_off, mj_F_if_icmp_ge_off, mj_F_iinc_k_n, mj_F_iload_k, mj_F_iload_n_k, mj_F_imul, mj_F_invokestatic_i, mj_F_invokevirtual_i, mj_F_ireturn, mj_F_istore_k, mj_F_istore_n_k, mj_set, mj_set0, mj_unk, mj_c2, mj_kc, FT_X6, L_X6_endOfChain, List.take_succ_cons, List.take_zero, List.drop_succ_cons, List.drop_zero, List.reverse_cons, List.reverse_nil, List.length_cons, List.length_nil, gS_C55, gCf6_10, gS_C62, sS_Ca_62, gCf6_2, gS_C20, gCf1_1, gCf6_9, gS_C61, sS_Ca_61, gCf6_6, gS_C58, sS_Ca_58, gCf6_11, gS_C63, sS_Ca_63, gCf6_3, gS_C35, gCf5_1, gCf6_4, gS_C56, sS_Ca_56, gCf6_7, gS_C59, sS_Ca_59, sS_CF_62, sS_CF_61, sS_CF_58, sS_CF_63, sS_CF_56, sS_CF_59, J_X6_endOfChain]
  refine ⟨fun c => ?_, fun c => ?_⟩
  · replace hw := ok_t hw c
    exact hG.2 _ _ _ _ _ _ _ _ _ (by exact trivial) (Nat.zero_le _) (Nat.zero_le _) (hK0 _ (ok_some hw :) :)
  · replace hw := ok_f hw c
    refine ⟨fun c => ?_, fun c => ?_⟩
    · replace hw := ok_t hw c
      exact hG.2 _ _ _ _ _ _ _ _ _ (by exact trivial) (Nat.zero_le _) (Nat.zero_le _) (hK0 _ (ok_some hw :) :)
    · replace hw := ok_f hw c
      refine ⟨(ok_rd hw).1, ?_⟩
      replace hw := (ok_rd hw).2
      exact hG.2 _ _ _ _ _ _ _ _ _ (by refine ⟨Or.inr rfl, ?_⟩; refine ⟨Or.inr rfl, ?_⟩; refine ⟨Or.inr rfl, ?_⟩; refine ⟨Or.inr rfl, ?_⟩; refine ⟨Or.inr rfl, ?_⟩; exact trivial) (Nat.zero_le _) (Nat.zero_le _) (g_X6_endOfChain_86 hG hP hK0 hK1  hw :)

set_option maxHeartbeats 4000000 in
set_option maxRecDepth 20000 in
theorem g_X6_endOfChain_169 {k : Option Value → mj_H → Prop} {G : mj_K} (hG : mj_cl2 cX6_endOfChain (TbX6 5 ((some FieldType.int)) ct_X6_endOfChain) k G)   {s : St} (hw : ok (F_X6_endOfChain_169 s) (fun p => k (some (.int p.1)) (mkCs p.2))) : G 169 [] [] (mkCs s) 0 0 := by
  unfold F_X6_endOfChain_169 at hw
  refine mj_run hG.1 (fun pc => pc == 8 || pc == 12 || pc == 63 || pc == 65 || pc == 86 || pc == 146 || pc == 156 || pc == 163 || pc == 169) 4000 ?_
  simp only [mj_step, mj_W_s, mj_fin, List.getElem?_cons_zero, List.getElem?_cons_succ, mj_go, Nat.reduceAdd, Nat.reduceSub, Nat.reduceLT, Nat.reduceLeDiff, Nat.zero_add, Nat.reduceEqDiff, Nat.reduceBEq, ↓reduceIte, Bool.false_eq_true, List.append_nil, List.nil_append, List.cons_append, Option.toList, and_true, true_and, true_or, or_true, reduceCtorEq, List.map_nil, bI_eq0, bI_eq1, bool_ft, pk_us, vnar0, vnar1, Bool.or_false, Bool.or_true, Bool.false_or, Bool.true_or, mj_kne, eq_self, Int32.reduceLT, Int32.reduceLE, Int32.reduceAdd, Int32.reduceSub, Int32.reduceMul, not_true_eq_false, not_false_eq_true, false_implies, true_implies, D_X6_endOfChain_0, D_X6_endOfChain_1, mj_F_aload_n_k, mj_F_bipush_n, mj_F_getfield_i, mj_F_goto_off, mj_F_iadd, mj_F_iaload, mj_F_iastore, mj_F_iconst_n, mj_F_ifCond_le_off, mj_F_if_icmp_eq_off, mj_F_if_icmp_ge_off, mj_F_iinc_k_n, mj_F_iload_k, mj_F_iload_n_k, mj_F_imul, mj_F_invokestatic_i, mj_F_invokevirtual_i, mj_F_ireturn, mj_F_istore_k, mj_F_istore_n_k, mj_set, mj_set0, mj_unk, mj_c2, mj_kc, FT_X6, L_X6_endOfChain, List.take_succ_cons, List.take_zero, List.drop_succ_cons, List.drop_zero, List.reverse_cons, List.reverse_nil, List.length_cons, List.length_nil, gS_C55, gCf6_10, gS_C62, sS_Ca_62, gCf6_2, gS_C20, gCf1_1, gCf6_9, gS_C61, sS_Ca_61, gCf6_6, gS_C58, sS_Ca_58, gCf6_11, gS_C63, sS_Ca_63, gCf6_3, gS_C35, gCf5_1, gCf6_4, gS_C56, sS_Ca_56, gCf6_7, gS_C59, sS_Ca_59, sS_CF_62, sS_CF_61, sS_CF_58, sS_CF_63, sS_CF_56, sS_CF_59, J_X6_endOfChain]
  exact (ok_some hw :)

set_option maxHeartbeats 4000000 in
set_option maxRecDepth 20000 in
theorem g_X6_endOfChain_146 {k : Option Value → mj_H → Prop} {G : mj_K} (hG : mj_cl2 cX6_endOfChain (TbX6 5 ((some FieldType.int)) ct_X6_endOfChain) k G)   {v4 : Int32} {s : St} (hw : ok (F_X6_endOfChain_146 v4 s) (fun p => k (some (.int p.1)) (mkCs p.2))) : G 146 [mj_unk, mj_unk, mj_unk, mj_unk, .int v4] [] (mkCs s) 0 0 := by
  unfold F_X6_endOfChain_146 at hw
  refine mj_run hG.1 (fun pc => pc == 8 || pc == 12 || pc == 63 || pc == 65 || pc == 86 || pc == 146 || pc == 156 || pc == 163 || pc == 169) 4000 ?_
  simp only [mj_step, mj_W_s, mj_fin, List.getElem?_cons_zero, List.getElem?_cons_succ, mj_go, Nat.reduceAdd, Nat.reduceSub, Nat.reduceLT, Nat.reduceLeDiff, Nat.zero_add, Nat.reduceEqDiff, Nat.reduceBEq, ↓reduceIte, Bool.false_eq_true, List.append_nil, List.nil_append, List.cons_append, Option.toList, and_true, true_and, true_or, or_true, reduceCtorEq, List.map_nil, bI_eq0, bI_eq1, bool_ft, pk_us, vnar0, vnar1, Bool.or_false, Bool.or_true, Bool.false_or, Bool.true_or, mj_kne, eq_self, Int32.reduceLT, Int32.reduceLE, Int32.reduceAdd, Int32.reduceSub, Int32.reduceMul, not_true_eq_false, not_false_eq_true, false_implies, true_implies, D_X6_endOfChain_0, D_X6_endOfChain_1, mj_F_aload_n_k, mj_F_bipush_n, mj_F_getfield_i, mj_F_goto_off, mj_F_iadd, mj_F_iaload, mj_F_iastore, mj_F_iconst_n, mj_F_ifCond_le_off, mj_F_if_icmp_eq_off, mj_F_if_icmp_ge_off, mj_F_iinc_k_n, mj_F_iload_k, mj_F_iload_n_k, mj_F_imul, mj_F_invokestatic_i, mj_F_invokevirtual_i, mj_F_ireturn, mj_F_istore_k, mj_F_istore_n_k, mj_set, mj_set0, mj_unk, mj_c2, mj_kc, FT_X6, L_X6_endOfChain, List.take_succ_cons, List.take_zero, List.drop_succ_cons, List.drop_zero, List.reverse_cons, List.reverse_nil, List.length_cons, List.length_nil, gS_C55, gCf6_10, gS_C62, sS_Ca_62, gCf6_2, gS_C20, gCf1_1, gCf6_9, gS_C61, sS_Ca_61, gCf6_6, gS_C58, sS_Ca_58, gCf6_11, gS_C63, sS_Ca_63, gCf6_3, gS_C35, gCf5_1, gCf6_4, gS_C56, sS_Ca_56, gCf6_7, gS_C59, sS_Ca_59, sS_CF_62, sS_CF_61, sS_CF_58, sS_CF_63, sS_CF_56, sS_CF_59, J_X6_endOfChain]
  exact (ok_some hw :)

set_option maxHeartbeats 4000000 in
theorem g_X6_endOfChain_65 {k : Option Value → mj_H → Prop} {G : mj_K} (hG : mj_cl2 cX6_endOfChain (TbX6 5 ((some FieldType.int)) ct_X6_endOfChain) k G)   {v1 : Int32} {v2 : Int32} {s : St} (hw : ok (F_X6_endOfChain_65 v1 v2 s) (fun p => k (some (.int p.1)) (mkCs p.2))) : G 65 [.ref 55, .int v1, .int v2] [] (mkCs s) 0 0 := by
  unfold F_X6_endOfChain_65 at hw
  refine lp_ok (B_X6_endOfChain_65 ) (fun x => G 65 [.ref 55, .int x.1, .int x.2.1] [] (mkCs x.2.2) 0 0) _ ?_ _ _ (ok_bind hw)
  rintro ⟨v1, v2, s⟩ hb
  exact b_X6_endOfChain_65 hG (fun _ z => z) (fun y hw => by exact hG.2 _ _ _ _ _ _ _ _ _ (by exact trivial) (Nat.zero_le _) (Nat.zero_le _) (g_X6_endOfChain_169 hG  hw :)) (fun y hw => by exact hG.2 _ _ _ _ _ _ _ _ _ (by refine ⟨Or.inl rfl, ?_⟩; refine ⟨Or.inl rfl, ?_⟩; refine ⟨Or.inl rfl, ?_⟩; refine ⟨Or.inl rfl, ?_⟩; refine ⟨Or.inr rfl, ?_⟩; exact trivial) (Nat.zero_le _) (Nat.zero_le _) (g_X6_endOfChain_146 hG  hw :)) hb

set_option maxHeartbeats 4000000 in
set_option maxRecDepth 20000 in
theorem g_X6_endOfChain_63 {k : Option Value → mj_H → Prop} {G : mj_K} (hG : mj_cl2 cX6_endOfChain (TbX6 5 ((some FieldType.int)) ct_X6_endOfChain) k G)   {v1 : Int32} {s : St} (hw : ok (F_X6_endOfChain_63 v1 s) (fun p => k (some (.int p.1)) (mkCs p.2))) : G 63 [.ref 55, .int v1] [] (mkCs s) 0 0 := by
  unfold F_X6_endOfChain_63 at hw
  refine mj_run hG.1 (fun pc => pc == 8 || pc == 12 || pc == 63 || pc == 65 || pc == 86 || pc == 146 || pc == 156 || pc == 163 || pc == 169) 4000 ?_
  simp only [mj_step, mj_W_s, mj_fin, List.getElem?_cons_zero, List.getElem?_cons_succ, mj_go, Nat.reduceAdd, Nat.reduceSub, Nat.reduceLT, Nat.reduceLeDiff, Nat.zero_add, Nat.reduceEqDiff, Nat.reduceBEq, ↓reduceIte, Bool.false_eq_true, List.append_nil, List.nil_append, List.cons_append, Option.toList, and_true, true_and, true_or, or_true, reduceCtorEq, List.map_nil, bI_eq0, bI_eq1, bool_ft, pk_us, vnar0, vnar1, Bool.or_false, Bool.or_true, Bool.false_or, Bool.true_or, mj_kne, eq_self, Int32.reduceLT, Int32.reduceLE, Int32.reduceAdd, Int32.reduceSub, Int32.reduceMul, not_true_eq_false, not_false_eq_true, false_implies, true_implies, D_X6_endOfChain_0, D_X6_endOfChain_1, mj_F_aload_n_k, mj_F_bipush_n, mj_F_getfield_i, mj_F_goto_off, mj_F_iadd, mj_F_iaload, mj_F_iastore, mj_F_iconst_n, mj_F_ifCond_le_off, mj_F_if_icmp_eq_off, mj_F_if_icmp_ge_off, mj_F_iinc_k_n, mj_F_iload_k, mj_F_iload_n_k, mj_F_imul, mj_F_invokestatic_i, mj_F_invokevirtual_i, mj_F_ireturn, mj_F_istore_k, mj_F_istore_n_k, mj_set, mj_set0, mj_unk, mj_c2, mj_kc, FT_X6, L_X6_endOfChain, List.take_succ_cons, List.take_zero, List.drop_succ_cons, List.drop_zero, List.reverse_cons, List.reverse_nil, List.length_cons, List.length_nil, gS_C55, gCf6_10, gS_C62, sS_Ca_62, gCf6_2, gS_C20, gCf1_1, gCf6_9, gS_C61, sS_Ca_61, gCf6_6, gS_C58, sS_Ca_58, gCf6_11, gS_C63, sS_Ca_63, gCf6_3, gS_C35, gCf5_1, gCf6_4, gS_C56, sS_Ca_56, gCf6_7, gS_C59, sS_Ca_59, sS_CF_62, sS_CF_61, sS_CF_58, sS_CF_63, sS_CF_56, sS_CF_59, J_X6_endOfChain]
  exact hG.2 _ _ _ _ _ _ _ _ _ (by refine ⟨Or.inr rfl, ?_⟩; refine ⟨Or.inr rfl, ?_⟩; refine ⟨Or.inr rfl, ?_⟩; exact trivial) (Nat.zero_le _) (Nat.zero_le _) (g_X6_endOfChain_65 hG  hw :)

set_option maxHeartbeats 4000000 in
theorem g_X6_endOfChain_12 {k : Option Value → mj_H → Prop} {G : mj_K} (hG : mj_cl2 cX6_endOfChain (TbX6 5 ((some FieldType.int)) ct_X6_endOfChain) k G)   {v1 : Int32} {v2 : Int32} {s : St} (hw : ok (F_X6_endOfChain_12 v1 v2 s) (fun p => k (some (.int p.1)) (mkCs p.2))) : G 12 [.ref 55, .int v1, .int v2] [] (mkCs s) 0 0 := by
  unfold F_X6_endOfChain_12 at hw
  refine lp_ok (B_X6_endOfChain_12 ) (fun x => G 12 [.ref 55, .int x.1, .int x.2.1] [] (mkCs x.2.2) 0 0) _ ?_ _ _ (ok_bind hw)
  rintro ⟨v1, v2, s⟩ hb
  exact b_X6_endOfChain_12 hG (fun _ z => z) (fun y hw => by exact hG.2 _ _ _ _ _ _ _ _ _ (by refine ⟨Or.inr rfl, ?_⟩; refine ⟨Or.inr rfl, ?_⟩; exact trivial) (Nat.zero_le _) (Nat.zero_le _) (g_X6_endOfChain_63 hG  hw :)) hb

set_option maxHeartbeats 4000000 in
set_option maxRecDepth 20000 in
theorem g_X6_endOfChain {k : Option Value → mj_H → Prop} {G : mj_K} (hG : mj_cl2 cX6_endOfChain (TbX6 5 ((some FieldType.int)) ct_X6_endOfChain) k G) {s : St} (hw : ok (F_X6_endOfChain s) (fun p => k (some (.int p.1)) (mkCs p.2))) : G 0 [.ref 55] [] (mkCs s) 0 0 := by
  unfold F_X6_endOfChain at hw
  refine mj_run hG.1 (fun pc => pc == 8 || pc == 12 || pc == 63 || pc == 65 || pc == 86 || pc == 146 || pc == 156 || pc == 163 || pc == 169) 4000 ?_
  simp only [mj_step, mj_W_s, mj_fin, List.getElem?_cons_zero, List.getElem?_cons_succ, mj_go, Nat.reduceAdd, Nat.reduceSub, Nat.reduceLT, Nat.reduceLeDiff, Nat.zero_add, Nat.reduceEqDiff, Nat.reduceBEq, ↓reduceIte, Bool.false_eq_true, List.append_nil, List.nil_append, List.cons_append, Option.toList, and_true, true_and, true_or, or_true, reduceCtorEq, List.map_nil, bI_eq0, bI_eq1, bool_ft, pk_us, vnar0, vnar1, Bool.or_false, Bool.or_true, Bool.false_or, Bool.true_or, mj_kne, eq_self, Int32.reduceLT, Int32.reduceLE, Int32.reduceAdd, Int32.reduceSub, Int32.reduceMul, not_true_eq_false, not_false_eq_true, false_implies, true_implies, D_X6_endOfChain_0, D_X6_endOfChain_1, mj_F_aload_n_k, mj_F_bipush_n, mj_F_getfield_i, mj_F_goto_off, mj_F_iadd, mj_F_iaload, mj_F_iastore, mj_F_iconst_n, mj_F_ifCond_le_off, mj_F_if_icmp_eq_off, mj_F_if_icmp_ge_off, mj_F_iinc_k_n, mj_F_iload_k, mj_F_iload_n_k, mj_F_imul, mj_F_invokestatic_i, mj_F_invokevirtual_i, mj_F_ireturn, mj_F_istore_k, mj_F_istore_n_k, mj_set, mj_set0, mj_unk, mj_c2, mj_kc, FT_X6, L_X6_endOfChain, List.take_succ_cons, List.take_zero, List.drop_succ_cons, List.drop_zero, List.reverse_cons, List.reverse_nil, List.length_cons, List.length_nil, gS_C55, gCf6_10, gS_C62, sS_Ca_62, gCf6_2, gS_C20, gCf1_1, gCf6_9, gS_C61, sS_Ca_61, gCf6_6, gS_C58, sS_Ca_58, gCf6_11, gS_C63, sS_Ca_63, gCf6_3, gS_C35, gCf5_1, gCf6_4, gS_C56, sS_Ca_56, gCf6_7, gS_C59, sS_Ca_59, sS_CF_62, sS_CF_61, sS_CF_58, sS_CF_63, sS_CF_56, sS_CF_59, J_X6_endOfChain]
  replace hw := ok_wF hw
  refine c_fill_in (gS_C62 _) (by decide) ?_
  simp only [Nat.reduceSub, List.nil_append, Option.toList, sS_Ca_62, sS_Ca_61, sS_Ca_58, sS_Ca_63, sS_Ca_56, sS_Ca_59, sS_CF_62, sS_CF_61, sS_CF_58, sS_CF_63, sS_CF_56, sS_CF_59]
  refine mj_run hG.1 (fun pc => pc == 8 || pc == 12 || pc == 63 || pc == 65 || pc == 86 || pc == 146 || pc == 156 || pc == 163 || pc == 169) 4000 ?_
  simp only [mj_step, mj_W_s, mj_fin, List.getElem?_cons_zero, List.getElem?_cons_succ, mj_go, Nat.reduceAdd, Nat.reduceSub, Nat.reduceLT, Nat.reduceLeDiff, Nat.zero_add, Nat.reduceEqDiff, Nat.reduceBEq, ↓reduceIte, Bool.false_eq_true, List.append_nil, List.nil_append, List.cons_append, Option.toList, and_true, true_and, true_or, or_true, reduceCtorEq, List.map_nil, bI_eq0, bI_eq1, bool_ft, pk_us, vnar0, vnar1, Bool.or_false, Bool.or_true, Bool.false_or, Bool.true_or, mj_kne, eq_self, Int32.reduceLT, Int32.reduceLE, Int32.reduceAdd, Int32.reduceSub, Int32.reduceMul, not_true_eq_false, not_false_eq_true, false_implies, true_implies, D_X6_endOfChain_0, D_X6_endOfChain_1, mj_F_aload_n_k, mj_F_bipush_n, mj_F_getfield_i, mj_F_goto_off, mj_F_iadd, mj_F_iaload, mj_F_iastore, mj_F_iconst_n, mj_F_ifCond_le_off, mj_F_if_icmp_eq_off, mj_F_if_icmp_ge_off, mj_F_iinc_k_n, mj_F_iload_k, mj_F_iload_n_k, mj_F_imul, mj_F_invokestatic_i, mj_F_invokevirtual_i, mj_F_ireturn, mj_F_istore_k, mj_F_istore_n_k, mj_set, mj_set0, mj_unk, mj_c2, mj_kc, FT_X6, L_X6_endOfChain, List.take_succ_cons, List.take_zero, List.drop_succ_cons, List.drop_zero, List.reverse_cons, List.reverse_nil, List.length_cons, List.length_nil, gS_C55, gCf6_10, gS_C62, sS_Ca_62, gCf6_2, gS_C20, gCf1_1, gCf6_9, gS_C61, sS_Ca_61, gCf6_6, gS_C58, sS_Ca_58, gCf6_11, gS_C63, sS_Ca_63, gCf6_3, gS_C35, gCf5_1, gCf6_4, gS_C56, sS_Ca_56, gCf6_7, gS_C59, sS_Ca_59, sS_CF_62, sS_CF_61, sS_CF_58, sS_CF_63, sS_CF_56, sS_CF_59, J_X6_endOfChain]
  exact hG.2 _ _ _ _ _ _ _ _ _ (by refine ⟨Or.inr rfl, ?_⟩; refine ⟨Or.inr rfl, ?_⟩; refine ⟨Or.inr rfl, ?_⟩; exact trivial) (Nat.zero_le _) (Nat.zero_le _) (g_X6_endOfChain_12 hG  hw :)

def c_X6_endOfChain : mj_S := fun as h k => ∃ (s : St), as = [.ref 55] ∧ h = mkCs s ∧ ok (F_X6_endOfChain s) (fun p => k (some (.int p.1)) (mkCs p.2))
theorem c_X6_endOfChain_in {s : St} {k : Option Value → mj_H → Prop} (hw : ok (F_X6_endOfChain s) (fun p => k (some (.int p.1)) (mkCs p.2))) : c_X6_endOfChain [.ref 55] (mkCs s) k := ⟨s, rfl, rfl, hw⟩
theorem m_X6_endOfChain (l : Launch) : mj_Met l yX6_endOfChain cX6_endOfChain 5 ((some FieldType.int)) 1 0 0 c_X6_endOfChain := by
  refine mj_body2 false (TbX6 5 ((some FieldType.int)) ct_X6_endOfChain) (by decide) rfl rfl (fun h => nomatch h) (tfX6 _ (List.forall_mem_cons.mpr ⟨cfX6_105 (m_J7_fill_53178 l) (by decide), List.forall_mem_cons.mpr ⟨cfX6_143 (m_X6_queueThoseIn l) (by decide), fun _ h => nomatch h⟩⟩)) ?_
  rintro as h k ⟨s, rfl, rfl, hw⟩
  exact ⟨rfl, fun G hG => g_X6_endOfChain hG hw⟩
def B_X6_moveAlong_12 (v1 : Int32) (s : St) : Int32 × Int32 × Int32 → Option ((Int32 × Int32 × Int32) ⊕ ((Int32)))
  | (v2, v3, v4) =>
  if 20 ≤ v4 then
    some (.inr v2)
  else
    if v3 < 0 then
      some (.inr v2)
    else
      (rd s 610 20 v3).bind fun x2 =>
      if x2 < 0 then
        some (.inr v2)
      else
        (rd s 610 20 v3).bind fun x3 =>
        (rd s 609 24 x3).bind fun x4 =>
        if 0 ≤ x4 then
          (rd s 605 480 ((x3 * 20) + x4)).bind fun x5 =>
          some (.inl ((zmn v2 x5), x4, (v4 + 1)))
        else
          (rd s 606 24 x3).bind fun x6 =>
          some (.inl ((zmn v2 x6), x4, (v4 + 1)))
def B_X6_moveAlong_106 (v2 : Int32) : Int32 × Int32 × St → Option ((Int32 × Int32 × St) ⊕ ((St)))
  | (v3, v4, s) =>
  if 20 ≤ v4 then
    some (.inr s)
  else
    if v3 < 0 then
      some (.inr s)
    else
      (rd s 610 20 v3).bind fun x9 =>
      if x9 < 0 then
        some (.inr s)
      else
        (rd s 610 20 v3).bind fun x10 =>
        (rd s 609 24 x10).bind fun x11 =>
        (rd s 605 480 ((x10 * 20) + v3)).bind fun x12 =>
        (wr s 605 480 ((x10 * 20) + v3) (x12 + v2)).bind fun s13 =>
        if 0 ≤ x11 then
          (rd s13 605 480 ((x10 * 20) + x11)).bind fun x14 =>
          (wr s13 605 480 ((x10 * 20) + x11) (x14 - v2)).bind fun s15 =>
          some (.inl (x11, (v4 + 1), s15))
        else
          (rd s13 606 24 x10).bind fun x16 =>
          (wr s13 606 24 x10 (x16 - v2)).bind fun s17 =>
          some (.inl (x11, (v4 + 1), s17))
def F_X6_moveAlong_204 (v2 : Int32) (s : St) : Option (Int32 × St) :=
  some (v2, s)
def F_X6_moveAlong_106 (v2 : Int32) (v3 : Int32) (v4 : Int32) (s : St) : Option (Int32 × St) :=
  (lp (B_X6_moveAlong_106 v2) FU (v3, v4, s)).bind (fun y => F_X6_moveAlong_204 v2 y)
def F_X6_moveAlong_91 (v1 : Int32) (v2 : Int32) (s : St) : Option (Int32 × St) :=
  (rd s 607 20 v1).bind fun x7 =>
  (wr s 607 20 v1 (x7 - v2)).bind fun s8 =>
  F_X6_moveAlong_106 v2 v1 0 s8
def F_X6_moveAlong_12 (v1 : Int32) (v2 : Int32) (v3 : Int32) (v4 : Int32) (s : St) : Option (Int32 × St) :=
  (lp (B_X6_moveAlong_12 v1 s) FU (v2, v3, v4)).bind (fun y => F_X6_moveAlong_91 v1 y s)
def F_X6_moveAlong (v1 : Int32) (s : St) : Option (Int32 × St) :=
  (rd s 607 20 v1).bind fun x1 =>
  F_X6_moveAlong_12 v1 x1 v1 0 s
theorem J_X6_moveAlong : mj_t 16 75 = 91 ∧ mj_t 20 71 = 91 ∧ mj_t 29 62 = 91 ∧ mj_t 52 13 = 65 ∧ mj_t 62 16 = 78 ∧ mj_t 88 (-76) = 12 ∧ mj_t 110 94 = 204 ∧ mj_t 114 90 = 204 ∧ mj_t 123 81 = 204 ∧ mj_t 161 17 = 178 ∧ mj_t 175 20 = 195 ∧ mj_t 201 (-95) = 106 ∧ (0 ≤ ((16 : Nat) : Int) + 75) = True ∧ (0 ≤ ((20 : Nat) : Int) + 71) = True ∧ (0 ≤ ((29 : Nat) : Int) + 62) = True ∧ (0 ≤ ((52 : Nat) : Int) + 13) = True ∧ (0 ≤ ((62 : Nat) : Int) + 16) = True ∧ (0 ≤ ((88 : Nat) : Int) + (-76)) = True ∧ (0 ≤ ((110 : Nat) : Int) + 94) = True ∧ (0 ≤ ((114 : Nat) : Int) + 90) = True ∧ (0 ≤ ((123 : Nat) : Int) + 81) = True ∧ (0 ≤ ((161 : Nat) : Int) + 17) = True ∧ (0 ≤ ((175 : Nat) : Int) + 20) = True ∧ (0 ≤ ((201 : Nat) : Int) + (-95)) = True := by and_intros <;> first | rfl | exact eq_true (by decide)
set_option maxHeartbeats 4000000 in
set_option maxRecDepth 20000 in
theorem b_X6_moveAlong_12 {k : Option Value → mj_H → Prop} {G : mj_K} (hG : mj_cl2 cX6_moveAlong (TbX6 7 ((some FieldType.int)) []) k G) (hM : mj_ml cX6_moveAlong yX6_moveAlong.cls G) {v1 : Int32} {s : St} {P : Int32 × Int32 × Int32 → Prop} {K : (Int32) → Prop} (hP : ∀ x, P x → G 12 [.ref 55, .int v1, .int x.1, .int x.2.1, .int x.2.2] [] (mkCs s) 0 0) (hK0 : ∀ y, K y → G 91 [.ref 55, .int v1, .int y] [] (mkCs s) 0 0) {v2 : Int32} {v3 : Int32} {v4 : Int32} (hw : ok (B_X6_moveAlong_12 v1 s (v2, v3, v4)) (Sum.elim P K)) : G 12 [.ref 55, .int v1, .int v2, .int v3, .int v4] [] (mkCs s) 0 0 := by
  unfold B_X6_moveAlong_12 at hw
  refine mj_run hG.1 (fun pc => pc == 12 || pc == 78 || pc == 91 || pc == 106 || pc == 204) 4000 ?_
  simp only [mj_step, mj_W_s, mj_fin, List.getElem?_cons_zero, List.getElem?_cons_succ, mj_go, Nat.reduceAdd, Nat.reduceSub, Nat.reduceLT, Nat.reduceLeDiff, Nat.zero_add, Nat.reduceEqDiff, Nat.reduceBEq, ↓reduceIte, Bool.false_eq_true, List.append_nil, List.nil_append, List.cons_append, Option.toList, and_true, true_and, true_or, or_true, reduceCtorEq, List.map_nil, bI_eq0, bI_eq1, bool_ft, pk_us, vnar0, vnar1, Bool.or_false, Bool.or_true, Bool.false_or, Bool.true_or, mj_kne, eq_self, Int32.reduceLT, Int32.reduceLE, Int32.reduceAdd, Int32.reduceSub, Int32.reduceMul, not_true_eq_false, not_false_eq_true, false_implies, true_implies, D_X6_moveAlong_0, D_X6_moveAlong_1, D_X6_moveAlong_2, mj_F_aload_n_k, mj_F_bipush_n, mj_F_dup2, mj_F_getfield_i, mj_F_goto_off, mj_F_iadd, mj_F_iaload, mj_F_iastore, mj_F_iconst_n, mj_F_ifCond_ge_off, mj_F_ifCond_lt_off, mj_F_if_icmp_ge_off, mj_F_iinc_k_n, mj_F_iload_k, mj_F_iload_n_k, mj_F_imul, mj_F_invokestatic_i, mj_F_ireturn, mj_F_istore_k, mj_F_istore_n_k, mj_F_isub, mj_set, mj_set0, mj_unk, mj_c2, mj_kc, FT_X6, List.take_succ_cons, List.take_zero, List.drop_succ_cons, List.drop_zero, List.reverse_cons, List.reverse_nil, List.length_cons, List.length_nil, gS_C55, gCf6_7, gS_C59, sS_Ca_59, gCf6_10, gS_C62, sS_Ca_62, gCf6_9, gS_C61, sS_Ca_61, gCf6_6, gS_C58, sS_Ca_58, gCf6_5, gS_C57, sS_Ca_57, J_X6_moveAlong]
  refine ⟨fun c => ?_, fun c => ?_⟩
  · replace hw := ok_t hw c
    exact hG.2 _ _ _ _ _ _ _ _ _ (by refine ⟨Or.inr rfl, ?_⟩; refine ⟨Or.inr rfl, ?_⟩; refine ⟨Or.inr rfl, ?_⟩; exact trivial) (Nat.zero_le _) (Nat.zero_le _) (hK0 _ (ok_some hw :) :)
  · replace hw := ok_f hw c
    refine ⟨fun c => ?_, fun c => ?_⟩
    · replace hw := ok_t hw c
      exact hG.2 _ _ _ _ _ _ _ _ _ (by refine ⟨Or.inr rfl, ?_⟩; refine ⟨Or.inr rfl, ?_⟩; refine ⟨Or.inr rfl, ?_⟩; exact trivial) (Nat.zero_le _) (Nat.zero_le _) (hK0 _ (ok_some hw :) :)
    · replace hw := ok_f hw c
      refine ⟨(ok_rd hw).1, ?_⟩
      replace hw := (ok_rd hw).2
      refine ⟨fun c => ?_, fun c => ?_⟩
      · replace hw := ok_t hw c
        exact hG.2 _ _ _ _ _ _ _ _ _ (by refine ⟨Or.inr rfl, ?_⟩; refine ⟨Or.inr rfl, ?_⟩; refine ⟨Or.inr rfl, ?_⟩; exact trivial) (Nat.zero_le _) (Nat.zero_le _) (hK0 _ (ok_some hw :) :)
      · replace hw := ok_f hw c
        refine ⟨(ok_rd hw).1, ?_⟩
        replace hw := (ok_rd hw).2
        refine ⟨(ok_rd hw).1, ?_⟩
        replace hw := (ok_rd hw).2
        refine ⟨fun c => ?_, fun c => ?_⟩
        · replace hw := ok_t hw c
          refine ⟨(ok_rd hw).1, ?_⟩
          replace hw := (ok_rd hw).2
          refine hM 78 115 0 _ _ _ _ _ _ _ _ (by simp only [D_X6_moveAlong_0, D_X6_moveAlong_1, D_X6_moveAlong_2]) (lkX6_115) rfl (Nat.le_of_ble_eq_true rfl) ?_
          refine mj_run hG.1 (fun pc => pc == 12 || pc == 78 || pc == 91 || pc == 106 || pc == 204) 4000 ?_
          simp only [mj_step, mj_W_s, mj_fin, List.getElem?_cons_zero, List.getElem?_cons_succ, mj_go, Nat.reduceAdd, Nat.reduceSub, Nat.reduceLT, Nat.reduceLeDiff, Nat.zero_add, Nat.reduceEqDiff, Nat.reduceBEq, ↓reduceIte, Bool.false_eq_true, List.append_nil, List.nil_append, List.cons_append, Option.toList, and_true, true_and, true_or, or_true, reduceCtorEq, List.map_nil, bI_eq0, bI_eq1, bool_ft, pk_us, vnar0, vnar1, Bool.or_false, Bool.or_true, Bool.false_or, Bool.true_or, mj_kne, eq_self, Int32.reduceLT, Int32.reduceLE, Int32.reduceAdd, Int32.reduceSub, Int32.reduceMul, not_true_eq_false, not_false_eq_true, false_implies, true_implies, D_X6_moveAlong_0, D_X6_moveAlong_1, D_X6_moveAlong_2, mj_F_aload_n_k, mj_F_bipush_n, mj_F_dup2, mj_F_getfield_i, mj_F_goto_off, mj_F_iadd, mj_F_iaload, mj_F_iastore, mj_F_iconst_n, mj_F_ifCond_ge_off, mj_F_ifCond_lt_off, mj_F_if_icmp_ge_off, mj_F_iinc_k_n, mj_F_iload_k, mj_F_iload_n_k, mj_F_imul, mj_F_invokestatic_i, mj_F_ireturn, mj_F_istore_k, mj_F_istore_n_k, mj_F_isub, mj_set, mj_set0, mj_unk, mj_c2, mj_kc, FT_X6, List.take_succ_cons, List.take_zero, List.drop_succ_cons, List.drop_zero, List.reverse_cons, List.reverse_nil, List.length_cons, List.length_nil, gS_C55, gCf6_7, gS_C59, sS_Ca_59, gCf6_10, gS_C62, sS_Ca_62, gCf6_9, gS_C61, sS_Ca_61, gCf6_6, gS_C58, sS_Ca_58, gCf6_5, gS_C57, sS_Ca_57, J_X6_moveAlong]
          exact hG.2 _ _ _ _ _ _ _ _ _ (by refine ⟨Or.inr rfl, ?_⟩; refine ⟨Or.inr rfl, ?_⟩; refine ⟨Or.inr rfl, ?_⟩; refine ⟨Or.inr rfl, ?_⟩; refine ⟨Or.inr rfl, ?_⟩; exact trivial) (Nat.zero_le _) (Nat.zero_le _) (hP _ (ok_some hw :) :)
        · replace hw := ok_f hw c
          refine ⟨(ok_rd hw).1, ?_⟩
          replace hw := (ok_rd hw).2
          refine hM 78 115 0 _ _ _ _ _ _ _ _ (by simp only [D_X6_moveAlong_0, D_X6_moveAlong_1, D_X6_moveAlong_2]) (lkX6_115) rfl (Nat.le_of_ble_eq_true rfl) ?_
          refine mj_run hG.1 (fun pc => pc == 12 || pc == 78 || pc == 91 || pc == 106 || pc == 204) 4000 ?_
          simp only [mj_step, mj_W_s, mj_fin, List.getElem?_cons_zero, List.getElem?_cons_succ, mj_go, Nat.reduceAdd, Nat.reduceSub, Nat.reduceLT, Nat.reduceLeDiff, Nat.zero_add, Nat.reduceEqDiff, Nat.reduceBEq, ↓reduceIte, Bool.false_eq_true, List.append_nil, List.nil_append, List.cons_append, Option.toList, and_true, true_and, true_or, or_true, reduceCtorEq, List.map_nil, bI_eq0, bI_eq1, bool_ft, pk_us, vnar0, vnar1, Bool.or_false, Bool.or_true, Bool.false_or, Bool.true_or, mj_kne, eq_self, Int32.reduceLT, Int32.reduceLE, Int32.reduceAdd, Int32.reduceSub, Int32.reduceMul, not_true_eq_false, not_false_eq_true, false_implies, true_implies, D_X6_moveAlong_0, D_X6_moveAlong_1, D_X6_moveAlong_2, mj_F_aload_n_k, mj_F_bipush_n, mj_F_dup2, mj_F_getfield_i, mj_F_goto_off, mj_F_iadd, mj_F_iaload, mj_F_iastore, mj_F_iconst_n, mj_F_ifCond_ge_off, mj_F_ifCond_lt_off, mj_F_if_icmp_ge_off, mj_F_iinc_k_n, mj_F_iload_k, mj_F_iload_n_k, mj_F_imul, mj_F_invokestatic_i, mj_F_ireturn, mj_F_istore_k, mj_F_istore_n_k, mj_F_isub, mj_set, mj_set0, mj_unk, mj_c2, mj_kc, FT_X6, List.take_succ_cons, List.take_zero, List.drop_succ_cons, List.drop_zero, List.reverse_cons, List.reverse_nil, List.length_cons, List.length_nil, gS_C55, gCf6_7, gS_C59, sS_Ca_59, gCf6_10, gS_C62, sS_Ca_62, gCf6_9, gS_C61, sS_Ca_61, gCf6_6, gS_C58, sS_Ca_58, gCf6_5, gS_C57, sS_Ca_57, J_X6_moveAlong]
          exact hG.2 _ _ _ _ _ _ _ _ _ (by refine ⟨Or.inr rfl, ?_⟩; refine ⟨Or.inr rfl, ?_⟩; refine ⟨Or.inr rfl, ?_⟩; refine ⟨Or.inr rfl, ?_⟩; refine ⟨Or.inr rfl, ?_⟩; exact trivial) (Nat.zero_le _) (Nat.zero_le _) (hP _ (ok_some hw :) :)

set_option maxHeartbeats 4000000 in
set_option maxRecDepth 20000 in
theorem b_X6_moveAlong_106 {k : Option Value → mj_H → Prop} {G : mj_K} (hG : mj_cl2 cX6_moveAlong (TbX6 7 ((some FieldType.int)) []) k G) (hM : mj_ml cX6_moveAlong yX6_moveAlong.cls G) {v2 : Int32} {P : Int32 × Int32 × St → Prop} {K : (St) → Prop} (hP : ∀ x, P x → G 106 [.ref 55, mj_unk, .int v2, .int x.1, .int x.2.1] [] (mkCs x.2.2) 0 0) (hK0 : ∀ y, K y → G 204 [mj_unk, mj_unk, .int v2] [] (mkCs y) 0 0) {v3 : Int32} {v4 : Int32} {s : St} (hw : ok (B_X6_moveAlong_106 v2 (v3, v4, s)) (Sum.elim P K)) : G 106 [.ref 55, mj_unk, .int v2, .int v3, .int v4] [] (mkCs s) 0 0 := by
  unfold B_X6_moveAlong_106 at hw
  refine mj_run hG.1 (fun pc => pc == 12 || pc == 78 || pc == 91 || pc == 106 || pc == 204) 4000 ?_
  simp only [mj_step, mj_W_s, mj_fin, List.getElem?_cons_zero, List.getElem?_cons_succ, mj_go, Nat.reduceAdd, Nat.reduceSub, Nat.reduceLT, Nat.reduceLeDiff, Nat.zero_add, Nat.reduceEqDiff, Nat.reduceBEq, ↓reduceIte, Bool.false_eq_true, List.append_nil, List.nil_append, List.cons_append, Option.toList, and_true, true_and, true_or, or_true, reduceCtorEq, List.map_nil, bI_eq0, bI_eq1, bool_ft, pk_us, vnar0, vnar1, Bool.or_false, Bool.or_true, Bool.false_or, Bool.true_or, mj_kne, eq_self, Int32.reduceLT, Int32.reduceLE, Int32.reduceAdd, Int32.reduceSub, Int32.reduceMul, not_true_eq_false, not_false_eq_true, false_implies, true_implies, D_X6_moveAlong_0, D_X6_moveAlong_1, D_X6_moveAlong_2, mj_F_aload_n_k, mj_F_bipush_n, mj_F_dup2, mj_F_getfield_i, mj_F_goto_off, mj_F_iadd, mj_F_iaload, mj_F_iastore, mj_F_iconst_n, mj_F_ifCond_ge_off, mj_F_ifCond_lt_off, mj_F_if_icmp_ge_off, mj_F_iinc_k_n, mj_F_iload_k, mj_F_iload_n_k, mj_F_imul, mj_F_invokestatic_i, mj_F_ireturn, mj_F_istore_k, mj_F_istore_n_k, mj_F_isub, mj_set, mj_set0, mj_unk, mj_c2, mj_kc, FT_X6, List.take_succ_cons, List.take_zero, List.drop_succ_cons, List.drop_zero, List.reverse_cons, List.reverse_nil, List.length_cons, List.length_nil, gS_C55, gCf6_7, gS_C59, sS_Ca_59, gCf6_10, gS_C62, sS_Ca_62, gCf6_9, gS_C61, sS_Ca_61, gCf6_6, gS_C58, sS_Ca_58, gCf6_5, gS_C57, sS_Ca_57, J_X6_moveAlong]
  refine ⟨fun c => ?_, fun c => ?_⟩
  · replace hw := ok_t hw c
    exact hG.2 _ _ _ _ _ _ _ _ _ (by refine ⟨Or.inl rfl, ?_⟩; refine ⟨Or.inl rfl, ?_⟩; refine ⟨Or.inr rfl, ?_⟩; exact trivial) (Nat.zero_le _) (Nat.zero_le _) (hK0 _ (ok_some hw :) :)
  · replace hw := ok_f hw c
    refine ⟨fun c => ?_, fun c => ?_⟩
    · replace hw := ok_t hw c
      exact hG.2 _ _ _ _ _ _ _ _ _ (by refine ⟨Or.inl rfl, ?_⟩; refine ⟨Or.inl rfl, ?_⟩; refine ⟨Or.inr rfl, ?_⟩; exact trivial) (Nat.zero_le _) (Nat.zero_le _) (hK0 _ (ok_some hw :) :)
    · replace hw := ok_f hw c
      refine ⟨(ok_rd hw).1, ?_⟩
      replace hw := (ok_rd hw).2
      refine ⟨fun c => ?_, fun c => ?_⟩
      · replace hw := ok_t hw c
        exact hG.2 _ _ _ _ _ _ _ _ _ (by refine ⟨Or.inl rfl, ?_⟩; refine ⟨Or.inl rfl, ?_⟩; refine ⟨Or.inr rfl, ?_⟩; exact trivial) (Nat.zero_le _) (Nat.zero_le _) (hK0 _ (ok_some hw :) :)
      · replace hw := ok_f hw c
        refine ⟨(ok_rd hw).1, ?_⟩
        replace hw := (ok_rd hw).2
        refine ⟨(ok_rd hw).1, ?_⟩
        replace hw := (ok_rd hw).2
        refine ⟨(ok_rd hw).1, ?_⟩
        replace hw := (ok_rd hw).2
        refine ⟨(ok_wr hw).1, ?_⟩
        replace hw := (ok_wr hw).2
        refine ⟨fun c => ?_, fun c => ?_⟩
        · replace hw := ok_t hw c
          refine ⟨(ok_rd hw).1, ?_⟩
          replace hw := (ok_rd hw).2
          refine ⟨(ok_wr hw).1, ?_⟩
          replace hw := (ok_wr hw).2
          exact hG.2 _ _ _ _ _ _ _ _ _ (by refine ⟨Or.inr rfl, ?_⟩; refine ⟨Or.inl rfl, ?_⟩; refine ⟨Or.inr rfl, ?_⟩; refine ⟨Or.inr rfl, ?_⟩; refine ⟨Or.inr rfl, ?_⟩; exact trivial) (Nat.zero_le _) (Nat.zero_le _) (hP _ (ok_some hw :) :)
        · replace hw := ok_f hw c
          refine ⟨(ok_rd hw).1, ?_⟩
          replace hw := (ok_rd hw).2
          refine ⟨(ok_wr hw).1, ?_⟩
          replace hw := (ok_wr hw).2
          exact hG.2 _ _ _ _ _ _ _ _ _ (by refine ⟨Or.inr rfl, ?_⟩; refine ⟨Or.inl rfl, ?_⟩; refine ⟨Or.inr rfl, ?_⟩; refine ⟨Or.inr rfl, ?_⟩; refine ⟨Or.inr rfl, ?_⟩; exact trivial) (Nat.zero_le _) (Nat.zero_le _) (hP _ (ok_some hw :) :)

set_option maxHeartbeats 4000000 in
set_option maxRecDepth 20000 in
theorem g_X6_moveAlong_204 {k : Option Value → mj_H → Prop} {G : mj_K} (hG : mj_cl2 cX6_moveAlong (TbX6 7 ((some FieldType.int)) []) k G) (hM : mj_ml cX6_moveAlong yX6_moveAlong.cls G)   {v2 : Int32} {s : St} (hw : ok (F_X6_moveAlong_204 v2 s) (fun p => k (some (.int p.1)) (mkCs p.2))) : G 204 [mj_unk, mj_unk, .int v2] [] (mkCs s) 0 0 := by
  unfold F_X6_moveAlong_204 at hw
  refine mj_run hG.1 (fun pc => pc == 12 || pc == 78 || pc == 91 || pc == 106 || pc == 204) 4000 ?_
  simp only [mj_step, mj_W_s, mj_fin, List.getElem?_cons_zero, List.getElem?_cons_succ, mj_go, Nat.reduceAdd, Nat.reduceSub, Nat.reduceLT, Nat.reduceLeDiff, Nat.zero_add, Nat.reduceEqDiff, Nat.reduceBEq, ↓reduceIte, Bool.false_eq_true, List.append_nil, List.nil_append, List.cons_append, Option.toList, and_true, true_and, true_or, or_true, reduceCtorEq, List.map_nil, bI_eq0, bI_eq1, bool_ft, pk_us, vnar0, vnar1, Bool.or_false, Bool.or_true, Bool.false_or, Bool.true_or, mj_kne, eq_self, Int32.reduceLT, Int32.reduceLE, Int32.reduceAdd, Int32.reduceSub, Int32.reduceMul, not_true_eq_false, not_false_eq_true, false_implies, true_implies, D_X6_moveAlong_0, D_X6_moveAlong_1, D_X6_moveAlong_2, mj_F_aload_n_k, mj_F_bipush_n, mj_F_dup2, mj_F_getfield_i, mj_F_goto_off, mj_F_iadd, mj_F_iaload, mj_F_iastore, mj_F_iconst_n, mj_F_ifCond_ge_off, mj_F_ifCond_lt_off, mj_F_if_icmp_ge_off, mj_F_iinc_k_n, mj_F_iload_k, mj_F_iload_n_k, mj_F_imul, mj_F_invokestatic_i, mj_F_ireturn, mj_F_istore_k, mj_F_istore_n_k, mj_F_isub, mj_set, mj_set0, mj_unk, mj_c2, mj_kc, FT_X6, List.take_succ_cons, List.take_zero, List.drop_succ_cons, List.drop_zero, List.reverse_cons, List.reverse_nil, List.length_cons, List.length_nil, gS_C55, gCf6_7, gS_C59, sS_Ca_59, gCf6_10, gS_C62, sS_Ca_62, gCf6_9, gS_C61, sS_Ca_61, gCf6_6, gS_C58, sS_Ca_58, gCf6_5, gS_C57, sS_Ca_57, J_X6_moveAlong]
  exact (ok_some hw :)

set_option maxHeartbeats 4000000 in
theorem g_X6_moveAlong_106 {k : Option Value → mj_H → Prop} {G : mj_K} (hG : mj_cl2 cX6_moveAlong (TbX6 7 ((some FieldType.int)) []) k G) (hM : mj_ml cX6_moveAlong yX6_moveAlong.cls G)   {v2 : Int32} {v3 : Int32} {v4 : Int32} {s : St} (hw : ok (F_X6_moveAlong_106 v2 v3 v4 s) (fun p => k (some (.int p.1)) (mkCs p.2))) : G 106 [.ref 55, mj_unk, .int v2, .int v3, .int v4] [] (mkCs s) 0 0 := by
  unfold F_X6_moveAlong_106 at hw
  refine lp_ok (B_X6_moveAlong_106 v2) (fun x => G 106 [.ref 55, mj_unk, .int v2, .int x.1, .int x.2.1] [] (mkCs x.2.2) 0 0) _ ?_ _ _ (ok_bind hw)
  rintro ⟨v3, v4, s⟩ hb
  exact b_X6_moveAlong_106 hG hM (fun _ z => z) (fun y hw => by exact hG.2 _ _ _ _ _ _ _ _ _ (by refine ⟨Or.inl rfl, ?_⟩; refine ⟨Or.inl rfl, ?_⟩; refine ⟨Or.inr rfl, ?_⟩; exact trivial) (Nat.zero_le _) (Nat.zero_le _) (g_X6_moveAlong_204 hG hM  hw :)) hb

set_option maxHeartbeats 4000000 in
set_option maxRecDepth 20000 in
theorem g_X6_moveAlong_91 {k : Option Value → mj_H → Prop} {G : mj_K} (hG : mj_cl2 cX6_moveAlong (TbX6 7 ((some FieldType.int)) []) k G) (hM : mj_ml cX6_moveAlong yX6_moveAlong.cls G)   {v1 : Int32} {v2 : Int32} {s : St} (hw : ok (F_X6_moveAlong_91 v1 v2 s) (fun p => k (some (.int p.1)) (mkCs p.2))) : G 91 [.ref 55, .int v1, .int v2] [] (mkCs s) 0 0 := by
  unfold F_X6_moveAlong_91 at hw
  refine mj_run hG.1 (fun pc => pc == 12 || pc == 78 || pc == 91 || pc == 106 || pc == 204) 4000 ?_
  simp only [mj_step, mj_W_s, mj_fin, List.getElem?_cons_zero, List.getElem?_cons_succ, mj_go, Nat.reduceAdd, Nat.reduceSub, Nat.reduceLT, Nat.reduceLeDiff, Nat.zero_add, Nat.reduceEqDiff, Nat.reduceBEq, ↓reduceIte, Bool.false_eq_true, List.append_nil, List.nil_append, List.cons_append, Option.toList, and_true, true_and, true_or, or_true, reduceCtorEq, List.map_nil, bI_eq0, bI_eq1, bool_ft, pk_us, vnar0, vnar1, Bool.or_false, Bool.or_true, Bool.false_or, Bool.true_or, mj_kne, eq_self, Int32.reduceLT, Int32.reduceLE, Int32.reduceAdd, Int32.reduceSub, Int32.reduceMul, not_true_eq_false, not_false_eq_true, false_implies, true_implies, D_X6_moveAlong_0, D_X6_moveAlong_1, D_X6_moveAlong_2, mj_F_aload_n_k, mj_F_bipush_n, mj_F_dup2, mj_F_getfield_i, mj_F_goto_off, mj_F_iadd, mj_F_iaload, mj_F_iastore, mj_F_iconst_n, mj_F_ifCond_ge_off, mj_F_ifCond_lt_off, mj_F_if_icmp_ge_off, mj_F_iinc_k_n, mj_F_iload_k, mj_F_iload_n_k, mj_F_imul, mj_F_invokestatic_i, mj_F_ireturn, mj_F_istore_k, mj_F_istore_n_k, mj_F_isub, mj_set, mj_set0, mj_unk, mj_c2, mj_kc, FT_X6, List.take_succ_cons, List.take_zero, List.drop_succ_cons, List.drop_zero, List.reverse_cons, List.reverse_nil, List.length_cons, List.length_nil, gS_C55, gCf6_7, gS_C59, sS_Ca_59, gCf6_10, gS_C62, sS_Ca_62, gCf6_9, gS_C61, sS_Ca_61, gCf6_6, gS_C58, sS_Ca_58, gCf6_5, gS_C57, sS_Ca_57, J_X6_moveAlong]
  refine ⟨(ok_rd hw).1, ?_⟩
  replace hw := (ok_rd hw).2
  refine ⟨(ok_wr hw).1, ?_⟩
  replace hw := (ok_wr hw).2
  exact hG.2 _ _ _ _ _ _ _ _ _ (by refine ⟨Or.inr rfl, ?_⟩; refine ⟨Or.inl rfl, ?_⟩; refine ⟨Or.inr rfl, ?_⟩; refine ⟨Or.inr rfl, ?_⟩; refine ⟨Or.inr rfl, ?_⟩; exact trivial) (Nat.zero_le _) (Nat.zero_le _) (g_X6_moveAlong_106 hG hM  hw :)

set_option maxHeartbeats 4000000 in
theorem g_X6_moveAlong_12 {k : Option Value → mj_H → Prop} {G : mj_K} (hG : mj_cl2 cX6_moveAlong (TbX6 7 ((some FieldType.int)) []) k G) (hM : mj_ml cX6_moveAlong yX6_moveAlong.cls G)   {v1 : Int32} {v2 : Int32} {v3 : Int32} {v4 : Int32} {s : St} (hw : ok (F_X6_moveAlong_12 v1 v2 v3 v4 s) (fun p => k (some (.int p.1)) (mkCs p.2))) : G 12 [.ref 55, .int v1, .int v2, .int v3, .int v4] [] (mkCs s) 0 0 := by
  unfold F_X6_moveAlong_12 at hw
  refine lp_ok (B_X6_moveAlong_12 v1 s) (fun x => G 12 [.ref 55, .int v1, .int x.1, .int x.2.1, .int x.2.2] [] (mkCs s) 0 0) _ ?_ _ _ (ok_bind hw)
  rintro ⟨v2, v3, v4⟩ hb
  exact b_X6_moveAlong_12 hG hM (fun _ z => z) (fun y hw => by exact hG.2 _ _ _ _ _ _ _ _ _ (by refine ⟨Or.inr rfl, ?_⟩; refine ⟨Or.inr rfl, ?_⟩; refine ⟨Or.inr rfl, ?_⟩; exact trivial) (Nat.zero_le _) (Nat.zero_le _) (g_X6_moveAlong_91 hG hM  hw :)) hb

set_option maxHeartbeats 4000000 in
set_option maxRecDepth 20000 in
theorem g_X6_moveAlong {k : Option Value → mj_H → Prop} {G : mj_K} (hG : mj_cl2 cX6_moveAlong (TbX6 7 ((some FieldType.int)) []) k G) (hM : mj_ml cX6_moveAlong yX6_moveAlong.cls G) {v1 : Int32} {s : St} (hw : ok (F_X6_moveAlong v1 s) (fun p => k (some (.int p.1)) (mkCs p.2))) : G 0 [.ref 55, .int v1] [] (mkCs s) 0 0 := by
  unfold F_X6_moveAlong at hw
  refine mj_run hG.1 (fun pc => pc == 12 || pc == 78 || pc == 91 || pc == 106 || pc == 204) 4000 ?_
  simp only [mj_step, mj_W_s, mj_fin, List.getElem?_cons_zero, List.getElem?_cons_succ, mj_go, Nat.reduceAdd, Nat.reduceSub, Nat.reduceLT, Nat.reduceLeDiff, Nat.zero_add, Nat.reduceEqDiff, Nat.reduceBEq, ↓reduceIte, Bool.false_eq_true, List.append_nil, List.nil_append, List.cons_append, Option.toList, and_true, true_and, true_or, or_true, reduceCtorEq, List.map_nil, bI_eq0, bI_eq1, bool_ft, pk_us, vnar0, vnar1, Bool.or_false, Bool.or_true, Bool.false_or, Bool.true_or, mj_kne, eq_self, Int32.reduceLT, Int32.reduceLE, Int32.reduceAdd, Int32.reduceSub, Int32.reduceMul, not_true_eq_false, not_false_eq_true, false_implies, true_implies, D_X6_moveAlong_0, D_X6_moveAlong_1, D_X6_moveAlong_2, mj_F_aload_n_k, mj_F_bipush_n, mj_F_dup2, mj_F_getfield_i, mj_F_goto_off, mj_F_iadd, mj_F_iaload, mj_F_iastore, mj_F_iconst_n, mj_F_ifCond_ge_off, mj_F_ifCond_lt_off, mj_F_if_icmp_ge_off, mj_F_iinc_k_n, mj_F_iload_k, mj_F_iload_n_k, mj_F_imul, mj_F_invokestatic_i, mj_F_ireturn, mj_F_istore_k, mj_F_istore_n_k, mj_F_isub, mj_set, mj_set0, mj_unk, mj_c2, mj_kc, FT_X6, List.take_succ_cons, List.take_zero, List.drop_succ_cons, List.drop_zero, List.reverse_cons, List.reverse_nil, List.length_cons, List.length_nil, gS_C55, gCf6_7, gS_C59, sS_Ca_59, gCf6_10, gS_C62, sS_Ca_62, gCf6_9, gS_C61, sS_Ca_61, gCf6_6, gS_C58, sS_Ca_58, gCf6_5, gS_C57, sS_Ca_57, J_X6_moveAlong]
  refine ⟨(ok_rd hw).1, ?_⟩
  replace hw := (ok_rd hw).2
  exact hG.2 _ _ _ _ _ _ _ _ _ (by refine ⟨Or.inr rfl, ?_⟩; refine ⟨Or.inr rfl, ?_⟩; refine ⟨Or.inr rfl, ?_⟩; refine ⟨Or.inr rfl, ?_⟩; refine ⟨Or.inr rfl, ?_⟩; exact trivial) (Nat.zero_le _) (Nat.zero_le _) (g_X6_moveAlong_12 hG hM  hw :)

def c_X6_moveAlong : mj_S := fun as h k => ∃ (v1 : Int32) (s : St), as = [.ref 55, .int v1] ∧ h = mkCs s ∧ ok (F_X6_moveAlong v1 s) (fun p => k (some (.int p.1)) (mkCs p.2))
theorem c_X6_moveAlong_in {v1 : Int32} {s : St} {k : Option Value → mj_H → Prop} (hw : ok (F_X6_moveAlong v1 s) (fun p => k (some (.int p.1)) (mkCs p.2))) : c_X6_moveAlong [.ref 55, .int v1] (mkCs s) k := ⟨v1, s, rfl, rfl, hw⟩
theorem m_X6_moveAlong (l : Launch) : mj_Met l yX6_moveAlong cX6_moveAlong 7 ((some FieldType.int)) 1 0 0 c_X6_moveAlong := by
  refine mj_body3 false (TbX6 7 ((some FieldType.int)) []) (by decide) (by decide) rfl rfl (fun h => nomatch h) (tfX6 _ (fun _ h => nomatch h)) ?_
  rintro as h k ⟨v1, s, rfl, rfl, hw⟩
  exact ⟨rfl, fun G hG hM => g_X6_moveAlong hG hM hw⟩
def B_X6_seatMore_7  : Int32 × Int32 × St → Option ((Int32 × Int32 × St) ⊕ ((Int32 × St) ⊕ (Int32 × St)))
  | (v1, v2, s) =>
  if 100000 ≤ v2 then
    some (.inr (.inl (v1, s)))
  else
    (F_X6_endOfChain s).bind fun r2 =>
    if r2.1 = (-1) then
      some (.inr (.inr (v1, r2.2)))
    else
      (F_X6_moveAlong r2.1 r2.2).bind fun r3 =>
      some (.inl ((v1 + r3.1), (v2 + 1), r3.2))
def F_X6_seatMore_40 (v1 : Int32) (s : St) : Option (Int32 × St) :=
  some (v1, s)
def F_X6_seatMore_23 (v1 : Int32) (s : St) : Option (Int32 × St) :=
  F_X6_seatMore_40 v1 s
def F_X6_seatMore_7 (v1 : Int32) (v2 : Int32) (s : St) : Option (Int32 × St) :=
  (lp (B_X6_seatMore_7 ) FU (v1, v2, s)).bind (Sum.elim (fun y => F_X6_seatMore_40 y.1 y.2) (fun y => F_X6_seatMore_23 y.1 y.2))
def F_X6_seatMore (s : St) : Option (Int32 × St) :=
  (F_X6_seatedInAll s).bind fun r1 =>
  F_X6_seatMore_7 r1 0 s
theorem J_X6_seatMore : mj_t 10 30 = 40 ∧ mj_t 20 6 = 26 ∧ mj_t 23 17 = 40 ∧ mj_t 37 (-30) = 7 ∧ (0 ≤ ((10 : Nat) : Int) + 30) = True ∧ (0 ≤ ((20 : Nat) : Int) + 6) = True ∧ (0 ≤ ((23 : Nat) : Int) + 17) = True ∧ (0 ≤ ((37 : Nat) : Int) + (-30)) = True := by and_intros <;> first | rfl | exact eq_true (by decide)
def ct_X6_seatMore : List (Nat × mj_Cs) := [(121, 0, 1, 6, 0, 0, c_X6_seatedInAll), (126, 0, 1, 6, 0, 0, c_X6_endOfChain), (129, 0, 2, 6, 0, 0, c_X6_moveAlong)]
theorem L_X6_seatMore : mj_lk ct_X6_seatMore 121 = some (0, 1, 6, 0, 0, c_X6_seatedInAll) ∧ mj_lk ct_X6_seatMore 126 = some (0, 1, 6, 0, 0, c_X6_endOfChain) ∧ mj_lk ct_X6_seatMore 129 = some (0, 2, 6, 0, 0, c_X6_moveAlong) := ⟨rfl, rfl, rfl⟩
set_option maxHeartbeats 4000000 in
set_option maxRecDepth 20000 in
theorem b_X6_seatMore_7 {k : Option Value → mj_H → Prop} {G : mj_K} (hG : mj_cl2 cX6_seatMore (TbX6 4 ((some FieldType.int)) ct_X6_seatMore) k G)  {P : Int32 × Int32 × St → Prop} {K : (Int32 × St) ⊕ (Int32 × St) → Prop} (hP : ∀ x, P x → G 7 [.ref 55, .int x.1, .int x.2.1] [] (mkCs x.2.2) 0 0) (hK0 : ∀ y, K (.inl y) → G 40 [mj_unk, .int y.1] [] (mkCs y.2) 0 0) (hK1 : ∀ y, K (.inr y) → G 23 [mj_unk, .int y.1] [] (mkCs y.2) 0 0) {v1 : Int32} {v2 : Int32} {s : St} (hw : ok (B_X6_seatMore_7  (v1, v2, s)) (Sum.elim P K)) : G 7 [.ref 55, .int v1, .int v2] [] (mkCs s) 0 0 := by
  unfold B_X6_seatMore_7 at hw
  refine mj_run hG.1 (fun pc => pc == 4 || pc == 7 || pc == 17 || pc == 23 || pc == 32 || pc == 40) 4000 ?_
  simp only [mj_step, mj_W_s, mj_fin, List.getElem?_cons_zero, List.getElem?_cons_succ, mj_go, Nat.reduceAdd, Nat.reduceSub, Nat.reduceLT, Nat.reduceLeDiff, Nat.zero_add, Nat.reduceEqDiff, Nat.reduceBEq, ↓reduceIte, Bool.false_eq_true, List.append_nil, List.nil_append, List.cons_append, Option.toList, and_true, true_and, true_or, or_true, reduceCtorEq, List.map_nil, bI_eq0, bI_eq1, bool_ft, pk_us, vnar0, vnar1, Bool.or_false, Bool.or_true, Bool.false_or, Bool.true_or, mj_kne, eq_self, Int32.reduceLT, Int32.reduceLE, Int32.reduceAdd, Int32.reduceSub, Int32.reduceMul, not_true_eq_false, not_false_eq_true, false_implies, true_implies, D_X6_seatMore, mj_F_aload_n_k, mj_F_goto_off, mj_F_iadd, mj_F_iconst_n, mj_F_if_icmp_ge_off, mj_F_if_icmp_ne_off, mj_F_iinc_k_n, mj_F_iload_n_k, mj_F_invokevirtual_i, mj_F_ireturn, mj_F_istore_n_k, mj_F_ldc_i, mj_set, mj_set0, mj_unk, mj_c2, mj_kc, KT_X6, L_X6_seatMore, List.take_succ_cons, List.take_zero, List.drop_succ_cons, List.drop_zero, List.reverse_cons, List.reverse_nil, List.length_cons, List.length_nil, gS_C55, J_X6_seatMore]
  refine ⟨fun c => ?_, fun c => ?_⟩
  · replace hw := ok_t hw c
    exact hG.2 _ _ _ _ _ _ _ _ _ (by refine ⟨Or.inl rfl, ?_⟩; refine ⟨Or.inr rfl, ?_⟩; exact trivial) (Nat.zero_le _) (Nat.zero_le _) (hK0 _ (ok_some hw :) :)
  · replace hw := ok_f hw c
    refine c_X6_endOfChain_in (ok_imp (ok_bind hw) ?_)
    intro p hw
    simp only [Option.toList, List.nil_append, List.cons_append, Nat.reduceSub]
    refine mj_run hG.1 (fun pc => pc == 4 || pc == 7 || pc == 17 || pc == 23 || pc == 32 || pc == 40) 4000 ?_
    simp only [mj_step, mj_W_s, mj_fin, List.getElem?_cons_zero, List.getElem?_cons_succ, mj_go, Nat.reduceAdd, Nat.reduceSub, Nat.reduceLT, Nat.reduceLeDiff, Nat.zero_add, Nat.reduceEqDiff, Nat.reduceBEq, ↓reduceIte, Bool.false_eq_true, List.append_nil, List.nil_append, List.cons_append, Option.toList, and_true, true_and, true_or, or_true, reduceCtorEq, List.map_nil, bI_eq0, bI_eq1, bool_ft, pk_us, vnar0, vnar1, Bool.or_false, Bool.or_true, Bool.false_or, Bool.true_or, mj_kne, eq_self, Int32.reduceLT, Int32.reduceLE, Int32.reduceAdd, Int32.reduceSub, Int32.reduceMul, not_true_eq_false, not_false_eq_true, false_implies, true_implies, D_X6_seatMore, mj_F_aload_n_k, mj_F_goto_off, mj_F_iadd, mj_F_iconst_n, mj_F_if_icmp_ge_off, mj_F_if_icmp_ne_off, mj_F_iinc_k_n, mj_F_iload_n_k, mj_F_invokevirtual_i, mj_F_ireturn, mj_F_istore_n_k, mj_F_ldc_i, mj_set, mj_set0, mj_unk, mj_c2, mj_kc, KT_X6, L_X6_seatMore, List.take_succ_cons, List.take_zero, List.drop_succ_cons, List.drop_zero, List.reverse_cons, List.reverse_nil, List.length_cons, List.length_nil, gS_C55, J_X6_seatMore]
    refine ⟨fun c => ?_, fun c => ?_⟩
    · replace hw := ok_f hw c
      refine c_X6_moveAlong_in (ok_imp (ok_bind hw) ?_)
      intro p hw
      simp only [Option.toList, List.nil_append, List.cons_append, Nat.reduceSub]
      refine mj_run hG.1 (fun pc => pc == 4 || pc == 7 || pc == 17 || pc == 23 || pc == 32 || pc == 40) 4000 ?_
      simp only [mj_step, mj_W_s, mj_fin, List.getElem?_cons_zero, List.getElem?_cons_succ, mj_go, Nat.reduceAdd, Nat.reduceSub, Nat.reduceLT, Nat.reduceLeDiff, Nat.zero_add, Nat.reduceEqDiff, Nat.reduceBEq, ↓reduceIte, Bool.false_eq_true, List.append_nil, List.nil_append, List.cons_append, Option.toList, and_true, true_and, true_or, or_true, reduceCtorEq, List.map_nil, bI_eq0, bI_eq1, bool_ft, pk_us, vnar0, vnar1, Bool.or_false, Bool.or_true, Bool.false_or, Bool.true_or, mj_kne, eq_self, Int32.reduceLT, Int32.reduceLE, Int32.reduceAdd, Int32.reduceSub, Int32.reduceMul, not_true_eq_false, not_false_eq_true, false_implies, true_implies, D_X6_seatMore, mj_F_aload_n_k, mj_F_goto_off, mj_F_iadd, mj_F_iconst_n, mj_F_if_icmp_ge_off, mj_F_if_icmp_ne_off, mj_F_iinc_k_n, mj_F_iload_n_k, mj_F_invokevirtual_i, mj_F_ireturn, mj_F_istore_n_k, mj_F_ldc_i, mj_set, mj_set0, mj_unk, mj_c2, mj_kc, KT_X6, L_X6_seatMore, List.take_succ_cons, List.take_zero, List.drop_succ_cons, List.drop_zero, List.reverse_cons, List.reverse_nil, List.length_cons, List.length_nil, gS_C55, J_X6_seatMore]
      exact hG.2 _ _ _ _ _ _ _ _ _ (by refine ⟨Or.inr rfl, ?_⟩; refine ⟨Or.inr rfl, ?_⟩; refine ⟨Or.inr rfl, ?_⟩; exact trivial) (Nat.zero_le _) (Nat.zero_le _) (hP _ (ok_some hw :) :)
    · replace hw := ok_t hw c
      exact hG.2 _ _ _ _ _ _ _ _ _ (by refine ⟨Or.inl rfl, ?_⟩; refine ⟨Or.inr rfl, ?_⟩; exact trivial) (Nat.zero_le _) (Nat.zero_le _) (hK1 _ (ok_some hw :) :)

set_option maxHeartbeats 4000000 in
set_option maxRecDepth 20000 in
theorem g_X6_seatMore_40 {k : Option Value → mj_H → Prop} {G : mj_K} (hG : mj_cl2 cX6_seatMore (TbX6 4 ((some FieldType.int)) ct_X6_seatMore) k G)   {v1 : Int32} {s : St} (hw : ok (F_X6_seatMore_40 v1 s) (fun p => k (some (.int p.1)) (mkCs p.2))) : G 40 [mj_unk, .int v1] [] (mkCs s) 0 0 := by
  unfold F_X6_seatMore_40 at hw
  refine mj_run hG.1 (fun pc => pc == 4 || pc == 7 || pc == 17 || pc == 23 || pc == 32 || pc == 40) 4000 ?_
  simp only [mj_step, mj_W_s, mj_fin, List.getElem?_cons_zero, List.getElem?_cons_succ, mj_go, Nat.reduceAdd, Nat.reduceSub, Nat.reduceLT, Nat.reduceLeDiff, Nat.zero_add, Nat.reduceEqDiff, Nat.reduceBEq, ↓reduceIte, Bool.false_eq_true, List.append_nil, List.nil_append, List.cons_append, Option.toList, and_true, true_and, true_or, or_true, reduceCtorEq, List.map_nil, bI_eq0, bI_eq1, bool_ft, pk_us, vnar0, vnar1, Bool.or_false, Bool.or_true, Bool.false_or, Bool.true_or, mj_kne, eq_self, Int32.reduceLT, Int32.reduceLE, Int32.reduceAdd, Int32.reduceSub, Int32.reduceMul, not_true_eq_false, not_false_eq_true, false_implies, true_implies, D_X6_seatMore, mj_F_aload_n_k, mj_F_goto_off, mj_F_iadd, mj_F_iconst_n, mj_F_if_icmp_ge_off, mj_F_if_icmp_ne_off, mj_F_iinc_k_n, mj_F_iload_n_k, mj_F_invokevirtual_i, mj_F_ireturn, mj_F_istore_n_k, mj_F_ldc_i, mj_set, mj_set0, mj_unk, mj_c2, mj_kc, KT_X6, L_X6_seatMore, List.take_succ_cons, List.take_zero, List.drop_succ_cons, List.drop_zero, List.reverse_cons, List.reverse_nil, List.length_cons, List.length_nil, gS_C55, J_X6_seatMore]
  exact (ok_some hw :)

set_option maxHeartbeats 4000000 in
set_option maxRecDepth 20000 in
theorem g_X6_seatMore_23 {k : Option Value → mj_H → Prop} {G : mj_K} (hG : mj_cl2 cX6_seatMore (TbX6 4 ((some FieldType.int)) ct_X6_seatMore) k G)   {v1 : Int32} {s : St} (hw : ok (F_X6_seatMore_23 v1 s) (fun p => k (some (.int p.1)) (mkCs p.2))) : G 23 [mj_unk, .int v1] [] (mkCs s) 0 0 := by
  unfold F_X6_seatMore_23 at hw
  refine mj_run hG.1 (fun pc => pc == 4 || pc == 7 || pc == 17 || pc == 23 || pc == 32 || pc == 40) 4000 ?_
  simp only [mj_step, mj_W_s, mj_fin, List.getElem?_cons_zero, List.getElem?_cons_succ, mj_go, Nat.reduceAdd, Nat.reduceSub, Nat.reduceLT, Nat.reduceLeDiff, Nat.zero_add, Nat.reduceEqDiff, Nat.reduceBEq, ↓reduceIte, Bool.false_eq_true, List.append_nil, List.nil_append, List.cons_append, Option.toList, and_true, true_and, true_or, or_true, reduceCtorEq, List.map_nil, bI_eq0, bI_eq1, bool_ft, pk_us, vnar0, vnar1, Bool.or_false, Bool.or_true, Bool.false_or, Bool.true_or, mj_kne, eq_self, Int32.reduceLT, Int32.reduceLE, Int32.reduceAdd, Int32.reduceSub, Int32.reduceMul, not_true_eq_false, not_false_eq_true, false_implies, true_implies, D_X6_seatMore, mj_F_aload_n_k, mj_F_goto_off, mj_F_iadd, mj_F_iconst_n, mj_F_if_icmp_ge_off, mj_F_if_icmp_ne_off, mj_F_iinc_k_n, mj_F_iload_n_k, mj_F_invokevirtual_i, mj_F_ireturn, mj_F_istore_n_k, mj_F_ldc_i, mj_set, mj_set0, mj_unk, mj_c2, mj_kc, KT_X6, L_X6_seatMore, List.take_succ_cons, List.take_zero, List.drop_succ_cons, List.drop_zero, List.reverse_cons, List.reverse_nil, List.length_cons, List.length_nil, gS_C55, J_X6_seatMore]
  exact hG.2 _ _ _ _ _ _ _ _ _ (by refine ⟨Or.inl rfl, ?_⟩; refine ⟨Or.inr rfl, ?_⟩; exact trivial) (Nat.zero_le _) (Nat.zero_le _) (g_X6_seatMore_40 hG  hw :)

set_option maxHeartbeats 4000000 in
theorem g_X6_seatMore_7 {k : Option Value → mj_H → Prop} {G : mj_K} (hG : mj_cl2 cX6_seatMore (TbX6 4 ((some FieldType.int)) ct_X6_seatMore) k G)   {v1 : Int32} {v2 : Int32} {s : St} (hw : ok (F_X6_seatMore_7 v1 v2 s) (fun p => k (some (.int p.1)) (mkCs p.2))) : G 7 [.ref 55, .int v1, .int v2] [] (mkCs s) 0 0 := by
  unfold F_X6_seatMore_7 at hw
  refine lp_ok (B_X6_seatMore_7 ) (fun x => G 7 [.ref 55, .int x.1, .int x.2.1] [] (mkCs x.2.2) 0 0) _ ?_ _ _ (ok_bind hw)
  rintro ⟨v1, v2, s⟩ hb
  exact b_X6_seatMore_7 hG (fun _ z => z) (fun y hw => by exact hG.2 _ _ _ _ _ _ _ _ _ (by refine ⟨Or.inl rfl, ?_⟩; refine ⟨Or.inr rfl, ?_⟩; exact trivial) (Nat.zero_le _) (Nat.zero_le _) (g_X6_seatMore_40 hG  hw :)) (fun y hw => by exact hG.2 _ _ _ _ _ _ _ _ _ (by refine ⟨Or.inl rfl, ?_⟩; refine ⟨Or.inr rfl, ?_⟩; exact trivial) (Nat.zero_le _) (Nat.zero_le _) (g_X6_seatMore_23 hG  hw :)) hb

set_option maxHeartbeats 4000000 in
set_option maxRecDepth 20000 in
theorem g_X6_seatMore {k : Option Value → mj_H → Prop} {G : mj_K} (hG : mj_cl2 cX6_seatMore (TbX6 4 ((some FieldType.int)) ct_X6_seatMore) k G) {s : St} (hw : ok (F_X6_seatMore s) (fun p => k (some (.int p.1)) (mkCs p.2))) : G 0 [.ref 55] [] (mkCs s) 0 0 := by
  unfold F_X6_seatMore at hw
  refine mj_run hG.1 (fun pc => pc == 4 || pc == 7 || pc == 17 || pc == 23 || pc == 32 || pc == 40) 4000 ?_
  simp only [mj_step, mj_W_s, mj_fin, List.getElem?_cons_zero, List.getElem?_cons_succ, mj_go, Nat.reduceAdd, Nat.reduceSub, Nat.reduceLT, Nat.reduceLeDiff, Nat.zero_add, Nat.reduceEqDiff, Nat.reduceBEq, ↓reduceIte, Bool.false_eq_true, List.append_nil, List.nil_append, List.cons_append, Option.toList, and_true, true_and, true_or, or_true, reduceCtorEq, List.map_nil, bI_eq0, bI_eq1, bool_ft, pk_us, vnar0, vnar1, Bool.or_false, Bool.or_true, Bool.false_or, Bool.true_or, mj_kne, eq_self, Int32.reduceLT, Int32.reduceLE, Int32.reduceAdd, Int32.reduceSub, Int32.reduceMul, not_true_eq_false, not_false_eq_true, false_implies, true_implies, D_X6_seatMore, mj_F_aload_n_k, mj_F_goto_off, mj_F_iadd, mj_F_iconst_n, mj_F_if_icmp_ge_off, mj_F_if_icmp_ne_off, mj_F_iinc_k_n, mj_F_iload_n_k, mj_F_invokevirtual_i, mj_F_ireturn, mj_F_istore_n_k, mj_F_ldc_i, mj_set, mj_set0, mj_unk, mj_c2, mj_kc, KT_X6, L_X6_seatMore, List.take_succ_cons, List.take_zero, List.drop_succ_cons, List.drop_zero, List.reverse_cons, List.reverse_nil, List.length_cons, List.length_nil, gS_C55, J_X6_seatMore]
  refine c_X6_seatedInAll_in (ok_imp (ok_bind hw) ?_)
  intro p hw
  simp only [Option.toList, List.nil_append, List.cons_append, Nat.reduceSub]
  refine mj_run hG.1 (fun pc => pc == 4 || pc == 7 || pc == 17 || pc == 23 || pc == 32 || pc == 40) 4000 ?_
  simp only [mj_step, mj_W_s, mj_fin, List.getElem?_cons_zero, List.getElem?_cons_succ, mj_go, Nat.reduceAdd, Nat.reduceSub, Nat.reduceLT, Nat.reduceLeDiff, Nat.zero_add, Nat.reduceEqDiff, Nat.reduceBEq, ↓reduceIte, Bool.false_eq_true, List.append_nil, List.nil_append, List.cons_append, Option.toList, and_true, true_and, true_or, or_true, reduceCtorEq, List.map_nil, bI_eq0, bI_eq1, bool_ft, pk_us, vnar0, vnar1, Bool.or_false, Bool.or_true, Bool.false_or, Bool.true_or, mj_kne, eq_self, Int32.reduceLT, Int32.reduceLE, Int32.reduceAdd, Int32.reduceSub, Int32.reduceMul, not_true_eq_false, not_false_eq_true, false_implies, true_implies, D_X6_seatMore, mj_F_aload_n_k, mj_F_goto_off, mj_F_iadd, mj_F_iconst_n, mj_F_if_icmp_ge_off, mj_F_if_icmp_ne_off, mj_F_iinc_k_n, mj_F_iload_n_k, mj_F_invokevirtual_i, mj_F_ireturn, mj_F_istore_n_k, mj_F_ldc_i, mj_set, mj_set0, mj_unk, mj_c2, mj_kc, KT_X6, L_X6_seatMore, List.take_succ_cons, List.take_zero, List.drop_succ_cons, List.drop_zero, List.reverse_cons, List.reverse_nil, List.length_cons, List.length_nil, gS_C55, J_X6_seatMore]
  exact hG.2 _ _ _ _ _ _ _ _ _ (by refine ⟨Or.inr rfl, ?_⟩; refine ⟨Or.inr rfl, ?_⟩; refine ⟨Or.inr rfl, ?_⟩; exact trivial) (Nat.zero_le _) (Nat.zero_le _) (g_X6_seatMore_7 hG  hw :)

def c_X6_seatMore : mj_S := fun as h k => ∃ (s : St), as = [.ref 55] ∧ h = mkCs s ∧ ok (F_X6_seatMore s) (fun p => k (some (.int p.1)) (mkCs p.2))
theorem c_X6_seatMore_in {s : St} {k : Option Value → mj_H → Prop} (hw : ok (F_X6_seatMore s) (fun p => k (some (.int p.1)) (mkCs p.2))) : c_X6_seatMore [.ref 55] (mkCs s) k := ⟨s, rfl, rfl, hw⟩
theorem m_X6_seatMore (l : Launch) : mj_Met l yX6_seatMore cX6_seatMore 4 ((some FieldType.int)) 2 0 0 c_X6_seatMore := by
  refine mj_body2 false (TbX6 4 ((some FieldType.int)) ct_X6_seatMore) (by decide) rfl rfl (fun h => nomatch h) (tfX6 _ (List.forall_mem_cons.mpr ⟨cfX6_121 (m_X6_seatedInAll l) (by decide), List.forall_mem_cons.mpr ⟨cfX6_126 (m_X6_endOfChain l) (by decide), List.forall_mem_cons.mpr ⟨cfX6_129 (m_X6_moveAlong l) (by decide), fun _ h => nomatch h⟩⟩⟩)) ?_
  rintro as h k ⟨s, rfl, rfl, hw⟩
  exact ⟨rfl, fun G hG => g_X6_seatMore hG hw⟩
def F_X11_most (v1 : Int32) (v2 : Int32) (s : St) : Option (Int32 × St) :=
  (F_X11_isPast v1 s).bind fun r1 =>
  if r1 = 0 then
    some ((-1), s)
  else
    (F_X11_isPast v2 s).bind fun r2 =>
    if r2 = 0 then
      some ((-1), s)
    else
      (F_X6_survey v1 v2 s).bind fun s3 =>
      (F_X6_seatAll s3).bind fun s4 =>
      (F_X6_seatMore s4).bind fun r5 =>
      some (r5.1, r5.2)
theorem J_X11_most : mj_t 5 11 = 16 ∧ mj_t 13 5 = 18 ∧ (0 ≤ ((5 : Nat) : Int) + 11) = True ∧ (0 ≤ ((13 : Nat) : Int) + 5) = True := by and_intros <;> first | rfl | exact eq_true (by decide)
def ct_X11_most : List (Nat × mj_Cs) := [(148, 0, 2, 11, 0, 0, c_X11_isPast), (245, 0, 3, 6, 25, 3000, c_X6_survey), (254, 0, 1, 6, 0, 0, c_X6_seatAll), (269, 0, 1, 6, 0, 0, c_X6_seatMore)]
theorem L_X11_most : mj_lk ct_X11_most 148 = some (0, 2, 11, 0, 0, c_X11_isPast) ∧ mj_lk ct_X11_most 245 = some (0, 3, 6, 25, 3000, c_X6_survey) ∧ mj_lk ct_X11_most 254 = some (0, 1, 6, 0, 0, c_X6_seatAll) ∧ mj_lk ct_X11_most 269 = some (0, 1, 6, 0, 0, c_X6_seatMore) := ⟨rfl, rfl, rfl, rfl⟩
set_option maxHeartbeats 4000000 in
set_option maxRecDepth 20000 in
theorem g_X11_most {k : Option Value → mj_H → Prop} {G : mj_K} (hG : mj_cl2 cX11_most (TbX11 3 ((some FieldType.int)) ct_X11_most) k G) {v1 : Int32} {v2 : Int32} {s : St} (hw : ok (F_X11_most v1 v2 s) (fun p => k (some (.int p.1)) (mkCs p.2))) : G 0 [.ref 0, .int v1, .int v2] [] (mkCs s) 25 3000 := by
  unfold F_X11_most at hw
  refine mj_run hG.1 (fun pc => pc == 5 || pc == 13 || pc == 27 || pc == 34 || pc == 41) 4000 ?_
  simp only [mj_step, mj_W_s, mj_fin, List.getElem?_cons_zero, List.getElem?_cons_succ, mj_go, Nat.reduceAdd, Nat.reduceSub, Nat.reduceLT, Nat.reduceLeDiff, Nat.zero_add, Nat.reduceEqDiff, Nat.reduceBEq, ↓reduceIte, Bool.false_eq_true, List.append_nil, List.nil_append, List.cons_append, Option.toList, and_true, true_and, true_or, or_true, reduceCtorEq, List.map_nil, bI_eq0, bI_eq1, bool_ft, pk_us, vnar0, vnar1, Bool.or_false, Bool.or_true, Bool.false_or, Bool.true_or, mj_kne, eq_self, Int32.reduceLT, Int32.reduceLE, Int32.reduceAdd, Int32.reduceSub, Int32.reduceMul, not_true_eq_false, not_false_eq_true, false_implies, true_implies, D_X11_most, mj_F_aload_n_k, mj_F_getfield_i, mj_F_iconst_n, mj_F_ifCond_eq_off, mj_F_ifCond_ne_off, mj_F_iload_n_k, mj_F_invokevirtual_i, mj_F_ireturn, mj_kc, FT_X11, L_X11_most, List.take_succ_cons, List.take_zero, List.drop_succ_cons, List.drop_zero, List.reverse_cons, List.reverse_nil, List.length_cons, List.length_nil, gS_C0, gCf11_7, gS_C55, J_X11_most]
  refine c_X11_isPast_in (ok_imp (ok_bind hw) ?_)
  intro p hw
  simp only [Option.toList, List.nil_append, List.cons_append, Nat.reduceSub]
  refine mj_run hG.1 (fun pc => pc == 5 || pc == 13 || pc == 27 || pc == 34 || pc == 41) 4000 ?_
  simp only [mj_step, mj_W_s, mj_fin, List.getElem?_cons_zero, List.getElem?_cons_succ, mj_go, Nat.reduceAdd, Nat.reduceSub, Nat.reduceLT, Nat.reduceLeDiff, Nat.zero_add, Nat.reduceEqDiff, Nat.reduceBEq, ↓reduceIte, Bool.false_eq_true, List.append_nil, List.nil_append, List.cons_append, Option.toList, and_true, true_and, true_or, or_true, reduceCtorEq, List.map_nil, bI_eq0, bI_eq1, bool_ft, pk_us, vnar0, vnar1, Bool.or_false, Bool.or_true, Bool.false_or, Bool.true_or, mj_kne, eq_self, Int32.reduceLT, Int32.reduceLE, Int32.reduceAdd, Int32.reduceSub, Int32.reduceMul, not_true_eq_false, not_false_eq_true, false_implies, true_implies, D_X11_most, mj_F_aload_n_k, mj_F_getfield_i, mj_F_iconst_n, mj_F_ifCond_eq_off, mj_F_ifCond_ne_off, mj_F_iload_n_k, mj_F_invokevirtual_i, mj_F_ireturn, mj_kc, FT_X11, L_X11_most, List.take_succ_cons, List.take_zero, List.drop_succ_cons, List.drop_zero, List.reverse_cons, List.reverse_nil, List.length_cons, List.length_nil, gS_C0, gCf11_7, gS_C55, J_X11_most]
  refine ⟨fun c => ?_, fun c => ?_⟩
  · replace hw := ok_t hw c
    exact (ok_some hw :)
  · replace hw := ok_f hw c
    refine c_X11_isPast_in (ok_imp (ok_bind hw) ?_)
    intro p hw
    simp only [Option.toList, List.nil_append, List.cons_append, Nat.reduceSub]
    refine mj_run hG.1 (fun pc => pc == 5 || pc == 13 || pc == 27 || pc == 34 || pc == 41) 4000 ?_
    simp only [mj_step, mj_W_s, mj_fin, List.getElem?_cons_zero, List.getElem?_cons_succ, mj_go, Nat.reduceAdd, Nat.reduceSub, Nat.reduceLT, Nat.reduceLeDiff, Nat.zero_add, Nat.reduceEqDiff, Nat.reduceBEq, ↓reduceIte, Bool.false_eq_true, List.append_nil, List.nil_append, List.cons_append, Option.toList, and_true, true_and, true_or, or_true, reduceCtorEq, List.map_nil, bI_eq0, bI_eq1, bool_ft, pk_us, vnar0, vnar1, Bool.or_false, Bool.or_true, Bool.false_or, Bool.true_or, mj_kne, eq_self, Int32.reduceLT, Int32.reduceLE, Int32.reduceAdd, Int32.reduceSub, Int32.reduceMul, not_true_eq_false, not_false_eq_true, false_implies, true_implies, D_X11_most, mj_F_aload_n_k, mj_F_getfield_i, mj_F_iconst_n, mj_F_ifCond_eq_off, mj_F_ifCond_ne_off, mj_F_iload_n_k, mj_F_invokevirtual_i, mj_F_ireturn, mj_kc, FT_X11, L_X11_most, List.take_succ_cons, List.take_zero, List.drop_succ_cons, List.drop_zero, List.reverse_cons, List.reverse_nil, List.length_cons, List.length_nil, gS_C0, gCf11_7, gS_C55, J_X11_most]
    refine ⟨fun c => ?_, fun c => ?_⟩
    · replace hw := ok_f hw c
      refine c_X6_survey_in (ok_imp (ok_bind hw) ?_)
      intro p hw
      simp only [Option.toList, List.nil_append, List.cons_append, Nat.reduceSub]
      refine mj_run hG.1 (fun pc => pc == 5 || pc == 13 || pc == 27 || pc == 34 || pc == 41) 4000 ?_
      simp only [mj_step, mj_W_s, mj_fin, List.getElem?_cons_zero, List.getElem?_cons_succ, mj_go, Nat.reduceAdd, Nat.reduceSub, Nat.reduceLT, Nat.reduceLeDiff, Nat.zero_add, Nat.reduceEqDiff, Nat.reduceBEq, ↓reduceIte, Bool.false_eq_true, List.append_nil, List.nil_append, List.cons_append, Option.toList, and_true, true_and, true_or, or_true, reduceCtorEq, List.map_nil, bI_eq0, bI_eq1, bool_ft, pk_us, vnar0, vnar1, Bool.or_false, Bool.or_true, Bool.false_or, Bool.true_or, mj_kne, eq_self, Int32.reduceLT, Int32.reduceLE, Int32.reduceAdd, Int32.reduceSub, Int32.reduceMul, not_true_eq_false, not_false_eq_true, false_implies, true_implies, D_X11_most, mj_F_aload_n_k, mj_F_getfield_i, mj_F_iconst_n, mj_F_ifCond_eq_off, mj_F_ifCond_ne_off, mj_F_iload_n_k, mj_F_invokevirtual_i, mj_F_ireturn, mj_kc, FT_X11, L_X11_most, List.take_succ_cons, List.take_zero, List.drop_succ_cons, List.drop_zero, List.reverse_cons, List.reverse_nil, List.length_cons, List.length_nil, gS_C0, gCf11_7, gS_C55, J_X11_most]
      refine c_X6_seatAll_in (ok_imp (ok_bind hw) ?_)
      intro p hw
      simp only [Option.toList, List.nil_append, List.cons_append, Nat.reduceSub]
      refine mj_run hG.1 (fun pc => pc == 5 || pc == 13 || pc == 27 || pc == 34 || pc == 41) 4000 ?_
      simp only [mj_step, mj_W_s, mj_fin, List.getElem?_cons_zero, List.getElem?_cons_succ, mj_go, Nat.reduceAdd, Nat.reduceSub, Nat.reduceLT, Nat.reduceLeDiff, Nat.zero_add, Nat.reduceEqDiff, Nat.reduceBEq, ↓reduceIte, Bool.false_eq_true, List.append_nil, List.nil_append, List.cons_append, Option.toList, and_true, true_and, true_or, or_true, reduceCtorEq, List.map_nil, bI_eq0, bI_eq1, bool_ft, pk_us, vnar0, vnar1, Bool.or_false, Bool.or_true, Bool.false_or, Bool.true_or, mj_kne, eq_self, Int32.reduceLT, Int32.reduceLE, Int32.reduceAdd, Int32.reduceSub, Int32.reduceMul, not_true_eq_false, not_false_eq_true, false_implies, true_implies, D_X11_most, mj_F_aload_n_k, mj_F_getfield_i, mj_F_iconst_n, mj_F_ifCond_eq_off, mj_F_ifCond_ne_off, mj_F_iload_n_k, mj_F_invokevirtual_i, mj_F_ireturn, mj_kc, FT_X11, L_X11_most, List.take_succ_cons, List.take_zero, List.drop_succ_cons, List.drop_zero, List.reverse_cons, List.reverse_nil, List.length_cons, List.length_nil, gS_C0, gCf11_7, gS_C55, J_X11_most]
      refine c_X6_seatMore_in (ok_imp (ok_bind hw) ?_)
      intro p hw
      simp only [Option.toList, List.nil_append, List.cons_append, Nat.reduceSub]
      refine mj_run hG.1 (fun pc => pc == 5 || pc == 13 || pc == 27 || pc == 34 || pc == 41) 4000 ?_
      simp only [mj_step, mj_W_s, mj_fin, List.getElem?_cons_zero, List.getElem?_cons_succ, mj_go, Nat.reduceAdd, Nat.reduceSub, Nat.reduceLT, Nat.reduceLeDiff, Nat.zero_add, Nat.reduceEqDiff, Nat.reduceBEq, ↓reduceIte, Bool.false_eq_true, List.append_nil, List.nil_append, List.cons_append, Option.toList, and_true, true_and, true_or, or_true, reduceCtorEq, List.map_nil, bI_eq0, bI_eq1, bool_ft, pk_us, vnar0, vnar1, Bool.or_false, Bool.or_true, Bool.false_or, Bool.true_or, mj_kne, eq_self, Int32.reduceLT, Int32.reduceLE, Int32.reduceAdd, Int32.reduceSub, Int32.reduceMul, not_true_eq_false, not_false_eq_true, false_implies, true_implies, D_X11_most, mj_F_aload_n_k, mj_F_getfield_i, mj_F_iconst_n, mj_F_ifCond_eq_off, mj_F_ifCond_ne_off, mj_F_iload_n_k, mj_F_invokevirtual_i, mj_F_ireturn, mj_kc, FT_X11, L_X11_most, List.take_succ_cons, List.take_zero, List.drop_succ_cons, List.drop_zero, List.reverse_cons, List.reverse_nil, List.length_cons, List.length_nil, gS_C0, gCf11_7, gS_C55, J_X11_most]
      exact (ok_some hw :)
    · replace hw := ok_t hw c
      exact (ok_some hw :)

def c_X11_most : mj_S := fun as h k => ∃ (v1 : Int32) (v2 : Int32) (s : St), as = [.ref 0, .int v1, .int v2] ∧ h = mkCs s ∧ ok (F_X11_most v1 v2 s) (fun p => k (some (.int p.1)) (mkCs p.2))
theorem c_X11_most_in {v1 : Int32} {v2 : Int32} {s : St} {k : Option Value → mj_H → Prop} (hw : ok (F_X11_most v1 v2 s) (fun p => k (some (.int p.1)) (mkCs p.2))) : c_X11_most [.ref 0, .int v1, .int v2] (mkCs s) k := ⟨v1, v2, s, rfl, rfl, hw⟩
theorem m_X11_most (l : Launch) : mj_Met l yX11_most cX11_most 3 ((some FieldType.int)) 6 25 3000 c_X11_most := by
  refine mj_body2 false (TbX11 3 ((some FieldType.int)) ct_X11_most) (by decide) rfl rfl (fun h => nomatch h) (tfX11 _ (List.forall_mem_cons.mpr ⟨cfX11_148 (m_X11_isPast l) (by decide), List.forall_mem_cons.mpr ⟨cfX11_245 (m_X6_survey l) (by decide), List.forall_mem_cons.mpr ⟨cfX11_254 (m_X6_seatAll l) (by decide), List.forall_mem_cons.mpr ⟨cfX11_269 (m_X6_seatMore l) (by decide), fun _ h => nomatch h⟩⟩⟩⟩)) ?_
  rintro as h k ⟨v1, v2, s, rfl, rfl, hw⟩
  exact ⟨rfl, fun G hG => g_X11_most hG hw⟩
def F_X7_mark (v1 : Int32) (s : St) : Option (Int32 × St) :=
  if (s.1 702) < 9 then
    (wr s 703 9 (s.1 702) v1).bind fun s1 =>
    (wI s1 702 ((s1.1 702) + 1)).bind fun s2 =>
    some (((s2.1 702) - 1), s2)
  else
    some ((-1), s)
theorem J_X7_mark : mj_t 6 5 = 11 ∧ (0 ≤ ((6 : Nat) : Int) + 5) = True := by and_intros <;> first | rfl | exact eq_true (by decide)
set_option maxHeartbeats 4000000 in
set_option maxRecDepth 20000 in
theorem g_X7_mark {k : Option Value → mj_H → Prop} {G : mj_K} (hG : mj_cl2 cX7_mark (TbX7 2 ((some FieldType.int)) []) k G) {v1 : Int32} {s : St} (hw : ok (F_X7_mark v1 s) (fun p => k (some (.int p.1)) (mkCs p.2))) : G 0 [.ref 81, .int v1] [] (mkCs s) 0 0 := by
  unfold F_X7_mark at hw
  refine mj_run hG.1 (fun _ => false) 4000 ?_
  simp only [mj_step, mj_W_s, mj_fin, List.getElem?_cons_zero, List.getElem?_cons_succ, mj_go, Nat.reduceAdd, Nat.reduceSub, Nat.reduceLT, Nat.reduceLeDiff, Nat.zero_add, Nat.reduceEqDiff, Nat.reduceBEq, ↓reduceIte, Bool.false_eq_true, List.append_nil, List.nil_append, List.cons_append, Option.toList, and_true, true_and, true_or, or_true, reduceCtorEq, List.map_nil, bI_eq0, bI_eq1, bool_ft, pk_us, vnar0, vnar1, Bool.or_false, Bool.or_true, Bool.false_or, Bool.true_or, mj_kne, eq_self, Int32.reduceLT, Int32.reduceLE, Int32.reduceAdd, Int32.reduceSub, Int32.reduceMul, not_true_eq_false, not_false_eq_true, false_implies, true_implies, D_X7_mark, mj_F_aload_n_k, mj_F_bipush_n, mj_F_dup, mj_F_getfield_i, mj_F_iadd, mj_F_iastore, mj_F_iconst_n, mj_F_if_icmp_lt_off, mj_F_iload_n_k, mj_F_ireturn, mj_F_isub, mj_F_putfield_i, mj_c2, mj_kc, FT_X7, PT_X7, gS_C81, gCf7_2, gCf7_3, gS_C82, sS_Ca_82, sS_Cf_7_2, gCf7len, J_X7_mark]
  refine ⟨fun c => ?_, fun c => ?_⟩
  · replace hw := ok_t hw c
    refine ⟨(ok_wr hw).1, ?_⟩
    replace hw := (ok_wr hw).2
    replace hw := ok_wI hw
    exact (ok_some hw :)
  · replace hw := ok_f hw c
    exact (ok_some hw :)

def c_X7_mark : mj_S := fun as h k => ∃ (v1 : Int32) (s : St), as = [.ref 81, .int v1] ∧ h = mkCs s ∧ ok (F_X7_mark v1 s) (fun p => k (some (.int p.1)) (mkCs p.2))
theorem c_X7_mark_in {v1 : Int32} {s : St} {k : Option Value → mj_H → Prop} (hw : ok (F_X7_mark v1 s) (fun p => k (some (.int p.1)) (mkCs p.2))) : c_X7_mark [.ref 81, .int v1] (mkCs s) k := ⟨v1, s, rfl, rfl, hw⟩
theorem m_X7_mark (l : Launch) : mj_Met l yX7_mark cX7_mark 2 ((some FieldType.int)) 0 0 0 c_X7_mark := by
  refine mj_body2 false (TbX7 2 ((some FieldType.int)) []) (by decide) rfl rfl (fun h => nomatch h) (tfX7 _ (fun _ h => nomatch h)) ?_
  rintro as h k ⟨v1, s, rfl, rfl, hw⟩
  exact ⟨rfl, fun G hG => g_X7_mark hG hw⟩
def F_X11_site (v1 : Int32) (s : St) : Option (Int32 × St) :=
  if inb v1 0 119 = false then
    some ((-1), s)
  else
    (F_X7_mark v1 s).bind fun r1 =>
    some (r1.1, r1.2)
theorem J_X11_site : mj_t 4 14 = 18 ∧ mj_t 15 4 = 19 ∧ (0 ≤ ((4 : Nat) : Int) + 14) = True ∧ (0 ≤ ((15 : Nat) : Int) + 4) = True := by and_intros <;> first | rfl | exact eq_true (by decide)
def ct_X11_site : List (Nat × mj_Cs) := [(118, 2, 1, 11, 0, 0, c_isCell), (272, 0, 2, 7, 0, 0, c_X7_mark)]
theorem L_X11_site : mj_lk ct_X11_site 118 = some (2, 1, 11, 0, 0, c_isCell) ∧ mj_lk ct_X11_site 272 = some (0, 2, 7, 0, 0, c_X7_mark) := ⟨rfl, rfl⟩
set_option maxHeartbeats 4000000 in
set_option maxRecDepth 20000 in
theorem g_X11_site {k : Option Value → mj_H → Prop} {G : mj_K} (hG : mj_cl2 cX11_site (TbX11 2 ((some FieldType.int)) ct_X11_site) k G) {v1 : Int32} {s : St} (hw : ok (F_X11_site v1 s) (fun p => k (some (.int p.1)) (mkCs p.2))) : G 0 [.ref 0, .int v1] [] (mkCs s) 0 0 := by
  unfold F_X11_site at hw
  refine mj_run hG.1 (fun pc => pc == 15) 4000 ?_
  simp only [mj_step, mj_W_s, mj_fin, List.getElem?_cons_zero, List.getElem?_cons_succ, mj_go, Nat.reduceAdd, Nat.reduceSub, Nat.reduceLT, Nat.reduceLeDiff, Nat.zero_add, Nat.reduceEqDiff, Nat.reduceBEq, ↓reduceIte, Bool.false_eq_true, List.append_nil, List.nil_append, List.cons_append, Option.toList, and_true, true_and, true_or, or_true, reduceCtorEq, List.map_nil, bI_eq0, bI_eq1, bool_ft, pk_us, vnar0, vnar1, Bool.or_false, Bool.or_true, Bool.false_or, Bool.true_or, mj_kne, eq_self, Int32.reduceLT, Int32.reduceLE, Int32.reduceAdd, Int32.reduceSub, Int32.reduceMul, not_true_eq_false, not_false_eq_true, false_implies, true_implies, D_X11_site, mj_F_aload_n_k, mj_F_getfield_i, mj_F_goto_off, mj_F_iconst_n, mj_F_ifCond_eq_off, mj_F_iload_n_k, mj_F_invokestatic_i, mj_F_invokevirtual_i, mj_F_ireturn, mj_kc, FT_X11, L_X11_site, List.take_succ_cons, List.take_zero, List.drop_succ_cons, List.drop_zero, List.reverse_cons, List.reverse_nil, List.length_cons, List.length_nil, gS_C0, gCf11_10, c_isCell_eq, gS_C81, J_X11_site]
  refine ⟨fun c => ?_, fun c => ?_⟩
  · replace hw := ok_t hw c
    exact (ok_some hw :)
  · replace hw := ok_f hw c
    refine c_X7_mark_in (ok_imp (ok_bind hw) ?_)
    intro p hw
    simp only [Option.toList, List.nil_append, List.cons_append, Nat.reduceSub]
    refine mj_run hG.1 (fun pc => pc == 15) 4000 ?_
    simp only [mj_step, mj_W_s, mj_fin, List.getElem?_cons_zero, List.getElem?_cons_succ, mj_go, Nat.reduceAdd, Nat.reduceSub, Nat.reduceLT, Nat.reduceLeDiff, Nat.zero_add, Nat.reduceEqDiff, Nat.reduceBEq, ↓reduceIte, Bool.false_eq_true, List.append_nil, List.nil_append, List.cons_append, Option.toList, and_true, true_and, true_or, or_true, reduceCtorEq, List.map_nil, bI_eq0, bI_eq1, bool_ft, pk_us, vnar0, vnar1, Bool.or_false, Bool.or_true, Bool.false_or, Bool.true_or, mj_kne, eq_self, Int32.reduceLT, Int32.reduceLE, Int32.reduceAdd, Int32.reduceSub, Int32.reduceMul, not_true_eq_false, not_false_eq_true, false_implies, true_implies, D_X11_site, mj_F_aload_n_k, mj_F_getfield_i, mj_F_goto_off, mj_F_iconst_n, mj_F_ifCond_eq_off, mj_F_iload_n_k, mj_F_invokestatic_i, mj_F_invokevirtual_i, mj_F_ireturn, mj_kc, FT_X11, L_X11_site, List.take_succ_cons, List.take_zero, List.drop_succ_cons, List.drop_zero, List.reverse_cons, List.reverse_nil, List.length_cons, List.length_nil, gS_C0, gCf11_10, c_isCell_eq, gS_C81, J_X11_site]
    exact (ok_some hw :)

def c_X11_site : mj_S := fun as h k => ∃ (v1 : Int32) (s : St), as = [.ref 0, .int v1] ∧ h = mkCs s ∧ ok (F_X11_site v1 s) (fun p => k (some (.int p.1)) (mkCs p.2))
theorem c_X11_site_in {v1 : Int32} {s : St} {k : Option Value → mj_H → Prop} (hw : ok (F_X11_site v1 s) (fun p => k (some (.int p.1)) (mkCs p.2))) : c_X11_site [.ref 0, .int v1] (mkCs s) k := ⟨v1, s, rfl, rfl, hw⟩
theorem m_X11_site (l : Launch) : mj_Met l yX11_site cX11_site 2 ((some FieldType.int)) 2 0 0 c_X11_site := by
  refine mj_body2 false (TbX11 2 ((some FieldType.int)) ct_X11_site) (by decide) rfl rfl (fun h => nomatch h) (tfX11 _ (List.forall_mem_cons.mpr ⟨cfX11_118 (m_X11_isCell l) (by decide), List.forall_mem_cons.mpr ⟨cfX11_272 (m_X7_mark l) (by decide), fun _ h => nomatch h⟩⟩)) ?_
  rintro as h k ⟨v1, s, rfl, rfl, hw⟩
  exact ⟨rfl, fun G hG => g_X11_site hG hw⟩
def F_X11_areVillages (v1 : Int32) (s : St) : Option (Int32) :=
  some (bI (inb v1 0 ((1 <<< ((s.1 101) &&& 31)) - 1)))
def ct_X11_areVillages : List (Nat × mj_Cs) := [(96, 2, 3, 11, 0, 0, c_in)]
theorem L_X11_areVillages : mj_lk ct_X11_areVillages 96 = some (2, 3, 11, 0, 0, c_in) := rfl
set_option maxHeartbeats 4000000 in
set_option maxRecDepth 20000 in
theorem g_X11_areVillages {k : Option Value → mj_H → Prop} {G : mj_K} (hG : mj_cl2 cX11_areVillages (TbX11 2 ((some FieldType.boolean)) ct_X11_areVillages) k G) {v1 : Int32} {s : St} (hw : ok (F_X11_areVillages v1 s) (fun p => k (some (.int p)) (mkCs s))) : G 0 [.ref 0, .int v1] [] (mkCs s) 0 0 := by
  unfold F_X11_areVillages at hw
  refine mj_run hG.1 (fun _ => false) 4000 ?_
  simp only [mj_step, mj_W_s, mj_fin, List.getElem?_cons_zero, List.getElem?_cons_succ, mj_go, Nat.reduceAdd, Nat.reduceSub, Nat.reduceLT, Nat.reduceLeDiff, Nat.zero_add, Nat.reduceEqDiff, Nat.reduceBEq, ↓reduceIte, Bool.false_eq_true, List.append_nil, List.nil_append, List.cons_append, Option.toList, and_true, true_and, true_or, or_true, reduceCtorEq, List.map_nil, bI_eq0, bI_eq1, bool_ft, pk_us, vnar0, vnar1, Bool.or_false, Bool.or_true, Bool.false_or, Bool.true_or, mj_kne, eq_self, Int32.reduceLT, Int32.reduceLE, Int32.reduceAdd, Int32.reduceSub, Int32.reduceMul, not_true_eq_false, not_false_eq_true, false_implies, true_implies, D_X11_areVillages, mj_F_aload_n_k, mj_F_getfield_i, mj_F_iconst_n, mj_F_iload_n_k, mj_F_invokestatic_i, mj_F_ireturn, mj_F_ishl, mj_F_isub, mj_kc, FT_X11, L_X11_areVillages, List.take_succ_cons, List.take_zero, List.drop_succ_cons, List.drop_zero, List.reverse_cons, List.reverse_nil, List.length_cons, List.length_nil, gS_C0, gCf11_4, gS_C20, gCf1_1, c_in_eq]
  exact (ok_some hw :)

def c_X11_areVillages : mj_S := fun as h k => ∃ (v1 : Int32) (s : St), as = [.ref 0, .int v1] ∧ h = mkCs s ∧ ok (F_X11_areVillages v1 s) (fun p => k (some (.int p)) (mkCs s))
theorem c_X11_areVillages_in {v1 : Int32} {s : St} {k : Option Value → mj_H → Prop} (hw : ok (F_X11_areVillages v1 s) (fun p => k (some (.int p)) (mkCs s))) : c_X11_areVillages [.ref 0, .int v1] (mkCs s) k := ⟨v1, s, rfl, rfl, hw⟩
theorem m_X11_areVillages (l : Launch) : mj_Met l yX11_areVillages cX11_areVillages 2 ((some FieldType.boolean)) 1 0 0 c_X11_areVillages := by
  refine mj_body2 false (TbX11 2 ((some FieldType.boolean)) ct_X11_areVillages) (by decide) rfl rfl (fun h => nomatch h) (tfX11 _ (List.forall_mem_cons.mpr ⟨cfX11_96 (m_X11_within l) (by decide), fun _ h => nomatch h⟩)) ?_
  rintro as h k ⟨v1, s, rfl, rfl, hw⟩
  exact ⟨rfl, fun G hG => g_X11_areVillages hG hw⟩
def B_X7_nearBits_5 (v1 : Nat) (v2 : Int32) (s : St) : Int32 × Int32 → Option ((Int32 × Int32) ⊕ ((Int32)))
  | (v3, v4) =>
  if (s.1 702) ≤ v4 then
    some (.inr v3)
  else
    (rd s 703 9 v4).bind fun x1 =>
    (ra s v1 x1).bind fun x2 =>
    if 100000000 ≤ x2 then
      some (.inl (v3, (v4 + 1)))
    else
      if v2 < x2 then
        some (.inl (v3, (v4 + 1)))
      else
        some (.inl ((v3 ||| (1 <<< (v4 &&& 31))), (v4 + 1)))
def F_X7_nearBits_51 (v3 : Int32) (s : St) : Option (Int32) :=
  some v3
def F_X7_nearBits_5 (v1 : Nat) (v2 : Int32) (v3 : Int32) (v4 : Int32) (s : St) : Option (Int32) :=
  (lp (B_X7_nearBits_5 v1 v2 s) FU (v3, v4)).bind (fun y => F_X7_nearBits_51 y s)
def F_X7_nearBits (v1 : Nat) (v2 : Int32) (s : St) : Option (Int32) :=
  F_X7_nearBits_5 v1 v2 0 0 s
theorem J_X7_nearBits : mj_t 11 40 = 51 ∧ mj_t 29 16 = 45 ∧ mj_t 35 10 = 45 ∧ mj_t 48 (-43) = 5 ∧ (0 ≤ ((11 : Nat) : Int) + 40) = True ∧ (0 ≤ ((29 : Nat) : Int) + 16) = True ∧ (0 ≤ ((35 : Nat) : Int) + 10) = True ∧ (0 ≤ ((48 : Nat) : Int) + (-43)) = True := by and_intros <;> first | rfl | exact eq_true (by decide)
set_option maxHeartbeats 4000000 in
set_option maxRecDepth 20000 in
theorem b_X7_nearBits_5 {k : Option Value → mj_H → Prop} {G : mj_K} (hG : mj_cl2 cX7_nearBits (TbX7 6 ((some FieldType.int)) []) k G) {v1 : Nat} {v2 : Int32} {s : St} {P : Int32 × Int32 → Prop} {K : (Int32) → Prop} (hP : ∀ x, P x → G 5 [.ref 81, .ref v1, .int v2, .int x.1, .int x.2] [] (mkCs s) 0 0) (hK0 : ∀ y, K y → G 51 [mj_unk, mj_unk, mj_unk, .int y] [] (mkCs s) 0 0) {v3 : Int32} {v4 : Int32} (hw : ok (B_X7_nearBits_5 v1 v2 s (v3, v4)) (Sum.elim P K)) : G 5 [.ref 81, .ref v1, .int v2, .int v3, .int v4] [] (mkCs s) 0 0 := by
  unfold B_X7_nearBits_5 at hw
  refine mj_run hG.1 (fun pc => pc == 5 || pc == 22 || pc == 51) 4000 ?_
  simp only [mj_step, mj_W_s, mj_fin, List.getElem?_cons_zero, List.getElem?_cons_succ, mj_go, Nat.reduceAdd, Nat.reduceSub, Nat.reduceLT, Nat.reduceLeDiff, Nat.zero_add, Nat.reduceEqDiff, Nat.reduceBEq, ↓reduceIte, Bool.false_eq_true, List.append_nil, List.nil_append, List.cons_append, Option.toList, and_true, true_and, true_or, or_true, reduceCtorEq, List.map_nil, bI_eq0, bI_eq1, bool_ft, pk_us, vnar0, vnar1, Bool.or_false, Bool.or_true, Bool.false_or, Bool.true_or, mj_kne, eq_self, Int32.reduceLT, Int32.reduceLE, Int32.reduceAdd, Int32.reduceSub, Int32.reduceMul, not_true_eq_false, not_false_eq_true, false_implies, true_implies, D_X7_nearBits, mj_F_aload_n_k, mj_F_getfield_i, mj_F_goto_off, mj_F_iaload, mj_F_iconst_n, mj_F_if_icmp_ge_off, mj_F_if_icmp_gt_off, mj_F_iinc_k_n, mj_F_iload_k, mj_F_iload_n_k, mj_F_ior, mj_F_ireturn, mj_F_ishl, mj_F_istore_k, mj_F_istore_n_k, mj_F_ldc_i, mj_set, mj_set0, mj_unk, mj_c2, mj_kc, FT_X7, KT_X7, gS_C81, gCf7_2, gCf7_3, gS_C82, sS_Ca_82, J_X7_nearBits]
  refine ⟨fun c => ?_, fun c => ?_⟩
  · replace hw := ok_t hw c
    exact hG.2 _ _ _ _ _ _ _ _ _ (by refine ⟨Or.inl rfl, ?_⟩; refine ⟨Or.inl rfl, ?_⟩; refine ⟨Or.inl rfl, ?_⟩; refine ⟨Or.inr rfl, ?_⟩; exact trivial) (Nat.zero_le _) (Nat.zero_le _) (hK0 _ (ok_some hw :) :)
  · replace hw := ok_f hw c
    refine ⟨(ok_rd hw).1, ?_⟩
    replace hw := (ok_rd hw).2
    obtain ⟨_, _, e3, z, hw⟩ := ok_ra hw
    refine mj_run hG.1 (fun pc => pc == 5 || pc == 22 || pc == 51) 4000 ?_
    simp only [e3, mj_step, mj_W_s, mj_fin, List.getElem?_cons_zero, List.getElem?_cons_succ, mj_go, Nat.reduceAdd, Nat.reduceSub, Nat.reduceLT, Nat.reduceLeDiff, Nat.zero_add, Nat.reduceEqDiff, Nat.reduceBEq, ↓reduceIte, Bool.false_eq_true, List.append_nil, List.nil_append, List.cons_append, Option.toList, and_true, true_and, true_or, or_true, reduceCtorEq, List.map_nil, bI_eq0, bI_eq1, bool_ft, pk_us, vnar0, vnar1, Bool.or_false, Bool.or_true, Bool.false_or, Bool.true_or, mj_kne, eq_self, Int32.reduceLT, Int32.reduceLE, Int32.reduceAdd, Int32.reduceSub, Int32.reduceMul, not_true_eq_false, not_false_eq_true, false_implies, true_implies, D_X7_nearBits, mj_F_aload_n_k, mj_F_getfield_i, mj_F_goto_off, mj_F_iaload, mj_F_iconst_n, mj_F_if_icmp_ge_off, mj_F_if_icmp_gt_off, mj_F_iinc_k_n, mj_F_iload_k, mj_F_iload_n_k, mj_F_ior, mj_F_ireturn, mj_F_ishl, mj_F_istore_k, mj_F_istore_n_k, mj_F_ldc_i, mj_set, mj_set0, mj_unk, mj_c2, mj_kc, FT_X7, KT_X7, gS_C81, gCf7_2, gCf7_3, gS_C82, sS_Ca_82, J_X7_nearBits]
    refine ⟨z, ?_⟩
    refine ⟨fun c => ?_, fun c => ?_⟩
    · replace hw := ok_t hw c
      exact hG.2 _ _ _ _ _ _ _ _ _ (by refine ⟨Or.inr rfl, ?_⟩; refine ⟨Or.inr rfl, ?_⟩; refine ⟨Or.inr rfl, ?_⟩; refine ⟨Or.inr rfl, ?_⟩; refine ⟨Or.inr rfl, ?_⟩; exact trivial) (Nat.zero_le _) (Nat.zero_le _) (hP _ (ok_some hw :) :)
    · replace hw := ok_f hw c
      refine ⟨fun c => ?_, fun c => ?_⟩
      · replace hw := ok_t hw c
        exact hG.2 _ _ _ _ _ _ _ _ _ (by refine ⟨Or.inr rfl, ?_⟩; refine ⟨Or.inr rfl, ?_⟩; refine ⟨Or.inr rfl, ?_⟩; refine ⟨Or.inr rfl, ?_⟩; refine ⟨Or.inr rfl, ?_⟩; exact trivial) (Nat.zero_le _) (Nat.zero_le _) (hP _ (ok_some hw :) :)
      · replace hw := ok_f hw c
        exact hG.2 _ _ _ _ _ _ _ _ _ (by refine ⟨Or.inr rfl, ?_⟩; refine ⟨Or.inr rfl, ?_⟩; refine ⟨Or.inr rfl, ?_⟩; refine ⟨Or.inr rfl, ?_⟩; refine ⟨Or.inr rfl, ?_⟩; exact trivial) (Nat.zero_le _) (Nat.zero_le _) (hP _ (ok_some hw :) :)

set_option maxHeartbeats 4000000 in
set_option maxRecDepth 20000 in
theorem g_X7_nearBits_51 {k : Option Value → mj_H → Prop} {G : mj_K} (hG : mj_cl2 cX7_nearBits (TbX7 6 ((some FieldType.int)) []) k G)   {v3 : Int32} {s : St} (hw : ok (F_X7_nearBits_51 v3 s) (fun p => k (some (.int p)) (mkCs s))) : G 51 [mj_unk, mj_unk, mj_unk, .int v3] [] (mkCs s) 0 0 := by
  unfold F_X7_nearBits_51 at hw
  refine mj_run hG.1 (fun pc => pc == 5 || pc == 22 || pc == 51) 4000 ?_
  simp only [mj_step, mj_W_s, mj_fin, List.getElem?_cons_zero, List.getElem?_cons_succ, mj_go, Nat.reduceAdd, Nat.reduceSub, Nat.reduceLT, Nat.reduceLeDiff, Nat.zero_add, Nat.reduceEqDiff, Nat.reduceBEq, ↓reduceIte, Bool.false_eq_true, List.append_nil, List.nil_append, List.cons_append, Option.toList, and_true, true_and, true_or, or_true, reduceCtorEq, List.map_nil, bI_eq0, bI_eq1, bool_ft, pk_us, vnar0, vnar1, Bool.or_false, Bool.or_true, Bool.false_or, Bool.true_or, mj_kne, eq_self, Int32.reduceLT, Int32.reduceLE, Int32.reduceAdd, Int32.reduceSub, Int32.reduceMul, not_true_eq_false, not_false_eq_true, false_implies, true_implies, D_X7_nearBits, mj_F_aload_n_k, mj_F_getfield_i, mj_F_goto_off, mj_F_iaload, mj_F_iconst_n, mj_F_if_icmp_ge_off, mj_F_if_icmp_gt_off, mj_F_iinc_k_n, mj_F_iload_k, mj_F_iload_n_k, mj_F_ior, mj_F_ireturn, mj_F_ishl, mj_F_istore_k, mj_F_istore_n_k, mj_F_ldc_i, mj_set, mj_set0, mj_unk, mj_c2, mj_kc, FT_X7, KT_X7, gS_C81, gCf7_2, gCf7_3, gS_C82, sS_Ca_82, J_X7_nearBits]
  exact (ok_some hw :)

set_option maxHeartbeats 4000000 in
theorem g_X7_nearBits_5 {k : Option Value → mj_H → Prop} {G : mj_K} (hG : mj_cl2 cX7_nearBits (TbX7 6 ((some FieldType.int)) []) k G)   {v1 : Nat} {v2 : Int32} {v3 : Int32} {v4 : Int32} {s : St} (hw : ok (F_X7_nearBits_5 v1 v2 v3 v4 s) (fun p => k (some (.int p)) (mkCs s))) : G 5 [.ref 81, .ref v1, .int v2, .int v3, .int v4] [] (mkCs s) 0 0 := by
  unfold F_X7_nearBits_5 at hw
  refine lp_ok (B_X7_nearBits_5 v1 v2 s) (fun x => G 5 [.ref 81, .ref v1, .int v2, .int x.1, .int x.2] [] (mkCs s) 0 0) _ ?_ _ _ (ok_bind hw)
  rintro ⟨v3, v4⟩ hb
  exact b_X7_nearBits_5 hG (fun _ z => z) (fun y hw => by exact hG.2 _ _ _ _ _ _ _ _ _ (by refine ⟨Or.inl rfl, ?_⟩; refine ⟨Or.inl rfl, ?_⟩; refine ⟨Or.inl rfl, ?_⟩; refine ⟨Or.inr rfl, ?_⟩; exact trivial) (Nat.zero_le _) (Nat.zero_le _) (g_X7_nearBits_51 hG  hw :)) hb

set_option maxHeartbeats 4000000 in
set_option maxRecDepth 20000 in
theorem g_X7_nearBits {k : Option Value → mj_H → Prop} {G : mj_K} (hG : mj_cl2 cX7_nearBits (TbX7 6 ((some FieldType.int)) []) k G) {v1 : Nat} {v2 : Int32} {s : St} (hw : ok (F_X7_nearBits v1 v2 s) (fun p => k (some (.int p)) (mkCs s))) : G 0 [.ref 81, .ref v1, .int v2] [] (mkCs s) 0 0 := by
  unfold F_X7_nearBits at hw
  refine mj_run hG.1 (fun pc => pc == 5 || pc == 22 || pc == 51) 4000 ?_
  simp only [mj_step, mj_W_s, mj_fin, List.getElem?_cons_zero, List.getElem?_cons_succ, mj_go, Nat.reduceAdd, Nat.reduceSub, Nat.reduceLT, Nat.reduceLeDiff, Nat.zero_add, Nat.reduceEqDiff, Nat.reduceBEq, ↓reduceIte, Bool.false_eq_true, List.append_nil, List.nil_append, List.cons_append, Option.toList, and_true, true_and, true_or, or_true, reduceCtorEq, List.map_nil, bI_eq0, bI_eq1, bool_ft, pk_us, vnar0, vnar1, Bool.or_false, Bool.or_true, Bool.false_or, Bool.true_or, mj_kne, eq_self, Int32.reduceLT, Int32.reduceLE, Int32.reduceAdd, Int32.reduceSub, Int32.reduceMul, not_true_eq_false, not_false_eq_true, false_implies, true_implies, D_X7_nearBits, mj_F_aload_n_k, mj_F_getfield_i, mj_F_goto_off, mj_F_iaload, mj_F_iconst_n, mj_F_if_icmp_ge_off, mj_F_if_icmp_gt_off, mj_F_iinc_k_n, mj_F_iload_k, mj_F_iload_n_k, mj_F_ior, mj_F_ireturn, mj_F_ishl, mj_F_istore_k, mj_F_istore_n_k, mj_F_ldc_i, mj_set, mj_set0, mj_unk, mj_c2, mj_kc, FT_X7, KT_X7, gS_C81, gCf7_2, gCf7_3, gS_C82, sS_Ca_82, J_X7_nearBits]
  exact hG.2 _ _ _ _ _ _ _ _ _ (by refine ⟨Or.inr rfl, ?_⟩; refine ⟨Or.inr rfl, ?_⟩; refine ⟨Or.inr rfl, ?_⟩; refine ⟨Or.inr rfl, ?_⟩; refine ⟨Or.inr rfl, ?_⟩; exact trivial) (Nat.zero_le _) (Nat.zero_le _) (g_X7_nearBits_5 hG  hw :)

def c_X7_nearBits : mj_S := fun as h k => ∃ (v1 : Nat) (v2 : Int32) (s : St), as = [.ref 81, .ref v1, .int v2] ∧ h = mkCs s ∧ ok (F_X7_nearBits v1 v2 s) (fun p => k (some (.int p)) (mkCs s))
theorem c_X7_nearBits_in {v1 : Nat} {v2 : Int32} {s : St} {k : Option Value → mj_H → Prop} (hw : ok (F_X7_nearBits v1 v2 s) (fun p => k (some (.int p)) (mkCs s))) : c_X7_nearBits [.ref 81, .ref v1, .int v2] (mkCs s) k := ⟨v1, v2, s, rfl, rfl, hw⟩
theorem m_X7_nearBits (l : Launch) : mj_Met l yX7_nearBits cX7_nearBits 6 ((some FieldType.int)) 0 0 0 c_X7_nearBits := by
  refine mj_body2 false (TbX7 6 ((some FieldType.int)) []) (by decide) rfl rfl (fun h => nomatch h) (tfX7 _ (fun _ h => nomatch h)) ?_
  rintro as h k ⟨v1, v2, s, rfl, rfl, hw⟩
  exact ⟨rfl, fun G hG => g_X7_nearBits hG hw⟩
def B_X7_look_13 (v1 : Int32) (v2 : Int32) (v3 : Int32) (v4 : Int32) : Int32 × St → Option ((Int32 × St) ⊕ ((St)))
  | (v5, s) =>
  if (s.1 101) ≤ v5 then
    some (.inr s)
  else
    (wr s 704 24 v5 0).bind fun s2 =>
    if ((v1 >>> (v5 &&& 31)) &&& 1) = 1 then
      (F_X1_walkLimit v5 (v2 / 52) v3 s2).bind fun r3 =>
      (rd r3.2 102 24 v5).bind fun x4 =>
      (F_X2_rowFrom x4 v4 r3.2).bind fun r5 =>
      (F_X7_nearBits r5.1 r3.1 r5.2).bind fun r6 =>
      (wr r5.2 704 24 v5 r6).bind fun s7 =>
      some (.inl ((v5 + 1), s7))
    else
      some (.inl ((v5 + 1), s2))
def F_X7_look_97 (s : St) : Option (St) :=
  some s
def F_X7_look_13 (v1 : Int32) (v2 : Int32) (v3 : Int32) (v4 : Int32) (v5 : Int32) (s : St) : Option (St) :=
  (lp (B_X7_look_13 v1 v2 v3 v4) 25 (v5, s)).bind (fun y => F_X7_look_97 y)
def F_X7_look (v1 : Int32) (v2 : Int32) (v3 : Int32) (s : St) : Option (St) :=
  (F_X2_isWet v2 s).bind fun r1 =>
  F_X7_look_13 v1 v2 v3 r1 0 s
theorem J_X7_look : mj_t 22 75 = 97 ∧ mj_t 40 51 = 91 ∧ mj_t 94 (-81) = 13 ∧ (0 ≤ ((22 : Nat) : Int) + 75) = True ∧ (0 ≤ ((40 : Nat) : Int) + 51) = True ∧ (0 ≤ ((94 : Nat) : Int) + (-81)) = True := by and_intros <;> first | rfl | exact eq_true (by decide)
def ct_X7_look : List (Nat × mj_Cs) := [(36, 0, 2, 2, 0, 0, c_X2_isWet), (45, 0, 4, 1, 0, 0, c_X1_walkLimit), (50, 0, 3, 2, 1, 120, c_X2_rowFrom), (54, 0, 3, 7, 0, 0, c_X7_nearBits)]
theorem L_X7_look : mj_lk ct_X7_look 36 = some (0, 2, 2, 0, 0, c_X2_isWet) ∧ mj_lk ct_X7_look 45 = some (0, 4, 1, 0, 0, c_X1_walkLimit) ∧ mj_lk ct_X7_look 50 = some (0, 3, 2, 1, 120, c_X2_rowFrom) ∧ mj_lk ct_X7_look 54 = some (0, 3, 7, 0, 0, c_X7_nearBits) := ⟨rfl, rfl, rfl, rfl⟩
set_option maxHeartbeats 4000000 in
set_option maxRecDepth 20000 in
theorem b_X7_look_13 {k : Option Value → mj_H → Prop} {G : mj_K} (hG : mj_cl2 cX7_look (TbX7 7 (none) ct_X7_look) k G) {v1 : Int32} {v2 : Int32} {v3 : Int32} {v4 : Int32} {n : Nat} {P : Int32 × St → Prop} {K : (St) → Prop} (hP : ∀ x, P x → G 13 [.ref 81, .int v1, .int v2, .int v3, .int v4, .int x.1] [] (mkCs x.2) (n * 1) (n * 120)) (hK0 : ∀ y, K y → G 97 [] [] (mkCs y) 0 0) {v5 : Int32} {s : St} (hw : ok (B_X7_look_13 v1 v2 v3 v4 (v5, s)) (Sum.elim P K)) : G 13 [.ref 81, .int v1, .int v2, .int v3, .int v4, .int v5] [] (mkCs s) ((n + 1) * 1) ((n + 1) * 120) := by
  unfold B_X7_look_13 at hw
  refine mj_run hG.1 (fun pc => pc == 8 || pc == 13 || pc == 57 || pc == 85 || pc == 90 || pc == 97) 4000 ?_
  simp only [mj_step, mj_W_s, mj_fin, List.getElem?_cons_zero, List.getElem?_cons_succ, mj_go, Nat.reduceAdd, Nat.reduceSub, Nat.reduceLT, Nat.reduceLeDiff, Nat.zero_add, Nat.reduceEqDiff, Nat.reduceBEq, ↓reduceIte, Bool.false_eq_true, List.append_nil, List.nil_append, List.cons_append, Option.toList, and_true, true_and, true_or, or_true, reduceCtorEq, List.map_nil, bI_eq0, bI_eq1, bool_ft, pk_us, vnar0, vnar1, Bool.or_false, Bool.or_true, Bool.false_or, Bool.true_or, mj_kne, eq_self, Int32.reduceLT, Int32.reduceLE, Int32.reduceAdd, Int32.reduceSub, Int32.reduceMul, not_true_eq_false, not_false_eq_true, false_implies, true_implies, D_X7_look_0, D_X7_look_1, mj_F_aload_n_k, mj_F_bipush_n, mj_F_getfield_i, mj_F_goto_off, mj_F_iaload, mj_F_iand, mj_F_iastore, mj_F_iconst_n, mj_F_idiv, mj_F_if_icmp_ge_off, mj_F_if_icmp_ne_off, mj_F_iinc_k_n, mj_F_iload_k, mj_F_iload_n_k, mj_F_invokevirtual_i, mj_F_ishr, mj_F_istore_k, mj_F_return_, mj_set, mj_set0, mj_unk, mj_c2, mj_kc, FT_X7, L_X7_look, List.take_succ_cons, List.take_zero, List.drop_succ_cons, List.drop_zero, List.reverse_cons, List.reverse_nil, List.length_cons, List.length_nil, gS_C81, gCf7_0, gCf7_1, gS_C20, gCf1_1, gCf7_4, gS_C83, sS_Ca_83, gCf1_2, gS_C21, sS_Ca_21, gS_C1, Nat.zero_le, Nat.sub_zero, J_X7_look]
  refine ⟨fun c => ?_, fun c => ?_⟩
  · replace hw := ok_t hw c
    exact hG.2 _ _ _ _ _ _ _ _ _ (by exact trivial) (by omega) (by omega) (hK0 _ (ok_some hw :) :)
  · replace hw := ok_f hw c
    refine ⟨(ok_wr hw).1, ?_⟩
    replace hw := (ok_wr hw).2
    refine ⟨fun c => ?_, fun c => ?_⟩
    · replace hw := ok_f hw c
      exact hG.2 _ _ _ _ _ _ _ _ _ (by refine ⟨Or.inr rfl, ?_⟩; refine ⟨Or.inr rfl, ?_⟩; refine ⟨Or.inr rfl, ?_⟩; refine ⟨Or.inr rfl, ?_⟩; refine ⟨Or.inr rfl, ?_⟩; refine ⟨Or.inr rfl, ?_⟩; exact trivial) (by omega) (by omega) (hP _ (ok_some hw :) :)
    · replace hw := ok_t hw c
      refine c_X1_walkLimit_in (ok_imp (ok_bind hw) ?_)
      intro p hw
      simp only [Option.toList, List.nil_append, List.cons_append, Nat.reduceSub]
      refine mj_run hG.1 (fun pc => pc == 8 || pc == 13 || pc == 57 || pc == 85 || pc == 90 || pc == 97) 4000 ?_
      simp only [mj_step, mj_W_s, mj_fin, List.getElem?_cons_zero, List.getElem?_cons_succ, mj_go, Nat.reduceAdd, Nat.reduceSub, Nat.reduceLT, Nat.reduceLeDiff, Nat.zero_add, Nat.reduceEqDiff, Nat.reduceBEq, ↓reduceIte, Bool.false_eq_true, List.append_nil, List.nil_append, List.cons_append, Option.toList, and_true, true_and, true_or, or_true, reduceCtorEq, List.map_nil, bI_eq0, bI_eq1, bool_ft, pk_us, vnar0, vnar1, Bool.or_false, Bool.or_true, Bool.false_or, Bool.true_or, mj_kne, eq_self, Int32.reduceLT, Int32.reduceLE, Int32.reduceAdd, Int32.reduceSub, Int32.reduceMul, not_true_eq_false, not_false_eq_true, false_implies, true_implies, D_X7_look_0, D_X7_look_1, mj_F_aload_n_k, mj_F_bipush_n, mj_F_getfield_i, mj_F_goto_off, mj_F_iaload, mj_F_iand, mj_F_iastore, mj_F_iconst_n, mj_F_idiv, mj_F_if_icmp_ge_off, mj_F_if_icmp_ne_off, mj_F_iinc_k_n, mj_F_iload_k, mj_F_iload_n_k, mj_F_invokevirtual_i, mj_F_ishr, mj_F_istore_k, mj_F_return_, mj_set, mj_set0, mj_unk, mj_c2, mj_kc, FT_X7, L_X7_look, List.take_succ_cons, List.take_zero, List.drop_succ_cons, List.drop_zero, List.reverse_cons, List.reverse_nil, List.length_cons, List.length_nil, gS_C81, gCf7_0, gCf7_1, gS_C20, gCf1_1, gCf7_4, gS_C83, sS_Ca_83, gCf1_2, gS_C21, sS_Ca_21, gS_C1, Nat.zero_le, Nat.sub_zero, J_X7_look]
      refine ⟨(ok_rd hw).1, ?_⟩
      replace hw := (ok_rd hw).2
      refine ⟨by omega, by omega, ?_⟩
      refine c_X2_rowFrom_in (ok_imp (ok_bind hw) ?_)
      intro p hw
      simp only [Option.toList, List.nil_append, List.cons_append, Nat.reduceSub]
      refine mj_run hG.1 (fun pc => pc == 8 || pc == 13 || pc == 57 || pc == 85 || pc == 90 || pc == 97) 4000 ?_
      simp only [mj_step, mj_W_s, mj_fin, List.getElem?_cons_zero, List.getElem?_cons_succ, mj_go, Nat.reduceAdd, Nat.reduceSub, Nat.reduceLT, Nat.reduceLeDiff, Nat.zero_add, Nat.reduceEqDiff, Nat.reduceBEq, ↓reduceIte, Bool.false_eq_true, List.append_nil, List.nil_append, List.cons_append, Option.toList, and_true, true_and, true_or, or_true, reduceCtorEq, List.map_nil, bI_eq0, bI_eq1, bool_ft, pk_us, vnar0, vnar1, Bool.or_false, Bool.or_true, Bool.false_or, Bool.true_or, mj_kne, eq_self, Int32.reduceLT, Int32.reduceLE, Int32.reduceAdd, Int32.reduceSub, Int32.reduceMul, not_true_eq_false, not_false_eq_true, false_implies, true_implies, D_X7_look_0, D_X7_look_1, mj_F_aload_n_k, mj_F_bipush_n, mj_F_getfield_i, mj_F_goto_off, mj_F_iaload, mj_F_iand, mj_F_iastore, mj_F_iconst_n, mj_F_idiv, mj_F_if_icmp_ge_off, mj_F_if_icmp_ne_off, mj_F_iinc_k_n, mj_F_iload_k, mj_F_iload_n_k, mj_F_invokevirtual_i, mj_F_ishr, mj_F_istore_k, mj_F_return_, mj_set, mj_set0, mj_unk, mj_c2, mj_kc, FT_X7, L_X7_look, List.take_succ_cons, List.take_zero, List.drop_succ_cons, List.drop_zero, List.reverse_cons, List.reverse_nil, List.length_cons, List.length_nil, gS_C81, gCf7_0, gCf7_1, gS_C20, gCf1_1, gCf7_4, gS_C83, sS_Ca_83, gCf1_2, gS_C21, sS_Ca_21, gS_C1, Nat.zero_le, Nat.sub_zero, J_X7_look]
      refine c_X7_nearBits_in (ok_imp (ok_bind hw) ?_)
      intro p hw
      simp only [Option.toList, List.nil_append, List.cons_append, Nat.reduceSub]
      refine mj_run hG.1 (fun pc => pc == 8 || pc == 13 || pc == 57 || pc == 85 || pc == 90 || pc == 97) 4000 ?_
      simp only [mj_step, mj_W_s, mj_fin, List.getElem?_cons_zero, List.getElem?_cons_succ, mj_go, Nat.reduceAdd, Nat.reduceSub, Nat.reduceLT, Nat.reduceLeDiff, Nat.zero_add, Nat.reduceEqDiff, Nat.reduceBEq, ↓reduceIte, Bool.false_eq_true, List.append_nil, List.nil_append, List.cons_append, Option.toList, and_true, true_and, true_or, or_true, reduceCtorEq, List.map_nil, bI_eq0, bI_eq1, bool_ft, pk_us, vnar0, vnar1, Bool.or_false, Bool.or_true, Bool.false_or, Bool.true_or, mj_kne, eq_self, Int32.reduceLT, Int32.reduceLE, Int32.reduceAdd, Int32.reduceSub, Int32.reduceMul, not_true_eq_false, not_false_eq_true, false_implies, true_implies, D_X7_look_0, D_X7_look_1, mj_F_aload_n_k, mj_F_bipush_n, mj_F_getfield_i, mj_F_goto_off, mj_F_iaload, mj_F_iand, mj_F_iastore, mj_F_iconst_n, mj_F_idiv, mj_F_if_icmp_ge_off, mj_F_if_icmp_ne_off, mj_F_iinc_k_n, mj_F_iload_k, mj_F_iload_n_k, mj_F_invokevirtual_i, mj_F_ishr, mj_F_istore_k, mj_F_return_, mj_set, mj_set0, mj_unk, mj_c2, mj_kc, FT_X7, L_X7_look, List.take_succ_cons, List.take_zero, List.drop_succ_cons, List.drop_zero, List.reverse_cons, List.reverse_nil, List.length_cons, List.length_nil, gS_C81, gCf7_0, gCf7_1, gS_C20, gCf1_1, gCf7_4, gS_C83, sS_Ca_83, gCf1_2, gS_C21, sS_Ca_21, gS_C1, Nat.zero_le, Nat.sub_zero, J_X7_look]
      refine ⟨(ok_wr hw).1, ?_⟩
      replace hw := (ok_wr hw).2
      exact hG.2 _ _ _ _ _ _ _ _ _ (by refine ⟨Or.inr rfl, ?_⟩; refine ⟨Or.inr rfl, ?_⟩; refine ⟨Or.inr rfl, ?_⟩; refine ⟨Or.inr rfl, ?_⟩; refine ⟨Or.inr rfl, ?_⟩; refine ⟨Or.inr rfl, ?_⟩; exact trivial) (by omega) (by omega) (hP _ (ok_some hw :) :)

set_option maxHeartbeats 4000000 in
set_option maxRecDepth 20000 in
theorem g_X7_look_97 {k : Option Value → mj_H → Prop} {G : mj_K} (hG : mj_cl2 cX7_look (TbX7 7 (none) ct_X7_look) k G)   {s : St} (hw : ok (F_X7_look_97 s) (fun p => k none (mkCs p))) : G 97 [] [] (mkCs s) 0 0 := by
  unfold F_X7_look_97 at hw
  refine mj_run hG.1 (fun pc => pc == 8 || pc == 13 || pc == 57 || pc == 85 || pc == 90 || pc == 97) 4000 ?_
  simp only [mj_step, mj_W_s, mj_fin, List.getElem?_cons_zero, List.getElem?_cons_succ, mj_go, Nat.reduceAdd, Nat.reduceSub, Nat.reduceLT, Nat.reduceLeDiff, Nat.zero_add, Nat.reduceEqDiff, Nat.reduceBEq, ↓reduceIte, Bool.false_eq_true, List.append_nil, List.nil_append, List.cons_append, Option.toList, and_true, true_and, true_or, or_true, reduceCtorEq, List.map_nil, bI_eq0, bI_eq1, bool_ft, pk_us, vnar0, vnar1, Bool.or_false, Bool.or_true, Bool.false_or, Bool.true_or, mj_kne, eq_self, Int32.reduceLT, Int32.reduceLE, Int32.reduceAdd, Int32.reduceSub, Int32.reduceMul, not_true_eq_false, not_false_eq_true, false_implies, true_implies, D_X7_look_0, D_X7_look_1, mj_F_aload_n_k, mj_F_bipush_n, mj_F_getfield_i, mj_F_goto_off, mj_F_iaload, mj_F_iand, mj_F_iastore, mj_F_iconst_n, mj_F_idiv, mj_F_if_icmp_ge_off, mj_F_if_icmp_ne_off, mj_F_iinc_k_n, mj_F_iload_k, mj_F_iload_n_k, mj_F_invokevirtual_i, mj_F_ishr, mj_F_istore_k, mj_F_return_, mj_set, mj_set0, mj_unk, mj_c2, mj_kc, FT_X7, L_X7_look, List.take_succ_cons, List.take_zero, List.drop_succ_cons, List.drop_zero, List.reverse_cons, List.reverse_nil, List.length_cons, List.length_nil, gS_C81, gCf7_0, gCf7_1, gS_C20, gCf1_1, gCf7_4, gS_C83, sS_Ca_83, gCf1_2, gS_C21, sS_Ca_21, gS_C1, Nat.zero_le, Nat.sub_zero, J_X7_look]
  exact (ok_some hw :)

set_option maxHeartbeats 4000000 in
theorem g_X7_look_13 {k : Option Value → mj_H → Prop} {G : mj_K} (hG : mj_cl2 cX7_look (TbX7 7 (none) ct_X7_look) k G)   {v1 : Int32} {v2 : Int32} {v3 : Int32} {v4 : Int32} {v5 : Int32} {s : St} (hw : ok (F_X7_look_13 v1 v2 v3 v4 v5 s) (fun p => k none (mkCs p))) : G 13 [.ref 81, .int v1, .int v2, .int v3, .int v4, .int v5] [] (mkCs s) 25 3000 := by
  unfold F_X7_look_13 at hw
  refine lp_okN (B_X7_look_13 v1 v2 v3 v4) (fun n x => G 13 [.ref 81, .int v1, .int v2, .int v3, .int v4, .int x.1] [] (mkCs x.2) (n * 1) (n * 120)) _ ?_ 25 _ (ok_bind hw)
  intro n
  rintro ⟨v5, s⟩ hb
  exact b_X7_look_13 hG (fun _ z => z) (fun y hw => by exact hG.2 _ _ _ _ _ _ _ _ _ (by exact trivial) (by omega) (by omega) (g_X7_look_97 hG  hw :)) hb

set_option maxHeartbeats 4000000 in
set_option maxRecDepth 20000 in
theorem g_X7_look {k : Option Value → mj_H → Prop} {G : mj_K} (hG : mj_cl2 cX7_look (TbX7 7 (none) ct_X7_look) k G) {v1 : Int32} {v2 : Int32} {v3 : Int32} {s : St} (hw : ok (F_X7_look v1 v2 v3 s) (fun p => k none (mkCs p))) : G 0 [.ref 81, .int v1, .int v2, .int v3] [] (mkCs s) 25 3000 := by
  unfold F_X7_look at hw
  refine mj_run hG.1 (fun pc => pc == 8 || pc == 13 || pc == 57 || pc == 85 || pc == 90 || pc == 97) 4000 ?_
  simp only [mj_step, mj_W_s, mj_fin, List.getElem?_cons_zero, List.getElem?_cons_succ, mj_go, Nat.reduceAdd, Nat.reduceSub, Nat.reduceLT, Nat.reduceLeDiff, Nat.zero_add, Nat.reduceEqDiff, Nat.reduceBEq, ↓reduceIte, Bool.false_eq_true, List.append_nil, List.nil_append, List.cons_append, Option.toList, and_true, true_and, true_or, or_true, reduceCtorEq, List.map_nil, bI_eq0, bI_eq1, bool_ft, pk_us, vnar0, vnar1, Bool.or_false, Bool.or_true, Bool.false_or, Bool.true_or, mj_kne, eq_self, Int32.reduceLT, Int32.reduceLE, Int32.reduceAdd, Int32.reduceSub, Int32.reduceMul, not_true_eq_false, not_false_eq_true, false_implies, true_implies, D_X7_look_0, D_X7_look_1, mj_F_aload_n_k, mj_F_bipush_n, mj_F_getfield_i, mj_F_goto_off, mj_F_iaload, mj_F_iand, mj_F_iastore, mj_F_iconst_n, mj_F_idiv, mj_F_if_icmp_ge_off, mj_F_if_icmp_ne_off, mj_F_iinc_k_n, mj_F_iload_k, mj_F_iload_n_k, mj_F_invokevirtual_i, mj_F_ishr, mj_F_istore_k, mj_F_return_, mj_set, mj_set0, mj_unk, mj_c2, mj_kc, FT_X7, L_X7_look, List.take_succ_cons, List.take_zero, List.drop_succ_cons, List.drop_zero, List.reverse_cons, List.reverse_nil, List.length_cons, List.length_nil, gS_C81, gCf7_0, gCf7_1, gS_C20, gCf1_1, gCf7_4, gS_C83, sS_Ca_83, gCf1_2, gS_C21, sS_Ca_21, gS_C1, Nat.zero_le, Nat.sub_zero, J_X7_look]
  refine c_X2_isWet_in (ok_imp (ok_bind hw) ?_)
  intro p hw
  simp only [Option.toList, List.nil_append, List.cons_append, Nat.reduceSub]
  refine mj_run hG.1 (fun pc => pc == 8 || pc == 13 || pc == 57 || pc == 85 || pc == 90 || pc == 97) 4000 ?_
  simp only [mj_step, mj_W_s, mj_fin, List.getElem?_cons_zero, List.getElem?_cons_succ, mj_go, Nat.reduceAdd, Nat.reduceSub, Nat.reduceLT, Nat.reduceLeDiff, Nat.zero_add, Nat.reduceEqDiff, Nat.reduceBEq, ↓reduceIte, Bool.false_eq_true, List.append_nil, List.nil_append, List.cons_append, Option.toList, and_true, true_and, true_or, or_true, reduceCtorEq, List.map_nil, bI_eq0, bI_eq1, bool_ft, pk_us, vnar0, vnar1, Bool.or_false, Bool.or_true, Bool.false_or, Bool.true_or, mj_kne, eq_self, Int32.reduceLT, Int32.reduceLE, Int32.reduceAdd, Int32.reduceSub, Int32.reduceMul, not_true_eq_false, not_false_eq_true, false_implies, true_implies, D_X7_look_0, D_X7_look_1, mj_F_aload_n_k, mj_F_bipush_n, mj_F_getfield_i, mj_F_goto_off, mj_F_iaload, mj_F_iand, mj_F_iastore, mj_F_iconst_n, mj_F_idiv, mj_F_if_icmp_ge_off, mj_F_if_icmp_ne_off, mj_F_iinc_k_n, mj_F_iload_k, mj_F_iload_n_k, mj_F_invokevirtual_i, mj_F_ishr, mj_F_istore_k, mj_F_return_, mj_set, mj_set0, mj_unk, mj_c2, mj_kc, FT_X7, L_X7_look, List.take_succ_cons, List.take_zero, List.drop_succ_cons, List.drop_zero, List.reverse_cons, List.reverse_nil, List.length_cons, List.length_nil, gS_C81, gCf7_0, gCf7_1, gS_C20, gCf1_1, gCf7_4, gS_C83, sS_Ca_83, gCf1_2, gS_C21, sS_Ca_21, gS_C1, Nat.zero_le, Nat.sub_zero, J_X7_look]
  exact hG.2 _ _ _ _ _ _ _ _ _ (by refine ⟨Or.inr rfl, ?_⟩; refine ⟨Or.inr rfl, ?_⟩; refine ⟨Or.inr rfl, ?_⟩; refine ⟨Or.inr rfl, ?_⟩; refine ⟨Or.inr rfl, ?_⟩; refine ⟨Or.inr rfl, ?_⟩; exact trivial) (by omega) (by omega) (g_X7_look_13 hG  hw :)

def c_X7_look : mj_S := fun as h k => ∃ (v1 : Int32) (v2 : Int32) (v3 : Int32) (s : St), as = [.ref 81, .int v1, .int v2, .int v3] ∧ h = mkCs s ∧ ok (F_X7_look v1 v2 v3 s) (fun p => k none (mkCs p))
theorem c_X7_look_in {v1 : Int32} {v2 : Int32} {v3 : Int32} {s : St} {k : Option Value → mj_H → Prop} (hw : ok (F_X7_look v1 v2 v3 s) (fun p => k none (mkCs p))) : c_X7_look [.ref 81, .int v1, .int v2, .int v3] (mkCs s) k := ⟨v1, v2, v3, s, rfl, rfl, hw⟩
theorem m_X7_look (l : Launch) : mj_Met l yX7_look cX7_look 7 (none) 5 25 3000 c_X7_look := by
  refine mj_body2 false (TbX7 7 (none) ct_X7_look) (by decide) rfl rfl (fun h => nomatch h) (tfX7 _ (List.forall_mem_cons.mpr ⟨cfX7_36 (m_X2_isWet l) (by decide), List.forall_mem_cons.mpr ⟨cfX7_45 (m_X1_walkLimit l) (by decide), List.forall_mem_cons.mpr ⟨cfX7_50 (m_X2_rowFrom l) (by decide), List.forall_mem_cons.mpr ⟨cfX7_54 (m_X7_nearBits l) (by decide), fun _ h => nomatch h⟩⟩⟩⟩)) ?_
  rintro as h k ⟨v1, v2, v3, s, rfl, rfl, hw⟩
  exact ⟨rfl, fun G hG => g_X7_look hG hw⟩
def F_X7_all (s : St) : Option (Int32) :=
  some ((1 <<< ((s.1 702) &&& 31)) - 1)
set_option maxHeartbeats 4000000 in
set_option maxRecDepth 20000 in
theorem g_X7_all {k : Option Value → mj_H → Prop} {G : mj_K} (hG : mj_cl2 cX7_all (TbX7 1 ((some FieldType.int)) []) k G) {s : St} (hw : ok (F_X7_all s) (fun p => k (some (.int p)) (mkCs s))) : G 0 [.ref 81] [] (mkCs s) 0 0 := by
  unfold F_X7_all at hw
  refine mj_run hG.1 (fun _ => false) 4000 ?_
  simp only [mj_step, mj_W_s, mj_fin, List.getElem?_cons_zero, List.getElem?_cons_succ, mj_go, Nat.reduceAdd, Nat.reduceSub, Nat.reduceLT, Nat.reduceLeDiff, Nat.zero_add, Nat.reduceEqDiff, Nat.reduceBEq, ↓reduceIte, Bool.false_eq_true, List.append_nil, List.nil_append, List.cons_append, Option.toList, and_true, true_and, true_or, or_true, reduceCtorEq, List.map_nil, bI_eq0, bI_eq1, bool_ft, pk_us, vnar0, vnar1, Bool.or_false, Bool.or_true, Bool.false_or, Bool.true_or, mj_kne, eq_self, Int32.reduceLT, Int32.reduceLE, Int32.reduceAdd, Int32.reduceSub, Int32.reduceMul, not_true_eq_false, not_false_eq_true, false_implies, true_implies, D_X7_all, mj_F_aload_n_k, mj_F_getfield_i, mj_F_iconst_n, mj_F_ireturn, mj_F_ishl, mj_F_isub, mj_kc, FT_X7, gS_C81, gCf7_2]
  exact (ok_some hw :)

def c_X7_all : mj_S := fun as h k => ∃ (s : St), as = [.ref 81] ∧ h = mkCs s ∧ ok (F_X7_all s) (fun p => k (some (.int p)) (mkCs s))
theorem c_X7_all_in {s : St} {k : Option Value → mj_H → Prop} (hw : ok (F_X7_all s) (fun p => k (some (.int p)) (mkCs s))) : c_X7_all [.ref 81] (mkCs s) k := ⟨s, rfl, rfl, hw⟩
theorem m_X7_all (l : Launch) : mj_Met l yX7_all cX7_all 1 ((some FieldType.int)) 0 0 0 c_X7_all := by
  refine mj_body2 false (TbX7 1 ((some FieldType.int)) []) (by decide) rfl rfl (fun h => nomatch h) (tfX7 _ (fun _ h => nomatch h)) ?_
  rintro as h k ⟨s, rfl, rfl, hw⟩
  exact ⟨rfl, fun G hG => g_X7_all hG hw⟩
def B_X7_lowestWithout_2 (v1 : Int32) (v2 : Int32) (s : St) : Int32 → Option ((Int32) ⊕ ((Unit) ⊕ (Int32)))
  | v3 =>
  if (s.1 101) ≤ v3 then
    some (.inr (.inl ()))
  else
    if ((v2 >>> (v3 &&& 31)) &&& 1) = 1 then
      (rd s 704 24 v3).bind fun x1 =>
      if (x1 &&& v1) = 0 then
        some (.inr (.inr v3))
      else
        some (.inl (v3 + 1))
    else
      some (.inl (v3 + 1))
def F_X7_lowestWithout_41 (s : St) : Option (Int32) :=
  some (-1)
def F_X7_lowestWithout_33 (v3 : Int32) (s : St) : Option (Int32) :=
  some v3
def F_X7_lowestWithout_2 (v1 : Int32) (v2 : Int32) (v3 : Int32) (s : St) : Option (Int32) :=
  (lp (B_X7_lowestWithout_2 v1 v2 s) FU v3).bind (Sum.elim (fun _ => F_X7_lowestWithout_41 s) (fun y => F_X7_lowestWithout_33 y s))
def F_X7_lowestWithout (v1 : Int32) (v2 : Int32) (s : St) : Option (Int32) :=
  F_X7_lowestWithout_2 v1 v2 0 s
theorem J_X7_lowestWithout : mj_t 10 31 = 41 ∧ mj_t 19 16 = 35 ∧ mj_t 30 5 = 35 ∧ mj_t 38 (-36) = 2 ∧ (0 ≤ ((10 : Nat) : Int) + 31) = True ∧ (0 ≤ ((19 : Nat) : Int) + 16) = True ∧ (0 ≤ ((30 : Nat) : Int) + 5) = True ∧ (0 ≤ ((38 : Nat) : Int) + (-36)) = True := by and_intros <;> first | rfl | exact eq_true (by decide)
set_option maxHeartbeats 4000000 in
set_option maxRecDepth 20000 in
theorem b_X7_lowestWithout_2 {k : Option Value → mj_H → Prop} {G : mj_K} (hG : mj_cl2 cX7_lowestWithout (TbX7 4 ((some FieldType.int)) []) k G) {v1 : Int32} {v2 : Int32} {s : St} {P : Int32 → Prop} {K : (Unit) ⊕ (Int32) → Prop} (hP : ∀ x, P x → G 2 [.ref 81, .int v1, .int v2, .int x] [] (mkCs s) 0 0) (hK0 : ∀ y, K (.inl y) → G 41 [] [] (mkCs s) 0 0) (hK1 : ∀ y, K (.inr y) → G 33 [mj_unk, mj_unk, mj_unk, .int y] [] (mkCs s) 0 0) {v3 : Int32} (hw : ok (B_X7_lowestWithout_2 v1 v2 s v3) (Sum.elim P K)) : G 2 [.ref 81, .int v1, .int v2, .int v3] [] (mkCs s) 0 0 := by
  unfold B_X7_lowestWithout_2 at hw
  refine mj_run hG.1 (fun pc => pc == 2 || pc == 33 || pc == 41) 4000 ?_
  simp only [mj_step, mj_W_s, mj_fin, List.getElem?_cons_zero, List.getElem?_cons_succ, mj_go, Nat.reduceAdd, Nat.reduceSub, Nat.reduceLT, Nat.reduceLeDiff, Nat.zero_add, Nat.reduceEqDiff, Nat.reduceBEq, ↓reduceIte, Bool.false_eq_true, List.append_nil, List.nil_append, List.cons_append, Option.toList, and_true, true_and, true_or, or_true, reduceCtorEq, List.map_nil, bI_eq0, bI_eq1, bool_ft, pk_us, vnar0, vnar1, Bool.or_false, Bool.or_true, Bool.false_or, Bool.true_or, mj_kne, eq_self, Int32.reduceLT, Int32.reduceLE, Int32.reduceAdd, Int32.reduceSub, Int32.reduceMul, not_true_eq_false, not_false_eq_true, false_implies, true_implies, D_X7_lowestWithout, mj_F_aload_n_k, mj_F_getfield_i, mj_F_goto_off, mj_F_iaload, mj_F_iand, mj_F_iconst_n, mj_F_ifCond_ne_off, mj_F_if_icmp_ge_off, mj_F_if_icmp_ne_off, mj_F_iinc_k_n, mj_F_iload_n_k, mj_F_ireturn, mj_F_ishr, mj_F_istore_n_k, mj_set, mj_set0, mj_unk, mj_c2, mj_kc, FT_X7, gS_C81, gCf7_1, gS_C20, gCf1_1, gCf7_4, gS_C83, sS_Ca_83, J_X7_lowestWithout]
  refine ⟨fun c => ?_, fun c => ?_⟩
  · replace hw := ok_t hw c
    exact hG.2 _ _ _ _ _ _ _ _ _ (by exact trivial) (Nat.zero_le _) (Nat.zero_le _) (hK0 _ (ok_some hw :) :)
  · replace hw := ok_f hw c
    refine ⟨fun c => ?_, fun c => ?_⟩
    · replace hw := ok_f hw c
      exact hG.2 _ _ _ _ _ _ _ _ _ (by refine ⟨Or.inr rfl, ?_⟩; refine ⟨Or.inr rfl, ?_⟩; refine ⟨Or.inr rfl, ?_⟩; refine ⟨Or.inr rfl, ?_⟩; exact trivial) (Nat.zero_le _) (Nat.zero_le _) (hP _ (ok_some hw :) :)
    · replace hw := ok_t hw c
      refine ⟨(ok_rd hw).1, ?_⟩
      replace hw := (ok_rd hw).2
      refine ⟨fun c => ?_, fun c => ?_⟩
      · replace hw := ok_f hw c
        exact hG.2 _ _ _ _ _ _ _ _ _ (by refine ⟨Or.inr rfl, ?_⟩; refine ⟨Or.inr rfl, ?_⟩; refine ⟨Or.inr rfl, ?_⟩; refine ⟨Or.inr rfl, ?_⟩; exact trivial) (Nat.zero_le _) (Nat.zero_le _) (hP _ (ok_some hw :) :)
      · replace hw := ok_t hw c
        exact hG.2 _ _ _ _ _ _ _ _ _ (by refine ⟨Or.inl rfl, ?_⟩; refine ⟨Or.inl rfl, ?_⟩; refine ⟨Or.inl rfl, ?_⟩; refine ⟨Or.inr rfl, ?_⟩; exact trivial) (Nat.zero_le _) (Nat.zero_le _) (hK1 _ (ok_some hw :) :)

set_option maxHeartbeats 4000000 in
set_option maxRecDepth 20000 in
theorem g_X7_lowestWithout_41 {k : Option Value → mj_H → Prop} {G : mj_K} (hG : mj_cl2 cX7_lowestWithout (TbX7 4 ((some FieldType.int)) []) k G)   {s : St} (hw : ok (F_X7_lowestWithout_41 s) (fun p => k (some (.int p)) (mkCs s))) : G 41 [] [] (mkCs s) 0 0 := by
  unfold F_X7_lowestWithout_41 at hw
  refine mj_run hG.1 (fun pc => pc == 2 || pc == 33 || pc == 41) 4000 ?_
  simp only [mj_step, mj_W_s, mj_fin, List.getElem?_cons_zero, List.getElem?_cons_succ, mj_go, Nat.reduceAdd, Nat.reduceSub, Nat.reduceLT, Nat.reduceLeDiff, Nat.zero_add, Nat.reduceEqDiff, Nat.reduceBEq, ↓reduceIte, Bool.false_eq_true, List.append_nil, List.nil_append, List.cons_append, Option.toList, and_true, true_and, true_or, or_true, reduceCtorEq, List.map_nil, bI_eq0, bI_eq1, bool_ft, pk_us, vnar0, vnar1, Bool.or_false, Bool.or_true, Bool.false_or, Bool.true_or, mj_kne, eq_self, Int32.reduceLT, Int32.reduceLE, Int32.reduceAdd, Int32.reduceSub, Int32.reduceMul, not_true_eq_false, not_false_eq_true, false_implies, true_implies, D_X7_lowestWithout, mj_F_aload_n_k, mj_F_getfield_i, mj_F_goto_off, mj_F_iaload, mj_F_iand, mj_F_iconst_n, mj_F_ifCond_ne_off, mj_F_if_icmp_ge_off, mj_F_if_icmp_ne_off, mj_F_iinc_k_n, mj_F_iload_n_k, mj_F_ireturn, mj_F_ishr, mj_F_istore_n_k, mj_set, mj_set0, mj_unk, mj_c2, mj_kc, FT_X7, gS_C81, gCf7_1, gS_C20, gCf1_1, gCf7_4, gS_C83, sS_Ca_83, J_X7_lowestWithout]
  exact (ok_some hw :)

set_option maxHeartbeats 4000000 in
set_option maxRecDepth 20000 in
theorem g_X7_lowestWithout_33 {k : Option Value → mj_H → Prop} {G : mj_K} (hG : mj_cl2 cX7_lowestWithout (TbX7 4 ((some FieldType.int)) []) k G)   {v3 : Int32} {s : St} (hw : ok (F_X7_lowestWithout_33 v3 s) (fun p => k (some (.int p)) (mkCs s))) : G 33 [mj_unk, mj_unk, mj_unk, .int v3] [] (mkCs s) 0 0 := by
  unfold F_X7_lowestWithout_33 at hw
  refine mj_run hG.1 (fun pc => pc == 2 || pc == 33 || pc == 41) 4000 ?_
  simp only [mj_step, mj_W_s, mj_fin, List.getElem?_cons_zero, List.getElem?_cons_succ, mj_go, Nat.reduceAdd, Nat.reduceSub, Nat.reduceLT, Nat.reduceLeDiff, Nat.zero_add, Nat.reduceEqDiff, Nat.reduceBEq, ↓reduceIte, Bool.false_eq_true, List.append_nil, List.nil_append, List.cons_append, Option.toList, and_true, true_and, true_or, or_true, reduceCtorEq, List.map_nil, bI_eq0, bI_eq1, bool_ft, pk_us, vnar0, vnar1, Bool.or_false, Bool.or_true, Bool.false_or, Bool.true_or, mj_kne, eq_self, Int32.reduceLT, Int32.reduceLE, Int32.reduceAdd, Int32.reduceSub, Int32.reduceMul, not_true_eq_false, not_false_eq_true, false_implies, true_implies, D_X7_lowestWithout, mj_F_aload_n_k, mj_F_getfield_i, mj_F_goto_off, mj_F_iaload, mj_F_iand, mj_F_iconst_n, mj_F_ifCond_ne_off, mj_F_if_icmp_ge_off, mj_F_if_icmp_ne_off, mj_F_iinc_k_n, mj_F_iload_n_k, mj_F_ireturn, mj_F_ishr, mj_F_istore_n_k, mj_set, mj_set0, mj_unk, mj_c2, mj_kc, FT_X7, gS_C81, gCf7_1, gS_C20, gCf1_1, gCf7_4, gS_C83, sS_Ca_83, J_X7_lowestWithout]
  exact (ok_some hw :)

set_option maxHeartbeats 4000000 in
theorem g_X7_lowestWithout_2 {k : Option Value → mj_H → Prop} {G : mj_K} (hG : mj_cl2 cX7_lowestWithout (TbX7 4 ((some FieldType.int)) []) k G)   {v1 : Int32} {v2 : Int32} {v3 : Int32} {s : St} (hw : ok (F_X7_lowestWithout_2 v1 v2 v3 s) (fun p => k (some (.int p)) (mkCs s))) : G 2 [.ref 81, .int v1, .int v2, .int v3] [] (mkCs s) 0 0 := by
  unfold F_X7_lowestWithout_2 at hw
  refine lp_ok (B_X7_lowestWithout_2 v1 v2 s) (fun x => G 2 [.ref 81, .int v1, .int v2, .int x] [] (mkCs s) 0 0) _ ?_ _ _ (ok_bind hw)
  rintro v3 hb
  exact b_X7_lowestWithout_2 hG (fun _ z => z) (fun y hw => by exact hG.2 _ _ _ _ _ _ _ _ _ (by exact trivial) (Nat.zero_le _) (Nat.zero_le _) (g_X7_lowestWithout_41 hG  hw :)) (fun y hw => by exact hG.2 _ _ _ _ _ _ _ _ _ (by refine ⟨Or.inl rfl, ?_⟩; refine ⟨Or.inl rfl, ?_⟩; refine ⟨Or.inl rfl, ?_⟩; refine ⟨Or.inr rfl, ?_⟩; exact trivial) (Nat.zero_le _) (Nat.zero_le _) (g_X7_lowestWithout_33 hG  hw :)) hb

set_option maxHeartbeats 4000000 in
set_option maxRecDepth 20000 in
theorem g_X7_lowestWithout {k : Option Value → mj_H → Prop} {G : mj_K} (hG : mj_cl2 cX7_lowestWithout (TbX7 4 ((some FieldType.int)) []) k G) {v1 : Int32} {v2 : Int32} {s : St} (hw : ok (F_X7_lowestWithout v1 v2 s) (fun p => k (some (.int p)) (mkCs s))) : G 0 [.ref 81, .int v1, .int v2] [] (mkCs s) 0 0 := by
  unfold F_X7_lowestWithout at hw
  refine mj_run hG.1 (fun pc => pc == 2 || pc == 33 || pc == 41) 4000 ?_
  simp only [mj_step, mj_W_s, mj_fin, List.getElem?_cons_zero, List.getElem?_cons_succ, mj_go, Nat.reduceAdd, Nat.reduceSub, Nat.reduceLT, Nat.reduceLeDiff, Nat.zero_add, Nat.reduceEqDiff, Nat.reduceBEq, ↓reduceIte, Bool.false_eq_true, List.append_nil, List.nil_append, List.cons_append, Option.toList, and_true, true_and, true_or, or_true, reduceCtorEq, List.map_nil, bI_eq0, bI_eq1, bool_ft, pk_us, vnar0, vnar1, Bool.or_false, Bool.or_true, Bool.false_or, Bool.true_or, mj_kne, eq_self, Int32.reduceLT, Int32.reduceLE, Int32.reduceAdd, Int32.reduceSub, Int32.reduceMul, not_true_eq_false, not_false_eq_true, false_implies, true_implies, D_X7_lowestWithout, mj_F_aload_n_k, mj_F_getfield_i, mj_F_goto_off, mj_F_iaload, mj_F_iand, mj_F_iconst_n, mj_F_ifCond_ne_off, mj_F_if_icmp_ge_off, mj_F_if_icmp_ne_off, mj_F_iinc_k_n, mj_F_iload_n_k, mj_F_ireturn, mj_F_ishr, mj_F_istore_n_k, mj_set, mj_set0, mj_unk, mj_c2, mj_kc, FT_X7, gS_C81, gCf7_1, gS_C20, gCf1_1, gCf7_4, gS_C83, sS_Ca_83, J_X7_lowestWithout]
  exact hG.2 _ _ _ _ _ _ _ _ _ (by refine ⟨Or.inr rfl, ?_⟩; refine ⟨Or.inr rfl, ?_⟩; refine ⟨Or.inr rfl, ?_⟩; refine ⟨Or.inr rfl, ?_⟩; exact trivial) (Nat.zero_le _) (Nat.zero_le _) (g_X7_lowestWithout_2 hG  hw :)

def c_X7_lowestWithout : mj_S := fun as h k => ∃ (v1 : Int32) (v2 : Int32) (s : St), as = [.ref 81, .int v1, .int v2] ∧ h = mkCs s ∧ ok (F_X7_lowestWithout v1 v2 s) (fun p => k (some (.int p)) (mkCs s))
theorem c_X7_lowestWithout_in {v1 : Int32} {v2 : Int32} {s : St} {k : Option Value → mj_H → Prop} (hw : ok (F_X7_lowestWithout v1 v2 s) (fun p => k (some (.int p)) (mkCs s))) : c_X7_lowestWithout [.ref 81, .int v1, .int v2] (mkCs s) k := ⟨v1, v2, s, rfl, rfl, hw⟩
theorem m_X7_lowestWithout (l : Launch) : mj_Met l yX7_lowestWithout cX7_lowestWithout 4 ((some FieldType.int)) 0 0 0 c_X7_lowestWithout := by
  refine mj_body2 false (TbX7 4 ((some FieldType.int)) []) (by decide) rfl rfl (fun h => nomatch h) (tfX7 _ (fun _ h => nomatch h)) ?_
  rintro as h k ⟨v1, v2, s, rfl, rfl, hw⟩
  exact ⟨rfl, fun G hG => g_X7_lowestWithout hG hw⟩
def B_X7_fewest_5 (v1 : Int32) (v2 : Int32) (s : St) : Int32 × Int32 → Option ((Int32 × Int32) ⊕ ((Int32)))
  | (v3, v4) =>
  if v1 < v4 then
    some (.inr v3)
  else
    if (v4 &&& (v1 ^^^ (-1))) = 0 then
      (F_X7_lowestWithout v4 v2 s).bind fun r1 =>
      if r1 = (-1) then
        (F_J6_bitCount_0f7a4 v4).bind fun r2 =>
        (F_J6_bitCount_0f7a4 v3).bind fun r3 =>
        if v3 = (-1) then
          some (.inl (v4, (v4 + 1)))
        else
          if (r2 - r3) < 0 then
            some (.inl (v4, (v4 + 1)))
          else
            if (r2 - r3) = 0 then
              if ((v4 &&& (v4 ^^^ v3)) &&& (-(v4 ^^^ v3))) = 0 then
                some (.inl (v3, (v4 + 1)))
              else
                some (.inl (v4, (v4 + 1)))
            else
              some (.inl (v3, (v4 + 1)))
      else
        some (.inl (v3, (v4 + 1)))
    else
      some (.inl (v3, (v4 + 1)))
def F_X7_fewest_88 (v3 : Int32) (s : St) : Option (Int32) :=
  some v3
def F_X7_fewest_5 (v1 : Int32) (v2 : Int32) (v3 : Int32) (v4 : Int32) (s : St) : Option (Int32) :=
  (lp (B_X7_fewest_5 v1 v2 s) FU (v3, v4)).bind (fun y => F_X7_fewest_88 y s)
def F_X7_fewest (v1 : Int32) (v2 : Int32) (s : St) : Option (Int32) :=
  F_X7_fewest_5 v1 v2 (-1) 0 s
theorem J_X7_fewest : mj_t 8 80 = 88 ∧ mj_t 17 65 = 82 ∧ mj_t 28 6 = 34 ∧ mj_t 31 51 = 82 ∧ mj_t 54 25 = 79 ∧ mj_t 59 20 = 79 ∧ mj_t 64 18 = 82 ∧ mj_t 76 6 = 82 ∧ mj_t 85 (-80) = 5 ∧ (0 ≤ ((8 : Nat) : Int) + 80) = True ∧ (0 ≤ ((17 : Nat) : Int) + 65) = True ∧ (0 ≤ ((28 : Nat) : Int) + 6) = True ∧ (0 ≤ ((31 : Nat) : Int) + 51) = True ∧ (0 ≤ ((54 : Nat) : Int) + 25) = True ∧ (0 ≤ ((59 : Nat) : Int) + 20) = True ∧ (0 ≤ ((64 : Nat) : Int) + 18) = True ∧ (0 ≤ ((76 : Nat) : Int) + 6) = True ∧ (0 ≤ ((85 : Nat) : Int) + (-80)) = True := by and_intros <;> first | rfl | exact eq_true (by decide)
def ct_X7_fewest : List (Nat × mj_Cs) := [(58, 0, 3, 7, 0, 0, c_X7_lowestWithout), (62, 2, 1, 99, 0, 0, c_J6_bitCount_0f7a4)]
theorem L_X7_fewest : mj_lk ct_X7_fewest 58 = some (0, 3, 7, 0, 0, c_X7_lowestWithout) ∧ mj_lk ct_X7_fewest 62 = some (2, 1, 99, 0, 0, c_J6_bitCount_0f7a4) := ⟨rfl, rfl⟩
set_option maxHeartbeats 4000000 in
set_option maxRecDepth 20000 in
theorem b_X7_fewest_5 {k : Option Value → mj_H → Prop} {G : mj_K} (hG : mj_cl2 cX7_fewest (TbX7 7 ((some FieldType.int)) ct_X7_fewest) k G) {v1 : Int32} {v2 : Int32} {s : St} {P : Int32 × Int32 → Prop} {K : (Int32) → Prop} (hP : ∀ x, P x → G 5 [.ref 81, .int v1, .int v2, .int x.1, .int x.2] [] (mkCs s) 0 0) (hK0 : ∀ y, K y → G 88 [mj_unk, mj_unk, mj_unk, .int y] [] (mkCs s) 0 0) {v3 : Int32} {v4 : Int32} (hw : ok (B_X7_fewest_5 v1 v2 s (v3, v4)) (Sum.elim P K)) : G 5 [.ref 81, .int v1, .int v2, .int v3, .int v4] [] (mkCs s) 0 0 := by
  unfold B_X7_fewest_5 at hw
  refine mj_run hG.1 (fun pc => pc == 5 || pc == 27 || pc == 45 || pc == 49 || pc == 88) 4000 ?_
  simp only [mj_step, mj_W_s, mj_fin, List.getElem?_cons_zero, List.getElem?_cons_succ, mj_go, Nat.reduceAdd, Nat.reduceSub, Nat.reduceLT, Nat.reduceLeDiff, Nat.zero_add, Nat.reduceEqDiff, Nat.reduceBEq, ↓reduceIte, Bool.false_eq_true, List.append_nil, List.nil_append, List.cons_append, Option.toList, and_true, true_and, true_or, or_true, reduceCtorEq, List.map_nil, bI_eq0, bI_eq1, bool_ft, pk_us, vnar0, vnar1, Bool.or_false, Bool.or_true, Bool.false_or, Bool.true_or, mj_kne, eq_self, Int32.reduceLT, Int32.reduceLE, Int32.reduceAdd, Int32.reduceSub, Int32.reduceMul, not_true_eq_false, not_false_eq_true, false_implies, true_implies, D_X7_fewest, mj_F_aload_n_k, mj_F_goto_off, mj_F_iand, mj_F_iconst_n, mj_F_ifCond_eq_off, mj_F_ifCond_lt_off, mj_F_ifCond_ne_off, mj_F_if_icmp_eq_off, mj_F_if_icmp_gt_off, mj_F_iinc_k_n, mj_F_iload_k, mj_F_iload_n_k, mj_F_ineg, mj_F_invokestatic_i, mj_F_invokevirtual_i, mj_F_ireturn, mj_F_istore_k, mj_F_istore_n_k, mj_F_isub, mj_F_ixor, mj_set, mj_set0, mj_unk, mj_c2, mj_kc, L_X7_fewest, List.take_succ_cons, List.take_zero, List.drop_succ_cons, List.drop_zero, List.reverse_cons, List.reverse_nil, List.length_cons, List.length_nil, gS_C81, J_X7_fewest]
  refine ⟨fun c => ?_, fun c => ?_⟩
  · replace hw := ok_t hw c
    exact hG.2 _ _ _ _ _ _ _ _ _ (by refine ⟨Or.inl rfl, ?_⟩; refine ⟨Or.inl rfl, ?_⟩; refine ⟨Or.inl rfl, ?_⟩; refine ⟨Or.inr rfl, ?_⟩; exact trivial) (Nat.zero_le _) (Nat.zero_le _) (hK0 _ (ok_some hw :) :)
  · replace hw := ok_f hw c
    refine ⟨fun c => ?_, fun c => ?_⟩
    · replace hw := ok_f hw c
      exact hG.2 _ _ _ _ _ _ _ _ _ (by refine ⟨Or.inr rfl, ?_⟩; refine ⟨Or.inr rfl, ?_⟩; refine ⟨Or.inr rfl, ?_⟩; refine ⟨Or.inr rfl, ?_⟩; refine ⟨Or.inr rfl, ?_⟩; exact trivial) (Nat.zero_le _) (Nat.zero_le _) (hP _ (ok_some hw :) :)
    · replace hw := ok_t hw c
      refine c_X7_lowestWithout_in (ok_imp (ok_bind hw) ?_)
      intro p hw
      simp only [Option.toList, List.nil_append, List.cons_append, Nat.reduceSub]
      refine mj_run hG.1 (fun pc => pc == 5 || pc == 27 || pc == 45 || pc == 49 || pc == 88) 4000 ?_
      simp only [mj_step, mj_W_s, mj_fin, List.getElem?_cons_zero, List.getElem?_cons_succ, mj_go, Nat.reduceAdd, Nat.reduceSub, Nat.reduceLT, Nat.reduceLeDiff, Nat.zero_add, Nat.reduceEqDiff, Nat.reduceBEq, ↓reduceIte, Bool.false_eq_true, List.append_nil, List.nil_append, List.cons_append, Option.toList, and_true, true_and, true_or, or_true, reduceCtorEq, List.map_nil, bI_eq0, bI_eq1, bool_ft, pk_us, vnar0, vnar1, Bool.or_false, Bool.or_true, Bool.false_or, Bool.true_or, mj_kne, eq_self, Int32.reduceLT, Int32.reduceLE, Int32.reduceAdd, Int32.reduceSub, Int32.reduceMul, not_true_eq_false, not_false_eq_true, false_implies, true_implies, D_X7_fewest, mj_F_aload_n_k, mj_F_goto_off, mj_F_iand, mj_F_iconst_n, mj_F_ifCond_eq_off, mj_F_ifCond_lt_off, mj_F_ifCond_ne_off, mj_F_if_icmp_eq_off, mj_F_if_icmp_gt_off, mj_F_iinc_k_n, mj_F_iload_k, mj_F_iload_n_k, mj_F_ineg, mj_F_invokestatic_i, mj_F_invokevirtual_i, mj_F_ireturn, mj_F_istore_k, mj_F_istore_n_k, mj_F_isub, mj_F_ixor, mj_set, mj_set0, mj_unk, mj_c2, mj_kc, L_X7_fewest, List.take_succ_cons, List.take_zero, List.drop_succ_cons, List.drop_zero, List.reverse_cons, List.reverse_nil, List.length_cons, List.length_nil, gS_C81, J_X7_fewest]
      refine ⟨fun c => ?_, fun c => ?_⟩
      · replace hw := ok_t hw c
        refine c_J6_bitCount_0f7a4_in (ok_imp (ok_bind hw) ?_)
        intro p hw
        simp only [Option.toList, List.nil_append, List.cons_append, Nat.reduceSub]
        refine mj_run hG.1 (fun pc => pc == 5 || pc == 27 || pc == 45 || pc == 49 || pc == 88) 4000 ?_
        simp only [mj_step, mj_W_s, mj_fin, List.getElem?_cons_zero, List.getElem?_cons_succ, mj_go, Nat.reduceAdd, Nat.reduceSub, Nat.reduceLT, Nat.reduceLeDiff, Nat.zero_add, Nat.reduceEqDiff, Nat.reduceBEq, ↓reduceIte, Bool.false_eq_true, List.append_nil, List.nil_append, List.cons_append, Option.toList, and_true, true_and, true_or, or_true, reduceCtorEq, List.map_nil, bI_eq0, bI_eq1, bool_ft, pk_us, vnar0, vnar1, Bool.or_false, Bool.or_true, Bool.false_or, Bool.true_or, mj_kne, eq_self, Int32.reduceLT, Int32.reduceLE, Int32.reduceAdd, Int32.reduceSub, Int32.reduceMul, not_true_eq_false, not_false_eq_true, false_implies, true_implies, D_X7_fewest, mj_F_aload_n_k, mj_F_goto_off, mj_F_iand, mj_F_iconst_n, mj_F_ifCond_eq_off, mj_F_ifCond_lt_off, mj_F_ifCond_ne_off, mj_F_if_icmp_eq_off, mj_F_if_icmp_gt_off, mj_F_iinc_k_n, mj_F_iload_k, mj_F_iload_n_k, mj_F_ineg, mj_F_invokestatic_i, mj_F_invokevirtual_i, mj_F_ireturn, mj_F_istore_k, mj_F_istore_n_k, mj_F_isub, mj_F_ixor, mj_set, mj_set0, mj_unk, mj_c2, mj_kc, L_X7_fewest, List.take_succ_cons, List.take_zero, List.drop_succ_cons, List.drop_zero, List.reverse_cons, List.reverse_nil, List.length_cons, List.length_nil, gS_C81, J_X7_fewest]
        refine c_J6_bitCount_0f7a4_in (ok_imp (ok_bind hw) ?_)
        intro p hw
        simp only [Option.toList, List.nil_append, List.cons_append, Nat.reduceSub]
        refine mj_run hG.1 (fun pc => pc == 5 || pc == 27 || pc == 45 || pc == 49 || pc == 88) 4000 ?_
        simp only [mj_step, mj_W_s, mj_fin, List.getElem?_cons_zero, List.getElem?_cons_succ, mj_go, Nat.reduceAdd, Nat.reduceSub, Nat.reduceLT, Nat.reduceLeDiff, Nat.zero_add, Nat.reduceEqDiff, Nat.reduceBEq, ↓reduceIte, Bool.false_eq_true, List.append_nil, List.nil_append, List.cons_append, Option.toList, and_true, true_and, true_or, or_true, reduceCtorEq, List.map_nil, bI_eq0, bI_eq1, bool_ft, pk_us, vnar0, vnar1, Bool.or_false, Bool.or_true, Bool.false_or, Bool.true_or, mj_kne, eq_self, Int32.reduceLT, Int32.reduceLE, Int32.reduceAdd, Int32.reduceSub, Int32.reduceMul, not_true_eq_false, not_false_eq_true, false_implies, true_implies, D_X7_fewest, mj_F_aload_n_k, mj_F_goto_off, mj_F_iand, mj_F_iconst_n, mj_F_ifCond_eq_off, mj_F_ifCond_lt_off, mj_F_ifCond_ne_off, mj_F_if_icmp_eq_off, mj_F_if_icmp_gt_off, mj_F_iinc_k_n, mj_F_iload_k, mj_F_iload_n_k, mj_F_ineg, mj_F_invokestatic_i, mj_F_invokevirtual_i, mj_F_ireturn, mj_F_istore_k, mj_F_istore_n_k, mj_F_isub, mj_F_ixor, mj_set, mj_set0, mj_unk, mj_c2, mj_kc, L_X7_fewest, List.take_succ_cons, List.take_zero, List.drop_succ_cons, List.drop_zero, List.reverse_cons, List.reverse_nil, List.length_cons, List.length_nil, gS_C81, J_X7_fewest]
        refine ⟨fun c => ?_, fun c => ?_⟩
        · replace hw := ok_t hw c
          exact hG.2 _ _ _ _ _ _ _ _ _ (by refine ⟨Or.inr rfl, ?_⟩; refine ⟨Or.inr rfl, ?_⟩; refine ⟨Or.inr rfl, ?_⟩; refine ⟨Or.inr rfl, ?_⟩; refine ⟨Or.inr rfl, ?_⟩; exact trivial) (Nat.zero_le _) (Nat.zero_le _) (hP _ (ok_some hw :) :)
        · replace hw := ok_f hw c
          refine ⟨fun c => ?_, fun c => ?_⟩
          · replace hw := ok_t hw c
            exact hG.2 _ _ _ _ _ _ _ _ _ (by refine ⟨Or.inr rfl, ?_⟩; refine ⟨Or.inr rfl, ?_⟩; refine ⟨Or.inr rfl, ?_⟩; refine ⟨Or.inr rfl, ?_⟩; refine ⟨Or.inr rfl, ?_⟩; exact trivial) (Nat.zero_le _) (Nat.zero_le _) (hP _ (ok_some hw :) :)
          · replace hw := ok_f hw c
            refine ⟨fun c => ?_, fun c => ?_⟩
            · replace hw := ok_f hw c
              exact hG.2 _ _ _ _ _ _ _ _ _ (by refine ⟨Or.inr rfl, ?_⟩; refine ⟨Or.inr rfl, ?_⟩; refine ⟨Or.inr rfl, ?_⟩; refine ⟨Or.inr rfl, ?_⟩; refine ⟨Or.inr rfl, ?_⟩; exact trivial) (Nat.zero_le _) (Nat.zero_le _) (hP _ (ok_some hw :) :)
            · replace hw := ok_t hw c
              refine ⟨fun c => ?_, fun c => ?_⟩
              · replace hw := ok_t hw c
                exact hG.2 _ _ _ _ _ _ _ _ _ (by refine ⟨Or.inr rfl, ?_⟩; refine ⟨Or.inr rfl, ?_⟩; refine ⟨Or.inr rfl, ?_⟩; refine ⟨Or.inr rfl, ?_⟩; refine ⟨Or.inr rfl, ?_⟩; exact trivial) (Nat.zero_le _) (Nat.zero_le _) (hP _ (ok_some hw :) :)
              · replace hw := ok_f hw c
                exact hG.2 _ _ _ _ _ _ _ _ _ (by refine ⟨Or.inr rfl, ?_⟩; refine ⟨Or.inr rfl, ?_⟩; refine ⟨Or.inr rfl, ?_⟩; refine ⟨Or.inr rfl, ?_⟩; refine ⟨Or.inr rfl, ?_⟩; exact trivial) (Nat.zero_le _) (Nat.zero_le _) (hP _ (ok_some hw :) :)
      · replace hw := ok_f hw c
        exact hG.2 _ _ _ _ _ _ _ _ _ (by refine ⟨Or.inr rfl, ?_⟩; refine ⟨Or.inr rfl, ?_⟩; refine ⟨Or.inr rfl, ?_⟩; refine ⟨Or.inr rfl, ?_⟩; refine ⟨Or.inr rfl, ?_⟩; exact trivial) (Nat.zero_le _) (Nat.zero_le _) (hP _ (ok_some hw :) :)

set_option maxHeartbeats 4000000 in
set_option maxRecDepth 20000 in
theorem g_X7_fewest_88 {k : Option Value → mj_H → Prop} {G : mj_K} (hG : mj_cl2 cX7_fewest (TbX7 7 ((some FieldType.int)) ct_X7_fewest) k G)   {v3 : Int32} {s : St} (hw : ok (F_X7_fewest_88 v3 s) (fun p => k (some (.int p)) (mkCs s))) : G 88 [mj_unk, mj_unk, mj_unk, .int v3] [] (mkCs s) 0 0 := by
  unfold F_X7_fewest_88 at hw
  refine mj_run hG.1 (fun pc => pc == 5 || pc == 27 || pc == 45 || pc == 49 || pc == 88) 4000 ?_
  simp only [mj_step, mj_W_s, mj_fin, List.getElem?_cons_zero, List.getElem?_cons_succ, mj_go, Nat.reduceAdd, Nat.reduceSub, Nat.reduceLT, Nat.reduceLeDiff, Nat.zero_add, Nat.reduceEqDiff, Nat.reduceBEq, ↓reduceIte, Bool.false_eq_true, List.append_nil, List.nil_append, List.cons_append, Option.toList, and_true, true_and, true_or, or_true, reduceCtorEq, List.map_nil, bI_eq0, bI_eq1, bool_ft, pk_us, vnar0, vnar1, Bool.or_false, Bool.or_true, Bool.false_or, Bool.true_or, mj_kne, eq_self, Int32.reduceLT, Int32.reduceLE, Int32.reduceAdd, Int32.reduceSub, Int32.reduceMul, not_true_eq_false, not_false_eq_true, false_implies, true_implies, D_X7_fewest, mj_F_aload_n_k, mj_F_goto_off, mj_F_iand, mj_F_iconst_n, mj_F_ifCond_eq_off, mj_F_ifCond_lt_off, mj_F_ifCond_ne_off, mj_F_if_icmp_eq_off, mj_F_if_icmp_gt_off, mj_F_iinc_k_n, mj_F_iload_k, mj_F_iload_n_k, mj_F_ineg, mj_F_invokestatic_i, mj_F_invokevirtual_i, mj_F_ireturn, mj_F_istore_k, mj_F_istore_n_k, mj_F_isub, mj_F_ixor, mj_set, mj_set0, mj_unk, mj_c2, mj_kc, L_X7_fewest, List.take_succ_cons, List.take_zero, List.drop_succ_cons, List.drop_zero, List.reverse_cons, List.reverse_nil, List.length_cons, List.length_nil, gS_C81, J_X7_fewest]
  exact (ok_some hw :)

set_option maxHeartbeats 4000000 in
theorem g_X7_fewest_5 {k : Option Value → mj_H → Prop} {G : mj_K} (hG : mj_cl2 cX7_fewest (TbX7 7 ((some FieldType.int)) ct_X7_fewest) k G)   {v1 : Int32} {v2 : Int32} {v3 : Int32} {v4 : Int32} {s : St} (hw : ok (F_X7_fewest_5 v1 v2 v3 v4 s) (fun p => k (some (.int p)) (mkCs s))) : G 5 [.ref 81, .int v1, .int v2, .int v3, .int v4] [] (mkCs s) 0 0 := by
  unfold F_X7_fewest_5 at hw
  refine lp_ok (B_X7_fewest_5 v1 v2 s) (fun x => G 5 [.ref 81, .int v1, .int v2, .int x.1, .int x.2] [] (mkCs s) 0 0) _ ?_ _ _ (ok_bind hw)
  rintro ⟨v3, v4⟩ hb
  exact b_X7_fewest_5 hG (fun _ z => z) (fun y hw => by exact hG.2 _ _ _ _ _ _ _ _ _ (by refine ⟨Or.inl rfl, ?_⟩; refine ⟨Or.inl rfl, ?_⟩; refine ⟨Or.inl rfl, ?_⟩; refine ⟨Or.inr rfl, ?_⟩; exact trivial) (Nat.zero_le _) (Nat.zero_le _) (g_X7_fewest_88 hG  hw :)) hb

set_option maxHeartbeats 4000000 in
set_option maxRecDepth 20000 in
theorem g_X7_fewest {k : Option Value → mj_H → Prop} {G : mj_K} (hG : mj_cl2 cX7_fewest (TbX7 7 ((some FieldType.int)) ct_X7_fewest) k G) {v1 : Int32} {v2 : Int32} {s : St} (hw : ok (F_X7_fewest v1 v2 s) (fun p => k (some (.int p)) (mkCs s))) : G 0 [.ref 81, .int v1, .int v2] [] (mkCs s) 0 0 := by
  unfold F_X7_fewest at hw
  refine mj_run hG.1 (fun pc => pc == 5 || pc == 27 || pc == 45 || pc == 49 || pc == 88) 4000 ?_
  simp only [mj_step, mj_W_s, mj_fin, List.getElem?_cons_zero, List.getElem?_cons_succ, mj_go, Nat.reduceAdd, Nat.reduceSub, Nat.reduceLT, Nat.reduceLeDiff, Nat.zero_add, Nat.reduceEqDiff, Nat.reduceBEq, ↓reduceIte, Bool.false_eq_true, List.append_nil, List.nil_append, List.cons_append, Option.toList, and_true, true_and, true_or, or_true, reduceCtorEq, List.map_nil, bI_eq0, bI_eq1, bool_ft, pk_us, vnar0, vnar1, Bool.or_false, Bool.or_true, Bool.false_or, Bool.true_or, mj_kne, eq_self, Int32.reduceLT, Int32.reduceLE, Int32.reduceAdd, Int32.reduceSub, Int32.reduceMul, not_true_eq_false, not_false_eq_true, false_implies, true_implies, D_X7_fewest, mj_F_aload_n_k, mj_F_goto_off, mj_F_iand, mj_F_iconst_n, mj_F_ifCond_eq_off, mj_F_ifCond_lt_off, mj_F_ifCond_ne_off, mj_F_if_icmp_eq_off, mj_F_if_icmp_gt_off, mj_F_iinc_k_n, mj_F_iload_k, mj_F_iload_n_k, mj_F_ineg, mj_F_invokestatic_i, mj_F_invokevirtual_i, mj_F_ireturn, mj_F_istore_k, mj_F_istore_n_k, mj_F_isub, mj_F_ixor, mj_set, mj_set0, mj_unk, mj_c2, mj_kc, L_X7_fewest, List.take_succ_cons, List.take_zero, List.drop_succ_cons, List.drop_zero, List.reverse_cons, List.reverse_nil, List.length_cons, List.length_nil, gS_C81, J_X7_fewest]
  exact hG.2 _ _ _ _ _ _ _ _ _ (by refine ⟨Or.inr rfl, ?_⟩; refine ⟨Or.inr rfl, ?_⟩; refine ⟨Or.inr rfl, ?_⟩; refine ⟨Or.inr rfl, ?_⟩; refine ⟨Or.inr rfl, ?_⟩; exact trivial) (Nat.zero_le _) (Nat.zero_le _) (g_X7_fewest_5 hG  hw :)

def c_X7_fewest : mj_S := fun as h k => ∃ (v1 : Int32) (v2 : Int32) (s : St), as = [.ref 81, .int v1, .int v2] ∧ h = mkCs s ∧ ok (F_X7_fewest v1 v2 s) (fun p => k (some (.int p)) (mkCs s))
theorem c_X7_fewest_in {v1 : Int32} {v2 : Int32} {s : St} {k : Option Value → mj_H → Prop} (hw : ok (F_X7_fewest v1 v2 s) (fun p => k (some (.int p)) (mkCs s))) : c_X7_fewest [.ref 81, .int v1, .int v2] (mkCs s) k := ⟨v1, v2, s, rfl, rfl, hw⟩
theorem m_X7_fewest (l : Launch) : mj_Met l yX7_fewest cX7_fewest 7 ((some FieldType.int)) 1 0 0 c_X7_fewest := by
  refine mj_body2 false (TbX7 7 ((some FieldType.int)) ct_X7_fewest) (by decide) rfl rfl (fun h => nomatch h) (tfX7 _ (List.forall_mem_cons.mpr ⟨cfX7_58 (m_X7_lowestWithout l) (by decide), List.forall_mem_cons.mpr ⟨cfX7_62 (m_J6_bitCount_0f7a4 l) (by decide), fun _ h => nomatch h⟩⟩)) ?_
  rintro as h k ⟨v1, v2, s, rfl, rfl, hw⟩
  exact ⟨rfl, fun G hG => g_X7_fewest hG hw⟩
def F_X11_cover (v1 : Int32) (v2 : Int32) (s : St) : Option (Int32 × St) :=
  (F_X11_areVillages v1 s).bind fun r1 =>
  if r1 = 0 then
    some ((-1), s)
  else
    if inb v2 0 600 = false then
      some ((-1), s)
    else
      (F_X7_look v1 v2 (s.1 1100) s).bind fun s2 =>
      (F_X7_all s2).bind fun r3 =>
      (F_X7_fewest r3 v1 s2).bind fun r4 =>
      some (r4, s2)
theorem J_X11_cover : mj_t 5 14 = 19 ∧ mj_t 16 5 = 21 ∧ (0 ≤ ((5 : Nat) : Int) + 14) = True ∧ (0 ≤ ((16 : Nat) : Int) + 5) = True := by and_intros <;> first | rfl | exact eq_true (by decide)
def ct_X11_cover : List (Nat × mj_Cs) := [(96, 2, 3, 11, 0, 0, c_in), (275, 0, 2, 11, 0, 0, c_X11_areVillages), (278, 0, 4, 7, 25, 3000, c_X7_look), (282, 0, 1, 7, 0, 0, c_X7_all), (285, 0, 3, 7, 0, 0, c_X7_fewest)]
theorem L_X11_cover : mj_lk ct_X11_cover 96 = some (2, 3, 11, 0, 0, c_in) ∧ mj_lk ct_X11_cover 275 = some (0, 2, 11, 0, 0, c_X11_areVillages) ∧ mj_lk ct_X11_cover 278 = some (0, 4, 7, 25, 3000, c_X7_look) ∧ mj_lk ct_X11_cover 282 = some (0, 1, 7, 0, 0, c_X7_all) ∧ mj_lk ct_X11_cover 285 = some (0, 3, 7, 0, 0, c_X7_fewest) := ⟨rfl, rfl, rfl, rfl, rfl⟩
set_option maxHeartbeats 4000000 in
set_option maxRecDepth 20000 in
theorem g_X11_cover {k : Option Value → mj_H → Prop} {G : mj_K} (hG : mj_cl2 cX11_cover (TbX11 3 ((some FieldType.int)) ct_X11_cover) k G) {v1 : Int32} {v2 : Int32} {s : St} (hw : ok (F_X11_cover v1 v2 s) (fun p => k (some (.int p.1)) (mkCs p.2))) : G 0 [.ref 0, .int v1, .int v2] [] (mkCs s) 25 3000 := by
  unfold F_X11_cover at hw
  refine mj_run hG.1 (fun pc => pc == 5 || pc == 34 || pc == 45 || pc == 49) 4000 ?_
  simp only [mj_step, mj_W_s, mj_fin, List.getElem?_cons_zero, List.getElem?_cons_succ, mj_go, Nat.reduceAdd, Nat.reduceSub, Nat.reduceLT, Nat.reduceLeDiff, Nat.zero_add, Nat.reduceEqDiff, Nat.reduceBEq, ↓reduceIte, Bool.false_eq_true, List.append_nil, List.nil_append, List.cons_append, Option.toList, and_true, true_and, true_or, or_true, reduceCtorEq, List.map_nil, bI_eq0, bI_eq1, bool_ft, pk_us, vnar0, vnar1, Bool.or_false, Bool.or_true, Bool.false_or, Bool.true_or, mj_kne, eq_self, Int32.reduceLT, Int32.reduceLE, Int32.reduceAdd, Int32.reduceSub, Int32.reduceMul, not_true_eq_false, not_false_eq_true, false_implies, true_implies, D_X11_cover, mj_F_aload_n_k, mj_F_getfield_i, mj_F_iconst_n, mj_F_ifCond_eq_off, mj_F_ifCond_ne_off, mj_F_iload_n_k, mj_F_invokestatic_i, mj_F_invokevirtual_i, mj_F_ireturn, mj_F_sipush_n, mj_kc, FT_X11, L_X11_cover, List.take_succ_cons, List.take_zero, List.drop_succ_cons, List.drop_zero, List.reverse_cons, List.reverse_nil, List.length_cons, List.length_nil, gS_C0, gCf11_10, gCf11_0, c_in_eq, gS_C81, J_X11_cover]
  refine c_X11_areVillages_in (ok_imp (ok_bind hw) ?_)
  intro p hw
  simp only [Option.toList, List.nil_append, List.cons_append, Nat.reduceSub]
  refine mj_run hG.1 (fun pc => pc == 5 || pc == 34 || pc == 45 || pc == 49) 4000 ?_
  simp only [mj_step, mj_W_s, mj_fin, List.getElem?_cons_zero, List.getElem?_cons_succ, mj_go, Nat.reduceAdd, Nat.reduceSub, Nat.reduceLT, Nat.reduceLeDiff, Nat.zero_add, Nat.reduceEqDiff, Nat.reduceBEq, ↓reduceIte, Bool.false_eq_true, List.append_nil, List.nil_append, List.cons_append, Option.toList, and_true, true_and, true_or, or_true, reduceCtorEq, List.map_nil, bI_eq0, bI_eq1, bool_ft, pk_us, vnar0, vnar1, Bool.or_false, Bool.or_true, Bool.false_or, Bool.true_or, mj_kne, eq_self, Int32.reduceLT, Int32.reduceLE, Int32.reduceAdd, Int32.reduceSub, Int32.reduceMul, not_true_eq_false, not_false_eq_true, false_implies, true_implies, D_X11_cover, mj_F_aload_n_k, mj_F_getfield_i, mj_F_iconst_n, mj_F_ifCond_eq_off, mj_F_ifCond_ne_off, mj_F_iload_n_k, mj_F_invokestatic_i, mj_F_invokevirtual_i, mj_F_ireturn, mj_F_sipush_n, mj_kc, FT_X11, L_X11_cover, List.take_succ_cons, List.take_zero, List.drop_succ_cons, List.drop_zero, List.reverse_cons, List.reverse_nil, List.length_cons, List.length_nil, gS_C0, gCf11_10, gCf11_0, c_in_eq, gS_C81, J_X11_cover]
  refine ⟨fun c => ?_, fun c => ?_⟩
  · replace hw := ok_t hw c
    exact (ok_some hw :)
  · replace hw := ok_f hw c
    refine ⟨fun c => ?_, fun c => ?_⟩
    · replace hw := ok_f hw c
      refine c_X7_look_in (ok_imp (ok_bind hw) ?_)
      intro p hw
      simp only [Option.toList, List.nil_append, List.cons_append, Nat.reduceSub]
      refine mj_run hG.1 (fun pc => pc == 5 || pc == 34 || pc == 45 || pc == 49) 4000 ?_
      simp only [mj_step, mj_W_s, mj_fin, List.getElem?_cons_zero, List.getElem?_cons_succ, mj_go, Nat.reduceAdd, Nat.reduceSub, Nat.reduceLT, Nat.reduceLeDiff, Nat.zero_add, Nat.reduceEqDiff, Nat.reduceBEq, ↓reduceIte, Bool.false_eq_true, List.append_nil, List.nil_append, List.cons_append, Option.toList, and_true, true_and, true_or, or_true, reduceCtorEq, List.map_nil, bI_eq0, bI_eq1, bool_ft, pk_us, vnar0, vnar1, Bool.or_false, Bool.or_true, Bool.false_or, Bool.true_or, mj_kne, eq_self, Int32.reduceLT, Int32.reduceLE, Int32.reduceAdd, Int32.reduceSub, Int32.reduceMul, not_true_eq_false, not_false_eq_true, false_implies, true_implies, D_X11_cover, mj_F_aload_n_k, mj_F_getfield_i, mj_F_iconst_n, mj_F_ifCond_eq_off, mj_F_ifCond_ne_off, mj_F_iload_n_k, mj_F_invokestatic_i, mj_F_invokevirtual_i, mj_F_ireturn, mj_F_sipush_n, mj_kc, FT_X11, L_X11_cover, List.take_succ_cons, List.take_zero, List.drop_succ_cons, List.drop_zero, List.reverse_cons, List.reverse_nil, List.length_cons, List.length_nil, gS_C0, gCf11_10, gCf11_0, c_in_eq, gS_C81, J_X11_cover]
      refine c_X7_all_in (ok_imp (ok_bind hw) ?_)
      intro p hw
      simp only [Option.toList, List.nil_append, List.cons_append, Nat.reduceSub]
      refine mj_run hG.1 (fun pc => pc == 5 || pc == 34 || pc == 45 || pc == 49) 4000 ?_
      simp only [mj_step, mj_W_s, mj_fin, List.getElem?_cons_zero, List.getElem?_cons_succ, mj_go, Nat.reduceAdd, Nat.reduceSub, Nat.reduceLT, Nat.reduceLeDiff, Nat.zero_add, Nat.reduceEqDiff, Nat.reduceBEq, ↓reduceIte, Bool.false_eq_true, List.append_nil, List.nil_append, List.cons_append, Option.toList, and_true, true_and, true_or, or_true, reduceCtorEq, List.map_nil, bI_eq0, bI_eq1, bool_ft, pk_us, vnar0, vnar1, Bool.or_false, Bool.or_true, Bool.false_or, Bool.true_or, mj_kne, eq_self, Int32.reduceLT, Int32.reduceLE, Int32.reduceAdd, Int32.reduceSub, Int32.reduceMul, not_true_eq_false, not_false_eq_true, false_implies, true_implies, D_X11_cover, mj_F_aload_n_k, mj_F_getfield_i, mj_F_iconst_n, mj_F_ifCond_eq_off, mj_F_ifCond_ne_off, mj_F_iload_n_k, mj_F_invokestatic_i, mj_F_invokevirtual_i, mj_F_ireturn, mj_F_sipush_n, mj_kc, FT_X11, L_X11_cover, List.take_succ_cons, List.take_zero, List.drop_succ_cons, List.drop_zero, List.reverse_cons, List.reverse_nil, List.length_cons, List.length_nil, gS_C0, gCf11_10, gCf11_0, c_in_eq, gS_C81, J_X11_cover]
      refine c_X7_fewest_in (ok_imp (ok_bind hw) ?_)
      intro p hw
      simp only [Option.toList, List.nil_append, List.cons_append, Nat.reduceSub]
      refine mj_run hG.1 (fun pc => pc == 5 || pc == 34 || pc == 45 || pc == 49) 4000 ?_
      simp only [mj_step, mj_W_s, mj_fin, List.getElem?_cons_zero, List.getElem?_cons_succ, mj_go, Nat.reduceAdd, Nat.reduceSub, Nat.reduceLT, Nat.reduceLeDiff, Nat.zero_add, Nat.reduceEqDiff, Nat.reduceBEq, ↓reduceIte, Bool.false_eq_true, List.append_nil, List.nil_append, List.cons_append, Option.toList, and_true, true_and, true_or, or_true, reduceCtorEq, List.map_nil, bI_eq0, bI_eq1, bool_ft, pk_us, vnar0, vnar1, Bool.or_false, Bool.or_true, Bool.false_or, Bool.true_or, mj_kne, eq_self, Int32.reduceLT, Int32.reduceLE, Int32.reduceAdd, Int32.reduceSub, Int32.reduceMul, not_true_eq_false, not_false_eq_true, false_implies, true_implies, D_X11_cover, mj_F_aload_n_k, mj_F_getfield_i, mj_F_iconst_n, mj_F_ifCond_eq_off, mj_F_ifCond_ne_off, mj_F_iload_n_k, mj_F_invokestatic_i, mj_F_invokevirtual_i, mj_F_ireturn, mj_F_sipush_n, mj_kc, FT_X11, L_X11_cover, List.take_succ_cons, List.take_zero, List.drop_succ_cons, List.drop_zero, List.reverse_cons, List.reverse_nil, List.length_cons, List.length_nil, gS_C0, gCf11_10, gCf11_0, c_in_eq, gS_C81, J_X11_cover]
      exact (ok_some hw :)
    · replace hw := ok_t hw c
      exact (ok_some hw :)

def c_X11_cover : mj_S := fun as h k => ∃ (v1 : Int32) (v2 : Int32) (s : St), as = [.ref 0, .int v1, .int v2] ∧ h = mkCs s ∧ ok (F_X11_cover v1 v2 s) (fun p => k (some (.int p.1)) (mkCs p.2))
theorem c_X11_cover_in {v1 : Int32} {v2 : Int32} {s : St} {k : Option Value → mj_H → Prop} (hw : ok (F_X11_cover v1 v2 s) (fun p => k (some (.int p.1)) (mkCs p.2))) : c_X11_cover [.ref 0, .int v1, .int v2] (mkCs s) k := ⟨v1, v2, s, rfl, rfl, hw⟩
theorem m_X11_cover (l : Launch) : mj_Met l yX11_cover cX11_cover 3 ((some FieldType.int)) 6 25 3000 c_X11_cover := by
  refine mj_body2 false (TbX11 3 ((some FieldType.int)) ct_X11_cover) (by decide) rfl rfl (fun h => nomatch h) (tfX11 _ (List.forall_mem_cons.mpr ⟨cfX11_96 (m_X11_within l) (by decide), List.forall_mem_cons.mpr ⟨cfX11_275 (m_X11_areVillages l) (by decide), List.forall_mem_cons.mpr ⟨cfX11_278 (m_X7_look l) (by decide), List.forall_mem_cons.mpr ⟨cfX11_282 (m_X7_all l) (by decide), List.forall_mem_cons.mpr ⟨cfX11_285 (m_X7_fewest l) (by decide), fun _ h => nomatch h⟩⟩⟩⟩⟩)) ?_
  rintro as h k ⟨v1, v2, s, rfl, rfl, hw⟩
  exact ⟨rfl, fun G hG => g_X11_cover hG hw⟩
def F_X11_beyond (v1 : Int32) (v2 : Int32) (s : St) : Option (Int32 × St) :=
  (F_X11_areVillages v1 s).bind fun r1 =>
  if r1 = 0 then
    some ((-1), s)
  else
    if inb v2 0 600 = false then
      some ((-1), s)
    else
      (F_X7_look v1 v2 (s.1 1100) s).bind fun s2 =>
      (F_X7_all s2).bind fun r3 =>
      (F_X7_lowestWithout r3 v1 s2).bind fun r4 =>
      some (r4, s2)
theorem J_X11_beyond : mj_t 5 14 = 19 ∧ mj_t 16 5 = 21 ∧ (0 ≤ ((5 : Nat) : Int) + 14) = True ∧ (0 ≤ ((16 : Nat) : Int) + 5) = True := by and_intros <;> first | rfl | exact eq_true (by decide)
def ct_X11_beyond : List (Nat × mj_Cs) := [(96, 2, 3, 11, 0, 0, c_in), (275, 0, 2, 11, 0, 0, c_X11_areVillages), (278, 0, 4, 7, 25, 3000, c_X7_look), (282, 0, 1, 7, 0, 0, c_X7_all), (289, 0, 3, 7, 0, 0, c_X7_lowestWithout)]
theorem L_X11_beyond : mj_lk ct_X11_beyond 96 = some (2, 3, 11, 0, 0, c_in) ∧ mj_lk ct_X11_beyond 275 = some (0, 2, 11, 0, 0, c_X11_areVillages) ∧ mj_lk ct_X11_beyond 278 = some (0, 4, 7, 25, 3000, c_X7_look) ∧ mj_lk ct_X11_beyond 282 = some (0, 1, 7, 0, 0, c_X7_all) ∧ mj_lk ct_X11_beyond 289 = some (0, 3, 7, 0, 0, c_X7_lowestWithout) := ⟨rfl, rfl, rfl, rfl, rfl⟩
set_option maxHeartbeats 4000000 in
set_option maxRecDepth 20000 in
theorem g_X11_beyond {k : Option Value → mj_H → Prop} {G : mj_K} (hG : mj_cl2 cX11_beyond (TbX11 3 ((some FieldType.int)) ct_X11_beyond) k G) {v1 : Int32} {v2 : Int32} {s : St} (hw : ok (F_X11_beyond v1 v2 s) (fun p => k (some (.int p.1)) (mkCs p.2))) : G 0 [.ref 0, .int v1, .int v2] [] (mkCs s) 25 3000 := by
  unfold F_X11_beyond at hw
  refine mj_run hG.1 (fun pc => pc == 5 || pc == 34 || pc == 45 || pc == 49) 4000 ?_
  simp only [mj_step, mj_W_s, mj_fin, List.getElem?_cons_zero, List.getElem?_cons_succ, mj_go, Nat.reduceAdd, Nat.reduceSub, Nat.reduceLT, Nat.reduceLeDiff, Nat.zero_add, Nat.reduceEqDiff, Nat.reduceBEq, ↓reduceIte, Bool.false_eq_true, List.append_nil, List.nil_append, List.cons_append, Option.toList, and_true, true_and, true_or, or_true, reduceCtorEq, List.map_nil, bI_eq0, bI_eq1, bool_ft, pk_us, vnar0, vnar1, Bool.or_false, Bool.or_true, Bool.false_or, Bool.true_or, mj_kne, eq_self, Int32.reduceLT, Int32.reduceLE, Int32.reduceAdd, Int32.reduceSub, Int32.reduceMul, not_true_eq_false, not_false_eq_true, false_implies, true_implies, D_X11_beyond, mj_F_aload_n_k, mj_F_getfield_i, mj_F_iconst_n, mj_F_ifCond_eq_off, mj_F_ifCond_ne_off, mj_F_iload_n_k, mj_F_invokestatic_i, mj_F_invokevirtual_i, mj_F_ireturn, mj_F_sipush_n, mj_kc, FT_X11, L_X11_beyond, List.take_succ_cons, List.take_zero, List.drop_succ_cons, List.drop_zero, List.reverse_cons, List.reverse_nil, List.length_cons, List.length_nil, gS_C0, gCf11_10, gCf11_0, c_in_eq, gS_C81, J_X11_beyond]
  refine c_X11_areVillages_in (ok_imp (ok_bind hw) ?_)
  intro p hw
  simp only [Option.toList, List.nil_append, List.cons_append, Nat.reduceSub]
  refine mj_run hG.1 (fun pc => pc == 5 || pc == 34 || pc == 45 || pc == 49) 4000 ?_
  simp only [mj_step, mj_W_s, mj_fin, List.getElem?_cons_zero, List.getElem?_cons_succ, mj_go, Nat.reduceAdd, Nat.reduceSub, Nat.reduceLT, Nat.reduceLeDiff, Nat.zero_add, Nat.reduceEqDiff, Nat.reduceBEq, ↓reduceIte, Bool.false_eq_true, List.append_nil, List.nil_append, List.cons_append, Option.toList, and_true, true_and, true_or, or_true, reduceCtorEq, List.map_nil, bI_eq0, bI_eq1, bool_ft, pk_us, vnar0, vnar1, Bool.or_false, Bool.or_true, Bool.false_or, Bool.true_or, mj_kne, eq_self, Int32.reduceLT, Int32.reduceLE, Int32.reduceAdd, Int32.reduceSub, Int32.reduceMul, not_true_eq_false, not_false_eq_true, false_implies, true_implies, D_X11_beyond, mj_F_aload_n_k, mj_F_getfield_i, mj_F_iconst_n, mj_F_ifCond_eq_off, mj_F_ifCond_ne_off, mj_F_iload_n_k, mj_F_invokestatic_i, mj_F_invokevirtual_i, mj_F_ireturn, mj_F_sipush_n, mj_kc, FT_X11, L_X11_beyond, List.take_succ_cons, List.take_zero, List.drop_succ_cons, List.drop_zero, List.reverse_cons, List.reverse_nil, List.length_cons, List.length_nil, gS_C0, gCf11_10, gCf11_0, c_in_eq, gS_C81, J_X11_beyond]
  refine ⟨fun c => ?_, fun c => ?_⟩
  · replace hw := ok_t hw c
    exact (ok_some hw :)
  · replace hw := ok_f hw c
    refine ⟨fun c => ?_, fun c => ?_⟩
    · replace hw := ok_f hw c
      refine c_X7_look_in (ok_imp (ok_bind hw) ?_)
      intro p hw
      simp only [Option.toList, List.nil_append, List.cons_append, Nat.reduceSub]
      refine mj_run hG.1 (fun pc => pc == 5 || pc == 34 || pc == 45 || pc == 49) 4000 ?_
      simp only [mj_step, mj_W_s, mj_fin, List.getElem?_cons_zero, List.getElem?_cons_succ, mj_go, Nat.reduceAdd, Nat.reduceSub, Nat.reduceLT, Nat.reduceLeDiff, Nat.zero_add, Nat.reduceEqDiff, Nat.reduceBEq, ↓reduceIte, Bool.false_eq_true, List.append_nil, List.nil_append, List.cons_append, Option.toList, and_true, true_and, true_or, or_true, reduceCtorEq, List.map_nil, bI_eq0, bI_eq1, bool_ft, pk_us, vnar0, vnar1, Bool.or_false, Bool.or_true, Bool.false_or, Bool.true_or, mj_kne, eq_self, Int32.reduceLT, Int32.reduceLE, Int32.reduceAdd, Int32.reduceSub, Int32.reduceMul, not_true_eq_false, not_false_eq_true, false_implies, true_implies, D_X11_beyond, mj_F_aload_n_k, mj_F_getfield_i, mj_F_iconst_n, mj_F_ifCond_eq_off, mj_F_ifCond_ne_off, mj_F_iload_n_k, mj_F_invokestatic_i, mj_F_invokevirtual_i, mj_F_ireturn, mj_F_sipush_n, mj_kc, FT_X11, L_X11_beyond, List.take_succ_cons, List.take_zero, List.drop_succ_cons, List.drop_zero, List.reverse_cons, List.reverse_nil, List.length_cons, List.length_nil, gS_C0, gCf11_10, gCf11_0, c_in_eq, gS_C81, J_X11_beyond]
      refine c_X7_all_in (ok_imp (ok_bind hw) ?_)
      intro p hw
      simp only [Option.toList, List.nil_append, List.cons_append, Nat.reduceSub]
      refine mj_run hG.1 (fun pc => pc == 5 || pc == 34 || pc == 45 || pc == 49) 4000 ?_
      simp only [mj_step, mj_W_s, mj_fin, List.getElem?_cons_zero, List.getElem?_cons_succ, mj_go, Nat.reduceAdd, Nat.reduceSub, Nat.reduceLT, Nat.reduceLeDiff, Nat.zero_add, Nat.reduceEqDiff, Nat.reduceBEq, ↓reduceIte, Bool.false_eq_true, List.append_nil, List.nil_append, List.cons_append, Option.toList, and_true, true_and, true_or, or_true, reduceCtorEq, List.map_nil, bI_eq0, bI_eq1, bool_ft, pk_us, vnar0, vnar1, Bool.or_false, Bool.or_true, Bool.false_or, Bool.true_or, mj_kne, eq_self, Int32.reduceLT, Int32.reduceLE, Int32.reduceAdd, Int32.reduceSub, Int32.reduceMul, not_true_eq_false, not_false_eq_true, false_implies, true_implies, D_X11_beyond, mj_F_aload_n_k, mj_F_getfield_i, mj_F_iconst_n, mj_F_ifCond_eq_off, mj_F_ifCond_ne_off, mj_F_iload_n_k, mj_F_invokestatic_i, mj_F_invokevirtual_i, mj_F_ireturn, mj_F_sipush_n, mj_kc, FT_X11, L_X11_beyond, List.take_succ_cons, List.take_zero, List.drop_succ_cons, List.drop_zero, List.reverse_cons, List.reverse_nil, List.length_cons, List.length_nil, gS_C0, gCf11_10, gCf11_0, c_in_eq, gS_C81, J_X11_beyond]
      refine c_X7_lowestWithout_in (ok_imp (ok_bind hw) ?_)
      intro p hw
      simp only [Option.toList, List.nil_append, List.cons_append, Nat.reduceSub]
      refine mj_run hG.1 (fun pc => pc == 5 || pc == 34 || pc == 45 || pc == 49) 4000 ?_
      simp only [mj_step, mj_W_s, mj_fin, List.getElem?_cons_zero, List.getElem?_cons_succ, mj_go, Nat.reduceAdd, Nat.reduceSub, Nat.reduceLT, Nat.reduceLeDiff, Nat.zero_add, Nat.reduceEqDiff, Nat.reduceBEq, ↓reduceIte, Bool.false_eq_true, List.append_nil, List.nil_append, List.cons_append, Option.toList, and_true, true_and, true_or, or_true, reduceCtorEq, List.map_nil, bI_eq0, bI_eq1, bool_ft, pk_us, vnar0, vnar1, Bool.or_false, Bool.or_true, Bool.false_or, Bool.true_or, mj_kne, eq_self, Int32.reduceLT, Int32.reduceLE, Int32.reduceAdd, Int32.reduceSub, Int32.reduceMul, not_true_eq_false, not_false_eq_true, false_implies, true_implies, D_X11_beyond, mj_F_aload_n_k, mj_F_getfield_i, mj_F_iconst_n, mj_F_ifCond_eq_off, mj_F_ifCond_ne_off, mj_F_iload_n_k, mj_F_invokestatic_i, mj_F_invokevirtual_i, mj_F_ireturn, mj_F_sipush_n, mj_kc, FT_X11, L_X11_beyond, List.take_succ_cons, List.take_zero, List.drop_succ_cons, List.drop_zero, List.reverse_cons, List.reverse_nil, List.length_cons, List.length_nil, gS_C0, gCf11_10, gCf11_0, c_in_eq, gS_C81, J_X11_beyond]
      exact (ok_some hw :)
    · replace hw := ok_t hw c
      exact (ok_some hw :)

def c_X11_beyond : mj_S := fun as h k => ∃ (v1 : Int32) (v2 : Int32) (s : St), as = [.ref 0, .int v1, .int v2] ∧ h = mkCs s ∧ ok (F_X11_beyond v1 v2 s) (fun p => k (some (.int p.1)) (mkCs p.2))
theorem c_X11_beyond_in {v1 : Int32} {v2 : Int32} {s : St} {k : Option Value → mj_H → Prop} (hw : ok (F_X11_beyond v1 v2 s) (fun p => k (some (.int p.1)) (mkCs p.2))) : c_X11_beyond [.ref 0, .int v1, .int v2] (mkCs s) k := ⟨v1, v2, s, rfl, rfl, hw⟩
theorem m_X11_beyond (l : Launch) : mj_Met l yX11_beyond cX11_beyond 3 ((some FieldType.int)) 6 25 3000 c_X11_beyond := by
  refine mj_body2 false (TbX11 3 ((some FieldType.int)) ct_X11_beyond) (by decide) rfl rfl (fun h => nomatch h) (tfX11 _ (List.forall_mem_cons.mpr ⟨cfX11_96 (m_X11_within l) (by decide), List.forall_mem_cons.mpr ⟨cfX11_275 (m_X11_areVillages l) (by decide), List.forall_mem_cons.mpr ⟨cfX11_278 (m_X7_look l) (by decide), List.forall_mem_cons.mpr ⟨cfX11_282 (m_X7_all l) (by decide), List.forall_mem_cons.mpr ⟨cfX11_289 (m_X7_lowestWithout l) (by decide), fun _ h => nomatch h⟩⟩⟩⟩⟩)) ?_
  rintro as h k ⟨v1, v2, s, rfl, rfl, hw⟩
  exact ⟨rfl, fun G hG => g_X11_beyond hG hw⟩
def F_X11_areSites (v1 : Int32) (s : St) : Option (Int32) :=
  (F_X7_all s).bind fun r1 =>
  some (bI (inb v1 0 r1))
def ct_X11_areSites : List (Nat × mj_Cs) := [(96, 2, 3, 11, 0, 0, c_in), (282, 0, 1, 7, 0, 0, c_X7_all)]
theorem L_X11_areSites : mj_lk ct_X11_areSites 96 = some (2, 3, 11, 0, 0, c_in) ∧ mj_lk ct_X11_areSites 282 = some (0, 1, 7, 0, 0, c_X7_all) := ⟨rfl, rfl⟩
set_option maxHeartbeats 4000000 in
set_option maxRecDepth 20000 in
theorem g_X11_areSites {k : Option Value → mj_H → Prop} {G : mj_K} (hG : mj_cl2 cX11_areSites (TbX11 2 ((some FieldType.boolean)) ct_X11_areSites) k G) {v1 : Int32} {s : St} (hw : ok (F_X11_areSites v1 s) (fun p => k (some (.int p)) (mkCs s))) : G 0 [.ref 0, .int v1] [] (mkCs s) 0 0 := by
  unfold F_X11_areSites at hw
  refine mj_run hG.1 (fun pc => pc == 9) 4000 ?_
  simp only [mj_step, mj_W_s, mj_fin, List.getElem?_cons_zero, List.getElem?_cons_succ, mj_go, Nat.reduceAdd, Nat.reduceSub, Nat.reduceLT, Nat.reduceLeDiff, Nat.zero_add, Nat.reduceEqDiff, Nat.reduceBEq, ↓reduceIte, Bool.false_eq_true, List.append_nil, List.nil_append, List.cons_append, Option.toList, and_true, true_and, true_or, or_true, reduceCtorEq, List.map_nil, bI_eq0, bI_eq1, bool_ft, pk_us, vnar0, vnar1, Bool.or_false, Bool.or_true, Bool.false_or, Bool.true_or, mj_kne, eq_self, Int32.reduceLT, Int32.reduceLE, Int32.reduceAdd, Int32.reduceSub, Int32.reduceMul, not_true_eq_false, not_false_eq_true, false_implies, true_implies, D_X11_areSites, mj_F_aload_n_k, mj_F_getfield_i, mj_F_iconst_n, mj_F_iload_n_k, mj_F_invokestatic_i, mj_F_invokevirtual_i, mj_F_ireturn, mj_kc, FT_X11, L_X11_areSites, List.take_succ_cons, List.take_zero, List.drop_succ_cons, List.drop_zero, List.reverse_cons, List.reverse_nil, List.length_cons, List.length_nil, gS_C0, gCf11_10, gS_C81, c_in_eq]
  refine c_X7_all_in (ok_imp (ok_bind hw) ?_)
  intro p hw
  simp only [Option.toList, List.nil_append, List.cons_append, Nat.reduceSub]
  refine mj_run hG.1 (fun pc => pc == 9) 4000 ?_
  simp only [mj_step, mj_W_s, mj_fin, List.getElem?_cons_zero, List.getElem?_cons_succ, mj_go, Nat.reduceAdd, Nat.reduceSub, Nat.reduceLT, Nat.reduceLeDiff, Nat.zero_add, Nat.reduceEqDiff, Nat.reduceBEq, ↓reduceIte, Bool.false_eq_true, List.append_nil, List.nil_append, List.cons_append, Option.toList, and_true, true_and, true_or, or_true, reduceCtorEq, List.map_nil, bI_eq0, bI_eq1, bool_ft, pk_us, vnar0, vnar1, Bool.or_false, Bool.or_true, Bool.false_or, Bool.true_or, mj_kne, eq_self, Int32.reduceLT, Int32.reduceLE, Int32.reduceAdd, Int32.reduceSub, Int32.reduceMul, not_true_eq_false, not_false_eq_true, false_implies, true_implies, D_X11_areSites, mj_F_aload_n_k, mj_F_getfield_i, mj_F_iconst_n, mj_F_iload_n_k, mj_F_invokestatic_i, mj_F_invokevirtual_i, mj_F_ireturn, mj_kc, FT_X11, L_X11_areSites, List.take_succ_cons, List.take_zero, List.drop_succ_cons, List.drop_zero, List.reverse_cons, List.reverse_nil, List.length_cons, List.length_nil, gS_C0, gCf11_10, gS_C81, c_in_eq]
  exact (ok_some hw :)

def c_X11_areSites : mj_S := fun as h k => ∃ (v1 : Int32) (s : St), as = [.ref 0, .int v1] ∧ h = mkCs s ∧ ok (F_X11_areSites v1 s) (fun p => k (some (.int p)) (mkCs s))
theorem c_X11_areSites_in {v1 : Int32} {s : St} {k : Option Value → mj_H → Prop} (hw : ok (F_X11_areSites v1 s) (fun p => k (some (.int p)) (mkCs s))) : c_X11_areSites [.ref 0, .int v1] (mkCs s) k := ⟨v1, s, rfl, rfl, hw⟩
theorem m_X11_areSites (l : Launch) : mj_Met l yX11_areSites cX11_areSites 2 ((some FieldType.boolean)) 1 0 0 c_X11_areSites := by
  refine mj_body2 false (TbX11 2 ((some FieldType.boolean)) ct_X11_areSites) (by decide) rfl rfl (fun h => nomatch h) (tfX11 _ (List.forall_mem_cons.mpr ⟨cfX11_96 (m_X11_within l) (by decide), List.forall_mem_cons.mpr ⟨cfX11_282 (m_X7_all l) (by decide), fun _ h => nomatch h⟩⟩)) ?_
  rintro as h k ⟨v1, s, rfl, rfl, hw⟩
  exact ⟨rfl, fun G hG => g_X11_areSites hG hw⟩
def F_X11_judge (v1 : Int32) (v2 : Int32) (v3 : Int32) (s : St) : Option (Int32 × St) :=
  (F_X11_areSites v1 s).bind fun r1 =>
  if r1 = 0 then
    some ((-2), s)
  else
    (F_X11_areVillages v2 s).bind fun r2 =>
    if r2 = 0 then
      some ((-2), s)
    else
      if inb v3 0 600 = false then
        some ((-2), s)
      else
        (F_X7_look v2 v3 (s.1 1100) s).bind fun s3 =>
        (F_X7_lowestWithout v1 v2 s3).bind fun r4 =>
        some (r4, s3)
theorem J_X11_judge : mj_t 5 22 = 27 ∧ mj_t 13 14 = 27 ∧ mj_t 24 6 = 30 ∧ (0 ≤ ((5 : Nat) : Int) + 22) = True ∧ (0 ≤ ((13 : Nat) : Int) + 14) = True ∧ (0 ≤ ((24 : Nat) : Int) + 6) = True := by and_intros <;> first | rfl | exact eq_true (by decide)
def ct_X11_judge : List (Nat × mj_Cs) := [(96, 2, 3, 11, 0, 0, c_in), (275, 0, 2, 11, 0, 0, c_X11_areVillages), (278, 0, 4, 7, 25, 3000, c_X7_look), (289, 0, 3, 7, 0, 0, c_X7_lowestWithout), (292, 0, 2, 11, 0, 0, c_X11_areSites)]
theorem L_X11_judge : mj_lk ct_X11_judge 96 = some (2, 3, 11, 0, 0, c_in) ∧ mj_lk ct_X11_judge 275 = some (0, 2, 11, 0, 0, c_X11_areVillages) ∧ mj_lk ct_X11_judge 278 = some (0, 4, 7, 25, 3000, c_X7_look) ∧ mj_lk ct_X11_judge 289 = some (0, 3, 7, 0, 0, c_X7_lowestWithout) ∧ mj_lk ct_X11_judge 292 = some (0, 2, 11, 0, 0, c_X11_areSites) := ⟨rfl, rfl, rfl, rfl, rfl⟩
set_option maxHeartbeats 4000000 in
set_option maxRecDepth 20000 in
theorem g_X11_judge {k : Option Value → mj_H → Prop} {G : mj_K} (hG : mj_cl2 cX11_judge (TbX11 4 ((some FieldType.int)) ct_X11_judge) k G) {v1 : Int32} {v2 : Int32} {v3 : Int32} {s : St} (hw : ok (F_X11_judge v1 v2 v3 s) (fun p => k (some (.int p.1)) (mkCs p.2))) : G 0 [.ref 0, .int v1, .int v2, .int v3] [] (mkCs s) 25 3000 := by
  unfold F_X11_judge at hw
  refine mj_run hG.1 (fun pc => pc == 5 || pc == 13 || pc == 43 || pc == 52) 4000 ?_
  simp only [mj_step, mj_W_s, mj_fin, List.getElem?_cons_zero, List.getElem?_cons_succ, mj_go, Nat.reduceAdd, Nat.reduceSub, Nat.reduceLT, Nat.reduceLeDiff, Nat.zero_add, Nat.reduceEqDiff, Nat.reduceBEq, ↓reduceIte, Bool.false_eq_true, List.append_nil, List.nil_append, List.cons_append, Option.toList, and_true, true_and, true_or, or_true, reduceCtorEq, List.map_nil, bI_eq0, bI_eq1, bool_ft, pk_us, vnar0, vnar1, Bool.or_false, Bool.or_true, Bool.false_or, Bool.true_or, mj_kne, eq_self, Int32.reduceLT, Int32.reduceLE, Int32.reduceAdd, Int32.reduceSub, Int32.reduceMul, not_true_eq_false, not_false_eq_true, false_implies, true_implies, D_X11_judge, mj_F_aload_n_k, mj_F_bipush_n, mj_F_getfield_i, mj_F_iconst_n, mj_F_ifCond_eq_off, mj_F_ifCond_ne_off, mj_F_iload_n_k, mj_F_invokestatic_i, mj_F_invokevirtual_i, mj_F_ireturn, mj_F_sipush_n, mj_kc, FT_X11, L_X11_judge, List.take_succ_cons, List.take_zero, List.drop_succ_cons, List.drop_zero, List.reverse_cons, List.reverse_nil, List.length_cons, List.length_nil, gS_C0, gCf11_10, gCf11_0, c_in_eq, gS_C81, J_X11_judge]
  refine c_X11_areSites_in (ok_imp (ok_bind hw) ?_)
  intro p hw
  simp only [Option.toList, List.nil_append, List.cons_append, Nat.reduceSub]
  refine mj_run hG.1 (fun pc => pc == 5 || pc == 13 || pc == 43 || pc == 52) 4000 ?_
  simp only [mj_step, mj_W_s, mj_fin, List.getElem?_cons_zero, List.getElem?_cons_succ, mj_go, Nat.reduceAdd, Nat.reduceSub, Nat.reduceLT, Nat.reduceLeDiff, Nat.zero_add, Nat.reduceEqDiff, Nat.reduceBEq, ↓reduceIte, Bool.false_eq_true, List.append_nil, List.nil_append, List.cons_append, Option.toList, and_true, true_and, true_or, or_true, reduceCtorEq, List.map_nil, bI_eq0, bI_eq1, bool_ft, pk_us, vnar0, vnar1, Bool.or_false, Bool.or_true, Bool.false_or, Bool.true_or, mj_kne, eq_self, Int32.reduceLT, Int32.reduceLE, Int32.reduceAdd, Int32.reduceSub, Int32.reduceMul, not_true_eq_false, not_false_eq_true, false_implies, true_implies, D_X11_judge, mj_F_aload_n_k, mj_F_bipush_n, mj_F_getfield_i, mj_F_iconst_n, mj_F_ifCond_eq_off, mj_F_ifCond_ne_off, mj_F_iload_n_k, mj_F_invokestatic_i, mj_F_invokevirtual_i, mj_F_ireturn, mj_F_sipush_n, mj_kc, FT_X11, L_X11_judge, List.take_succ_cons, List.take_zero, List.drop_succ_cons, List.drop_zero, List.reverse_cons, List.reverse_nil, List.length_cons, List.length_nil, gS_C0, gCf11_10, gCf11_0, c_in_eq, gS_C81, J_X11_judge]
  refine ⟨fun c => ?_, fun c => ?_⟩
  · replace hw := ok_t hw c
    exact (ok_some hw :)
  · replace hw := ok_f hw c
    refine c_X11_areVillages_in (ok_imp (ok_bind hw) ?_)
    intro p hw
    simp only [Option.toList, List.nil_append, List.cons_append, Nat.reduceSub]
    refine mj_run hG.1 (fun pc => pc == 5 || pc == 13 || pc == 43 || pc == 52) 4000 ?_
    simp only [mj_step, mj_W_s, mj_fin, List.getElem?_cons_zero, List.getElem?_cons_succ, mj_go, Nat.reduceAdd, Nat.reduceSub, Nat.reduceLT, Nat.reduceLeDiff, Nat.zero_add, Nat.reduceEqDiff, Nat.reduceBEq, ↓reduceIte, Bool.false_eq_true, List.append_nil, List.nil_append, List.cons_append, Option.toList, and_true, true_and, true_or, or_true, reduceCtorEq, List.map_nil, bI_eq0, bI_eq1, bool_ft, pk_us, vnar0, vnar1, Bool.or_false, Bool.or_true, Bool.false_or, Bool.true_or, mj_kne, eq_self, Int32.reduceLT, Int32.reduceLE, Int32.reduceAdd, Int32.reduceSub, Int32.reduceMul, not_true_eq_false, not_false_eq_true, false_implies, true_implies, D_X11_judge, mj_F_aload_n_k, mj_F_bipush_n, mj_F_getfield_i, mj_F_iconst_n, mj_F_ifCond_eq_off, mj_F_ifCond_ne_off, mj_F_iload_n_k, mj_F_invokestatic_i, mj_F_invokevirtual_i, mj_F_ireturn, mj_F_sipush_n, mj_kc, FT_X11, L_X11_judge, List.take_succ_cons, List.take_zero, List.drop_succ_cons, List.drop_zero, List.reverse_cons, List.reverse_nil, List.length_cons, List.length_nil, gS_C0, gCf11_10, gCf11_0, c_in_eq, gS_C81, J_X11_judge]
    refine ⟨fun c => ?_, fun c => ?_⟩
    · replace hw := ok_t hw c
      exact (ok_some hw :)
    · replace hw := ok_f hw c
      refine ⟨fun c => ?_, fun c => ?_⟩
      · replace hw := ok_f hw c
        refine c_X7_look_in (ok_imp (ok_bind hw) ?_)
        intro p hw
        simp only [Option.toList, List.nil_append, List.cons_append, Nat.reduceSub]
        refine mj_run hG.1 (fun pc => pc == 5 || pc == 13 || pc == 43 || pc == 52) 4000 ?_
        simp only [mj_step, mj_W_s, mj_fin, List.getElem?_cons_zero, List.getElem?_cons_succ, mj_go, Nat.reduceAdd, Nat.reduceSub, Nat.reduceLT, Nat.reduceLeDiff, Nat.zero_add, Nat.reduceEqDiff, Nat.reduceBEq, ↓reduceIte, Bool.false_eq_true, List.append_nil, List.nil_append, List.cons_append, Option.toList, and_true, true_and, true_or, or_true, reduceCtorEq, List.map_nil, bI_eq0, bI_eq1, bool_ft, pk_us, vnar0, vnar1, Bool.or_false, Bool.or_true, Bool.false_or, Bool.true_or, mj_kne, eq_self, Int32.reduceLT, Int32.reduceLE, Int32.reduceAdd, Int32.reduceSub, Int32.reduceMul, not_true_eq_false, not_false_eq_true, false_implies, true_implies, D_X11_judge, mj_F_aload_n_k, mj_F_bipush_n, mj_F_getfield_i, mj_F_iconst_n, mj_F_ifCond_eq_off, mj_F_ifCond_ne_off, mj_F_iload_n_k, mj_F_invokestatic_i, mj_F_invokevirtual_i, mj_F_ireturn, mj_F_sipush_n, mj_kc, FT_X11, L_X11_judge, List.take_succ_cons, List.take_zero, List.drop_succ_cons, List.drop_zero, List.reverse_cons, List.reverse_nil, List.length_cons, List.length_nil, gS_C0, gCf11_10, gCf11_0, c_in_eq, gS_C81, J_X11_judge]
        refine c_X7_lowestWithout_in (ok_imp (ok_bind hw) ?_)
        intro p hw
        simp only [Option.toList, List.nil_append, List.cons_append, Nat.reduceSub]
        refine mj_run hG.1 (fun pc => pc == 5 || pc == 13 || pc == 43 || pc == 52) 4000 ?_
        simp only [mj_step, mj_W_s, mj_fin, List.getElem?_cons_zero, List.getElem?_cons_succ, mj_go, Nat.reduceAdd, Nat.reduceSub, Nat.reduceLT, Nat.reduceLeDiff, Nat.zero_add, Nat.reduceEqDiff, Nat.reduceBEq, ↓reduceIte, Bool.false_eq_true, List.append_nil, List.nil_append, List.cons_append, Option.toList, and_true, true_and, true_or, or_true, reduceCtorEq, List.map_nil, bI_eq0, bI_eq1, bool_ft, pk_us, vnar0, vnar1, Bool.or_false, Bool.or_true, Bool.false_or, Bool.true_or, mj_kne, eq_self, Int32.reduceLT, Int32.reduceLE, Int32.reduceAdd, Int32.reduceSub, Int32.reduceMul, not_true_eq_false, not_false_eq_true, false_implies, true_implies, D_X11_judge, mj_F_aload_n_k, mj_F_bipush_n, mj_F_getfield_i, mj_F_iconst_n, mj_F_ifCond_eq_off, mj_F_ifCond_ne_off, mj_F_iload_n_k, mj_F_invokestatic_i, mj_F_invokevirtual_i, mj_F_ireturn, mj_F_sipush_n, mj_kc, FT_X11, L_X11_judge, List.take_succ_cons, List.take_zero, List.drop_succ_cons, List.drop_zero, List.reverse_cons, List.reverse_nil, List.length_cons, List.length_nil, gS_C0, gCf11_10, gCf11_0, c_in_eq, gS_C81, J_X11_judge]
        exact (ok_some hw :)
      · replace hw := ok_t hw c
        exact (ok_some hw :)

def c_X11_judge : mj_S := fun as h k => ∃ (v1 : Int32) (v2 : Int32) (v3 : Int32) (s : St), as = [.ref 0, .int v1, .int v2, .int v3] ∧ h = mkCs s ∧ ok (F_X11_judge v1 v2 v3 s) (fun p => k (some (.int p.1)) (mkCs p.2))
theorem c_X11_judge_in {v1 : Int32} {v2 : Int32} {v3 : Int32} {s : St} {k : Option Value → mj_H → Prop} (hw : ok (F_X11_judge v1 v2 v3 s) (fun p => k (some (.int p.1)) (mkCs p.2))) : c_X11_judge [.ref 0, .int v1, .int v2, .int v3] (mkCs s) k := ⟨v1, v2, v3, s, rfl, rfl, hw⟩
theorem m_X11_judge (l : Launch) : mj_Met l yX11_judge cX11_judge 4 ((some FieldType.int)) 6 25 3000 c_X11_judge := by
  refine mj_body2 false (TbX11 4 ((some FieldType.int)) ct_X11_judge) (by decide) rfl rfl (fun h => nomatch h) (tfX11 _ (List.forall_mem_cons.mpr ⟨cfX11_96 (m_X11_within l) (by decide), List.forall_mem_cons.mpr ⟨cfX11_275 (m_X11_areVillages l) (by decide), List.forall_mem_cons.mpr ⟨cfX11_278 (m_X7_look l) (by decide), List.forall_mem_cons.mpr ⟨cfX11_289 (m_X7_lowestWithout l) (by decide), List.forall_mem_cons.mpr ⟨cfX11_292 (m_X11_areSites l) (by decide), fun _ h => nomatch h⟩⟩⟩⟩⟩)) ?_
  rintro as h k ⟨v1, v2, v3, s, rfl, rfl, hw⟩
  exact ⟨rfl, fun G hG => g_X11_judge hG hw⟩
def F_X10_hire (v1 : Int32) (v2 : Int32) (v3 : Int32) (v4 : Int32) (s : St) : Option (Int32 × St) :=
  if (s.1 1004) < 8 then
    (wr s 1005 8 (s.1 1004) v1).bind fun s1 =>
    (wr s1 1006 8 (s1.1 1004) v2).bind fun s2 =>
    (wr s2 1007 8 (s2.1 1004) v3).bind fun s3 =>
    (wr s3 1008 8 (s3.1 1004) v4).bind fun s4 =>
    (wI s4 1004 ((s4.1 1004) + 1)).bind fun s5 =>
    some (((s5.1 1004) - 1), s5)
  else
    some ((-1), s)
theorem J_X10_hire : mj_t 6 5 = 11 ∧ (0 ≤ ((6 : Nat) : Int) + 5) = True := by and_intros <;> first | rfl | exact eq_true (by decide)
set_option maxHeartbeats 4000000 in
set_option maxRecDepth 20000 in
theorem g_X10_hire {k : Option Value → mj_H → Prop} {G : mj_K} (hG : mj_cl2 cX10_hire (TbX10 5 ((some FieldType.int)) []) k G) {v1 : Int32} {v2 : Int32} {v3 : Int32} {v4 : Int32} {s : St} (hw : ok (F_X10_hire v1 v2 v3 v4 s) (fun p => k (some (.int p.1)) (mkCs p.2))) : G 0 [.ref 45, .int v1, .int v2, .int v3, .int v4] [] (mkCs s) 0 0 := by
  unfold F_X10_hire at hw
  refine mj_run hG.1 (fun _ => false) 4000 ?_
  simp only [mj_step, mj_W_s, mj_fin, List.getElem?_cons_zero, List.getElem?_cons_succ, mj_go, Nat.reduceAdd, Nat.reduceSub, Nat.reduceLT, Nat.reduceLeDiff, Nat.zero_add, Nat.reduceEqDiff, Nat.reduceBEq, ↓reduceIte, Bool.false_eq_true, List.append_nil, List.nil_append, List.cons_append, Option.toList, and_true, true_and, true_or, or_true, reduceCtorEq, List.map_nil, bI_eq0, bI_eq1, bool_ft, pk_us, vnar0, vnar1, Bool.or_false, Bool.or_true, Bool.false_or, Bool.true_or, mj_kne, eq_self, Int32.reduceLT, Int32.reduceLE, Int32.reduceAdd, Int32.reduceSub, Int32.reduceMul, not_true_eq_false, not_false_eq_true, false_implies, true_implies, D_X10_hire, mj_F_aload_n_k, mj_F_bipush_n, mj_F_dup, mj_F_getfield_i, mj_F_iadd, mj_F_iastore, mj_F_iconst_n, mj_F_if_icmp_lt_off, mj_F_iload_k, mj_F_iload_n_k, mj_F_ireturn, mj_F_isub, mj_F_putfield_i, mj_c2, mj_kc, FT_X10, PT_X10, gS_C45, gCf10_4, gCf10_5, gS_C46, sS_Ca_46, gCf10_6, gS_C47, sS_Ca_47, gCf10_7, gS_C48, sS_Ca_48, gCf10_8, gS_C49, sS_Ca_49, sS_Cf_10_4, gCf10len, J_X10_hire]
  refine ⟨fun c => ?_, fun c => ?_⟩
  · replace hw := ok_t hw c
    refine ⟨(ok_wr hw).1, ?_⟩
    replace hw := (ok_wr hw).2
    refine ⟨(ok_wr hw).1, ?_⟩
    replace hw := (ok_wr hw).2
    refine ⟨(ok_wr hw).1, ?_⟩
    replace hw := (ok_wr hw).2
    refine ⟨(ok_wr hw).1, ?_⟩
    replace hw := (ok_wr hw).2
    replace hw := ok_wI hw
    exact (ok_some hw :)
  · replace hw := ok_f hw c
    exact (ok_some hw :)

def c_X10_hire : mj_S := fun as h k => ∃ (v1 : Int32) (v2 : Int32) (v3 : Int32) (v4 : Int32) (s : St), as = [.ref 45, .int v1, .int v2, .int v3, .int v4] ∧ h = mkCs s ∧ ok (F_X10_hire v1 v2 v3 v4 s) (fun p => k (some (.int p.1)) (mkCs p.2))
theorem c_X10_hire_in {v1 : Int32} {v2 : Int32} {v3 : Int32} {v4 : Int32} {s : St} {k : Option Value → mj_H → Prop} (hw : ok (F_X10_hire v1 v2 v3 v4 s) (fun p => k (some (.int p.1)) (mkCs p.2))) : c_X10_hire [.ref 45, .int v1, .int v2, .int v3, .int v4] (mkCs s) k := ⟨v1, v2, v3, v4, s, rfl, rfl, hw⟩
theorem m_X10_hire (l : Launch) : mj_Met l yX10_hire cX10_hire 5 ((some FieldType.int)) 0 0 0 c_X10_hire := by
  refine mj_body2 false (TbX10 5 ((some FieldType.int)) []) (by decide) rfl rfl (fun h => nomatch h) (tfX10 _ (fun _ h => nomatch h)) ?_
  rintro as h k ⟨v1, v2, v3, v4, s, rfl, rfl, hw⟩
  exact ⟨rfl, fun G hG => g_X10_hire hG hw⟩
def F_X11_maker (v1 : Int32) (v2 : Int32) (v3 : Int32) (v4 : Int32) (s : St) : Option (Int32 × St) :=
  if inb v1 0 4 = false then
    some ((-1), s)
  else
    if inb v2 1 50 = false then
      some ((-1), s)
    else
      if inb v3 0 600 = false then
        some ((-1), s)
      else
        if inb v4 v3 600 = false then
          some ((-1), s)
        else
          (F_X10_hire v1 v2 v3 v4 s).bind fun r1 =>
          some (r1.1, r1.2)
theorem J_X11_maker : mj_t 4 36 = 40 ∧ mj_t 14 26 = 40 ∧ mj_t 25 15 = 40 ∧ mj_t 37 5 = 42 ∧ (0 ≤ ((4 : Nat) : Int) + 36) = True ∧ (0 ≤ ((14 : Nat) : Int) + 26) = True ∧ (0 ≤ ((25 : Nat) : Int) + 15) = True ∧ (0 ≤ ((37 : Nat) : Int) + 5) = True := by and_intros <;> first | rfl | exact eq_true (by decide)
def ct_X11_maker : List (Nat × mj_Cs) := [(96, 2, 3, 11, 0, 0, c_in), (295, 2, 1, 11, 0, 0, c_isKind), (298, 0, 5, 10, 0, 0, c_X10_hire)]
theorem L_X11_maker : mj_lk ct_X11_maker 96 = some (2, 3, 11, 0, 0, c_in) ∧ mj_lk ct_X11_maker 295 = some (2, 1, 11, 0, 0, c_isKind) ∧ mj_lk ct_X11_maker 298 = some (0, 5, 10, 0, 0, c_X10_hire) := ⟨rfl, rfl, rfl⟩
set_option maxHeartbeats 4000000 in
set_option maxRecDepth 20000 in
theorem g_X11_maker {k : Option Value → mj_H → Prop} {G : mj_K} (hG : mj_cl2 cX11_maker (TbX11 5 ((some FieldType.int)) ct_X11_maker) k G) {v1 : Int32} {v2 : Int32} {v3 : Int32} {v4 : Int32} {s : St} (hw : ok (F_X11_maker v1 v2 v3 v4 s) (fun p => k (some (.int p.1)) (mkCs p.2))) : G 0 [.ref 0, .int v1, .int v2, .int v3, .int v4] [] (mkCs s) 0 0 := by
  unfold F_X11_maker at hw
  refine mj_run hG.1 (fun pc => pc == 54) 4000 ?_
  simp only [mj_step, mj_W_s, mj_fin, List.getElem?_cons_zero, List.getElem?_cons_succ, mj_go, Nat.reduceAdd, Nat.reduceSub, Nat.reduceLT, Nat.reduceLeDiff, Nat.zero_add, Nat.reduceEqDiff, Nat.reduceBEq, ↓reduceIte, Bool.false_eq_true, List.append_nil, List.nil_append, List.cons_append, Option.toList, and_true, true_and, true_or, or_true, reduceCtorEq, List.map_nil, bI_eq0, bI_eq1, bool_ft, pk_us, vnar0, vnar1, Bool.or_false, Bool.or_true, Bool.false_or, Bool.true_or, mj_kne, eq_self, Int32.reduceLT, Int32.reduceLE, Int32.reduceAdd, Int32.reduceSub, Int32.reduceMul, not_true_eq_false, not_false_eq_true, false_implies, true_implies, D_X11_maker, mj_F_aload_n_k, mj_F_bipush_n, mj_F_getfield_i, mj_F_iconst_n, mj_F_ifCond_eq_off, mj_F_ifCond_ne_off, mj_F_iload_k, mj_F_iload_n_k, mj_F_invokestatic_i, mj_F_invokevirtual_i, mj_F_ireturn, mj_F_sipush_n, mj_kc, FT_X11, L_X11_maker, List.take_succ_cons, List.take_zero, List.drop_succ_cons, List.drop_zero, List.reverse_cons, List.reverse_nil, List.length_cons, List.length_nil, gS_C0, gCf11_6, c_isKind_eq, c_in_eq, gS_C45, J_X11_maker]
  refine ⟨fun c => ?_, fun c => ?_⟩
  · replace hw := ok_t hw c
    exact (ok_some hw :)
  · replace hw := ok_f hw c
    refine ⟨fun c => ?_, fun c => ?_⟩
    · replace hw := ok_t hw c
      exact (ok_some hw :)
    · replace hw := ok_f hw c
      refine ⟨fun c => ?_, fun c => ?_⟩
      · replace hw := ok_t hw c
        exact (ok_some hw :)
      · replace hw := ok_f hw c
        refine ⟨fun c => ?_, fun c => ?_⟩
        · replace hw := ok_f hw c
          refine c_X10_hire_in (ok_imp (ok_bind hw) ?_)
          intro p hw
          simp only [Option.toList, List.nil_append, List.cons_append, Nat.reduceSub]
          refine mj_run hG.1 (fun pc => pc == 54) 4000 ?_
          simp only [mj_step, mj_W_s, mj_fin, List.getElem?_cons_zero, List.getElem?_cons_succ, mj_go, Nat.reduceAdd, Nat.reduceSub, Nat.reduceLT, Nat.reduceLeDiff, Nat.zero_add, Nat.reduceEqDiff, Nat.reduceBEq, ↓reduceIte, Bool.false_eq_true, List.append_nil, List.nil_append, List.cons_append, Option.toList, and_true, true_and, true_or, or_true, reduceCtorEq, List.map_nil, bI_eq0, bI_eq1, bool_ft, pk_us, vnar0, vnar1, Bool.or_false, Bool.or_true, Bool.false_or, Bool.true_or, mj_kne, eq_self, Int32.reduceLT, Int32.reduceLE, Int32.reduceAdd, Int32.reduceSub, Int32.reduceMul, not_true_eq_false, not_false_eq_true, false_implies, true_implies, D_X11_maker, mj_F_aload_n_k, mj_F_bipush_n, mj_F_getfield_i, mj_F_iconst_n, mj_F_ifCond_eq_off, mj_F_ifCond_ne_off, mj_F_iload_k, mj_F_iload_n_k, mj_F_invokestatic_i, mj_F_invokevirtual_i, mj_F_ireturn, mj_F_sipush_n, mj_kc, FT_X11, L_X11_maker, List.take_succ_cons, List.take_zero, List.drop_succ_cons, List.drop_zero, List.reverse_cons, List.reverse_nil, List.length_cons, List.length_nil, gS_C0, gCf11_6, c_isKind_eq, c_in_eq, gS_C45, J_X11_maker]
          exact (ok_some hw :)
        · replace hw := ok_t hw c
          exact (ok_some hw :)

def c_X11_maker : mj_S := fun as h k => ∃ (v1 : Int32) (v2 : Int32) (v3 : Int32) (v4 : Int32) (s : St), as = [.ref 0, .int v1, .int v2, .int v3, .int v4] ∧ h = mkCs s ∧ ok (F_X11_maker v1 v2 v3 v4 s) (fun p => k (some (.int p.1)) (mkCs p.2))
theorem c_X11_maker_in {v1 : Int32} {v2 : Int32} {v3 : Int32} {v4 : Int32} {s : St} {k : Option Value → mj_H → Prop} (hw : ok (F_X11_maker v1 v2 v3 v4 s) (fun p => k (some (.int p.1)) (mkCs p.2))) : c_X11_maker [.ref 0, .int v1, .int v2, .int v3, .int v4] (mkCs s) k := ⟨v1, v2, v3, v4, s, rfl, rfl, hw⟩
theorem m_X11_maker (l : Launch) : mj_Met l yX11_maker cX11_maker 5 ((some FieldType.int)) 2 0 0 c_X11_maker := by
  refine mj_body2 false (TbX11 5 ((some FieldType.int)) ct_X11_maker) (by decide) rfl rfl (fun h => nomatch h) (tfX11 _ (List.forall_mem_cons.mpr ⟨cfX11_96 (m_X11_within l) (by decide), List.forall_mem_cons.mpr ⟨cfX11_295 (m_X11_isKind l) (by decide), List.forall_mem_cons.mpr ⟨cfX11_298 (m_X10_hire l) (by decide), fun _ h => nomatch h⟩⟩⟩)) ?_
  rintro as h k ⟨v1, v2, v3, v4, s, rfl, rfl, hw⟩
  exact ⟨rfl, fun G hG => g_X11_maker hG hw⟩
def F_X10_buy (v1 : Int32) (s : St) : Option (Int32 × St) :=
  if (s.1 1009) < 10 then
    (wr s 1010 10 (s.1 1009) v1).bind fun s1 =>
    (wI s1 1009 ((s1.1 1009) + 1)).bind fun s2 =>
    some (((s2.1 1009) - 1), s2)
  else
    some ((-1), s)
theorem J_X10_buy : mj_t 6 5 = 11 ∧ (0 ≤ ((6 : Nat) : Int) + 5) = True := by and_intros <;> first | rfl | exact eq_true (by decide)
set_option maxHeartbeats 4000000 in
set_option maxRecDepth 20000 in
theorem g_X10_buy {k : Option Value → mj_H → Prop} {G : mj_K} (hG : mj_cl2 cX10_buy (TbX10 2 ((some FieldType.int)) []) k G) {v1 : Int32} {s : St} (hw : ok (F_X10_buy v1 s) (fun p => k (some (.int p.1)) (mkCs p.2))) : G 0 [.ref 45, .int v1] [] (mkCs s) 0 0 := by
  unfold F_X10_buy at hw
  refine mj_run hG.1 (fun _ => false) 4000 ?_
  simp only [mj_step, mj_W_s, mj_fin, List.getElem?_cons_zero, List.getElem?_cons_succ, mj_go, Nat.reduceAdd, Nat.reduceSub, Nat.reduceLT, Nat.reduceLeDiff, Nat.zero_add, Nat.reduceEqDiff, Nat.reduceBEq, ↓reduceIte, Bool.false_eq_true, List.append_nil, List.nil_append, List.cons_append, Option.toList, and_true, true_and, true_or, or_true, reduceCtorEq, List.map_nil, bI_eq0, bI_eq1, bool_ft, pk_us, vnar0, vnar1, Bool.or_false, Bool.or_true, Bool.false_or, Bool.true_or, mj_kne, eq_self, Int32.reduceLT, Int32.reduceLE, Int32.reduceAdd, Int32.reduceSub, Int32.reduceMul, not_true_eq_false, not_false_eq_true, false_implies, true_implies, D_X10_buy, mj_F_aload_n_k, mj_F_bipush_n, mj_F_dup, mj_F_getfield_i, mj_F_iadd, mj_F_iastore, mj_F_iconst_n, mj_F_if_icmp_lt_off, mj_F_iload_n_k, mj_F_ireturn, mj_F_isub, mj_F_putfield_i, mj_c2, mj_kc, FT_X10, PT_X10, gS_C45, gCf10_9, gCf10_10, gS_C50, sS_Ca_50, sS_Cf_10_9, gCf10len, J_X10_buy]
  refine ⟨fun c => ?_, fun c => ?_⟩
  · replace hw := ok_t hw c
    refine ⟨(ok_wr hw).1, ?_⟩
    replace hw := (ok_wr hw).2
    replace hw := ok_wI hw
    exact (ok_some hw :)
  · replace hw := ok_f hw c
    exact (ok_some hw :)

def c_X10_buy : mj_S := fun as h k => ∃ (v1 : Int32) (s : St), as = [.ref 45, .int v1] ∧ h = mkCs s ∧ ok (F_X10_buy v1 s) (fun p => k (some (.int p.1)) (mkCs p.2))
theorem c_X10_buy_in {v1 : Int32} {s : St} {k : Option Value → mj_H → Prop} (hw : ok (F_X10_buy v1 s) (fun p => k (some (.int p.1)) (mkCs p.2))) : c_X10_buy [.ref 45, .int v1] (mkCs s) k := ⟨v1, s, rfl, rfl, hw⟩
theorem m_X10_buy (l : Launch) : mj_Met l yX10_buy cX10_buy 2 ((some FieldType.int)) 0 0 0 c_X10_buy := by
  refine mj_body2 false (TbX10 2 ((some FieldType.int)) []) (by decide) rfl rfl (fun h => nomatch h) (tfX10 _ (fun _ h => nomatch h)) ?_
  rintro as h k ⟨v1, s, rfl, rfl, hw⟩
  exact ⟨rfl, fun G hG => g_X10_buy hG hw⟩
def F_X11_lorry (v1 : Int32) (s : St) : Option (Int32 × St) :=
  if inb v1 1 30 = false then
    some ((-1), s)
  else
    (F_X10_buy v1 s).bind fun r1 =>
    some (r1.1, r1.2)
theorem J_X11_lorry : mj_t 7 14 = 21 ∧ mj_t 18 4 = 22 ∧ (0 ≤ ((7 : Nat) : Int) + 14) = True ∧ (0 ≤ ((18 : Nat) : Int) + 4) = True := by and_intros <;> first | rfl | exact eq_true (by decide)
def ct_X11_lorry : List (Nat × mj_Cs) := [(96, 2, 3, 11, 0, 0, c_in), (302, 0, 2, 10, 0, 0, c_X10_buy)]
theorem L_X11_lorry : mj_lk ct_X11_lorry 96 = some (2, 3, 11, 0, 0, c_in) ∧ mj_lk ct_X11_lorry 302 = some (0, 2, 10, 0, 0, c_X10_buy) := ⟨rfl, rfl⟩
set_option maxHeartbeats 4000000 in
set_option maxRecDepth 20000 in
theorem g_X11_lorry {k : Option Value → mj_H → Prop} {G : mj_K} (hG : mj_cl2 cX11_lorry (TbX11 2 ((some FieldType.int)) ct_X11_lorry) k G) {v1 : Int32} {s : St} (hw : ok (F_X11_lorry v1 s) (fun p => k (some (.int p.1)) (mkCs p.2))) : G 0 [.ref 0, .int v1] [] (mkCs s) 0 0 := by
  unfold F_X11_lorry at hw
  refine mj_run hG.1 (fun pc => pc == 18) 4000 ?_
  simp only [mj_step, mj_W_s, mj_fin, List.getElem?_cons_zero, List.getElem?_cons_succ, mj_go, Nat.reduceAdd, Nat.reduceSub, Nat.reduceLT, Nat.reduceLeDiff, Nat.zero_add, Nat.reduceEqDiff, Nat.reduceBEq, ↓reduceIte, Bool.false_eq_true, List.append_nil, List.nil_append, List.cons_append, Option.toList, and_true, true_and, true_or, or_true, reduceCtorEq, List.map_nil, bI_eq0, bI_eq1, bool_ft, pk_us, vnar0, vnar1, Bool.or_false, Bool.or_true, Bool.false_or, Bool.true_or, mj_kne, eq_self, Int32.reduceLT, Int32.reduceLE, Int32.reduceAdd, Int32.reduceSub, Int32.reduceMul, not_true_eq_false, not_false_eq_true, false_implies, true_implies, D_X11_lorry, mj_F_aload_n_k, mj_F_bipush_n, mj_F_getfield_i, mj_F_goto_off, mj_F_iconst_n, mj_F_ifCond_eq_off, mj_F_iload_n_k, mj_F_invokestatic_i, mj_F_invokevirtual_i, mj_F_ireturn, mj_kc, FT_X11, L_X11_lorry, List.take_succ_cons, List.take_zero, List.drop_succ_cons, List.drop_zero, List.reverse_cons, List.reverse_nil, List.length_cons, List.length_nil, gS_C0, gCf11_6, c_in_eq, gS_C45, J_X11_lorry]
  refine ⟨fun c => ?_, fun c => ?_⟩
  · replace hw := ok_t hw c
    exact (ok_some hw :)
  · replace hw := ok_f hw c
    refine c_X10_buy_in (ok_imp (ok_bind hw) ?_)
    intro p hw
    simp only [Option.toList, List.nil_append, List.cons_append, Nat.reduceSub]
    refine mj_run hG.1 (fun pc => pc == 18) 4000 ?_
    simp only [mj_step, mj_W_s, mj_fin, List.getElem?_cons_zero, List.getElem?_cons_succ, mj_go, Nat.reduceAdd, Nat.reduceSub, Nat.reduceLT, Nat.reduceLeDiff, Nat.zero_add, Nat.reduceEqDiff, Nat.reduceBEq, ↓reduceIte, Bool.false_eq_true, List.append_nil, List.nil_append, List.cons_append, Option.toList, and_true, true_and, true_or, or_true, reduceCtorEq, List.map_nil, bI_eq0, bI_eq1, bool_ft, pk_us, vnar0, vnar1, Bool.or_false, Bool.or_true, Bool.false_or, Bool.true_or, mj_kne, eq_self, Int32.reduceLT, Int32.reduceLE, Int32.reduceAdd, Int32.reduceSub, Int32.reduceMul, not_true_eq_false, not_false_eq_true, false_implies, true_implies, D_X11_lorry, mj_F_aload_n_k, mj_F_bipush_n, mj_F_getfield_i, mj_F_goto_off, mj_F_iconst_n, mj_F_ifCond_eq_off, mj_F_iload_n_k, mj_F_invokestatic_i, mj_F_invokevirtual_i, mj_F_ireturn, mj_kc, FT_X11, L_X11_lorry, List.take_succ_cons, List.take_zero, List.drop_succ_cons, List.drop_zero, List.reverse_cons, List.reverse_nil, List.length_cons, List.length_nil, gS_C0, gCf11_6, c_in_eq, gS_C45, J_X11_lorry]
    exact (ok_some hw :)

def c_X11_lorry : mj_S := fun as h k => ∃ (v1 : Int32) (s : St), as = [.ref 0, .int v1] ∧ h = mkCs s ∧ ok (F_X11_lorry v1 s) (fun p => k (some (.int p.1)) (mkCs p.2))
theorem c_X11_lorry_in {v1 : Int32} {s : St} {k : Option Value → mj_H → Prop} (hw : ok (F_X11_lorry v1 s) (fun p => k (some (.int p.1)) (mkCs p.2))) : c_X11_lorry [.ref 0, .int v1] (mkCs s) k := ⟨v1, s, rfl, rfl, hw⟩
theorem m_X11_lorry (l : Launch) : mj_Met l yX11_lorry cX11_lorry 2 ((some FieldType.int)) 1 0 0 c_X11_lorry := by
  refine mj_body2 false (TbX11 2 ((some FieldType.int)) ct_X11_lorry) (by decide) rfl rfl (fun h => nomatch h) (tfX11 _ (List.forall_mem_cons.mpr ⟨cfX11_96 (m_X11_within l) (by decide), List.forall_mem_cons.mpr ⟨cfX11_302 (m_X10_buy l) (by decide), fun _ h => nomatch h⟩⟩)) ?_
  rintro as h k ⟨v1, s, rfl, rfl, hw⟩
  exact ⟨rfl, fun G hG => g_X11_lorry hG hw⟩
def F_X11_parts (v1 : Int32) (v2 : Int32) (s : St) : Option (Int32) :=
  (F_X11_isSchoolOrAll v1 s).bind fun r1 =>
  if r1 = 0 then
    some (-1)
  else
    if inb v2 0 4 = false then
      some (-1)
    else
      if v1 = (-1) then
        (rd s 1011 5 v2).bind fun x3 =>
        some x3
      else
        (rd s 1012 100 ((v1 * 5) + v2)).bind fun x2 =>
        some x2
theorem J_X11_parts : mj_t 5 10 = 15 ∧ mj_t 12 5 = 17 ∧ mj_t 19 15 = 34 ∧ mj_t 31 16 = 47 ∧ (0 ≤ ((5 : Nat) : Int) + 10) = True ∧ (0 ≤ ((12 : Nat) : Int) + 5) = True ∧ (0 ≤ ((19 : Nat) : Int) + 15) = True ∧ (0 ≤ ((31 : Nat) : Int) + 16) = True := by and_intros <;> first | rfl | exact eq_true (by decide)
def ct_X11_parts : List (Nat × mj_Cs) := [(251, 0, 2, 11, 0, 0, c_X11_isSchoolOrAll), (295, 2, 1, 11, 0, 0, c_isKind)]
theorem L_X11_parts : mj_lk ct_X11_parts 251 = some (0, 2, 11, 0, 0, c_X11_isSchoolOrAll) ∧ mj_lk ct_X11_parts 295 = some (2, 1, 11, 0, 0, c_isKind) := ⟨rfl, rfl⟩
set_option maxHeartbeats 4000000 in
set_option maxRecDepth 20000 in
theorem g_X11_parts {k : Option Value → mj_H → Prop} {G : mj_K} (hG : mj_cl2 cX11_parts (TbX11 3 ((some FieldType.int)) ct_X11_parts) k G) {v1 : Int32} {v2 : Int32} {s : St} (hw : ok (F_X11_parts v1 v2 s) (fun p => k (some (.int p)) (mkCs s))) : G 0 [.ref 0, .int v1, .int v2] [] (mkCs s) 0 0 := by
  unfold F_X11_parts at hw
  refine mj_run hG.1 (fun pc => pc == 5) 4000 ?_
  simp only [mj_step, mj_W_s, mj_fin, List.getElem?_cons_zero, List.getElem?_cons_succ, mj_go, Nat.reduceAdd, Nat.reduceSub, Nat.reduceLT, Nat.reduceLeDiff, Nat.zero_add, Nat.reduceEqDiff, Nat.reduceBEq, ↓reduceIte, Bool.false_eq_true, List.append_nil, List.nil_append, List.cons_append, Option.toList, and_true, true_and, true_or, or_true, reduceCtorEq, List.map_nil, bI_eq0, bI_eq1, bool_ft, pk_us, vnar0, vnar1, Bool.or_false, Bool.or_true, Bool.false_or, Bool.true_or, mj_kne, eq_self, Int32.reduceLT, Int32.reduceLE, Int32.reduceAdd, Int32.reduceSub, Int32.reduceMul, not_true_eq_false, not_false_eq_true, false_implies, true_implies, D_X11_parts, mj_F_aload_n_k, mj_F_getfield_i, mj_F_goto_off, mj_F_iadd, mj_F_iaload, mj_F_iconst_n, mj_F_ifCond_eq_off, mj_F_ifCond_ne_off, mj_F_if_icmp_ne_off, mj_F_iload_n_k, mj_F_imul, mj_F_invokestatic_i, mj_F_invokevirtual_i, mj_F_ireturn, mj_kc, FT_X11, L_X11_parts, List.take_succ_cons, List.take_zero, List.drop_succ_cons, List.drop_zero, List.reverse_cons, List.reverse_nil, List.length_cons, List.length_nil, gS_C0, gCf11_6, gS_C45, gCf10_11, gS_C51, sS_Ca_51, gCf10_12, gS_C52, sS_Ca_52, c_isKind_eq, J_X11_parts]
  refine c_X11_isSchoolOrAll_in (ok_imp (ok_bind hw) ?_)
  intro p hw
  simp only [Option.toList, List.nil_append, List.cons_append, Nat.reduceSub]
  refine mj_run hG.1 (fun pc => pc == 5) 4000 ?_
  simp only [mj_step, mj_W_s, mj_fin, List.getElem?_cons_zero, List.getElem?_cons_succ, mj_go, Nat.reduceAdd, Nat.reduceSub, Nat.reduceLT, Nat.reduceLeDiff, Nat.zero_add, Nat.reduceEqDiff, Nat.reduceBEq, ↓reduceIte, Bool.false_eq_true, List.append_nil, List.nil_append, List.cons_append, Option.toList, and_true, true_and, true_or, or_true, reduceCtorEq, List.map_nil, bI_eq0, bI_eq1, bool_ft, pk_us, vnar0, vnar1, Bool.or_false, Bool.or_true, Bool.false_or, Bool.true_or, mj_kne, eq_self, Int32.reduceLT, Int32.reduceLE, Int32.reduceAdd, Int32.reduceSub, Int32.reduceMul, not_true_eq_false, not_false_eq_true, false_implies, true_implies, D_X11_parts, mj_F_aload_n_k, mj_F_getfield_i, mj_F_goto_off, mj_F_iadd, mj_F_iaload, mj_F_iconst_n, mj_F_ifCond_eq_off, mj_F_ifCond_ne_off, mj_F_if_icmp_ne_off, mj_F_iload_n_k, mj_F_imul, mj_F_invokestatic_i, mj_F_invokevirtual_i, mj_F_ireturn, mj_kc, FT_X11, L_X11_parts, List.take_succ_cons, List.take_zero, List.drop_succ_cons, List.drop_zero, List.reverse_cons, List.reverse_nil, List.length_cons, List.length_nil, gS_C0, gCf11_6, gS_C45, gCf10_11, gS_C51, sS_Ca_51, gCf10_12, gS_C52, sS_Ca_52, c_isKind_eq, J_X11_parts]
  refine ⟨fun c => ?_, fun c => ?_⟩
  · replace hw := ok_t hw c
    exact (ok_some hw :)
  · replace hw := ok_f hw c
    refine ⟨fun c => ?_, fun c => ?_⟩
    · replace hw := ok_f hw c
      refine ⟨fun c => ?_, fun c => ?_⟩
      · replace hw := ok_f hw c
        refine ⟨(ok_rd hw).1, ?_⟩
        replace hw := (ok_rd hw).2
        exact (ok_some hw :)
      · replace hw := ok_t hw c
        refine ⟨(ok_rd hw).1, ?_⟩
        replace hw := (ok_rd hw).2
        exact (ok_some hw :)
    · replace hw := ok_t hw c
      exact (ok_some hw :)

def c_X11_parts : mj_S := fun as h k => ∃ (v1 : Int32) (v2 : Int32) (s : St), as = [.ref 0, .int v1, .int v2] ∧ h = mkCs s ∧ ok (F_X11_parts v1 v2 s) (fun p => k (some (.int p)) (mkCs s))
theorem c_X11_parts_in {v1 : Int32} {v2 : Int32} {s : St} {k : Option Value → mj_H → Prop} (hw : ok (F_X11_parts v1 v2 s) (fun p => k (some (.int p)) (mkCs s))) : c_X11_parts [.ref 0, .int v1, .int v2] (mkCs s) k := ⟨v1, v2, s, rfl, rfl, hw⟩
theorem m_X11_parts (l : Launch) : mj_Met l yX11_parts cX11_parts 3 ((some FieldType.int)) 2 0 0 c_X11_parts := by
  refine mj_body2 false (TbX11 3 ((some FieldType.int)) ct_X11_parts) (by decide) rfl rfl (fun h => nomatch h) (tfX11 _ (List.forall_mem_cons.mpr ⟨cfX11_251 (m_X11_isSchoolOrAll l) (by decide), List.forall_mem_cons.mpr ⟨cfX11_295 (m_X11_isKind l) (by decide), fun _ h => nomatch h⟩⟩)) ?_
  rintro as h k ⟨v1, v2, s, rfl, rfl, hw⟩
  exact ⟨rfl, fun G hG => g_X11_parts hG hw⟩
def F_X11_promise (v1 : Int32) (v2 : Int32) (s : St) : Option (Int32 × St) :=
  (F_X11_isVillage v1 s).bind fun r1 =>
  if r1 = 0 then
    some (0, s)
  else
    (F_X11_isSchool v2 s).bind fun r2 =>
    if r2 = 0 then
      some (0, s)
    else
      (rd s 1014 480 ((v1 * 20) + v2)).bind fun x3 =>
      if x3 = 0 then
        (wr s 1014 480 ((v1 * 20) + v2) 1).bind fun s4 =>
        some (1, s4)
      else
        some (0, s)
theorem J_X11_promise : mj_t 5 28 = 33 ∧ mj_t 13 20 = 33 ∧ mj_t 30 5 = 35 ∧ (0 ≤ ((5 : Nat) : Int) + 28) = True ∧ (0 ≤ ((13 : Nat) : Int) + 20) = True ∧ (0 ≤ ((30 : Nat) : Int) + 5) = True := by and_intros <;> first | rfl | exact eq_true (by decide)
def ct_X11_promise : List (Nat × mj_Cs) := [(138, 0, 2, 11, 0, 0, c_X11_isVillage), (165, 0, 2, 11, 0, 0, c_X11_isSchool)]
theorem L_X11_promise : mj_lk ct_X11_promise 138 = some (0, 2, 11, 0, 0, c_X11_isVillage) ∧ mj_lk ct_X11_promise 165 = some (0, 2, 11, 0, 0, c_X11_isSchool) := ⟨rfl, rfl⟩
set_option maxHeartbeats 4000000 in
set_option maxRecDepth 20000 in
theorem g_X11_promise {k : Option Value → mj_H → Prop} {G : mj_K} (hG : mj_cl2 cX11_promise (TbX11 3 ((some FieldType.boolean)) ct_X11_promise) k G) {v1 : Int32} {v2 : Int32} {s : St} (hw : ok (F_X11_promise v1 v2 s) (fun p => k (some (.int p.1)) (mkCs p.2))) : G 0 [.ref 0, .int v1, .int v2] [] (mkCs s) 0 0 := by
  unfold F_X11_promise at hw
  refine mj_run hG.1 (fun pc => pc == 5 || pc == 13) 4000 ?_
  simp only [mj_step, mj_W_s, mj_fin, List.getElem?_cons_zero, List.getElem?_cons_succ, mj_go, Nat.reduceAdd, Nat.reduceSub, Nat.reduceLT, Nat.reduceLeDiff, Nat.zero_add, Nat.reduceEqDiff, Nat.reduceBEq, ↓reduceIte, Bool.false_eq_true, List.append_nil, List.nil_append, List.cons_append, Option.toList, and_true, true_and, true_or, or_true, reduceCtorEq, List.map_nil, bI_eq0, bI_eq1, bool_ft, pk_us, vnar0, vnar1, Bool.or_false, Bool.or_true, Bool.false_or, Bool.true_or, mj_kne, eq_self, Int32.reduceLT, Int32.reduceLE, Int32.reduceAdd, Int32.reduceSub, Int32.reduceMul, not_true_eq_false, not_false_eq_true, false_implies, true_implies, D_X11_promise, mj_F_aload_n_k, mj_F_baload, mj_F_bastore, mj_F_bipush_n, mj_F_getfield_i, mj_F_iadd, mj_F_iconst_n, mj_F_ifCond_eq_off, mj_F_iload_n_k, mj_F_imul, mj_F_invokevirtual_i, mj_F_ireturn, mj_kc, FT_X11, L_X11_promise, List.take_succ_cons, List.take_zero, List.drop_succ_cons, List.drop_zero, List.reverse_cons, List.reverse_nil, List.length_cons, List.length_nil, gS_C0, gCf11_6, gS_C45, gCf10_14, gS_C53, sS_Ca_53, J_X11_promise]
  refine c_X11_isVillage_in (ok_imp (ok_bind hw) ?_)
  intro p hw
  simp only [Option.toList, List.nil_append, List.cons_append, Nat.reduceSub]
  refine mj_run hG.1 (fun pc => pc == 5 || pc == 13) 4000 ?_
  simp only [mj_step, mj_W_s, mj_fin, List.getElem?_cons_zero, List.getElem?_cons_succ, mj_go, Nat.reduceAdd, Nat.reduceSub, Nat.reduceLT, Nat.reduceLeDiff, Nat.zero_add, Nat.reduceEqDiff, Nat.reduceBEq, ↓reduceIte, Bool.false_eq_true, List.append_nil, List.nil_append, List.cons_append, Option.toList, and_true, true_and, true_or, or_true, reduceCtorEq, List.map_nil, bI_eq0, bI_eq1, bool_ft, pk_us, vnar0, vnar1, Bool.or_false, Bool.or_true, Bool.false_or, Bool.true_or, mj_kne, eq_self, Int32.reduceLT, Int32.reduceLE, Int32.reduceAdd, Int32.reduceSub, Int32.reduceMul, not_true_eq_false, not_false_eq_true, false_implies, true_implies, D_X11_promise, mj_F_aload_n_k, mj_F_baload, mj_F_bastore, mj_F_bipush_n, mj_F_getfield_i, mj_F_iadd, mj_F_iconst_n, mj_F_ifCond_eq_off, mj_F_iload_n_k, mj_F_imul, mj_F_invokevirtual_i, mj_F_ireturn, mj_kc, FT_X11, L_X11_promise, List.take_succ_cons, List.take_zero, List.drop_succ_cons, List.drop_zero, List.reverse_cons, List.reverse_nil, List.length_cons, List.length_nil, gS_C0, gCf11_6, gS_C45, gCf10_14, gS_C53, sS_Ca_53, J_X11_promise]
  refine ⟨fun c => ?_, fun c => ?_⟩
  · replace hw := ok_t hw c
    exact (ok_some hw :)
  · replace hw := ok_f hw c
    refine c_X11_isSchool_in (ok_imp (ok_bind hw) ?_)
    intro p hw
    simp only [Option.toList, List.nil_append, List.cons_append, Nat.reduceSub]
    refine mj_run hG.1 (fun pc => pc == 5 || pc == 13) 4000 ?_
    simp only [mj_step, mj_W_s, mj_fin, List.getElem?_cons_zero, List.getElem?_cons_succ, mj_go, Nat.reduceAdd, Nat.reduceSub, Nat.reduceLT, Nat.reduceLeDiff, Nat.zero_add, Nat.reduceEqDiff, Nat.reduceBEq, ↓reduceIte, Bool.false_eq_true, List.append_nil, List.nil_append, List.cons_append, Option.toList, and_true, true_and, true_or, or_true, reduceCtorEq, List.map_nil, bI_eq0, bI_eq1, bool_ft, pk_us, vnar0, vnar1, Bool.or_false, Bool.or_true, Bool.false_or, Bool.true_or, mj_kne, eq_self, Int32.reduceLT, Int32.reduceLE, Int32.reduceAdd, Int32.reduceSub, Int32.reduceMul, not_true_eq_false, not_false_eq_true, false_implies, true_implies, D_X11_promise, mj_F_aload_n_k, mj_F_baload, mj_F_bastore, mj_F_bipush_n, mj_F_getfield_i, mj_F_iadd, mj_F_iconst_n, mj_F_ifCond_eq_off, mj_F_iload_n_k, mj_F_imul, mj_F_invokevirtual_i, mj_F_ireturn, mj_kc, FT_X11, L_X11_promise, List.take_succ_cons, List.take_zero, List.drop_succ_cons, List.drop_zero, List.reverse_cons, List.reverse_nil, List.length_cons, List.length_nil, gS_C0, gCf11_6, gS_C45, gCf10_14, gS_C53, sS_Ca_53, J_X11_promise]
    refine ⟨fun c => ?_, fun c => ?_⟩
    · replace hw := ok_t hw c
      exact (ok_some hw :)
    · replace hw := ok_f hw c
      refine ⟨(ok_rd hw).1, ?_⟩
      replace hw := (ok_rd hw).2
      refine ⟨fun c => ?_, fun c => ?_⟩
      · replace hw := ok_t hw c
        refine ⟨(ok_wr hw).1, ?_⟩
        replace hw := (ok_wr hw).2
        exact (ok_some hw :)
      · replace hw := ok_f hw c
        exact (ok_some hw :)

def c_X11_promise : mj_S := fun as h k => ∃ (v1 : Int32) (v2 : Int32) (s : St), as = [.ref 0, .int v1, .int v2] ∧ h = mkCs s ∧ ok (F_X11_promise v1 v2 s) (fun p => k (some (.int p.1)) (mkCs p.2))
theorem c_X11_promise_in {v1 : Int32} {v2 : Int32} {s : St} {k : Option Value → mj_H → Prop} (hw : ok (F_X11_promise v1 v2 s) (fun p => k (some (.int p.1)) (mkCs p.2))) : c_X11_promise [.ref 0, .int v1, .int v2] (mkCs s) k := ⟨v1, v2, s, rfl, rfl, hw⟩
theorem m_X11_promise (l : Launch) : mj_Met l yX11_promise cX11_promise 3 ((some FieldType.boolean)) 2 0 0 c_X11_promise := by
  refine mj_body2 false (TbX11 3 ((some FieldType.boolean)) ct_X11_promise) (by decide) rfl rfl (fun h => nomatch h) (tfX11 _ (List.forall_mem_cons.mpr ⟨cfX11_138 (m_X11_isVillage l) (by decide), List.forall_mem_cons.mpr ⟨cfX11_165 (m_X11_isSchool l) (by decide), fun _ h => nomatch h⟩⟩)) ?_
  rintro as h k ⟨v1, v2, s, rfl, rfl, hw⟩
  exact ⟨rfl, fun G hG => g_X11_promise hG hw⟩
def F_X10_take (v1 : Int32) (v2 : Int32) (v3 : Int32) (s : St) : Option (Int32 × St) :=
  if (s.1 1013) < 200 then
    (wI s 1013 ((s.1 1013) + 1)).bind fun s1 =>
    (rd s1 1015 480 ((v1 * 20) + v2)).bind fun x2 =>
    (wr s1 1015 480 ((v1 * 20) + v2) (x2 + v3)).bind fun s3 =>
    some (1, s3)
  else
    some (0, s)
theorem J_X10_take : mj_t 7 5 = 12 ∧ (0 ≤ ((7 : Nat) : Int) + 5) = True := by and_intros <;> first | rfl | exact eq_true (by decide)
set_option maxHeartbeats 4000000 in
set_option maxRecDepth 20000 in
theorem g_X10_take {k : Option Value → mj_H → Prop} {G : mj_K} (hG : mj_cl2 cX10_take (TbX10 4 ((some FieldType.boolean)) []) k G) {v1 : Int32} {v2 : Int32} {v3 : Int32} {s : St} (hw : ok (F_X10_take v1 v2 v3 s) (fun p => k (some (.int p.1)) (mkCs p.2))) : G 0 [.ref 45, .int v1, .int v2, .int v3] [] (mkCs s) 0 0 := by
  unfold F_X10_take at hw
  refine mj_run hG.1 (fun _ => false) 4000 ?_
  simp only [mj_step, mj_W_s, mj_fin, List.getElem?_cons_zero, List.getElem?_cons_succ, mj_go, Nat.reduceAdd, Nat.reduceSub, Nat.reduceLT, Nat.reduceLeDiff, Nat.zero_add, Nat.reduceEqDiff, Nat.reduceBEq, ↓reduceIte, Bool.false_eq_true, List.append_nil, List.nil_append, List.cons_append, Option.toList, and_true, true_and, true_or, or_true, reduceCtorEq, List.map_nil, bI_eq0, bI_eq1, bool_ft, pk_us, vnar0, vnar1, Bool.or_false, Bool.or_true, Bool.false_or, Bool.true_or, mj_kne, eq_self, Int32.reduceLT, Int32.reduceLE, Int32.reduceAdd, Int32.reduceSub, Int32.reduceMul, not_true_eq_false, not_false_eq_true, false_implies, true_implies, D_X10_take, mj_F_aload_n_k, mj_F_bipush_n, mj_F_dup, mj_F_dup2, mj_F_getfield_i, mj_F_iadd, mj_F_iaload, mj_F_iastore, mj_F_iconst_n, mj_F_if_icmp_lt_off, mj_F_iload_n_k, mj_F_imul, mj_F_ireturn, mj_F_putfield_i, mj_F_sipush_n, mj_c2, mj_kc, FT_X10, PT_X10, gS_C45, gCf10_13, sS_Cf_10_13, gCf10len, gCf10_15, gS_C54, sS_Ca_54, J_X10_take]
  refine ⟨fun c => ?_, fun c => ?_⟩
  · replace hw := ok_t hw c
    replace hw := ok_wI hw
    refine ⟨(ok_rd hw).1, ?_⟩
    replace hw := (ok_rd hw).2
    refine ⟨(ok_wr hw).1, ?_⟩
    replace hw := (ok_wr hw).2
    exact (ok_some hw :)
  · replace hw := ok_f hw c
    exact (ok_some hw :)

def c_X10_take : mj_S := fun as h k => ∃ (v1 : Int32) (v2 : Int32) (v3 : Int32) (s : St), as = [.ref 45, .int v1, .int v2, .int v3] ∧ h = mkCs s ∧ ok (F_X10_take v1 v2 v3 s) (fun p => k (some (.int p.1)) (mkCs p.2))
theorem c_X10_take_in {v1 : Int32} {v2 : Int32} {v3 : Int32} {s : St} {k : Option Value → mj_H → Prop} (hw : ok (F_X10_take v1 v2 v3 s) (fun p => k (some (.int p.1)) (mkCs p.2))) : c_X10_take [.ref 45, .int v1, .int v2, .int v3] (mkCs s) k := ⟨v1, v2, v3, s, rfl, rfl, hw⟩
theorem m_X10_take (l : Launch) : mj_Met l yX10_take cX10_take 4 ((some FieldType.boolean)) 0 0 0 c_X10_take := by
  refine mj_body2 false (TbX10 4 ((some FieldType.boolean)) []) (by decide) rfl rfl (fun h => nomatch h) (tfX10 _ (fun _ h => nomatch h)) ?_
  rintro as h k ⟨v1, v2, v3, s, rfl, rfl, hw⟩
  exact ⟨rfl, fun G hG => g_X10_take hG hw⟩
def F_X11_give (v1 : Int32) (v2 : Int32) (v3 : Int32) (s : St) : Option (Int32 × St) :=
  (F_X11_isVillage v1 s).bind fun r1 =>
  if r1 = 0 then
    some (0, s)
  else
    (F_X11_isSchool v2 s).bind fun r2 =>
    if r2 = 0 then
      some (0, s)
    else
      if inb v3 1 1000 = false then
        some (0, s)
      else
        (F_X10_take v1 v2 v3 s).bind fun r3 =>
        (bz r3.1).bind fun _ =>
        some (r3.1, r3.2)
theorem J_X11_give : mj_t 5 22 = 27 ∧ mj_t 13 14 = 27 ∧ mj_t 24 5 = 29 ∧ (0 ≤ ((5 : Nat) : Int) + 22) = True ∧ (0 ≤ ((13 : Nat) : Int) + 14) = True ∧ (0 ≤ ((24 : Nat) : Int) + 5) = True := by and_intros <;> first | rfl | exact eq_true (by decide)
def ct_X11_give : List (Nat × mj_Cs) := [(96, 2, 3, 11, 0, 0, c_in), (138, 0, 2, 11, 0, 0, c_X11_isVillage), (165, 0, 2, 11, 0, 0, c_X11_isSchool), (314, 0, 4, 10, 0, 0, c_X10_take)]
theorem L_X11_give : mj_lk ct_X11_give 96 = some (2, 3, 11, 0, 0, c_in) ∧ mj_lk ct_X11_give 138 = some (0, 2, 11, 0, 0, c_X11_isVillage) ∧ mj_lk ct_X11_give 165 = some (0, 2, 11, 0, 0, c_X11_isSchool) ∧ mj_lk ct_X11_give 314 = some (0, 4, 10, 0, 0, c_X10_take) := ⟨rfl, rfl, rfl, rfl⟩
set_option maxHeartbeats 4000000 in
set_option maxRecDepth 20000 in
theorem g_X11_give {k : Option Value → mj_H → Prop} {G : mj_K} (hG : mj_cl2 cX11_give (TbX11 4 ((some FieldType.boolean)) ct_X11_give) k G) {v1 : Int32} {v2 : Int32} {v3 : Int32} {s : St} (hw : ok (F_X11_give v1 v2 v3 s) (fun p => k (some (.int p.1)) (mkCs p.2))) : G 0 [.ref 0, .int v1, .int v2, .int v3] [] (mkCs s) 0 0 := by
  unfold F_X11_give at hw
  refine mj_run hG.1 (fun pc => pc == 5 || pc == 13 || pc == 39) 4000 ?_
  simp only [mj_step, mj_W_s, mj_fin, List.getElem?_cons_zero, List.getElem?_cons_succ, mj_go, Nat.reduceAdd, Nat.reduceSub, Nat.reduceLT, Nat.reduceLeDiff, Nat.zero_add, Nat.reduceEqDiff, Nat.reduceBEq, ↓reduceIte, Bool.false_eq_true, List.append_nil, List.nil_append, List.cons_append, Option.toList, and_true, true_and, true_or, or_true, reduceCtorEq, List.map_nil, bI_eq0, bI_eq1, bool_ft, pk_us, vnar0, vnar1, Bool.or_false, Bool.or_true, Bool.false_or, Bool.true_or, mj_kne, eq_self, Int32.reduceLT, Int32.reduceLE, Int32.reduceAdd, Int32.reduceSub, Int32.reduceMul, not_true_eq_false, not_false_eq_true, false_implies, true_implies, D_X11_give, mj_F_aload_n_k, mj_F_getfield_i, mj_F_iconst_n, mj_F_ifCond_eq_off, mj_F_ifCond_ne_off, mj_F_iload_n_k, mj_F_invokestatic_i, mj_F_invokevirtual_i, mj_F_ireturn, mj_F_sipush_n, mj_kc, FT_X11, L_X11_give, List.take_succ_cons, List.take_zero, List.drop_succ_cons, List.drop_zero, List.reverse_cons, List.reverse_nil, List.length_cons, List.length_nil, gS_C0, gCf11_6, c_in_eq, gS_C45, J_X11_give]
  refine c_X11_isVillage_in (ok_imp (ok_bind hw) ?_)
  intro p hw
  simp only [Option.toList, List.nil_append, List.cons_append, Nat.reduceSub]
  refine mj_run hG.1 (fun pc => pc == 5 || pc == 13 || pc == 39) 4000 ?_
  simp only [mj_step, mj_W_s, mj_fin, List.getElem?_cons_zero, List.getElem?_cons_succ, mj_go, Nat.reduceAdd, Nat.reduceSub, Nat.reduceLT, Nat.reduceLeDiff, Nat.zero_add, Nat.reduceEqDiff, Nat.reduceBEq, ↓reduceIte, Bool.false_eq_true, List.append_nil, List.nil_append, List.cons_append, Option.toList, and_true, true_and, true_or, or_true, reduceCtorEq, List.map_nil, bI_eq0, bI_eq1, bool_ft, pk_us, vnar0, vnar1, Bool.or_false, Bool.or_true, Bool.false_or, Bool.true_or, mj_kne, eq_self, Int32.reduceLT, Int32.reduceLE, Int32.reduceAdd, Int32.reduceSub, Int32.reduceMul, not_true_eq_false, not_false_eq_true, false_implies, true_implies, D_X11_give, mj_F_aload_n_k, mj_F_getfield_i, mj_F_iconst_n, mj_F_ifCond_eq_off, mj_F_ifCond_ne_off, mj_F_iload_n_k, mj_F_invokestatic_i, mj_F_invokevirtual_i, mj_F_ireturn, mj_F_sipush_n, mj_kc, FT_X11, L_X11_give, List.take_succ_cons, List.take_zero, List.drop_succ_cons, List.drop_zero, List.reverse_cons, List.reverse_nil, List.length_cons, List.length_nil, gS_C0, gCf11_6, c_in_eq, gS_C45, J_X11_give]
  refine ⟨fun c => ?_, fun c => ?_⟩
  · replace hw := ok_t hw c
    exact (ok_some hw :)
  · replace hw := ok_f hw c
    refine c_X11_isSchool_in (ok_imp (ok_bind hw) ?_)
    intro p hw
    simp only [Option.toList, List.nil_append, List.cons_append, Nat.reduceSub]
    refine mj_run hG.1 (fun pc => pc == 5 || pc == 13 || pc == 39) 4000 ?_
    simp only [mj_step, mj_W_s, mj_fin, List.getElem?_cons_zero, List.getElem?_cons_succ, mj_go, Nat.reduceAdd, Nat.reduceSub, Nat.reduceLT, Nat.reduceLeDiff, Nat.zero_add, Nat.reduceEqDiff, Nat.reduceBEq, ↓reduceIte, Bool.false_eq_true, List.append_nil, List.nil_append, List.cons_append, Option.toList, and_true, true_and, true_or, or_true, reduceCtorEq, List.map_nil, bI_eq0, bI_eq1, bool_ft, pk_us, vnar0, vnar1, Bool.or_false, Bool.or_true, Bool.false_or, Bool.true_or, mj_kne, eq_self, Int32.reduceLT, Int32.reduceLE, Int32.reduceAdd, Int32.reduceSub, Int32.reduceMul, not_true_eq_false, not_false_eq_true, false_implies, true_implies, D_X11_give, mj_F_aload_n_k, mj_F_getfield_i, mj_F_iconst_n, mj_F_ifCond_eq_off, mj_F_ifCond_ne_off, mj_F_iload_n_k, mj_F_invokestatic_i, mj_F_invokevirtual_i, mj_F_ireturn, mj_F_sipush_n, mj_kc, FT_X11, L_X11_give, List.take_succ_cons, List.take_zero, List.drop_succ_cons, List.drop_zero, List.reverse_cons, List.reverse_nil, List.length_cons, List.length_nil, gS_C0, gCf11_6, c_in_eq, gS_C45, J_X11_give]
    refine ⟨fun c => ?_, fun c => ?_⟩
    · replace hw := ok_t hw c
      exact (ok_some hw :)
    · replace hw := ok_f hw c
      refine ⟨fun c => ?_, fun c => ?_⟩
      · replace hw := ok_f hw c
        refine c_X10_take_in (ok_imp (ok_bind hw) ?_)
        intro p hw
        simp only [Option.toList, List.nil_append, List.cons_append, Nat.reduceSub]
        refine mj_run hG.1 (fun pc => pc == 5 || pc == 13 || pc == 39) 4000 ?_
        simp only [mj_step, mj_W_s, mj_fin, List.getElem?_cons_zero, List.getElem?_cons_succ, mj_go, Nat.reduceAdd, Nat.reduceSub, Nat.reduceLT, Nat.reduceLeDiff, Nat.zero_add, Nat.reduceEqDiff, Nat.reduceBEq, ↓reduceIte, Bool.false_eq_true, List.append_nil, List.nil_append, List.cons_append, Option.toList, and_true, true_and, true_or, or_true, reduceCtorEq, List.map_nil, bI_eq0, bI_eq1, bool_ft, pk_us, vnar0, vnar1, Bool.or_false, Bool.or_true, Bool.false_or, Bool.true_or, mj_kne, eq_self, Int32.reduceLT, Int32.reduceLE, Int32.reduceAdd, Int32.reduceSub, Int32.reduceMul, not_true_eq_false, not_false_eq_true, false_implies, true_implies, D_X11_give, mj_F_aload_n_k, mj_F_getfield_i, mj_F_iconst_n, mj_F_ifCond_eq_off, mj_F_ifCond_ne_off, mj_F_iload_n_k, mj_F_invokestatic_i, mj_F_invokevirtual_i, mj_F_ireturn, mj_F_sipush_n, mj_kc, FT_X11, L_X11_give, List.take_succ_cons, List.take_zero, List.drop_succ_cons, List.drop_zero, List.reverse_cons, List.reverse_nil, List.length_cons, List.length_nil, gS_C0, gCf11_6, c_in_eq, gS_C45, J_X11_give]
        refine ⟨(ok_bz hw).1, ?_⟩
        replace hw := (ok_bz hw).2
        exact (ok_some hw :)
      · replace hw := ok_t hw c
        exact (ok_some hw :)

def c_X11_give : mj_S := fun as h k => ∃ (v1 : Int32) (v2 : Int32) (v3 : Int32) (s : St), as = [.ref 0, .int v1, .int v2, .int v3] ∧ h = mkCs s ∧ ok (F_X11_give v1 v2 v3 s) (fun p => k (some (.int p.1)) (mkCs p.2))
theorem c_X11_give_in {v1 : Int32} {v2 : Int32} {v3 : Int32} {s : St} {k : Option Value → mj_H → Prop} (hw : ok (F_X11_give v1 v2 v3 s) (fun p => k (some (.int p.1)) (mkCs p.2))) : c_X11_give [.ref 0, .int v1, .int v2, .int v3] (mkCs s) k := ⟨v1, v2, v3, s, rfl, rfl, hw⟩
theorem m_X11_give (l : Launch) : mj_Met l yX11_give cX11_give 4 ((some FieldType.boolean)) 2 0 0 c_X11_give := by
  refine mj_body2 false (TbX11 4 ((some FieldType.boolean)) ct_X11_give) (by decide) rfl rfl (fun h => nomatch h) (tfX11 _ (List.forall_mem_cons.mpr ⟨cfX11_96 (m_X11_within l) (by decide), List.forall_mem_cons.mpr ⟨cfX11_138 (m_X11_isVillage l) (by decide), List.forall_mem_cons.mpr ⟨cfX11_165 (m_X11_isSchool l) (by decide), List.forall_mem_cons.mpr ⟨cfX11_314 (m_X10_take l) (by decide), fun _ h => nomatch h⟩⟩⟩⟩)) ?_
  rintro as h k ⟨v1, v2, v3, s, rfl, rfl, hw⟩
  exact ⟨rfl, fun G hG => g_X11_give hG hw⟩
