/-! functional pictures, and that the bytecode keeps them (m3) -/
def B_X12_sendAll_2 (v1 : Int32) (v2 : Int32) : Int32 × St → Option ((Int32 × St) ⊕ ((St)))
  | (v3, s) =>
  if (s.1 1223) ≤ v3 then
    some (.inr s)
  else
    (F_X12_isOpen v3 v1 v2 s).bind fun r1 =>
    if r1 = 0 then
      (wr s 1274 20 v3 0).bind fun s2 =>
      some (.inl ((v3 + 1), s2))
    else
      (F_X12_classesOf v3 v1 v2 s).bind fun r3 =>
      (wr r3.2 1274 20 v3 r3.1).bind fun s4 =>
      some (.inl ((v3 + 1), s4))
def B_X12_sendAll_112 (v1 : Int32) (v2 : Int32) (v3 : Int32) (v4 : Int32) : Int32 × St → Option ((Int32 × St) ⊕ ((St)))
  | (v5, s) =>
  if v5 < 0 then
    some (.inr s)
  else
    (rd s 1274 20 v5).bind fun x9 =>
    if x9 ≤ 0 then
      (rd s 1273 40 v4).bind fun x10 =>
      (wr s 1273 40 v4 x10).bind fun s11 =>
      some (.inl ((v5 + (-1)), s11))
    else
      (F_X12_mayTeach v4 v5 v1 v2 s).bind fun r12 =>
      if r12.1 = 0 then
        (rd r12.2 1273 40 v4).bind fun x13 =>
        (wr r12.2 1273 40 v4 x13).bind fun s14 =>
        some (.inl ((v5 + (-1)), s14))
      else
        (wr r12.2 1273 40 v4 v5).bind fun s15 =>
        some (.inl ((v5 + (-1)), s15))
def F_X12_sendAll_165 (v1 : Int32) (v2 : Int32) (v3 : Int32) (v4 : Int32) (s : St) : Option ((Int32 × St) ⊕ ((St))) :=
  (rd s 1273 40 v4).bind fun x16 =>
  if x16 = (-1) then
    some (.inl ((v4 + 1), s))
  else
    (rd s 1273 40 v4).bind fun x17 =>
    (rd s 1274 20 x17).bind fun x18 =>
    (wr s 1274 20 x17 (x18 - 1)).bind fun s19 =>
    some (.inl ((v4 + 1), s19))
def F_X12_sendAll_112 (v1 : Int32) (v2 : Int32) (v3 : Int32) (v4 : Int32) (v5 : Int32) (s : St) : Option ((Int32 × St) ⊕ ((St))) :=
  (lp (B_X12_sendAll_112 v1 v2 v3 v4) FU (v5, s)).bind (fun y => F_X12_sendAll_165 v1 v2 v3 v4 y)
def B_X12_sendAll_51 (v1 : Int32) (v2 : Int32) (v3 : Int32) : Int32 × St → Option ((Int32 × St) ⊕ ((St)))
  | (v4, s) =>
  if (s.1 1275) ≤ v4 then
    some (.inr s)
  else
    (wr s 1273 40 v4 (-1)).bind fun s5 =>
    (rd s5 1272 40 v4).bind fun x6 =>
    if v2 < x6 then
      some (.inl ((v4 + 1), s5))
    else
      (rd s5 1268 40 v4).bind fun x7 =>
      if v3 ≤ x7 then
        some (.inl ((v4 + 1), s5))
      else
        (rd s5 1271 40 v4).bind fun x8 =>
        if v3 < x8 then
          F_X12_sendAll_112 v1 v2 v3 v4 ((s5.1 1223) - 1) s5
        else
          some (.inl ((v4 + 1), s5))
def F_X12_sendAll_198 (s : St) : Option (St) :=
  some s
def F_X12_sendAll_51 (v1 : Int32) (v2 : Int32) (v3 : Int32) (v4 : Int32) (s : St) : Option (St) :=
  (lp (B_X12_sendAll_51 v1 v2 v3) FU (v4, s)).bind (fun y => F_X12_sendAll_198 y)
def F_X12_sendAll_43 (v1 : Int32) (v2 : Int32) (s : St) : Option (St) :=
  F_X12_sendAll_51 v1 v2 (v1 / 52) 0 s
def F_X12_sendAll_2 (v1 : Int32) (v2 : Int32) (v3 : Int32) (s : St) : Option (St) :=
  (lp (B_X12_sendAll_2 v1 v2) FU (v3, s)).bind (fun y => F_X12_sendAll_43 v1 v2 y)
def F_X12_sendAll (v1 : Int32) (v2 : Int32) (s : St) : Option (St) :=
  F_X12_sendAll_2 v1 v2 0 s
theorem J_X12_sendAll : mj_t 7 36 = 43 ∧ mj_t 22 13 = 35 ∧ mj_t 32 4 = 36 ∧ mj_t 40 (-38) = 2 ∧ mj_t 57 141 = 198 ∧ mj_t 76 116 = 192 ∧ mj_t 87 105 = 192 ∧ mj_t 98 6 = 104 ∧ mj_t 101 91 = 192 ∧ mj_t 114 51 = 165 ∧ mj_t 130 21 = 151 ∧ mj_t 143 8 = 151 ∧ mj_t 148 10 = 158 ∧ mj_t 162 (-50) = 112 ∧ mj_t 173 19 = 192 ∧ mj_t 195 (-144) = 51 ∧ (0 ≤ ((7 : Nat) : Int) + 36) = True ∧ (0 ≤ ((22 : Nat) : Int) + 13) = True ∧ (0 ≤ ((32 : Nat) : Int) + 4) = True ∧ (0 ≤ ((40 : Nat) : Int) + (-38)) = True ∧ (0 ≤ ((57 : Nat) : Int) + 141) = True ∧ (0 ≤ ((76 : Nat) : Int) + 116) = True ∧ (0 ≤ ((87 : Nat) : Int) + 105) = True ∧ (0 ≤ ((98 : Nat) : Int) + 6) = True ∧ (0 ≤ ((101 : Nat) : Int) + 91) = True ∧ (0 ≤ ((114 : Nat) : Int) + 51) = True ∧ (0 ≤ ((130 : Nat) : Int) + 21) = True ∧ (0 ≤ ((143 : Nat) : Int) + 8) = True ∧ (0 ≤ ((148 : Nat) : Int) + 10) = True ∧ (0 ≤ ((162 : Nat) : Int) + (-50)) = True ∧ (0 ≤ ((173 : Nat) : Int) + 19) = True ∧ (0 ≤ ((195 : Nat) : Int) + (-144)) = True := by and_intros <;> first | rfl | exact eq_true (by decide)
def ct_X12_sendAll : List (Nat × mj_Cs) := [(444, 2, 1, 12, 0, 0, c_yearOf), (451, 0, 4, 12, 0, 0, c_X12_isOpen), (454, 0, 4, 12, 0, 0, c_X12_classesOf), (534, 0, 5, 12, 0, 0, c_X12_mayTeach)]
theorem L_X12_sendAll : mj_lk ct_X12_sendAll 444 = some (2, 1, 12, 0, 0, c_yearOf) ∧ mj_lk ct_X12_sendAll 451 = some (0, 4, 12, 0, 0, c_X12_isOpen) ∧ mj_lk ct_X12_sendAll 454 = some (0, 4, 12, 0, 0, c_X12_classesOf) ∧ mj_lk ct_X12_sendAll 534 = some (0, 5, 12, 0, 0, c_X12_mayTeach) := ⟨rfl, rfl, rfl, rfl⟩
set_option maxHeartbeats 4000000 in
set_option maxRecDepth 20000 in
theorem b_X12_sendAll_2 {k : Option Value → mj_H → Prop} {G : mj_K} (hG : mj_cl2 cX12_sendAll (TbX12 6 (none) ct_X12_sendAll) k G) {v1 : Int32} {v2 : Int32} {P : Int32 × St → Prop} {K : (St) → Prop} (hP : ∀ x, P x → G 2 [.ref 0, .int v1, .int v2, .int x.1] [] (mkMs x.2) 0 0) (hK0 : ∀ y, K y → G 43 [.ref 0, .int v1, .int v2] [] (mkMs y) 0 0) {v3 : Int32} {s : St} (hw : ok (B_X12_sendAll_2 v1 v2 (v3, s)) (Sum.elim P K)) : G 2 [.ref 0, .int v1, .int v2, .int v3] [] (mkMs s) 0 0 := by
  unfold B_X12_sendAll_2 at hw
  refine mj_run hG.1 (fun pc => pc == 2 || pc == 22 || pc == 32 || pc == 43 || pc == 51 || pc == 112 || pc == 143 || pc == 165 || pc == 198) 4000 ?_
  simp only [mj_step, mj_W_s, mj_fin, List.getElem?_cons_zero, List.getElem?_cons_succ, mj_go, Nat.reduceAdd, Nat.reduceSub, Nat.reduceLT, Nat.reduceLeDiff, Nat.zero_add, Nat.reduceEqDiff, Nat.reduceBEq, ↓reduceIte, Bool.false_eq_true, List.append_nil, List.nil_append, List.cons_append, Option.toList, and_true, true_and, true_or, or_true, reduceCtorEq, List.map_nil, bI_eq0, bI_eq1, bool_ft, pk_us, vnar0, vnar1, Bool.or_false, Bool.or_true, Bool.false_or, Bool.true_or, mj_kne, eq_self, Int32.reduceLT, Int32.reduceLE, Int32.reduceAdd, Int32.reduceSub, Int32.reduceMul, not_true_eq_false, not_false_eq_true, false_implies, true_implies, D_X12_sendAll_0, D_X12_sendAll_1, D_X12_sendAll_2, mj_F_aload_n_k, mj_F_dup2, mj_F_getfield_i, mj_F_goto_off, mj_F_iaload, mj_F_iastore, mj_F_iconst_n, mj_F_ifCond_eq_off, mj_F_ifCond_le_off, mj_F_ifCond_lt_off, mj_F_if_icmp_eq_off, mj_F_if_icmp_ge_off, mj_F_if_icmp_gt_off, mj_F_iinc_k_n, mj_F_iload_k, mj_F_iload_n_k, mj_F_invokestatic_i, mj_F_invokevirtual_i, mj_F_istore_k, mj_F_istore_n_k, mj_F_isub, mj_F_return_, mj_set, mj_set0, mj_unk, mj_c2, mj_kc, FT_X12, FT_X12_1, L_X12_sendAll, List.take_succ_cons, List.take_zero, List.drop_succ_cons, List.drop_zero, List.reverse_cons, List.reverse_nil, List.length_cons, List.length_nil, gS_M0, gMf_23, gMf_74, gS_M58, sS_Ma_58, gMf_75, gMf_73, gS_M57, sS_Ma_57, gMf_72, gS_M56, sS_Ma_56, gMf_68, gS_M52, sS_Ma_52, gMf_71, gS_M55, sS_Ma_55, c_yearOf_eq, J_X12_sendAll]
  refine ⟨fun c => ?_, fun c => ?_⟩
  · replace hw := ok_t hw c
    exact hG.2 _ _ _ _ _ _ _ _ _ (by refine ⟨Or.inr rfl, ?_⟩; refine ⟨Or.inr rfl, ?_⟩; refine ⟨Or.inr rfl, ?_⟩; exact trivial) (Nat.zero_le _) (Nat.zero_le _) (hK0 _ (ok_some hw :) :)
  · replace hw := ok_f hw c
    refine c_X12_isOpen_in (ok_imp (ok_bind hw) ?_)
    intro p hw
    simp only [Option.toList, List.nil_append, List.cons_append, Nat.reduceSub]
    refine mj_run hG.1 (fun pc => pc == 2 || pc == 22 || pc == 32 || pc == 43 || pc == 51 || pc == 112 || pc == 143 || pc == 165 || pc == 198) 4000 ?_
    simp only [mj_step, mj_W_s, mj_fin, List.getElem?_cons_zero, List.getElem?_cons_succ, mj_go, Nat.reduceAdd, Nat.reduceSub, Nat.reduceLT, Nat.reduceLeDiff, Nat.zero_add, Nat.reduceEqDiff, Nat.reduceBEq, ↓reduceIte, Bool.false_eq_true, List.append_nil, List.nil_append, List.cons_append, Option.toList, and_true, true_and, true_or, or_true, reduceCtorEq, List.map_nil, bI_eq0, bI_eq1, bool_ft, pk_us, vnar0, vnar1, Bool.or_false, Bool.or_true, Bool.false_or, Bool.true_or, mj_kne, eq_self, Int32.reduceLT, Int32.reduceLE, Int32.reduceAdd, Int32.reduceSub, Int32.reduceMul, not_true_eq_false, not_false_eq_true, false_implies, true_implies, D_X12_sendAll_0, D_X12_sendAll_1, D_X12_sendAll_2, mj_F_aload_n_k, mj_F_dup2, mj_F_getfield_i, mj_F_goto_off, mj_F_iaload, mj_F_iastore, mj_F_iconst_n, mj_F_ifCond_eq_off, mj_F_ifCond_le_off, mj_F_ifCond_lt_off, mj_F_if_icmp_eq_off, mj_F_if_icmp_ge_off, mj_F_if_icmp_gt_off, mj_F_iinc_k_n, mj_F_iload_k, mj_F_iload_n_k, mj_F_invokestatic_i, mj_F_invokevirtual_i, mj_F_istore_k, mj_F_istore_n_k, mj_F_isub, mj_F_return_, mj_set, mj_set0, mj_unk, mj_c2, mj_kc, FT_X12, FT_X12_1, L_X12_sendAll, List.take_succ_cons, List.take_zero, List.drop_succ_cons, List.drop_zero, List.reverse_cons, List.reverse_nil, List.length_cons, List.length_nil, gS_M0, gMf_23, gMf_74, gS_M58, sS_Ma_58, gMf_75, gMf_73, gS_M57, sS_Ma_57, gMf_72, gS_M56, sS_Ma_56, gMf_68, gS_M52, sS_Ma_52, gMf_71, gS_M55, sS_Ma_55, c_yearOf_eq, J_X12_sendAll]
    refine ⟨fun c => ?_, fun c => ?_⟩
    · replace hw := ok_t hw c
      refine ⟨(ok_wr hw).1, ?_⟩
      replace hw := (ok_wr hw).2
      exact hG.2 _ _ _ _ _ _ _ _ _ (by refine ⟨Or.inr rfl, ?_⟩; refine ⟨Or.inr rfl, ?_⟩; refine ⟨Or.inr rfl, ?_⟩; refine ⟨Or.inr rfl, ?_⟩; exact trivial) (Nat.zero_le _) (Nat.zero_le _) (hP _ (ok_some hw :) :)
    · replace hw := ok_f hw c
      refine c_X12_classesOf_in (ok_imp (ok_bind hw) ?_)
      intro p hw
      simp only [Option.toList, List.nil_append, List.cons_append, Nat.reduceSub]
      refine mj_run hG.1 (fun pc => pc == 2 || pc == 22 || pc == 32 || pc == 43 || pc == 51 || pc == 112 || pc == 143 || pc == 165 || pc == 198) 4000 ?_
      simp only [mj_step, mj_W_s, mj_fin, List.getElem?_cons_zero, List.getElem?_cons_succ, mj_go, Nat.reduceAdd, Nat.reduceSub, Nat.reduceLT, Nat.reduceLeDiff, Nat.zero_add, Nat.reduceEqDiff, Nat.reduceBEq, ↓reduceIte, Bool.false_eq_true, List.append_nil, List.nil_append, List.cons_append, Option.toList, and_true, true_and, true_or, or_true, reduceCtorEq, List.map_nil, bI_eq0, bI_eq1, bool_ft, pk_us, vnar0, vnar1, Bool.or_false, Bool.or_true, Bool.false_or, Bool.true_or, mj_kne, eq_self, Int32.reduceLT, Int32.reduceLE, Int32.reduceAdd, Int32.reduceSub, Int32.reduceMul, not_true_eq_false, not_false_eq_true, false_implies, true_implies, D_X12_sendAll_0, D_X12_sendAll_1, D_X12_sendAll_2, mj_F_aload_n_k, mj_F_dup2, mj_F_getfield_i, mj_F_goto_off, mj_F_iaload, mj_F_iastore, mj_F_iconst_n, mj_F_ifCond_eq_off, mj_F_ifCond_le_off, mj_F_ifCond_lt_off, mj_F_if_icmp_eq_off, mj_F_if_icmp_ge_off, mj_F_if_icmp_gt_off, mj_F_iinc_k_n, mj_F_iload_k, mj_F_iload_n_k, mj_F_invokestatic_i, mj_F_invokevirtual_i, mj_F_istore_k, mj_F_istore_n_k, mj_F_isub, mj_F_return_, mj_set, mj_set0, mj_unk, mj_c2, mj_kc, FT_X12, FT_X12_1, L_X12_sendAll, List.take_succ_cons, List.take_zero, List.drop_succ_cons, List.drop_zero, List.reverse_cons, List.reverse_nil, List.length_cons, List.length_nil, gS_M0, gMf_23, gMf_74, gS_M58, sS_Ma_58, gMf_75, gMf_73, gS_M57, sS_Ma_57, gMf_72, gS_M56, sS_Ma_56, gMf_68, gS_M52, sS_Ma_52, gMf_71, gS_M55, sS_Ma_55, c_yearOf_eq, J_X12_sendAll]
      refine ⟨(ok_wr hw).1, ?_⟩
      replace hw := (ok_wr hw).2
      exact hG.2 _ _ _ _ _ _ _ _ _ (by refine ⟨Or.inr rfl, ?_⟩; refine ⟨Or.inr rfl, ?_⟩; refine ⟨Or.inr rfl, ?_⟩; refine ⟨Or.inr rfl, ?_⟩; exact trivial) (Nat.zero_le _) (Nat.zero_le _) (hP _ (ok_some hw :) :)

set_option maxHeartbeats 4000000 in
set_option maxRecDepth 20000 in
theorem b_X12_sendAll_112 {k : Option Value → mj_H → Prop} {G : mj_K} (hG : mj_cl2 cX12_sendAll (TbX12 6 (none) ct_X12_sendAll) k G) {v1 : Int32} {v2 : Int32} {v3 : Int32} {v4 : Int32} {P : Int32 × St → Prop} {K : (St) → Prop} (hP : ∀ x, P x → G 112 [.ref 0, .int v1, .int v2, .int v3, .int v4, .int x.1] [] (mkMs x.2) 0 0) (hK0 : ∀ y, K y → G 165 [.ref 0, .int v1, .int v2, .int v3, .int v4] [] (mkMs y) 0 0) {v5 : Int32} {s : St} (hw : ok (B_X12_sendAll_112 v1 v2 v3 v4 (v5, s)) (Sum.elim P K)) : G 112 [.ref 0, .int v1, .int v2, .int v3, .int v4, .int v5] [] (mkMs s) 0 0 := by
  unfold B_X12_sendAll_112 at hw
  refine mj_run hG.1 (fun pc => pc == 2 || pc == 22 || pc == 32 || pc == 43 || pc == 51 || pc == 112 || pc == 143 || pc == 165 || pc == 198) 4000 ?_
  simp only [mj_step, mj_W_s, mj_fin, List.getElem?_cons_zero, List.getElem?_cons_succ, mj_go, Nat.reduceAdd, Nat.reduceSub, Nat.reduceLT, Nat.reduceLeDiff, Nat.zero_add, Nat.reduceEqDiff, Nat.reduceBEq, ↓reduceIte, Bool.false_eq_true, List.append_nil, List.nil_append, List.cons_append, Option.toList, and_true, true_and, true_or, or_true, reduceCtorEq, List.map_nil, bI_eq0, bI_eq1, bool_ft, pk_us, vnar0, vnar1, Bool.or_false, Bool.or_true, Bool.false_or, Bool.true_or, mj_kne, eq_self, Int32.reduceLT, Int32.reduceLE, Int32.reduceAdd, Int32.reduceSub, Int32.reduceMul, not_true_eq_false, not_false_eq_true, false_implies, true_implies, D_X12_sendAll_0, D_X12_sendAll_1, D_X12_sendAll_2, mj_F_aload_n_k, mj_F_dup2, mj_F_getfield_i, mj_F_goto_off, mj_F_iaload, mj_F_iastore, mj_F_iconst_n, mj_F_ifCond_eq_off, mj_F_ifCond_le_off, mj_F_ifCond_lt_off, mj_F_if_icmp_eq_off, mj_F_if_icmp_ge_off, mj_F_if_icmp_gt_off, mj_F_iinc_k_n, mj_F_iload_k, mj_F_iload_n_k, mj_F_invokestatic_i, mj_F_invokevirtual_i, mj_F_istore_k, mj_F_istore_n_k, mj_F_isub, mj_F_return_, mj_set, mj_set0, mj_unk, mj_c2, mj_kc, FT_X12, FT_X12_1, L_X12_sendAll, List.take_succ_cons, List.take_zero, List.drop_succ_cons, List.drop_zero, List.reverse_cons, List.reverse_nil, List.length_cons, List.length_nil, gS_M0, gMf_23, gMf_74, gS_M58, sS_Ma_58, gMf_75, gMf_73, gS_M57, sS_Ma_57, gMf_72, gS_M56, sS_Ma_56, gMf_68, gS_M52, sS_Ma_52, gMf_71, gS_M55, sS_Ma_55, c_yearOf_eq, J_X12_sendAll]
  refine ⟨fun c => ?_, fun c => ?_⟩
  · replace hw := ok_t hw c
    exact hG.2 _ _ _ _ _ _ _ _ _ (by refine ⟨Or.inr rfl, ?_⟩; refine ⟨Or.inr rfl, ?_⟩; refine ⟨Or.inr rfl, ?_⟩; refine ⟨Or.inr rfl, ?_⟩; refine ⟨Or.inr rfl, ?_⟩; exact trivial) (Nat.zero_le _) (Nat.zero_le _) (hK0 _ (ok_some hw :) :)
  · replace hw := ok_f hw c
    refine ⟨(ok_rd hw).1, ?_⟩
    replace hw := (ok_rd hw).2
    refine ⟨fun c => ?_, fun c => ?_⟩
    · replace hw := ok_t hw c
      refine ⟨(ok_rd hw).1, ?_⟩
      replace hw := (ok_rd hw).2
      refine ⟨(ok_wr hw).1, ?_⟩
      replace hw := (ok_wr hw).2
      exact hG.2 _ _ _ _ _ _ _ _ _ (by refine ⟨Or.inr rfl, ?_⟩; refine ⟨Or.inr rfl, ?_⟩; refine ⟨Or.inr rfl, ?_⟩; refine ⟨Or.inr rfl, ?_⟩; refine ⟨Or.inr rfl, ?_⟩; refine ⟨Or.inr rfl, ?_⟩; exact trivial) (Nat.zero_le _) (Nat.zero_le _) (hP _ (ok_some hw :) :)
    · replace hw := ok_f hw c
      refine c_X12_mayTeach_in (ok_imp (ok_bind hw) ?_)
      intro p hw
      simp only [Option.toList, List.nil_append, List.cons_append, Nat.reduceSub]
      refine mj_run hG.1 (fun pc => pc == 2 || pc == 22 || pc == 32 || pc == 43 || pc == 51 || pc == 112 || pc == 143 || pc == 165 || pc == 198) 4000 ?_
      simp only [mj_step, mj_W_s, mj_fin, List.getElem?_cons_zero, List.getElem?_cons_succ, mj_go, Nat.reduceAdd, Nat.reduceSub, Nat.reduceLT, Nat.reduceLeDiff, Nat.zero_add, Nat.reduceEqDiff, Nat.reduceBEq, ↓reduceIte, Bool.false_eq_true, List.append_nil, List.nil_append, List.cons_append, Option.toList, and_true, true_and, true_or, or_true, reduceCtorEq, List.map_nil, bI_eq0, bI_eq1, bool_ft, pk_us, vnar0, vnar1, Bool.or_false, Bool.or_true, Bool.false_or, Bool.true_or, mj_kne, eq_self, Int32.reduceLT, Int32.reduceLE, Int32.reduceAdd, Int32.reduceSub, Int32.reduceMul, not_true_eq_false, not_false_eq_true, false_implies, true_implies, D_X12_sendAll_0, D_X12_sendAll_1, D_X12_sendAll_2, mj_F_aload_n_k, mj_F_dup2, mj_F_getfield_i, mj_F_goto_off, mj_F_iaload, mj_F_iastore, mj_F_iconst_n, mj_F_ifCond_eq_off, mj_F_ifCond_le_off, mj_F_ifCond_lt_off, mj_F_if_icmp_eq_off, mj_F_if_icmp_ge_off, mj_F_if_icmp_gt_off, mj_F_iinc_k_n, mj_F_iload_k, mj_F_iload_n_k, mj_F_invokestatic_i, mj_F_invokevirtual_i, mj_F_istore_k, mj_F_istore_n_k, mj_F_isub, mj_F_return_, mj_set, mj_set0, mj_unk, mj_c2, mj_kc, FT_X12, FT_X12_1, L_X12_sendAll, List.take_succ_cons, List.take_zero, List.drop_succ_cons, List.drop_zero, List.reverse_cons, List.reverse_nil, List.length_cons, List.length_nil, gS_M0, gMf_23, gMf_74, gS_M58, sS_Ma_58, gMf_75, gMf_73, gS_M57, sS_Ma_57, gMf_72, gS_M56, sS_Ma_56, gMf_68, gS_M52, sS_Ma_52, gMf_71, gS_M55, sS_Ma_55, c_yearOf_eq, J_X12_sendAll]
      refine ⟨fun c => ?_, fun c => ?_⟩
      · replace hw := ok_t hw c
        refine ⟨(ok_rd hw).1, ?_⟩
        replace hw := (ok_rd hw).2
        refine ⟨(ok_wr hw).1, ?_⟩
        replace hw := (ok_wr hw).2
        exact hG.2 _ _ _ _ _ _ _ _ _ (by refine ⟨Or.inr rfl, ?_⟩; refine ⟨Or.inr rfl, ?_⟩; refine ⟨Or.inr rfl, ?_⟩; refine ⟨Or.inr rfl, ?_⟩; refine ⟨Or.inr rfl, ?_⟩; refine ⟨Or.inr rfl, ?_⟩; exact trivial) (Nat.zero_le _) (Nat.zero_le _) (hP _ (ok_some hw :) :)
      · replace hw := ok_f hw c
        refine ⟨(ok_wr hw).1, ?_⟩
        replace hw := (ok_wr hw).2
        exact hG.2 _ _ _ _ _ _ _ _ _ (by refine ⟨Or.inr rfl, ?_⟩; refine ⟨Or.inr rfl, ?_⟩; refine ⟨Or.inr rfl, ?_⟩; refine ⟨Or.inr rfl, ?_⟩; refine ⟨Or.inr rfl, ?_⟩; refine ⟨Or.inr rfl, ?_⟩; exact trivial) (Nat.zero_le _) (Nat.zero_le _) (hP _ (ok_some hw :) :)

set_option maxHeartbeats 4000000 in
set_option maxRecDepth 20000 in
theorem g_X12_sendAll_165 {k : Option Value → mj_H → Prop} {G : mj_K} (hG : mj_cl2 cX12_sendAll (TbX12 6 (none) ct_X12_sendAll) k G) {v1 : Int32} {v2 : Int32} {v3 : Int32} {P : Int32 × St → Prop} {K : (St) → Prop} (hP : ∀ x, P x → G 51 [.ref 0, .int v1, .int v2, .int v3, .int x.1] [] (mkMs x.2) 0 0) (hK0 : ∀ y, K y → G 198 [] [] (mkMs y) 0 0) {v4 : Int32} {s : St} (hw : ok (F_X12_sendAll_165 v1 v2 v3 v4 s) (Sum.elim P K)) : G 165 [.ref 0, .int v1, .int v2, .int v3, .int v4] [] (mkMs s) 0 0 := by
  unfold F_X12_sendAll_165 at hw
  refine mj_run hG.1 (fun pc => pc == 2 || pc == 22 || pc == 32 || pc == 43 || pc == 51 || pc == 112 || pc == 143 || pc == 165 || pc == 198) 4000 ?_
  simp only [mj_step, mj_W_s, mj_fin, List.getElem?_cons_zero, List.getElem?_cons_succ, mj_go, Nat.reduceAdd, Nat.reduceSub, Nat.reduceLT, Nat.reduceLeDiff, Nat.zero_add, Nat.reduceEqDiff, Nat.reduceBEq, ↓reduceIte, Bool.false_eq_true, List.append_nil, List.nil_append, List.cons_append, Option.toList, and_true, true_and, true_or, or_true, reduceCtorEq, List.map_nil, bI_eq0, bI_eq1, bool_ft, pk_us, vnar0, vnar1, Bool.or_false, Bool.or_true, Bool.false_or, Bool.true_or, mj_kne, eq_self, Int32.reduceLT, Int32.reduceLE, Int32.reduceAdd, Int32.reduceSub, Int32.reduceMul, not_true_eq_false, not_false_eq_true, false_implies, true_implies, D_X12_sendAll_0, D_X12_sendAll_1, D_X12_sendAll_2, mj_F_aload_n_k, mj_F_dup2, mj_F_getfield_i, mj_F_goto_off, mj_F_iaload, mj_F_iastore, mj_F_iconst_n, mj_F_ifCond_eq_off, mj_F_ifCond_le_off, mj_F_ifCond_lt_off, mj_F_if_icmp_eq_off, mj_F_if_icmp_ge_off, mj_F_if_icmp_gt_off, mj_F_iinc_k_n, mj_F_iload_k, mj_F_iload_n_k, mj_F_invokestatic_i, mj_F_invokevirtual_i, mj_F_istore_k, mj_F_istore_n_k, mj_F_isub, mj_F_return_, mj_set, mj_set0, mj_unk, mj_c2, mj_kc, FT_X12, FT_X12_1, L_X12_sendAll, List.take_succ_cons, List.take_zero, List.drop_succ_cons, List.drop_zero, List.reverse_cons, List.reverse_nil, List.length_cons, List.length_nil, gS_M0, gMf_23, gMf_74, gS_M58, sS_Ma_58, gMf_75, gMf_73, gS_M57, sS_Ma_57, gMf_72, gS_M56, sS_Ma_56, gMf_68, gS_M52, sS_Ma_52, gMf_71, gS_M55, sS_Ma_55, c_yearOf_eq, J_X12_sendAll]
  refine ⟨(ok_rd hw).1, ?_⟩
  replace hw := (ok_rd hw).2
  refine ⟨fun c => ?_, fun c => ?_⟩
  · replace hw := ok_t hw c
    exact hG.2 _ _ _ _ _ _ _ _ _ (by refine ⟨Or.inr rfl, ?_⟩; refine ⟨Or.inr rfl, ?_⟩; refine ⟨Or.inr rfl, ?_⟩; refine ⟨Or.inr rfl, ?_⟩; refine ⟨Or.inr rfl, ?_⟩; exact trivial) (Nat.zero_le _) (Nat.zero_le _) (hP _ (ok_some hw :) :)
  · replace hw := ok_f hw c
    refine ⟨(ok_rd hw).1, ?_⟩
    replace hw := (ok_rd hw).2
    refine ⟨(ok_rd hw).1, ?_⟩
    replace hw := (ok_rd hw).2
    refine ⟨(ok_wr hw).1, ?_⟩
    replace hw := (ok_wr hw).2
    exact hG.2 _ _ _ _ _ _ _ _ _ (by refine ⟨Or.inr rfl, ?_⟩; refine ⟨Or.inr rfl, ?_⟩; refine ⟨Or.inr rfl, ?_⟩; refine ⟨Or.inr rfl, ?_⟩; refine ⟨Or.inr rfl, ?_⟩; exact trivial) (Nat.zero_le _) (Nat.zero_le _) (hP _ (ok_some hw :) :)

set_option maxHeartbeats 4000000 in
theorem g_X12_sendAll_112 {k : Option Value → mj_H → Prop} {G : mj_K} (hG : mj_cl2 cX12_sendAll (TbX12 6 (none) ct_X12_sendAll) k G) {v1 : Int32} {v2 : Int32} {v3 : Int32} {P : Int32 × St → Prop} {K : (St) → Prop} (hP : ∀ x, P x → G 51 [.ref 0, .int v1, .int v2, .int v3, .int x.1] [] (mkMs x.2) 0 0) (hK0 : ∀ y, K y → G 198 [] [] (mkMs y) 0 0) {v4 : Int32} {v5 : Int32} {s : St} (hw : ok (F_X12_sendAll_112 v1 v2 v3 v4 v5 s) (Sum.elim P K)) : G 112 [.ref 0, .int v1, .int v2, .int v3, .int v4, .int v5] [] (mkMs s) 0 0 := by
  unfold F_X12_sendAll_112 at hw
  refine lp_ok (B_X12_sendAll_112 v1 v2 v3 v4) (fun x => G 112 [.ref 0, .int v1, .int v2, .int v3, .int v4, .int x.1] [] (mkMs x.2) 0 0) _ ?_ _ _ (ok_bind hw)
  rintro ⟨v5, s⟩ hb
  exact b_X12_sendAll_112 hG (fun _ z => z) (fun y hw => by exact hG.2 _ _ _ _ _ _ _ _ _ (by refine ⟨Or.inr rfl, ?_⟩; refine ⟨Or.inr rfl, ?_⟩; refine ⟨Or.inr rfl, ?_⟩; refine ⟨Or.inr rfl, ?_⟩; refine ⟨Or.inr rfl, ?_⟩; exact trivial) (Nat.zero_le _) (Nat.zero_le _) (g_X12_sendAll_165 hG hP hK0  hw :)) hb

set_option maxHeartbeats 4000000 in
set_option maxRecDepth 20000 in
theorem b_X12_sendAll_51 {k : Option Value → mj_H → Prop} {G : mj_K} (hG : mj_cl2 cX12_sendAll (TbX12 6 (none) ct_X12_sendAll) k G) {v1 : Int32} {v2 : Int32} {v3 : Int32} {P : Int32 × St → Prop} {K : (St) → Prop} (hP : ∀ x, P x → G 51 [.ref 0, .int v1, .int v2, .int v3, .int x.1] [] (mkMs x.2) 0 0) (hK0 : ∀ y, K y → G 198 [] [] (mkMs y) 0 0) {v4 : Int32} {s : St} (hw : ok (B_X12_sendAll_51 v1 v2 v3 (v4, s)) (Sum.elim P K)) : G 51 [.ref 0, .int v1, .int v2, .int v3, .int v4] [] (mkMs s) 0 0 := by
  unfold B_X12_sendAll_51 at hw
  refine mj_run hG.1 (fun pc => pc == 2 || pc == 22 || pc == 32 || pc == 43 || pc == 51 || pc == 112 || pc == 143 || pc == 165 || pc == 198) 4000 ?_
  simp only [mj_step, mj_W_s, mj_fin, List.getElem?_cons_zero, List.getElem?_cons_succ, mj_go, Nat.reduceAdd, Nat.reduceSub, Nat.reduceLT, Nat.reduceLeDiff, Nat.zero_add, Nat.reduceEqDiff, Nat.reduceBEq, ↓reduceIte, Bool.false_eq_true, List.append_nil, List.nil_append, List.cons_append, Option.toList, and_true, true_and, true_or, or_true, reduceCtorEq, List.map_nil, bI_eq0, bI_eq1, bool_ft, pk_us, vnar0, vnar1, Bool.or_false, Bool.or_true, Bool.false_or, Bool.true_or, mj_kne, eq_self, Int32.reduceLT, Int32.reduceLE, Int32.reduceAdd, Int32.reduceSub, Int32.reduceMul, not_true_eq_false, not_false_eq_true, false_implies, true_implies, D_X12_sendAll_0, D_X12_sendAll_1, D_X12_sendAll_2, mj_F_aload_n_k, mj_F_dup2, mj_F_getfield_i, mj_F_goto_off, mj_F_iaload, mj_F_iastore, mj_F_iconst_n, mj_F_ifCond_eq_off, mj_F_ifCond_le_off, mj_F_ifCond_lt_off, mj_F_if_icmp_eq_off, mj_F_if_icmp_ge_off, mj_F_if_icmp_gt_off, mj_F_iinc_k_n, mj_F_iload_k, mj_F_iload_n_k, mj_F_invokestatic_i, mj_F_invokevirtual_i, mj_F_istore_k, mj_F_istore_n_k, mj_F_isub, mj_F_return_, mj_set, mj_set0, mj_unk, mj_c2, mj_kc, FT_X12, FT_X12_1, L_X12_sendAll, List.take_succ_cons, List.take_zero, List.drop_succ_cons, List.drop_zero, List.reverse_cons, List.reverse_nil, List.length_cons, List.length_nil, gS_M0, gMf_23, gMf_74, gS_M58, sS_Ma_58, gMf_75, gMf_73, gS_M57, sS_Ma_57, gMf_72, gS_M56, sS_Ma_56, gMf_68, gS_M52, sS_Ma_52, gMf_71, gS_M55, sS_Ma_55, c_yearOf_eq, J_X12_sendAll]
  refine ⟨fun c => ?_, fun c => ?_⟩
  · replace hw := ok_t hw c
    exact hG.2 _ _ _ _ _ _ _ _ _ (by exact trivial) (Nat.zero_le _) (Nat.zero_le _) (hK0 _ (ok_some hw :) :)
  · replace hw := ok_f hw c
    refine ⟨(ok_wr hw).1, ?_⟩
    replace hw := (ok_wr hw).2
    refine ⟨(ok_rd hw).1, ?_⟩
    replace hw := (ok_rd hw).2
    refine ⟨fun c => ?_, fun c => ?_⟩
    · replace hw := ok_t hw c
      exact hG.2 _ _ _ _ _ _ _ _ _ (by refine ⟨Or.inr rfl, ?_⟩; refine ⟨Or.inr rfl, ?_⟩; refine ⟨Or.inr rfl, ?_⟩; refine ⟨Or.inr rfl, ?_⟩; refine ⟨Or.inr rfl, ?_⟩; exact trivial) (Nat.zero_le _) (Nat.zero_le _) (hP _ (ok_some hw :) :)
    · replace hw := ok_f hw c
      refine ⟨(ok_rd hw).1, ?_⟩
      replace hw := (ok_rd hw).2
      refine ⟨fun c => ?_, fun c => ?_⟩
      · replace hw := ok_t hw c
        exact hG.2 _ _ _ _ _ _ _ _ _ (by refine ⟨Or.inr rfl, ?_⟩; refine ⟨Or.inr rfl, ?_⟩; refine ⟨Or.inr rfl, ?_⟩; refine ⟨Or.inr rfl, ?_⟩; refine ⟨Or.inr rfl, ?_⟩; exact trivial) (Nat.zero_le _) (Nat.zero_le _) (hP _ (ok_some hw :) :)
      · replace hw := ok_f hw c
        refine ⟨(ok_rd hw).1, ?_⟩
        replace hw := (ok_rd hw).2
        refine ⟨fun c => ?_, fun c => ?_⟩
        · replace hw := ok_t hw c
          exact hG.2 _ _ _ _ _ _ _ _ _ (by refine ⟨Or.inr rfl, ?_⟩; refine ⟨Or.inr rfl, ?_⟩; refine ⟨Or.inr rfl, ?_⟩; refine ⟨Or.inr rfl, ?_⟩; refine ⟨Or.inr rfl, ?_⟩; refine ⟨Or.inr rfl, ?_⟩; exact trivial) (Nat.zero_le _) (Nat.zero_le _) (g_X12_sendAll_112 hG hP hK0  hw :)
        · replace hw := ok_f hw c
          exact hG.2 _ _ _ _ _ _ _ _ _ (by refine ⟨Or.inr rfl, ?_⟩; refine ⟨Or.inr rfl, ?_⟩; refine ⟨Or.inr rfl, ?_⟩; refine ⟨Or.inr rfl, ?_⟩; refine ⟨Or.inr rfl, ?_⟩; exact trivial) (Nat.zero_le _) (Nat.zero_le _) (hP _ (ok_some hw :) :)

set_option maxHeartbeats 4000000 in
set_option maxRecDepth 20000 in
theorem g_X12_sendAll_198 {k : Option Value → mj_H → Prop} {G : mj_K} (hG : mj_cl2 cX12_sendAll (TbX12 6 (none) ct_X12_sendAll) k G)   {s : St} (hw : ok (F_X12_sendAll_198 s) (fun p => k none (mkMs p))) : G 198 [] [] (mkMs s) 0 0 := by
  unfold F_X12_sendAll_198 at hw
  refine mj_run hG.1 (fun pc => pc == 2 || pc == 22 || pc == 32 || pc == 43 || pc == 51 || pc == 112 || pc == 143 || pc == 165 || pc == 198) 4000 ?_
  simp only [mj_step, mj_W_s, mj_fin, List.getElem?_cons_zero, List.getElem?_cons_succ, mj_go, Nat.reduceAdd, Nat.reduceSub, Nat.reduceLT, Nat.reduceLeDiff, Nat.zero_add, Nat.reduceEqDiff, Nat.reduceBEq, ↓reduceIte, Bool.false_eq_true, List.append_nil, List.nil_append, List.cons_append, Option.toList, and_true, true_and, true_or, or_true, reduceCtorEq, List.map_nil, bI_eq0, bI_eq1, bool_ft, pk_us, vnar0, vnar1, Bool.or_false, Bool.or_true, Bool.false_or, Bool.true_or, mj_kne, eq_self, Int32.reduceLT, Int32.reduceLE, Int32.reduceAdd, Int32.reduceSub, Int32.reduceMul, not_true_eq_false, not_false_eq_true, false_implies, true_implies, D_X12_sendAll_0, D_X12_sendAll_1, D_X12_sendAll_2, mj_F_aload_n_k, mj_F_dup2, mj_F_getfield_i, mj_F_goto_off, mj_F_iaload, mj_F_iastore, mj_F_iconst_n, mj_F_ifCond_eq_off, mj_F_ifCond_le_off, mj_F_ifCond_lt_off, mj_F_if_icmp_eq_off, mj_F_if_icmp_ge_off, mj_F_if_icmp_gt_off, mj_F_iinc_k_n, mj_F_iload_k, mj_F_iload_n_k, mj_F_invokestatic_i, mj_F_invokevirtual_i, mj_F_istore_k, mj_F_istore_n_k, mj_F_isub, mj_F_return_, mj_set, mj_set0, mj_unk, mj_c2, mj_kc, FT_X12, FT_X12_1, L_X12_sendAll, List.take_succ_cons, List.take_zero, List.drop_succ_cons, List.drop_zero, List.reverse_cons, List.reverse_nil, List.length_cons, List.length_nil, gS_M0, gMf_23, gMf_74, gS_M58, sS_Ma_58, gMf_75, gMf_73, gS_M57, sS_Ma_57, gMf_72, gS_M56, sS_Ma_56, gMf_68, gS_M52, sS_Ma_52, gMf_71, gS_M55, sS_Ma_55, c_yearOf_eq, J_X12_sendAll]
  exact (ok_some hw :)

set_option maxHeartbeats 4000000 in
theorem g_X12_sendAll_51 {k : Option Value → mj_H → Prop} {G : mj_K} (hG : mj_cl2 cX12_sendAll (TbX12 6 (none) ct_X12_sendAll) k G)   {v1 : Int32} {v2 : Int32} {v3 : Int32} {v4 : Int32} {s : St} (hw : ok (F_X12_sendAll_51 v1 v2 v3 v4 s) (fun p => k none (mkMs p))) : G 51 [.ref 0, .int v1, .int v2, .int v3, .int v4] [] (mkMs s) 0 0 := by
  unfold F_X12_sendAll_51 at hw
  refine lp_ok (B_X12_sendAll_51 v1 v2 v3) (fun x => G 51 [.ref 0, .int v1, .int v2, .int v3, .int x.1] [] (mkMs x.2) 0 0) _ ?_ _ _ (ok_bind hw)
  rintro ⟨v4, s⟩ hb
  exact b_X12_sendAll_51 hG (fun _ z => z) (fun y hw => by exact hG.2 _ _ _ _ _ _ _ _ _ (by exact trivial) (Nat.zero_le _) (Nat.zero_le _) (g_X12_sendAll_198 hG  hw :)) hb

set_option maxHeartbeats 4000000 in
set_option maxRecDepth 20000 in
theorem g_X12_sendAll_43 {k : Option Value → mj_H → Prop} {G : mj_K} (hG : mj_cl2 cX12_sendAll (TbX12 6 (none) ct_X12_sendAll) k G)   {v1 : Int32} {v2 : Int32} {s : St} (hw : ok (F_X12_sendAll_43 v1 v2 s) (fun p => k none (mkMs p))) : G 43 [.ref 0, .int v1, .int v2] [] (mkMs s) 0 0 := by
  unfold F_X12_sendAll_43 at hw
  refine mj_run hG.1 (fun pc => pc == 2 || pc == 22 || pc == 32 || pc == 43 || pc == 51 || pc == 112 || pc == 143 || pc == 165 || pc == 198) 4000 ?_
  simp only [mj_step, mj_W_s, mj_fin, List.getElem?_cons_zero, List.getElem?_cons_succ, mj_go, Nat.reduceAdd, Nat.reduceSub, Nat.reduceLT, Nat.reduceLeDiff, Nat.zero_add, Nat.reduceEqDiff, Nat.reduceBEq, ↓reduceIte, Bool.false_eq_true, List.append_nil, List.nil_append, List.cons_append, Option.toList, and_true, true_and, true_or, or_true, reduceCtorEq, List.map_nil, bI_eq0, bI_eq1, bool_ft, pk_us, vnar0, vnar1, Bool.or_false, Bool.or_true, Bool.false_or, Bool.true_or, mj_kne, eq_self, Int32.reduceLT, Int32.reduceLE, Int32.reduceAdd, Int32.reduceSub, Int32.reduceMul, not_true_eq_false, not_false_eq_true, false_implies, true_implies, D_X12_sendAll_0, D_X12_sendAll_1, D_X12_sendAll_2, mj_F_aload_n_k, mj_F_dup2, mj_F_getfield_i, mj_F_goto_off, mj_F_iaload, mj_F_iastore, mj_F_iconst_n, mj_F_ifCond_eq_off, mj_F_ifCond_le_off, mj_F_ifCond_lt_off, mj_F_if_icmp_eq_off, mj_F_if_icmp_ge_off, mj_F_if_icmp_gt_off, mj_F_iinc_k_n, mj_F_iload_k, mj_F_iload_n_k, mj_F_invokestatic_i, mj_F_invokevirtual_i, mj_F_istore_k, mj_F_istore_n_k, mj_F_isub, mj_F_return_, mj_set, mj_set0, mj_unk, mj_c2, mj_kc, FT_X12, FT_X12_1, L_X12_sendAll, List.take_succ_cons, List.take_zero, List.drop_succ_cons, List.drop_zero, List.reverse_cons, List.reverse_nil, List.length_cons, List.length_nil, gS_M0, gMf_23, gMf_74, gS_M58, sS_Ma_58, gMf_75, gMf_73, gS_M57, sS_Ma_57, gMf_72, gS_M56, sS_Ma_56, gMf_68, gS_M52, sS_Ma_52, gMf_71, gS_M55, sS_Ma_55, c_yearOf_eq, J_X12_sendAll]
  exact hG.2 _ _ _ _ _ _ _ _ _ (by refine ⟨Or.inr rfl, ?_⟩; refine ⟨Or.inr rfl, ?_⟩; refine ⟨Or.inr rfl, ?_⟩; refine ⟨Or.inr rfl, ?_⟩; refine ⟨Or.inr rfl, ?_⟩; exact trivial) (Nat.zero_le _) (Nat.zero_le _) (g_X12_sendAll_51 hG  hw :)

set_option maxHeartbeats 4000000 in
theorem g_X12_sendAll_2 {k : Option Value → mj_H → Prop} {G : mj_K} (hG : mj_cl2 cX12_sendAll (TbX12 6 (none) ct_X12_sendAll) k G)   {v1 : Int32} {v2 : Int32} {v3 : Int32} {s : St} (hw : ok (F_X12_sendAll_2 v1 v2 v3 s) (fun p => k none (mkMs p))) : G 2 [.ref 0, .int v1, .int v2, .int v3] [] (mkMs s) 0 0 := by
  unfold F_X12_sendAll_2 at hw
  refine lp_ok (B_X12_sendAll_2 v1 v2) (fun x => G 2 [.ref 0, .int v1, .int v2, .int x.1] [] (mkMs x.2) 0 0) _ ?_ _ _ (ok_bind hw)
  rintro ⟨v3, s⟩ hb
  exact b_X12_sendAll_2 hG (fun _ z => z) (fun y hw => by exact hG.2 _ _ _ _ _ _ _ _ _ (by refine ⟨Or.inr rfl, ?_⟩; refine ⟨Or.inr rfl, ?_⟩; refine ⟨Or.inr rfl, ?_⟩; exact trivial) (Nat.zero_le _) (Nat.zero_le _) (g_X12_sendAll_43 hG  hw :)) hb

set_option maxHeartbeats 4000000 in
set_option maxRecDepth 20000 in
theorem g_X12_sendAll {k : Option Value → mj_H → Prop} {G : mj_K} (hG : mj_cl2 cX12_sendAll (TbX12 6 (none) ct_X12_sendAll) k G) {v1 : Int32} {v2 : Int32} {s : St} (hw : ok (F_X12_sendAll v1 v2 s) (fun p => k none (mkMs p))) : G 0 [.ref 0, .int v1, .int v2] [] (mkMs s) 0 0 := by
  unfold F_X12_sendAll at hw
  refine mj_run hG.1 (fun pc => pc == 2 || pc == 22 || pc == 32 || pc == 43 || pc == 51 || pc == 112 || pc == 143 || pc == 165 || pc == 198) 4000 ?_
  simp only [mj_step, mj_W_s, mj_fin, List.getElem?_cons_zero, List.getElem?_cons_succ, mj_go, Nat.reduceAdd, Nat.reduceSub, Nat.reduceLT, Nat.reduceLeDiff, Nat.zero_add, Nat.reduceEqDiff, Nat.reduceBEq, ↓reduceIte, Bool.false_eq_true, List.append_nil, List.nil_append, List.cons_append, Option.toList, and_true, true_and, true_or, or_true, reduceCtorEq, List.map_nil, bI_eq0, bI_eq1, bool_ft, pk_us, vnar0, vnar1, Bool.or_false, Bool.or_true, Bool.false_or, Bool.true_or, mj_kne, eq_self, Int32.reduceLT, Int32.reduceLE, Int32.reduceAdd, Int32.reduceSub, Int32.reduceMul, not_true_eq_false, not_false_eq_true, false_implies, true_implies, D_X12_sendAll_0, D_X12_sendAll_1, D_X12_sendAll_2, mj_F_aload_n_k, mj_F_dup2, mj_F_getfield_i, mj_F_goto_off, mj_F_iaload, mj_F_iastore, mj_F_iconst_n, mj_F_ifCond_eq_off, mj_F_ifCond_le_off, mj_F_ifCond_lt_off, mj_F_if_icmp_eq_off, mj_F_if_icmp_ge_off, mj_F_if_icmp_gt_off, mj_F_iinc_k_n, mj_F_iload_k, mj_F_iload_n_k, mj_F_invokestatic_i, mj_F_invokevirtual_i, mj_F_istore_k, mj_F_istore_n_k, mj_F_isub, mj_F_return_, mj_set, mj_set0, mj_unk, mj_c2, mj_kc, FT_X12, FT_X12_1, L_X12_sendAll, List.take_succ_cons, List.take_zero, List.drop_succ_cons, List.drop_zero, List.reverse_cons, List.reverse_nil, List.length_cons, List.length_nil, gS_M0, gMf_23, gMf_74, gS_M58, sS_Ma_58, gMf_75, gMf_73, gS_M57, sS_Ma_57, gMf_72, gS_M56, sS_Ma_56, gMf_68, gS_M52, sS_Ma_52, gMf_71, gS_M55, sS_Ma_55, c_yearOf_eq, J_X12_sendAll]
  exact hG.2 _ _ _ _ _ _ _ _ _ (by refine ⟨Or.inr rfl, ?_⟩; refine ⟨Or.inr rfl, ?_⟩; refine ⟨Or.inr rfl, ?_⟩; refine ⟨Or.inr rfl, ?_⟩; exact trivial) (Nat.zero_le _) (Nat.zero_le _) (g_X12_sendAll_2 hG  hw :)

def c_X12_sendAll : mj_S := fun as h k => ∃ (v1 : Int32) (v2 : Int32) (s : St), as = [.ref 0, .int v1, .int v2] ∧ h = mkMs s ∧ ok (F_X12_sendAll v1 v2 s) (fun p => k none (mkMs p))
theorem c_X12_sendAll_in {v1 : Int32} {v2 : Int32} {s : St} {k : Option Value → mj_H → Prop} (hw : ok (F_X12_sendAll v1 v2 s) (fun p => k none (mkMs p))) : c_X12_sendAll [.ref 0, .int v1, .int v2] (mkMs s) k := ⟨v1, v2, s, rfl, rfl, hw⟩
theorem m_X12_sendAll (l : Launch) : mj_Met l yX12_sendAll cX12_sendAll 6 (none) 8 0 0 c_X12_sendAll := by
  refine mj_body2 false (TbX12 6 (none) ct_X12_sendAll) (by decide) rfl rfl (fun h => nomatch h) (tfX12 _ (List.forall_mem_cons.mpr ⟨cfX12_444 (m_X12_yearOf l) (by decide), List.forall_mem_cons.mpr ⟨cfX12_451 (m_X12_isOpen l) (by decide), List.forall_mem_cons.mpr ⟨cfX12_454 (m_X12_classesOf l) (by decide), List.forall_mem_cons.mpr ⟨cfX12_534 (m_X12_mayTeach l) (by decide), fun _ h => nomatch h⟩⟩⟩⟩)) ?_
  rintro as h k ⟨v1, v2, s, rfl, rfl, hw⟩
  exact ⟨rfl, fun G hG => g_X12_sendAll hG hw⟩
def F_X12_sent (v1 : Int32) (v2 : Int32) (v3 : Int32) (s : St) : Option (Int32 × St) :=
  if inb v1 0 ((s.1 1275) - 1) = false then
    some ((-1), s)
  else
    (F_X12_isWeek v2 s).bind fun r1 =>
    if r1 = 0 then
      some ((-1), s)
    else
      (F_X12_isKnowing v3 s).bind fun r2 =>
      if r2 = 0 then
        some ((-1), s)
      else
        (F_X12_sendAll v2 v3 s).bind fun s3 =>
        (rd s3 1273 40 v1).bind fun x4 =>
        some (x4, s3)
theorem J_X12_sent : mj_t 11 19 = 30 ∧ mj_t 19 11 = 30 ∧ mj_t 27 5 = 32 ∧ (0 ≤ ((11 : Nat) : Int) + 19) = True ∧ (0 ≤ ((19 : Nat) : Int) + 11) = True ∧ (0 ≤ ((27 : Nat) : Int) + 5) = True := by and_intros <;> first | rfl | exact eq_true (by decide)
def ct_X12_sent : List (Nat × mj_Cs) := [(243, 2, 3, 12, 0, 0, c_in), (287, 0, 2, 12, 0, 0, c_X12_isKnowing), (457, 0, 2, 12, 0, 0, c_X12_isWeek), (537, 0, 3, 12, 0, 0, c_X12_sendAll)]
theorem L_X12_sent : mj_lk ct_X12_sent 243 = some (2, 3, 12, 0, 0, c_in) ∧ mj_lk ct_X12_sent 287 = some (0, 2, 12, 0, 0, c_X12_isKnowing) ∧ mj_lk ct_X12_sent 457 = some (0, 2, 12, 0, 0, c_X12_isWeek) ∧ mj_lk ct_X12_sent 537 = some (0, 3, 12, 0, 0, c_X12_sendAll) := ⟨rfl, rfl, rfl, rfl⟩
set_option maxHeartbeats 4000000 in
set_option maxRecDepth 20000 in
theorem g_X12_sent {k : Option Value → mj_H → Prop} {G : mj_K} (hG : mj_cl2 cX12_sent (TbX12 4 ((some FieldType.int)) ct_X12_sent) k G) {v1 : Int32} {v2 : Int32} {v3 : Int32} {s : St} (hw : ok (F_X12_sent v1 v2 v3 s) (fun p => k (some (.int p.1)) (mkMs p.2))) : G 0 [.ref 0, .int v1, .int v2, .int v3] [] (mkMs s) 0 0 := by
  unfold F_X12_sent at hw
  refine mj_run hG.1 (fun pc => pc == 19 || pc == 27 || pc == 38) 4000 ?_
  simp only [mj_step, mj_W_s, mj_fin, List.getElem?_cons_zero, List.getElem?_cons_succ, mj_go, Nat.reduceAdd, Nat.reduceSub, Nat.reduceLT, Nat.reduceLeDiff, Nat.zero_add, Nat.reduceEqDiff, Nat.reduceBEq, ↓reduceIte, Bool.false_eq_true, List.append_nil, List.nil_append, List.cons_append, Option.toList, and_true, true_and, true_or, or_true, reduceCtorEq, List.map_nil, bI_eq0, bI_eq1, bool_ft, pk_us, vnar0, vnar1, Bool.or_false, Bool.or_true, Bool.false_or, Bool.true_or, mj_kne, eq_self, Int32.reduceLT, Int32.reduceLE, Int32.reduceAdd, Int32.reduceSub, Int32.reduceMul, not_true_eq_false, not_false_eq_true, false_implies, true_implies, D_X12_sent, mj_F_aload_n_k, mj_F_getfield_i, mj_F_iaload, mj_F_iconst_n, mj_F_ifCond_eq_off, mj_F_ifCond_ne_off, mj_F_iload_n_k, mj_F_invokestatic_i, mj_F_invokevirtual_i, mj_F_ireturn, mj_F_isub, mj_kc, FT_X12, FT_X12_1, L_X12_sent, List.take_succ_cons, List.take_zero, List.drop_succ_cons, List.drop_zero, List.reverse_cons, List.reverse_nil, List.length_cons, List.length_nil, gS_M0, gMf_75, gMf_73, gS_M57, sS_Ma_57, c_in_eq, J_X12_sent]
  refine ⟨fun c => ?_, fun c => ?_⟩
  · replace hw := ok_t hw c
    exact (ok_some hw :)
  · replace hw := ok_f hw c
    refine c_X12_isWeek_in (ok_imp (ok_bind hw) ?_)
    intro p hw
    simp only [Option.toList, List.nil_append, List.cons_append, Nat.reduceSub]
    refine mj_run hG.1 (fun pc => pc == 19 || pc == 27 || pc == 38) 4000 ?_
    simp only [mj_step, mj_W_s, mj_fin, List.getElem?_cons_zero, List.getElem?_cons_succ, mj_go, Nat.reduceAdd, Nat.reduceSub, Nat.reduceLT, Nat.reduceLeDiff, Nat.zero_add, Nat.reduceEqDiff, Nat.reduceBEq, ↓reduceIte, Bool.false_eq_true, List.append_nil, List.nil_append, List.cons_append, Option.toList, and_true, true_and, true_or, or_true, reduceCtorEq, List.map_nil, bI_eq0, bI_eq1, bool_ft, pk_us, vnar0, vnar1, Bool.or_false, Bool.or_true, Bool.false_or, Bool.true_or, mj_kne, eq_self, Int32.reduceLT, Int32.reduceLE, Int32.reduceAdd, Int32.reduceSub, Int32.reduceMul, not_true_eq_false, not_false_eq_true, false_implies, true_implies, D_X12_sent, mj_F_aload_n_k, mj_F_getfield_i, mj_F_iaload, mj_F_iconst_n, mj_F_ifCond_eq_off, mj_F_ifCond_ne_off, mj_F_iload_n_k, mj_F_invokestatic_i, mj_F_invokevirtual_i, mj_F_ireturn, mj_F_isub, mj_kc, FT_X12, FT_X12_1, L_X12_sent, List.take_succ_cons, List.take_zero, List.drop_succ_cons, List.drop_zero, List.reverse_cons, List.reverse_nil, List.length_cons, List.length_nil, gS_M0, gMf_75, gMf_73, gS_M57, sS_Ma_57, c_in_eq, J_X12_sent]
    refine ⟨fun c => ?_, fun c => ?_⟩
    · replace hw := ok_t hw c
      exact (ok_some hw :)
    · replace hw := ok_f hw c
      refine c_X12_isKnowing_in (ok_imp (ok_bind hw) ?_)
      intro p hw
      simp only [Option.toList, List.nil_append, List.cons_append, Nat.reduceSub]
      refine mj_run hG.1 (fun pc => pc == 19 || pc == 27 || pc == 38) 4000 ?_
      simp only [mj_step, mj_W_s, mj_fin, List.getElem?_cons_zero, List.getElem?_cons_succ, mj_go, Nat.reduceAdd, Nat.reduceSub, Nat.reduceLT, Nat.reduceLeDiff, Nat.zero_add, Nat.reduceEqDiff, Nat.reduceBEq, ↓reduceIte, Bool.false_eq_true, List.append_nil, List.nil_append, List.cons_append, Option.toList, and_true, true_and, true_or, or_true, reduceCtorEq, List.map_nil, bI_eq0, bI_eq1, bool_ft, pk_us, vnar0, vnar1, Bool.or_false, Bool.or_true, Bool.false_or, Bool.true_or, mj_kne, eq_self, Int32.reduceLT, Int32.reduceLE, Int32.reduceAdd, Int32.reduceSub, Int32.reduceMul, not_true_eq_false, not_false_eq_true, false_implies, true_implies, D_X12_sent, mj_F_aload_n_k, mj_F_getfield_i, mj_F_iaload, mj_F_iconst_n, mj_F_ifCond_eq_off, mj_F_ifCond_ne_off, mj_F_iload_n_k, mj_F_invokestatic_i, mj_F_invokevirtual_i, mj_F_ireturn, mj_F_isub, mj_kc, FT_X12, FT_X12_1, L_X12_sent, List.take_succ_cons, List.take_zero, List.drop_succ_cons, List.drop_zero, List.reverse_cons, List.reverse_nil, List.length_cons, List.length_nil, gS_M0, gMf_75, gMf_73, gS_M57, sS_Ma_57, c_in_eq, J_X12_sent]
      refine ⟨fun c => ?_, fun c => ?_⟩
      · replace hw := ok_f hw c
        refine c_X12_sendAll_in (ok_imp (ok_bind hw) ?_)
        intro p hw
        simp only [Option.toList, List.nil_append, List.cons_append, Nat.reduceSub]
        refine mj_run hG.1 (fun pc => pc == 19 || pc == 27 || pc == 38) 4000 ?_
        simp only [mj_step, mj_W_s, mj_fin, List.getElem?_cons_zero, List.getElem?_cons_succ, mj_go, Nat.reduceAdd, Nat.reduceSub, Nat.reduceLT, Nat.reduceLeDiff, Nat.zero_add, Nat.reduceEqDiff, Nat.reduceBEq, ↓reduceIte, Bool.false_eq_true, List.append_nil, List.nil_append, List.cons_append, Option.toList, and_true, true_and, true_or, or_true, reduceCtorEq, List.map_nil, bI_eq0, bI_eq1, bool_ft, pk_us, vnar0, vnar1, Bool.or_false, Bool.or_true, Bool.false_or, Bool.true_or, mj_kne, eq_self, Int32.reduceLT, Int32.reduceLE, Int32.reduceAdd, Int32.reduceSub, Int32.reduceMul, not_true_eq_false, not_false_eq_true, false_implies, true_implies, D_X12_sent, mj_F_aload_n_k, mj_F_getfield_i, mj_F_iaload, mj_F_iconst_n, mj_F_ifCond_eq_off, mj_F_ifCond_ne_off, mj_F_iload_n_k, mj_F_invokestatic_i, mj_F_invokevirtual_i, mj_F_ireturn, mj_F_isub, mj_kc, FT_X12, FT_X12_1, L_X12_sent, List.take_succ_cons, List.take_zero, List.drop_succ_cons, List.drop_zero, List.reverse_cons, List.reverse_nil, List.length_cons, List.length_nil, gS_M0, gMf_75, gMf_73, gS_M57, sS_Ma_57, c_in_eq, J_X12_sent]
        refine ⟨(ok_rd hw).1, ?_⟩
        replace hw := (ok_rd hw).2
        exact (ok_some hw :)
      · replace hw := ok_t hw c
        exact (ok_some hw :)

def c_X12_sent : mj_S := fun as h k => ∃ (v1 : Int32) (v2 : Int32) (v3 : Int32) (s : St), as = [.ref 0, .int v1, .int v2, .int v3] ∧ h = mkMs s ∧ ok (F_X12_sent v1 v2 v3 s) (fun p => k (some (.int p.1)) (mkMs p.2))
theorem c_X12_sent_in {v1 : Int32} {v2 : Int32} {v3 : Int32} {s : St} {k : Option Value → mj_H → Prop} (hw : ok (F_X12_sent v1 v2 v3 s) (fun p => k (some (.int p.1)) (mkMs p.2))) : c_X12_sent [.ref 0, .int v1, .int v2, .int v3] (mkMs s) k := ⟨v1, v2, v3, s, rfl, rfl, hw⟩
theorem m_X12_sent (l : Launch) : mj_Met l yX12_sent cX12_sent 4 ((some FieldType.int)) 9 0 0 c_X12_sent := by
  refine mj_body2 false (TbX12 4 ((some FieldType.int)) ct_X12_sent) (by decide) rfl rfl (fun h => nomatch h) (tfX12 _ (List.forall_mem_cons.mpr ⟨cfX12_243 (m_X12_in l) (by decide), List.forall_mem_cons.mpr ⟨cfX12_287 (m_X12_isKnowing l) (by decide), List.forall_mem_cons.mpr ⟨cfX12_457 (m_X12_isWeek l) (by decide), List.forall_mem_cons.mpr ⟨cfX12_537 (m_X12_sendAll l) (by decide), fun _ h => nomatch h⟩⟩⟩⟩)) ?_
  rintro as h k ⟨v1, v2, v3, s, rfl, rfl, hw⟩
  exact ⟨rfl, fun G hG => g_X12_sent hG hw⟩
def B_X12_teacherless_43 (v1 : Int32) (s : St) : Int32 × Int32 → Option ((Int32 × Int32) ⊕ ((Int32)))
  | (v4, v5) =>
  if (s.1 1223) ≤ v5 then
    some (.inr v4)
  else
    if v1 = (-1) then
      (rd s 1274 20 v5).bind fun x8 =>
      some (.inl ((v4 + x8), (v5 + 1)))
    else
      if v1 = v5 then
        (rd s 1274 20 v5).bind fun x9 =>
        some (.inl ((v4 + x9), (v5 + 1)))
      else
        some (.inl ((v4 + 0), (v5 + 1)))
def F_X12_teacherless_85 (v4 : Int32) (s : St) : Option (Int32 × St) :=
  some (v4, s)
def F_X12_teacherless_43 (v1 : Int32) (v4 : Int32) (v5 : Int32) (s : St) : Option (Int32 × St) :=
  (lp (B_X12_teacherless_43 v1 s) FU (v4, v5)).bind (fun y => F_X12_teacherless_85 y s)
def F_X12_teacherless (v1 : Int32) (v2 : Int32) (v3 : Int32) (s : St) : Option (Int32 × St) :=
  if v1 = (-1) then
    (F_X12_isWeek v2 s).bind fun r1 =>
    if r1 = 0 then
      some ((-1), s)
    else
      (F_X12_isKnowing v3 s).bind fun r2 =>
      if r2 = 0 then
        some ((-1), s)
      else
        (F_X12_sendAll v2 v3 s).bind fun s3 =>
        F_X12_teacherless_43 v1 0 0 s3
  else
    (F_X12_isSchool v1 s).bind fun r4 =>
    if r4 = 0 then
      some ((-1), s)
    else
      (F_X12_isWeek v2 s).bind fun r5 =>
      if r5 = 0 then
        some ((-1), s)
      else
        (F_X12_isKnowing v3 s).bind fun r6 =>
        if r6 = 0 then
          some ((-1), s)
        else
          (F_X12_sendAll v2 v3 s).bind fun s7 =>
          F_X12_teacherless_43 v1 0 0 s7
theorem J_X12_teacherless : mj_t 2 11 = 13 ∧ mj_t 10 19 = 29 ∧ mj_t 18 11 = 29 ∧ mj_t 26 5 = 31 ∧ mj_t 49 36 = 85 ∧ mj_t 56 9 = 65 ∧ mj_t 62 13 = 75 ∧ mj_t 72 4 = 76 ∧ mj_t 82 (-39) = 43 ∧ (0 ≤ ((2 : Nat) : Int) + 11) = True ∧ (0 ≤ ((10 : Nat) : Int) + 19) = True ∧ (0 ≤ ((18 : Nat) : Int) + 11) = True ∧ (0 ≤ ((26 : Nat) : Int) + 5) = True ∧ (0 ≤ ((49 : Nat) : Int) + 36) = True ∧ (0 ≤ ((56 : Nat) : Int) + 9) = True ∧ (0 ≤ ((62 : Nat) : Int) + 13) = True ∧ (0 ≤ ((72 : Nat) : Int) + 4) = True ∧ (0 ≤ ((82 : Nat) : Int) + (-39)) = True := by and_intros <;> first | rfl | exact eq_true (by decide)
def ct_X12_teacherless : List (Nat × mj_Cs) := [(287, 0, 2, 12, 0, 0, c_X12_isKnowing), (293, 0, 2, 12, 0, 0, c_X12_isSchool), (457, 0, 2, 12, 0, 0, c_X12_isWeek), (537, 0, 3, 12, 0, 0, c_X12_sendAll)]
theorem L_X12_teacherless : mj_lk ct_X12_teacherless 287 = some (0, 2, 12, 0, 0, c_X12_isKnowing) ∧ mj_lk ct_X12_teacherless 293 = some (0, 2, 12, 0, 0, c_X12_isSchool) ∧ mj_lk ct_X12_teacherless 457 = some (0, 2, 12, 0, 0, c_X12_isWeek) ∧ mj_lk ct_X12_teacherless 537 = some (0, 3, 12, 0, 0, c_X12_sendAll) := ⟨rfl, rfl, rfl, rfl⟩
set_option maxHeartbeats 4000000 in
set_option maxRecDepth 20000 in
theorem b_X12_teacherless_43 {k : Option Value → mj_H → Prop} {G : mj_K} (hG : mj_cl2 cX12_teacherless (TbX12 6 ((some FieldType.int)) ct_X12_teacherless) k G) {v1 : Int32} {s : St} {P : Int32 × Int32 → Prop} {K : (Int32) → Prop} (hP : ∀ x, P x → G 43 [.ref 0, .int v1, mj_unk, mj_unk, .int x.1, .int x.2] [] (mkMs s) 0 0) (hK0 : ∀ y, K y → G 85 [mj_unk, mj_unk, mj_unk, mj_unk, .int y] [] (mkMs s) 0 0) {v4 : Int32} {v5 : Int32} (hw : ok (B_X12_teacherless_43 v1 s (v4, v5)) (Sum.elim P K)) : G 43 [.ref 0, .int v1, mj_unk, mj_unk, .int v4, .int v5] [] (mkMs s) 0 0 := by
  unfold B_X12_teacherless_43 at hw
  refine mj_run hG.1 (fun pc => pc == 10 || pc == 18 || pc == 26 || pc == 37 || pc == 43 || pc == 85) 4000 ?_
  simp only [mj_step, mj_W_s, mj_fin, List.getElem?_cons_zero, List.getElem?_cons_succ, mj_go, Nat.reduceAdd, Nat.reduceSub, Nat.reduceLT, Nat.reduceLeDiff, Nat.zero_add, Nat.reduceEqDiff, Nat.reduceBEq, ↓reduceIte, Bool.false_eq_true, List.append_nil, List.nil_append, List.cons_append, Option.toList, and_true, true_and, true_or, or_true, reduceCtorEq, List.map_nil, bI_eq0, bI_eq1, bool_ft, pk_us, vnar0, vnar1, Bool.or_false, Bool.or_true, Bool.false_or, Bool.true_or, mj_kne, eq_self, Int32.reduceLT, Int32.reduceLE, Int32.reduceAdd, Int32.reduceSub, Int32.reduceMul, not_true_eq_false, not_false_eq_true, false_implies, true_implies, D_X12_teacherless, mj_F_aload_n_k, mj_F_getfield_i, mj_F_goto_off, mj_F_iadd, mj_F_iaload, mj_F_iconst_n, mj_F_ifCond_eq_off, mj_F_ifCond_ne_off, mj_F_if_icmp_eq_off, mj_F_if_icmp_ge_off, mj_F_if_icmp_ne_off, mj_F_iinc_k_n, mj_F_iload_k, mj_F_iload_n_k, mj_F_invokevirtual_i, mj_F_ireturn, mj_F_istore_k, mj_set, mj_set0, mj_unk, mj_c2, mj_kc, FT_X12, FT_X12_1, L_X12_teacherless, List.take_succ_cons, List.take_zero, List.drop_succ_cons, List.drop_zero, List.reverse_cons, List.reverse_nil, List.length_cons, List.length_nil, gS_M0, gMf_23, gMf_74, gS_M58, sS_Ma_58, J_X12_teacherless]
  refine ⟨fun c => ?_, fun c => ?_⟩
  · replace hw := ok_t hw c
    exact hG.2 _ _ _ _ _ _ _ _ _ (by refine ⟨Or.inl rfl, ?_⟩; refine ⟨Or.inl rfl, ?_⟩; refine ⟨Or.inl rfl, ?_⟩; refine ⟨Or.inl rfl, ?_⟩; refine ⟨Or.inr rfl, ?_⟩; exact trivial) (Nat.zero_le _) (Nat.zero_le _) (hK0 _ (ok_some hw :) :)
  · replace hw := ok_f hw c
    refine ⟨fun c => ?_, fun c => ?_⟩
    · replace hw := ok_t hw c
      refine ⟨(ok_rd hw).1, ?_⟩
      replace hw := (ok_rd hw).2
      exact hG.2 _ _ _ _ _ _ _ _ _ (by refine ⟨Or.inr rfl, ?_⟩; refine ⟨Or.inr rfl, ?_⟩; refine ⟨Or.inl rfl, ?_⟩; refine ⟨Or.inl rfl, ?_⟩; refine ⟨Or.inr rfl, ?_⟩; refine ⟨Or.inr rfl, ?_⟩; exact trivial) (Nat.zero_le _) (Nat.zero_le _) (hP _ (ok_some hw :) :)
    · replace hw := ok_f hw c
      refine ⟨fun c => ?_, fun c => ?_⟩
      · replace hw := ok_f hw c
        exact hG.2 _ _ _ _ _ _ _ _ _ (by refine ⟨Or.inr rfl, ?_⟩; refine ⟨Or.inr rfl, ?_⟩; refine ⟨Or.inl rfl, ?_⟩; refine ⟨Or.inl rfl, ?_⟩; refine ⟨Or.inr rfl, ?_⟩; refine ⟨Or.inr rfl, ?_⟩; exact trivial) (Nat.zero_le _) (Nat.zero_le _) (hP _ (ok_some hw :) :)
      · replace hw := ok_t hw c
        refine ⟨(ok_rd hw).1, ?_⟩
        replace hw := (ok_rd hw).2
        exact hG.2 _ _ _ _ _ _ _ _ _ (by refine ⟨Or.inr rfl, ?_⟩; refine ⟨Or.inr rfl, ?_⟩; refine ⟨Or.inl rfl, ?_⟩; refine ⟨Or.inl rfl, ?_⟩; refine ⟨Or.inr rfl, ?_⟩; refine ⟨Or.inr rfl, ?_⟩; exact trivial) (Nat.zero_le _) (Nat.zero_le _) (hP _ (ok_some hw :) :)

set_option maxHeartbeats 4000000 in
set_option maxRecDepth 20000 in
theorem g_X12_teacherless_85 {k : Option Value → mj_H → Prop} {G : mj_K} (hG : mj_cl2 cX12_teacherless (TbX12 6 ((some FieldType.int)) ct_X12_teacherless) k G)   {v4 : Int32} {s : St} (hw : ok (F_X12_teacherless_85 v4 s) (fun p => k (some (.int p.1)) (mkMs p.2))) : G 85 [mj_unk, mj_unk, mj_unk, mj_unk, .int v4] [] (mkMs s) 0 0 := by
  unfold F_X12_teacherless_85 at hw
  refine mj_run hG.1 (fun pc => pc == 10 || pc == 18 || pc == 26 || pc == 37 || pc == 43 || pc == 85) 4000 ?_
  simp only [mj_step, mj_W_s, mj_fin, List.getElem?_cons_zero, List.getElem?_cons_succ, mj_go, Nat.reduceAdd, Nat.reduceSub, Nat.reduceLT, Nat.reduceLeDiff, Nat.zero_add, Nat.reduceEqDiff, Nat.reduceBEq, ↓reduceIte, Bool.false_eq_true, List.append_nil, List.nil_append, List.cons_append, Option.toList, and_true, true_and, true_or, or_true, reduceCtorEq, List.map_nil, bI_eq0, bI_eq1, bool_ft, pk_us, vnar0, vnar1, Bool.or_false, Bool.or_true, Bool.false_or, Bool.true_or, mj_kne, eq_self, Int32.reduceLT, Int32.reduceLE, Int32.reduceAdd, Int32.reduceSub, Int32.reduceMul, not_true_eq_false, not_false_eq_true, false_implies, true_implies, D_X12_teacherless, mj_F_aload_n_k, mj_F_getfield_i, mj_F_goto_off, mj_F_iadd, mj_F_iaload, mj_F_iconst_n, mj_F_ifCond_eq_off, mj_F_ifCond_ne_off, mj_F_if_icmp_eq_off, mj_F_if_icmp_ge_off, mj_F_if_icmp_ne_off, mj_F_iinc_k_n, mj_F_iload_k, mj_F_iload_n_k, mj_F_invokevirtual_i, mj_F_ireturn, mj_F_istore_k, mj_set, mj_set0, mj_unk, mj_c2, mj_kc, FT_X12, FT_X12_1, L_X12_teacherless, List.take_succ_cons, List.take_zero, List.drop_succ_cons, List.drop_zero, List.reverse_cons, List.reverse_nil, List.length_cons, List.length_nil, gS_M0, gMf_23, gMf_74, gS_M58, sS_Ma_58, J_X12_teacherless]
  exact (ok_some hw :)

set_option maxHeartbeats 4000000 in
theorem g_X12_teacherless_43 {k : Option Value → mj_H → Prop} {G : mj_K} (hG : mj_cl2 cX12_teacherless (TbX12 6 ((some FieldType.int)) ct_X12_teacherless) k G)   {v1 : Int32} {v4 : Int32} {v5 : Int32} {s : St} (hw : ok (F_X12_teacherless_43 v1 v4 v5 s) (fun p => k (some (.int p.1)) (mkMs p.2))) : G 43 [.ref 0, .int v1, mj_unk, mj_unk, .int v4, .int v5] [] (mkMs s) 0 0 := by
  unfold F_X12_teacherless_43 at hw
  refine lp_ok (B_X12_teacherless_43 v1 s) (fun x => G 43 [.ref 0, .int v1, mj_unk, mj_unk, .int x.1, .int x.2] [] (mkMs s) 0 0) _ ?_ _ _ (ok_bind hw)
  rintro ⟨v4, v5⟩ hb
  exact b_X12_teacherless_43 hG (fun _ z => z) (fun y hw => by exact hG.2 _ _ _ _ _ _ _ _ _ (by refine ⟨Or.inl rfl, ?_⟩; refine ⟨Or.inl rfl, ?_⟩; refine ⟨Or.inl rfl, ?_⟩; refine ⟨Or.inl rfl, ?_⟩; refine ⟨Or.inr rfl, ?_⟩; exact trivial) (Nat.zero_le _) (Nat.zero_le _) (g_X12_teacherless_85 hG  hw :)) hb

set_option maxHeartbeats 4000000 in
set_option maxRecDepth 20000 in
theorem g_X12_teacherless {k : Option Value → mj_H → Prop} {G : mj_K} (hG : mj_cl2 cX12_teacherless (TbX12 6 ((some FieldType.int)) ct_X12_teacherless) k G) {v1 : Int32} {v2 : Int32} {v3 : Int32} {s : St} (hw : ok (F_X12_teacherless v1 v2 v3 s) (fun p => k (some (.int p.1)) (mkMs p.2))) : G 0 [.ref 0, .int v1, .int v2, .int v3] [] (mkMs s) 0 0 := by
  unfold F_X12_teacherless at hw
  refine mj_run hG.1 (fun pc => pc == 10 || pc == 18 || pc == 26 || pc == 37 || pc == 43 || pc == 85) 4000 ?_
  simp only [mj_step, mj_W_s, mj_fin, List.getElem?_cons_zero, List.getElem?_cons_succ, mj_go, Nat.reduceAdd, Nat.reduceSub, Nat.reduceLT, Nat.reduceLeDiff, Nat.zero_add, Nat.reduceEqDiff, Nat.reduceBEq, ↓reduceIte, Bool.false_eq_true, List.append_nil, List.nil_append, List.cons_append, Option.toList, and_true, true_and, true_or, or_true, reduceCtorEq, List.map_nil, bI_eq0, bI_eq1, bool_ft, pk_us, vnar0, vnar1, Bool.or_false, Bool.or_true, Bool.false_or, Bool.true_or, mj_kne, eq_self, Int32.reduceLT, Int32.reduceLE, Int32.reduceAdd, Int32.reduceSub, Int32.reduceMul, not_true_eq_false, not_false_eq_true, false_implies, true_implies, D_X12_teacherless, mj_F_aload_n_k, mj_F_getfield_i, mj_F_goto_off, mj_F_iadd, mj_F_iaload, mj_F_iconst_n, mj_F_ifCond_eq_off, mj_F_ifCond_ne_off, mj_F_if_icmp_eq_off, mj_F_if_icmp_ge_off, mj_F_if_icmp_ne_off, mj_F_iinc_k_n, mj_F_iload_k, mj_F_iload_n_k, mj_F_invokevirtual_i, mj_F_ireturn, mj_F_istore_k, mj_set, mj_set0, mj_unk, mj_c2, mj_kc, FT_X12, FT_X12_1, L_X12_teacherless, List.take_succ_cons, List.take_zero, List.drop_succ_cons, List.drop_zero, List.reverse_cons, List.reverse_nil, List.length_cons, List.length_nil, gS_M0, gMf_23, gMf_74, gS_M58, sS_Ma_58, J_X12_teacherless]
  refine ⟨fun c => ?_, fun c => ?_⟩
  · replace hw := ok_t hw c
    refine c_X12_isWeek_in (ok_imp (ok_bind hw) ?_)
    intro p hw
    simp only [Option.toList, List.nil_append, List.cons_append, Nat.reduceSub]
    refine mj_run hG.1 (fun pc => pc == 10 || pc == 18 || pc == 26 || pc == 37 || pc == 43 || pc == 85) 4000 ?_
    simp only [mj_step, mj_W_s, mj_fin, List.getElem?_cons_zero, List.getElem?_cons_succ, mj_go, Nat.reduceAdd, Nat.reduceSub, Nat.reduceLT, Nat.reduceLeDiff, Nat.zero_add, Nat.reduceEqDiff, Nat.reduceBEq, ↓reduceIte, Bool.false_eq_true, List.append_nil, List.nil_append, List.cons_append, Option.toList, and_true, true_and, true_or, or_true, reduceCtorEq, List.map_nil, bI_eq0, bI_eq1, bool_ft, pk_us, vnar0, vnar1, Bool.or_false, Bool.or_true, Bool.false_or, Bool.true_or, mj_kne, eq_self, Int32.reduceLT, Int32.reduceLE, Int32.reduceAdd, Int32.reduceSub, Int32.reduceMul, not_true_eq_false, not_false_eq_true, false_implies, true_implies, D_X12_teacherless, mj_F_aload_n_k, mj_F_getfield_i, mj_F_goto_off, mj_F_iadd, mj_F_iaload, mj_F_iconst_n, mj_F_ifCond_eq_off, mj_F_ifCond_ne_off, mj_F_if_icmp_eq_off, mj_F_if_icmp_ge_off, mj_F_if_icmp_ne_off, mj_F_iinc_k_n, mj_F_iload_k, mj_F_iload_n_k, mj_F_invokevirtual_i, mj_F_ireturn, mj_F_istore_k, mj_set, mj_set0, mj_unk, mj_c2, mj_kc, FT_X12, FT_X12_1, L_X12_teacherless, List.take_succ_cons, List.take_zero, List.drop_succ_cons, List.drop_zero, List.reverse_cons, List.reverse_nil, List.length_cons, List.length_nil, gS_M0, gMf_23, gMf_74, gS_M58, sS_Ma_58, J_X12_teacherless]
    refine ⟨fun c => ?_, fun c => ?_⟩
    · replace hw := ok_t hw c
      exact (ok_some hw :)
    · replace hw := ok_f hw c
      refine c_X12_isKnowing_in (ok_imp (ok_bind hw) ?_)
      intro p hw
      simp only [Option.toList, List.nil_append, List.cons_append, Nat.reduceSub]
      refine mj_run hG.1 (fun pc => pc == 10 || pc == 18 || pc == 26 || pc == 37 || pc == 43 || pc == 85) 4000 ?_
      simp only [mj_step, mj_W_s, mj_fin, List.getElem?_cons_zero, List.getElem?_cons_succ, mj_go, Nat.reduceAdd, Nat.reduceSub, Nat.reduceLT, Nat.reduceLeDiff, Nat.zero_add, Nat.reduceEqDiff, Nat.reduceBEq, ↓reduceIte, Bool.false_eq_true, List.append_nil, List.nil_append, List.cons_append, Option.toList, and_true, true_and, true_or, or_true, reduceCtorEq, List.map_nil, bI_eq0, bI_eq1, bool_ft, pk_us, vnar0, vnar1, Bool.or_false, Bool.or_true, Bool.false_or, Bool.true_or, mj_kne, eq_self, Int32.reduceLT, Int32.reduceLE, Int32.reduceAdd, Int32.reduceSub, Int32.reduceMul, not_true_eq_false, not_false_eq_true, false_implies, true_implies, D_X12_teacherless, mj_F_aload_n_k, mj_F_getfield_i, mj_F_goto_off, mj_F_iadd, mj_F_iaload, mj_F_iconst_n, mj_F_ifCond_eq_off, mj_F_ifCond_ne_off, mj_F_if_icmp_eq_off, mj_F_if_icmp_ge_off, mj_F_if_icmp_ne_off, mj_F_iinc_k_n, mj_F_iload_k, mj_F_iload_n_k, mj_F_invokevirtual_i, mj_F_ireturn, mj_F_istore_k, mj_set, mj_set0, mj_unk, mj_c2, mj_kc, FT_X12, FT_X12_1, L_X12_teacherless, List.take_succ_cons, List.take_zero, List.drop_succ_cons, List.drop_zero, List.reverse_cons, List.reverse_nil, List.length_cons, List.length_nil, gS_M0, gMf_23, gMf_74, gS_M58, sS_Ma_58, J_X12_teacherless]
      refine ⟨fun c => ?_, fun c => ?_⟩
      · replace hw := ok_f hw c
        refine c_X12_sendAll_in (ok_imp (ok_bind hw) ?_)
        intro p hw
        simp only [Option.toList, List.nil_append, List.cons_append, Nat.reduceSub]
        refine mj_run hG.1 (fun pc => pc == 10 || pc == 18 || pc == 26 || pc == 37 || pc == 43 || pc == 85) 4000 ?_
        simp only [mj_step, mj_W_s, mj_fin, List.getElem?_cons_zero, List.getElem?_cons_succ, mj_go, Nat.reduceAdd, Nat.reduceSub, Nat.reduceLT, Nat.reduceLeDiff, Nat.zero_add, Nat.reduceEqDiff, Nat.reduceBEq, ↓reduceIte, Bool.false_eq_true, List.append_nil, List.nil_append, List.cons_append, Option.toList, and_true, true_and, true_or, or_true, reduceCtorEq, List.map_nil, bI_eq0, bI_eq1, bool_ft, pk_us, vnar0, vnar1, Bool.or_false, Bool.or_true, Bool.false_or, Bool.true_or, mj_kne, eq_self, Int32.reduceLT, Int32.reduceLE, Int32.reduceAdd, Int32.reduceSub, Int32.reduceMul, not_true_eq_false, not_false_eq_true, false_implies, true_implies, D_X12_teacherless, mj_F_aload_n_k, mj_F_getfield_i, mj_F_goto_off, mj_F_iadd, mj_F_iaload, mj_F_iconst_n, mj_F_ifCond_eq_off, mj_F_ifCond_ne_off, mj_F_if_icmp_eq_off, mj_F_if_icmp_ge_off, mj_F_if_icmp_ne_off, mj_F_iinc_k_n, mj_F_iload_k, mj_F_iload_n_k, mj_F_invokevirtual_i, mj_F_ireturn, mj_F_istore_k, mj_set, mj_set0, mj_unk, mj_c2, mj_kc, FT_X12, FT_X12_1, L_X12_teacherless, List.take_succ_cons, List.take_zero, List.drop_succ_cons, List.drop_zero, List.reverse_cons, List.reverse_nil, List.length_cons, List.length_nil, gS_M0, gMf_23, gMf_74, gS_M58, sS_Ma_58, J_X12_teacherless]
        exact hG.2 _ _ _ _ _ _ _ _ _ (by refine ⟨Or.inr rfl, ?_⟩; refine ⟨Or.inr rfl, ?_⟩; refine ⟨Or.inl rfl, ?_⟩; refine ⟨Or.inl rfl, ?_⟩; refine ⟨Or.inr rfl, ?_⟩; refine ⟨Or.inr rfl, ?_⟩; exact trivial) (Nat.zero_le _) (Nat.zero_le _) (g_X12_teacherless_43 hG  hw :)
      · replace hw := ok_t hw c
        exact (ok_some hw :)
  · replace hw := ok_f hw c
    refine c_X12_isSchool_in (ok_imp (ok_bind hw) ?_)
    intro p hw
    simp only [Option.toList, List.nil_append, List.cons_append, Nat.reduceSub]
    refine mj_run hG.1 (fun pc => pc == 10 || pc == 18 || pc == 26 || pc == 37 || pc == 43 || pc == 85) 4000 ?_
    simp only [mj_step, mj_W_s, mj_fin, List.getElem?_cons_zero, List.getElem?_cons_succ, mj_go, Nat.reduceAdd, Nat.reduceSub, Nat.reduceLT, Nat.reduceLeDiff, Nat.zero_add, Nat.reduceEqDiff, Nat.reduceBEq, ↓reduceIte, Bool.false_eq_true, List.append_nil, List.nil_append, List.cons_append, Option.toList, and_true, true_and, true_or, or_true, reduceCtorEq, List.map_nil, bI_eq0, bI_eq1, bool_ft, pk_us, vnar0, vnar1, Bool.or_false, Bool.or_true, Bool.false_or, Bool.true_or, mj_kne, eq_self, Int32.reduceLT, Int32.reduceLE, Int32.reduceAdd, Int32.reduceSub, Int32.reduceMul, not_true_eq_false, not_false_eq_true, false_implies, true_implies, D_X12_teacherless, mj_F_aload_n_k, mj_F_getfield_i, mj_F_goto_off, mj_F_iadd, mj_F_iaload, mj_F_iconst_n, mj_F_ifCond_eq_off, mj_F_ifCond_ne_off, mj_F_if_icmp_eq_off, mj_F_if_icmp_ge_off, mj_F_if_icmp_ne_off, mj_F_iinc_k_n, mj_F_iload_k, mj_F_iload_n_k, mj_F_invokevirtual_i, mj_F_ireturn, mj_F_istore_k, mj_set, mj_set0, mj_unk, mj_c2, mj_kc, FT_X12, FT_X12_1, L_X12_teacherless, List.take_succ_cons, List.take_zero, List.drop_succ_cons, List.drop_zero, List.reverse_cons, List.reverse_nil, List.length_cons, List.length_nil, gS_M0, gMf_23, gMf_74, gS_M58, sS_Ma_58, J_X12_teacherless]
    refine ⟨fun c => ?_, fun c => ?_⟩
    · replace hw := ok_t hw c
      exact (ok_some hw :)
    · replace hw := ok_f hw c
      refine c_X12_isWeek_in (ok_imp (ok_bind hw) ?_)
      intro p hw
      simp only [Option.toList, List.nil_append, List.cons_append, Nat.reduceSub]
      refine mj_run hG.1 (fun pc => pc == 10 || pc == 18 || pc == 26 || pc == 37 || pc == 43 || pc == 85) 4000 ?_
      simp only [mj_step, mj_W_s, mj_fin, List.getElem?_cons_zero, List.getElem?_cons_succ, mj_go, Nat.reduceAdd, Nat.reduceSub, Nat.reduceLT, Nat.reduceLeDiff, Nat.zero_add, Nat.reduceEqDiff, Nat.reduceBEq, ↓reduceIte, Bool.false_eq_true, List.append_nil, List.nil_append, List.cons_append, Option.toList, and_true, true_and, true_or, or_true, reduceCtorEq, List.map_nil, bI_eq0, bI_eq1, bool_ft, pk_us, vnar0, vnar1, Bool.or_false, Bool.or_true, Bool.false_or, Bool.true_or, mj_kne, eq_self, Int32.reduceLT, Int32.reduceLE, Int32.reduceAdd, Int32.reduceSub, Int32.reduceMul, not_true_eq_false, not_false_eq_true, false_implies, true_implies, D_X12_teacherless, mj_F_aload_n_k, mj_F_getfield_i, mj_F_goto_off, mj_F_iadd, mj_F_iaload, mj_F_iconst_n, mj_F_ifCond_eq_off, mj_F_ifCond_ne_off, mj_F_if_icmp_eq_off, mj_F_if_icmp_ge_off, mj_F_if_icmp_ne_off, mj_F_iinc_k_n, mj_F_iload_k, mj_F_iload_n_k, mj_F_invokevirtual_i, mj_F_ireturn, mj_F_istore_k, mj_set, mj_set0, mj_unk, mj_c2, mj_kc, FT_X12, FT_X12_1, L_X12_teacherless, List.take_succ_cons, List.take_zero, List.drop_succ_cons, List.drop_zero, List.reverse_cons, List.reverse_nil, List.length_cons, List.length_nil, gS_M0, gMf_23, gMf_74, gS_M58, sS_Ma_58, J_X12_teacherless]
      refine ⟨fun c => ?_, fun c => ?_⟩
      · replace hw := ok_t hw c
        exact (ok_some hw :)
      · replace hw := ok_f hw c
        refine c_X12_isKnowing_in (ok_imp (ok_bind hw) ?_)
        intro p hw
        simp only [Option.toList, List.nil_append, List.cons_append, Nat.reduceSub]
        refine mj_run hG.1 (fun pc => pc == 10 || pc == 18 || pc == 26 || pc == 37 || pc == 43 || pc == 85) 4000 ?_
        simp only [mj_step, mj_W_s, mj_fin, List.getElem?_cons_zero, List.getElem?_cons_succ, mj_go, Nat.reduceAdd, Nat.reduceSub, Nat.reduceLT, Nat.reduceLeDiff, Nat.zero_add, Nat.reduceEqDiff, Nat.reduceBEq, ↓reduceIte, Bool.false_eq_true, List.append_nil, List.nil_append, List.cons_append, Option.toList, and_true, true_and, true_or, or_true, reduceCtorEq, List.map_nil, bI_eq0, bI_eq1, bool_ft, pk_us, vnar0, vnar1, Bool.or_false, Bool.or_true, Bool.false_or, Bool.true_or, mj_kne, eq_self, Int32.reduceLT, Int32.reduceLE, Int32.reduceAdd, Int32.reduceSub, Int32.reduceMul, not_true_eq_false, not_false_eq_true, false_implies, true_implies, D_X12_teacherless, mj_F_aload_n_k, mj_F_getfield_i, mj_F_goto_off, mj_F_iadd, mj_F_iaload, mj_F_iconst_n, mj_F_ifCond_eq_off, mj_F_ifCond_ne_off, mj_F_if_icmp_eq_off, mj_F_if_icmp_ge_off, mj_F_if_icmp_ne_off, mj_F_iinc_k_n, mj_F_iload_k, mj_F_iload_n_k, mj_F_invokevirtual_i, mj_F_ireturn, mj_F_istore_k, mj_set, mj_set0, mj_unk, mj_c2, mj_kc, FT_X12, FT_X12_1, L_X12_teacherless, List.take_succ_cons, List.take_zero, List.drop_succ_cons, List.drop_zero, List.reverse_cons, List.reverse_nil, List.length_cons, List.length_nil, gS_M0, gMf_23, gMf_74, gS_M58, sS_Ma_58, J_X12_teacherless]
        refine ⟨fun c => ?_, fun c => ?_⟩
        · replace hw := ok_f hw c
          refine c_X12_sendAll_in (ok_imp (ok_bind hw) ?_)
          intro p hw
          simp only [Option.toList, List.nil_append, List.cons_append, Nat.reduceSub]
          refine mj_run hG.1 (fun pc => pc == 10 || pc == 18 || pc == 26 || pc == 37 || pc == 43 || pc == 85) 4000 ?_
          simp only [mj_step, mj_W_s, mj_fin, List.getElem?_cons_zero, List.getElem?_cons_succ, mj_go, Nat.reduceAdd, Nat.reduceSub, Nat.reduceLT, Nat.reduceLeDiff, Nat.zero_add, Nat.reduceEqDiff, Nat.reduceBEq, ↓reduceIte, Bool.false_eq_true, List.append_nil, List.nil_append, List.cons_append, Option.toList, and_true, true_and, true_or, or_true, reduceCtorEq, List.map_nil, bI_eq0, bI_eq1, bool_ft, pk_us, vnar0, vnar1, Bool.or_false, Bool.or_true, Bool.false_or, Bool.true_or, mj_kne, eq_self, Int32.reduceLT, Int32.reduceLE, Int32.reduceAdd, Int32.reduceSub, Int32.reduceMul, not_true_eq_false, not_false_eq_true, false_implies, true_implies, D_X12_teacherless, mj_F_aload_n_k, mj_F_getfield_i, mj_F_goto_off, mj_F_iadd, mj_F_iaload, mj_F_iconst_n, mj_F_ifCond_eq_off, mj_F_ifCond_ne_off, mj_F_if_icmp_eq_off, mj_F_if_icmp_ge_off, mj_F_if_icmp_ne_off, mj_F_iinc_k_n, mj_F_iload_k, mj_F_iload_n_k, mj_F_invokevirtual_i, mj_F_ireturn, mj_F_istore_k, mj_set, mj_set0, mj_unk, mj_c2, mj_kc, FT_X12, FT_X12_1, L_X12_teacherless, List.take_succ_cons, List.take_zero, List.drop_succ_cons, List.drop_zero, List.reverse_cons, List.reverse_nil, List.length_cons, List.length_nil, gS_M0, gMf_23, gMf_74, gS_M58, sS_Ma_58, J_X12_teacherless]
          exact hG.2 _ _ _ _ _ _ _ _ _ (by refine ⟨Or.inr rfl, ?_⟩; refine ⟨Or.inr rfl, ?_⟩; refine ⟨Or.inl rfl, ?_⟩; refine ⟨Or.inl rfl, ?_⟩; refine ⟨Or.inr rfl, ?_⟩; refine ⟨Or.inr rfl, ?_⟩; exact trivial) (Nat.zero_le _) (Nat.zero_le _) (g_X12_teacherless_43 hG  hw :)
        · replace hw := ok_t hw c
          exact (ok_some hw :)

def c_X12_teacherless : mj_S := fun as h k => ∃ (v1 : Int32) (v2 : Int32) (v3 : Int32) (s : St), as = [.ref 0, .int v1, .int v2, .int v3] ∧ h = mkMs s ∧ ok (F_X12_teacherless v1 v2 v3 s) (fun p => k (some (.int p.1)) (mkMs p.2))
theorem c_X12_teacherless_in {v1 : Int32} {v2 : Int32} {v3 : Int32} {s : St} {k : Option Value → mj_H → Prop} (hw : ok (F_X12_teacherless v1 v2 v3 s) (fun p => k (some (.int p.1)) (mkMs p.2))) : c_X12_teacherless [.ref 0, .int v1, .int v2, .int v3] (mkMs s) k := ⟨v1, v2, v3, s, rfl, rfl, hw⟩
theorem m_X12_teacherless (l : Launch) : mj_Met l yX12_teacherless cX12_teacherless 6 ((some FieldType.int)) 9 0 0 c_X12_teacherless := by
  refine mj_body2 false (TbX12 6 ((some FieldType.int)) ct_X12_teacherless) (by decide) rfl rfl (fun h => nomatch h) (tfX12 _ (List.forall_mem_cons.mpr ⟨cfX12_287 (m_X12_isKnowing l) (by decide), List.forall_mem_cons.mpr ⟨cfX12_293 (m_X12_isSchool l) (by decide), List.forall_mem_cons.mpr ⟨cfX12_457 (m_X12_isWeek l) (by decide), List.forall_mem_cons.mpr ⟨cfX12_537 (m_X12_sendAll l) (by decide), fun _ h => nomatch h⟩⟩⟩⟩)) ?_
  rintro as h k ⟨v1, v2, v3, s, rfl, rfl, hw⟩
  exact ⟨rfl, fun G hG => g_X12_teacherless hG hw⟩
def F_X12_recount (v1 : Int32) (v2 : Int32) (v3 : Int32) (s : St) : Option (Int32 × St) :=
  (F_X12_isVillage v1 s).bind fun r1 =>
  if r1 = 0 then
    some (0, s)
  else
    if inb v2 0 11 = false then
      some (0, s)
    else
      if inb v3 0 1998 = false then
        some (0, s)
      else
        if (s.1 1280) = 60 then
          some (0, s)
        else
          (wr s 1276 60 (s.1 1280) v1).bind fun s2 =>
          (wr s2 1277 60 (s2.1 1280) v2).bind fun s3 =>
          (wr s3 1278 60 (s3.1 1280) v3).bind fun s4 =>
          (wr s4 1279 60 (s4.1 1280) (s4.1 1200)).bind fun s5 =>
          (wI s5 1280 ((s5.1 1280) + 1)).bind fun s6 =>
          some (1, s6)
theorem J_X12_recount : mj_t 5 30 = 35 ∧ mj_t 12 23 = 35 ∧ mj_t 23 12 = 35 ∧ mj_t 32 5 = 37 ∧ (0 ≤ ((5 : Nat) : Int) + 30) = True ∧ (0 ≤ ((12 : Nat) : Int) + 23) = True ∧ (0 ≤ ((23 : Nat) : Int) + 12) = True ∧ (0 ≤ ((32 : Nat) : Int) + 5) = True := by and_intros <;> first | rfl | exact eq_true (by decide)
def ct_X12_recount : List (Nat × mj_Cs) := [(243, 2, 3, 12, 0, 0, c_in), (274, 0, 2, 12, 0, 0, c_X12_isVillage), (277, 2, 1, 12, 0, 0, c_isYear)]
theorem L_X12_recount : mj_lk ct_X12_recount 243 = some (2, 3, 12, 0, 0, c_in) ∧ mj_lk ct_X12_recount 274 = some (0, 2, 12, 0, 0, c_X12_isVillage) ∧ mj_lk ct_X12_recount 277 = some (2, 1, 12, 0, 0, c_isYear) := ⟨rfl, rfl, rfl⟩
set_option maxHeartbeats 4000000 in
set_option maxRecDepth 20000 in
theorem g_X12_recount {k : Option Value → mj_H → Prop} {G : mj_K} (hG : mj_cl2 cX12_recount (TbX12 4 ((some FieldType.boolean)) ct_X12_recount) k G) {v1 : Int32} {v2 : Int32} {v3 : Int32} {s : St} (hw : ok (F_X12_recount v1 v2 v3 s) (fun p => k (some (.int p.1)) (mkMs p.2))) : G 0 [.ref 0, .int v1, .int v2, .int v3] [] (mkMs s) 0 0 := by
  unfold F_X12_recount at hw
  refine mj_run hG.1 (fun pc => pc == 5) 4000 ?_
  simp only [mj_step, mj_W_s, mj_fin, List.getElem?_cons_zero, List.getElem?_cons_succ, mj_go, Nat.reduceAdd, Nat.reduceSub, Nat.reduceLT, Nat.reduceLeDiff, Nat.zero_add, Nat.reduceEqDiff, Nat.reduceBEq, ↓reduceIte, Bool.false_eq_true, List.append_nil, List.nil_append, List.cons_append, Option.toList, and_true, true_and, true_or, or_true, reduceCtorEq, List.map_nil, bI_eq0, bI_eq1, bool_ft, pk_us, vnar0, vnar1, Bool.or_false, Bool.or_true, Bool.false_or, Bool.true_or, mj_kne, eq_self, Int32.reduceLT, Int32.reduceLE, Int32.reduceAdd, Int32.reduceSub, Int32.reduceMul, not_true_eq_false, not_false_eq_true, false_implies, true_implies, D_X12_recount_0, D_X12_recount_1, mj_F_aload_n_k, mj_F_bipush_n, mj_F_dup, mj_F_getfield_i, mj_F_iadd, mj_F_iastore, mj_F_iconst_n, mj_F_ifCond_eq_off, mj_F_if_icmp_ne_off, mj_F_iload_n_k, mj_F_invokestatic_i, mj_F_invokevirtual_i, mj_F_ireturn, mj_F_putfield_i, mj_F_sipush_n, mj_c2, mj_kc, FT_X12, FT_X12_1, PT_X12, L_X12_recount, List.take_succ_cons, List.take_zero, List.drop_succ_cons, List.drop_zero, List.reverse_cons, List.reverse_nil, List.length_cons, List.length_nil, gS_M0, gMf_80, gMf_76, gS_M59, sS_Ma_59, gMf_77, gS_M60, sS_Ma_60, gMf_78, gS_M61, sS_Ma_61, gMf_79, gS_M62, sS_Ma_62, gMf_0, sS_Mf_80, gMl, c_isYear_eq, c_in_eq, J_X12_recount]
  refine c_X12_isVillage_in (ok_imp (ok_bind hw) ?_)
  intro p hw
  simp only [Option.toList, List.nil_append, List.cons_append, Nat.reduceSub]
  refine mj_run hG.1 (fun pc => pc == 5) 4000 ?_
  simp only [mj_step, mj_W_s, mj_fin, List.getElem?_cons_zero, List.getElem?_cons_succ, mj_go, Nat.reduceAdd, Nat.reduceSub, Nat.reduceLT, Nat.reduceLeDiff, Nat.zero_add, Nat.reduceEqDiff, Nat.reduceBEq, ↓reduceIte, Bool.false_eq_true, List.append_nil, List.nil_append, List.cons_append, Option.toList, and_true, true_and, true_or, or_true, reduceCtorEq, List.map_nil, bI_eq0, bI_eq1, bool_ft, pk_us, vnar0, vnar1, Bool.or_false, Bool.or_true, Bool.false_or, Bool.true_or, mj_kne, eq_self, Int32.reduceLT, Int32.reduceLE, Int32.reduceAdd, Int32.reduceSub, Int32.reduceMul, not_true_eq_false, not_false_eq_true, false_implies, true_implies, D_X12_recount_0, D_X12_recount_1, mj_F_aload_n_k, mj_F_bipush_n, mj_F_dup, mj_F_getfield_i, mj_F_iadd, mj_F_iastore, mj_F_iconst_n, mj_F_ifCond_eq_off, mj_F_if_icmp_ne_off, mj_F_iload_n_k, mj_F_invokestatic_i, mj_F_invokevirtual_i, mj_F_ireturn, mj_F_putfield_i, mj_F_sipush_n, mj_c2, mj_kc, FT_X12, FT_X12_1, PT_X12, L_X12_recount, List.take_succ_cons, List.take_zero, List.drop_succ_cons, List.drop_zero, List.reverse_cons, List.reverse_nil, List.length_cons, List.length_nil, gS_M0, gMf_80, gMf_76, gS_M59, sS_Ma_59, gMf_77, gS_M60, sS_Ma_60, gMf_78, gS_M61, sS_Ma_61, gMf_79, gS_M62, sS_Ma_62, gMf_0, sS_Mf_80, gMl, c_isYear_eq, c_in_eq, J_X12_recount]
  refine ⟨fun c => ?_, fun c => ?_⟩
  · replace hw := ok_t hw c
    exact (ok_some hw :)
  · replace hw := ok_f hw c
    refine ⟨fun c => ?_, fun c => ?_⟩
    · replace hw := ok_t hw c
      exact (ok_some hw :)
    · replace hw := ok_f hw c
      refine ⟨fun c => ?_, fun c => ?_⟩
      · replace hw := ok_t hw c
        exact (ok_some hw :)
      · replace hw := ok_f hw c
        refine ⟨fun c => ?_, fun c => ?_⟩
        · replace hw := ok_f hw c
          refine ⟨(ok_wr hw).1, ?_⟩
          replace hw := (ok_wr hw).2
          refine ⟨(ok_wr hw).1, ?_⟩
          replace hw := (ok_wr hw).2
          refine ⟨(ok_wr hw).1, ?_⟩
          replace hw := (ok_wr hw).2
          refine ⟨(ok_wr hw).1, ?_⟩
          replace hw := (ok_wr hw).2
          replace hw := ok_wI hw
          exact (ok_some hw :)
        · replace hw := ok_t hw c
          exact (ok_some hw :)

def c_X12_recount : mj_S := fun as h k => ∃ (v1 : Int32) (v2 : Int32) (v3 : Int32) (s : St), as = [.ref 0, .int v1, .int v2, .int v3] ∧ h = mkMs s ∧ ok (F_X12_recount v1 v2 v3 s) (fun p => k (some (.int p.1)) (mkMs p.2))
theorem c_X12_recount_in {v1 : Int32} {v2 : Int32} {v3 : Int32} {s : St} {k : Option Value → mj_H → Prop} (hw : ok (F_X12_recount v1 v2 v3 s) (fun p => k (some (.int p.1)) (mkMs p.2))) : c_X12_recount [.ref 0, .int v1, .int v2, .int v3] (mkMs s) k := ⟨v1, v2, v3, s, rfl, rfl, hw⟩
theorem m_X12_recount (l : Launch) : mj_Met l yX12_recount cX12_recount 4 ((some FieldType.boolean)) 2 0 0 c_X12_recount := by
  refine mj_body2 false (TbX12 4 ((some FieldType.boolean)) ct_X12_recount) (by decide) rfl rfl (fun h => nomatch h) (tfX12 _ (List.forall_mem_cons.mpr ⟨cfX12_243 (m_X12_in l) (by decide), List.forall_mem_cons.mpr ⟨cfX12_274 (m_X12_isVillage l) (by decide), List.forall_mem_cons.mpr ⟨cfX12_277 (m_X12_isYear l) (by decide), fun _ h => nomatch h⟩⟩⟩)) ?_
  rintro as h k ⟨v1, v2, v3, s, rfl, rfl, hw⟩
  exact ⟨rfl, fun G hG => g_X12_recount hG hw⟩
def B_X12_span_80 (v1 : Int32) (v2 : Int32) (v3 : Int32) (v4 : Int32) (v5 : Int32) (v6 : Int32) (v7 : Int32) (v8 : Int32) (v9 : Int32) (s : St) : Int32 × Int32 → Option ((Int32 × Int32) ⊕ ((Int32)))
  | (v10, v11) =>
  if (s.1 1280) ≤ v11 then
    some (.inr v10)
  else
    (rd s 1276 60 v11).bind fun x4 =>
    if x4 = v8 then
      (rd s 1277 60 v11).bind fun x5 =>
      if x5 = v2 then
        (rd s 1279 60 v11).bind fun x6 =>
        if v3 < x6 then
          some (.inl (v10, (v11 + 1)))
        else
          some (.inl (v11, (v11 + 1)))
      else
        some (.inl (v10, (v11 + 1)))
    else
      some (.inl (v10, (v11 + 1)))
def F_X12_span_138 (v1 : Int32) (v2 : Int32) (v3 : Int32) (v4 : Int32) (v5 : Int32) (v6 : Int32) (v7 : Int32) (v8 : Int32) (v9 : Int32) (v10 : Int32) (s : St) : Option ((Int32 × Int32 × Int32 × Int32) ⊕ ((Int32 × Int32 × Int32))) :=
  if v9 ≤ 0 then
    some (.inl (v5, v6, v7, (v8 + 1)))
  else
    if v10 = (-1) then
      some (.inl (v5, v6, v7, (v8 + 1)))
    else
      (rd s 1278 60 v10).bind fun x7 =>
      (nz v9).bind fun _ =>
      if v6 = (-1) then
        some (.inl (v5, ((1000 * x7) / v9), (zmx v7 ((1000 * x7) / v9)), (v8 + 1)))
      else
        some (.inl (v5, (zmn v6 ((1000 * x7) / v9)), (zmx v7 ((1000 * x7) / v9)), (v8 + 1)))
def F_X12_span_80 (v1 : Int32) (v2 : Int32) (v3 : Int32) (v4 : Int32) (v5 : Int32) (v6 : Int32) (v7 : Int32) (v8 : Int32) (v9 : Int32) (v10 : Int32) (v11 : Int32) (s : St) : Option ((Int32 × Int32 × Int32 × Int32) ⊕ ((Int32 × Int32 × Int32))) :=
  (lp (B_X12_span_80 v1 v2 v3 v4 v5 v6 v7 v8 v9 s) FU (v10, v11)).bind (fun y => F_X12_span_138 v1 v2 v3 v4 v5 v6 v7 v8 v9 y s)
def B_X12_span_34 (v1 : Int32) (v2 : Int32) (v3 : Int32) (v4 : Int32) (s : St) : Int32 × Int32 × Int32 × Int32 → Option ((Int32 × Int32 × Int32 × Int32) ⊕ ((Int32 × Int32 × Int32)))
  | (v5, v6, v7, v8) =>
  if (s.1 1212) ≤ v8 then
    some (.inr (v5, v6, v7))
  else
    (rd s 1205 24 v8).bind fun x2 =>
    if x2 = v1 then
      (F_X12_children v8 v2 v3 s).bind fun r3 =>
      F_X12_span_80 v1 v2 v3 v4 (v5 + r3) v6 v7 v8 r3 (-1) 0 s
    else
      some (.inl (v5, v6, v7, (v8 + 1)))
def F_X12_span_200 (v4 : Int32) (v5 : Int32) (v6 : Int32) (v7 : Int32) (s : St) : Option (Int32) :=
  if v6 = (-1) then
    some v5
  else
    if v4 = 0 then
      some (Int64.toInt32 (((Int32.toInt64 v5) * (Int32.toInt64 v6)) / 1000))
    else
      some (Int64.toInt32 (((Int32.toInt64 v5) * (Int32.toInt64 v7)) / 1000))
def F_X12_span_34 (v1 : Int32) (v2 : Int32) (v3 : Int32) (v4 : Int32) (v5 : Int32) (v6 : Int32) (v7 : Int32) (v8 : Int32) (s : St) : Option (Int32) :=
  (lp (B_X12_span_34 v1 v2 v3 v4 s) FU (v5, v6, v7, v8)).bind (fun y => F_X12_span_200 v4 y.1 y.2.1 y.2.2 s)
def F_X12_span (v1 : Int32) (v2 : Int32) (v3 : Int32) (v4 : Int32) (s : St) : Option (Int32) :=
  (F_X12_isAsked v1 v2 v3 s).bind fun r1 =>
  if r1 = 0 then
    some (-1)
  else
    if inb v4 0 1 = false then
      some (-1)
    else
      F_X12_span_34 v1 v2 v3 v4 0 (-1) (-1) 0 s
theorem J_X12_span : mj_t 7 13 = 20 ∧ mj_t 17 5 = 22 ∧ mj_t 40 160 = 200 ∧ mj_t 51 6 = 57 ∧ mj_t 54 140 = 194 ∧ mj_t 86 52 = 138 ∧ mj_t 98 30 = 128 ∧ mj_t 109 19 = 128 ∧ mj_t 120 8 = 128 ∧ mj_t 125 5 = 130 ∧ mj_t 135 (-55) = 80 ∧ mj_t 140 54 = 194 ∧ mj_t 146 48 = 194 ∧ mj_t 168 8 = 176 ∧ mj_t 173 10 = 183 ∧ mj_t 197 (-163) = 34 ∧ mj_t 203 6 = 209 ∧ mj_t 214 8 = 222 ∧ mj_t 219 5 = 224 ∧ (0 ≤ ((7 : Nat) : Int) + 13) = True ∧ (0 ≤ ((17 : Nat) : Int) + 5) = True ∧ (0 ≤ ((40 : Nat) : Int) + 160) = True ∧ (0 ≤ ((51 : Nat) : Int) + 6) = True ∧ (0 ≤ ((54 : Nat) : Int) + 140) = True ∧ (0 ≤ ((86 : Nat) : Int) + 52) = True ∧ (0 ≤ ((98 : Nat) : Int) + 30) = True ∧ (0 ≤ ((109 : Nat) : Int) + 19) = True ∧ (0 ≤ ((120 : Nat) : Int) + 8) = True ∧ (0 ≤ ((125 : Nat) : Int) + 5) = True ∧ (0 ≤ ((135 : Nat) : Int) + (-55)) = True ∧ (0 ≤ ((140 : Nat) : Int) + 54) = True ∧ (0 ≤ ((146 : Nat) : Int) + 48) = True ∧ (0 ≤ ((168 : Nat) : Int) + 8) = True ∧ (0 ≤ ((173 : Nat) : Int) + 10) = True ∧ (0 ≤ ((197 : Nat) : Int) + (-163)) = True ∧ (0 ≤ ((203 : Nat) : Int) + 6) = True ∧ (0 ≤ ((214 : Nat) : Int) + 8) = True ∧ (0 ≤ ((219 : Nat) : Int) + 5) = True := by and_intros <;> first | rfl | exact eq_true (by decide)
def ct_X12_span : List (Nat × mj_Cs) := [(243, 2, 3, 12, 0, 0, c_in), (422, 0, 4, 12, 0, 0, c_X12_isAsked), (463, 0, 4, 12, 0, 0, c_X12_children)]
theorem L_X12_span : mj_lk ct_X12_span 243 = some (2, 3, 12, 0, 0, c_in) ∧ mj_lk ct_X12_span 422 = some (0, 4, 12, 0, 0, c_X12_isAsked) ∧ mj_lk ct_X12_span 463 = some (0, 4, 12, 0, 0, c_X12_children) := ⟨rfl, rfl, rfl⟩
set_option maxHeartbeats 4000000 in
set_option maxRecDepth 20000 in
theorem b_X12_span_80 {k : Option Value → mj_H → Prop} {G : mj_K} (hG : mj_cl2 cX12_span (TbX12 12 ((some FieldType.int)) ct_X12_span) k G) (hM : mj_ml cX12_span yX12_span.cls G) {v1 : Int32} {v2 : Int32} {v3 : Int32} {v4 : Int32} {v5 : Int32} {v6 : Int32} {v7 : Int32} {v8 : Int32} {v9 : Int32} {s : St} {P : Int32 × Int32 → Prop} {K : (Int32) → Prop} (hP : ∀ x, P x → G 80 [.ref 0, .int v1, .int v2, .int v3, .int v4, .int v5, .int v6, .int v7, .int v8, .int v9, .int x.1, .int x.2] [] (mkMs s) 0 0) (hK0 : ∀ y, K y → G 138 [.ref 0, .int v1, .int v2, .int v3, .int v4, .int v5, .int v6, .int v7, .int v8, .int v9, .int y] [] (mkMs s) 0 0) {v10 : Int32} {v11 : Int32} (hw : ok (B_X12_span_80 v1 v2 v3 v4 v5 v6 v7 v8 v9 s (v10, v11)) (Sum.elim P K)) : G 80 [.ref 0, .int v1, .int v2, .int v3, .int v4, .int v5, .int v6, .int v7, .int v8, .int v9, .int v10, .int v11] [] (mkMs s) 0 0 := by
  unfold B_X12_span_80 at hw
  refine mj_run hG.1 (fun pc => pc == 7 || pc == 34 || pc == 65 || pc == 80 || pc == 138 || pc == 180 || pc == 189 || pc == 200) 4000 ?_
  simp only [mj_step, mj_W_s, mj_fin, List.getElem?_cons_zero, List.getElem?_cons_succ, mj_go, Nat.reduceAdd, Nat.reduceSub, Nat.reduceLT, Nat.reduceLeDiff, Nat.zero_add, Nat.reduceEqDiff, Nat.reduceBEq, ↓reduceIte, Bool.false_eq_true, List.append_nil, List.nil_append, List.cons_append, Option.toList, and_true, true_and, true_or, or_true, reduceCtorEq, List.map_nil, bI_eq0, bI_eq1, bool_ft, pk_us, vnar0, vnar1, Bool.or_false, Bool.or_true, Bool.false_or, Bool.true_or, mj_kne, eq_self, Int32.reduceLT, Int32.reduceLE, Int32.reduceAdd, Int32.reduceSub, Int32.reduceMul, not_true_eq_false, not_false_eq_true, false_implies, true_implies, D_X12_span_0, D_X12_span_1, D_X12_span_2, mj_F_aload_n_k, mj_F_getfield_i, mj_F_goto_off, mj_F_i2l, mj_F_iadd, mj_F_iaload, mj_F_iconst_n, mj_F_idiv, mj_F_ifCond_eq_off, mj_F_ifCond_le_off, mj_F_ifCond_ne_off, mj_F_if_icmp_eq_off, mj_F_if_icmp_ge_off, mj_F_if_icmp_gt_off, mj_F_if_icmp_ne_off, mj_F_iinc_k_n, mj_F_iload_k, mj_F_iload_n_k, mj_F_imul, mj_F_invokestatic_i, mj_F_invokevirtual_i, mj_F_ireturn, mj_F_istore_k, mj_F_l2i, mj_F_ldc2_w_i, mj_F_ldiv, mj_F_lmul, mj_F_sipush_n, mj_set, mj_set0, mj_unk, mj_c2, mj_kc, FT_X12, FT_X12_1, KT_X12, L_X12_span, List.take_succ_cons, List.take_zero, List.drop_succ_cons, List.drop_zero, List.reverse_cons, List.reverse_nil, List.length_cons, List.length_nil, gS_M0, gMf_12, gMf_5, gS_M5, sS_Ma_5, gMf_80, gMf_76, gS_M59, sS_Ma_59, gMf_77, gS_M60, sS_Ma_60, gMf_79, gS_M62, sS_Ma_62, gMf_78, gS_M61, sS_Ma_61, c_in_eq, J_X12_span]
  refine ⟨fun c => ?_, fun c => ?_⟩
  · replace hw := ok_t hw c
    exact hG.2 _ _ _ _ _ _ _ _ _ (by refine ⟨Or.inr rfl, ?_⟩; refine ⟨Or.inr rfl, ?_⟩; refine ⟨Or.inr rfl, ?_⟩; refine ⟨Or.inr rfl, ?_⟩; refine ⟨Or.inr rfl, ?_⟩; refine ⟨Or.inr rfl, ?_⟩; refine ⟨Or.inr rfl, ?_⟩; refine ⟨Or.inr rfl, ?_⟩; refine ⟨Or.inr rfl, ?_⟩; refine ⟨Or.inr rfl, ?_⟩; refine ⟨Or.inr rfl, ?_⟩; exact trivial) (Nat.zero_le _) (Nat.zero_le _) (hK0 _ (ok_some hw :) :)
  · replace hw := ok_f hw c
    refine ⟨(ok_rd hw).1, ?_⟩
    replace hw := (ok_rd hw).2
    refine ⟨fun c => ?_, fun c => ?_⟩
    · replace hw := ok_f hw c
      exact hG.2 _ _ _ _ _ _ _ _ _ (by refine ⟨Or.inr rfl, ?_⟩; refine ⟨Or.inr rfl, ?_⟩; refine ⟨Or.inr rfl, ?_⟩; refine ⟨Or.inr rfl, ?_⟩; refine ⟨Or.inr rfl, ?_⟩; refine ⟨Or.inr rfl, ?_⟩; refine ⟨Or.inr rfl, ?_⟩; refine ⟨Or.inr rfl, ?_⟩; refine ⟨Or.inr rfl, ?_⟩; refine ⟨Or.inr rfl, ?_⟩; refine ⟨Or.inr rfl, ?_⟩; refine ⟨Or.inr rfl, ?_⟩; exact trivial) (Nat.zero_le _) (Nat.zero_le _) (hP _ (ok_some hw :) :)
    · replace hw := ok_t hw c
      refine ⟨(ok_rd hw).1, ?_⟩
      replace hw := (ok_rd hw).2
      refine ⟨fun c => ?_, fun c => ?_⟩
      · replace hw := ok_f hw c
        exact hG.2 _ _ _ _ _ _ _ _ _ (by refine ⟨Or.inr rfl, ?_⟩; refine ⟨Or.inr rfl, ?_⟩; refine ⟨Or.inr rfl, ?_⟩; refine ⟨Or.inr rfl, ?_⟩; refine ⟨Or.inr rfl, ?_⟩; refine ⟨Or.inr rfl, ?_⟩; refine ⟨Or.inr rfl, ?_⟩; refine ⟨Or.inr rfl, ?_⟩; refine ⟨Or.inr rfl, ?_⟩; refine ⟨Or.inr rfl, ?_⟩; refine ⟨Or.inr rfl, ?_⟩; refine ⟨Or.inr rfl, ?_⟩; exact trivial) (Nat.zero_le _) (Nat.zero_le _) (hP _ (ok_some hw :) :)
      · replace hw := ok_t hw c
        refine ⟨(ok_rd hw).1, ?_⟩
        replace hw := (ok_rd hw).2
        refine ⟨fun c => ?_, fun c => ?_⟩
        · replace hw := ok_t hw c
          exact hG.2 _ _ _ _ _ _ _ _ _ (by refine ⟨Or.inr rfl, ?_⟩; refine ⟨Or.inr rfl, ?_⟩; refine ⟨Or.inr rfl, ?_⟩; refine ⟨Or.inr rfl, ?_⟩; refine ⟨Or.inr rfl, ?_⟩; refine ⟨Or.inr rfl, ?_⟩; refine ⟨Or.inr rfl, ?_⟩; refine ⟨Or.inr rfl, ?_⟩; refine ⟨Or.inr rfl, ?_⟩; refine ⟨Or.inr rfl, ?_⟩; refine ⟨Or.inr rfl, ?_⟩; refine ⟨Or.inr rfl, ?_⟩; exact trivial) (Nat.zero_le _) (Nat.zero_le _) (hP _ (ok_some hw :) :)
        · replace hw := ok_f hw c
          exact hG.2 _ _ _ _ _ _ _ _ _ (by refine ⟨Or.inr rfl, ?_⟩; refine ⟨Or.inr rfl, ?_⟩; refine ⟨Or.inr rfl, ?_⟩; refine ⟨Or.inr rfl, ?_⟩; refine ⟨Or.inr rfl, ?_⟩; refine ⟨Or.inr rfl, ?_⟩; refine ⟨Or.inr rfl, ?_⟩; refine ⟨Or.inr rfl, ?_⟩; refine ⟨Or.inr rfl, ?_⟩; refine ⟨Or.inr rfl, ?_⟩; refine ⟨Or.inr rfl, ?_⟩; refine ⟨Or.inr rfl, ?_⟩; exact trivial) (Nat.zero_le _) (Nat.zero_le _) (hP _ (ok_some hw :) :)

set_option maxHeartbeats 4000000 in
set_option maxRecDepth 20000 in
theorem g_X12_span_138 {k : Option Value → mj_H → Prop} {G : mj_K} (hG : mj_cl2 cX12_span (TbX12 12 ((some FieldType.int)) ct_X12_span) k G) (hM : mj_ml cX12_span yX12_span.cls G) {v1 : Int32} {v2 : Int32} {v3 : Int32} {v4 : Int32} {s : St} {P : Int32 × Int32 × Int32 × Int32 → Prop} {K : (Int32 × Int32 × Int32) → Prop} (hP : ∀ x, P x → G 34 [.ref 0, .int v1, .int v2, .int v3, .int v4, .int x.1, .int x.2.1, .int x.2.2.1, .int x.2.2.2] [] (mkMs s) 0 0) (hK0 : ∀ y, K y → G 200 [mj_unk, mj_unk, mj_unk, mj_unk, .int v4, .int y.1, .int y.2.1, .int y.2.2] [] (mkMs s) 0 0) {v5 : Int32} {v6 : Int32} {v7 : Int32} {v8 : Int32} {v9 : Int32} {v10 : Int32} (hw : ok (F_X12_span_138 v1 v2 v3 v4 v5 v6 v7 v8 v9 v10 s) (Sum.elim P K)) : G 138 [.ref 0, .int v1, .int v2, .int v3, .int v4, .int v5, .int v6, .int v7, .int v8, .int v9, .int v10] [] (mkMs s) 0 0 := by
  unfold F_X12_span_138 at hw
  refine mj_run hG.1 (fun pc => pc == 7 || pc == 34 || pc == 65 || pc == 80 || pc == 138 || pc == 180 || pc == 189 || pc == 200) 4000 ?_
  simp only [mj_step, mj_W_s, mj_fin, List.getElem?_cons_zero, List.getElem?_cons_succ, mj_go, Nat.reduceAdd, Nat.reduceSub, Nat.reduceLT, Nat.reduceLeDiff, Nat.zero_add, Nat.reduceEqDiff, Nat.reduceBEq, ↓reduceIte, Bool.false_eq_true, List.append_nil, List.nil_append, List.cons_append, Option.toList, and_true, true_and, true_or, or_true, reduceCtorEq, List.map_nil, bI_eq0, bI_eq1, bool_ft, pk_us, vnar0, vnar1, Bool.or_false, Bool.or_true, Bool.false_or, Bool.true_or, mj_kne, eq_self, Int32.reduceLT, Int32.reduceLE, Int32.reduceAdd, Int32.reduceSub, Int32.reduceMul, not_true_eq_false, not_false_eq_true, false_implies, true_implies, D_X12_span_0, D_X12_span_1, D_X12_span_2, mj_F_aload_n_k, mj_F_getfield_i, mj_F_goto_off, mj_F_i2l, mj_F_iadd, mj_F_iaload, mj_F_iconst_n, mj_F_idiv, mj_F_ifCond_eq_off, mj_F_ifCond_le_off, mj_F_ifCond_ne_off, mj_F_if_icmp_eq_off, mj_F_if_icmp_ge_off, mj_F_if_icmp_gt_off, mj_F_if_icmp_ne_off, mj_F_iinc_k_n, mj_F_iload_k, mj_F_iload_n_k, mj_F_imul, mj_F_invokestatic_i, mj_F_invokevirtual_i, mj_F_ireturn, mj_F_istore_k, mj_F_l2i, mj_F_ldc2_w_i, mj_F_ldiv, mj_F_lmul, mj_F_sipush_n, mj_set, mj_set0, mj_unk, mj_c2, mj_kc, FT_X12, FT_X12_1, KT_X12, L_X12_span, List.take_succ_cons, List.take_zero, List.drop_succ_cons, List.drop_zero, List.reverse_cons, List.reverse_nil, List.length_cons, List.length_nil, gS_M0, gMf_12, gMf_5, gS_M5, sS_Ma_5, gMf_80, gMf_76, gS_M59, sS_Ma_59, gMf_77, gS_M60, sS_Ma_60, gMf_79, gS_M62, sS_Ma_62, gMf_78, gS_M61, sS_Ma_61, c_in_eq, J_X12_span]
  refine ⟨fun c => ?_, fun c => ?_⟩
  · replace hw := ok_t hw c
    exact hG.2 _ _ _ _ _ _ _ _ _ (by refine ⟨Or.inr rfl, ?_⟩; refine ⟨Or.inr rfl, ?_⟩; refine ⟨Or.inr rfl, ?_⟩; refine ⟨Or.inr rfl, ?_⟩; refine ⟨Or.inr rfl, ?_⟩; refine ⟨Or.inr rfl, ?_⟩; refine ⟨Or.inr rfl, ?_⟩; refine ⟨Or.inr rfl, ?_⟩; refine ⟨Or.inr rfl, ?_⟩; exact trivial) (Nat.zero_le _) (Nat.zero_le _) (hP _ (ok_some hw :) :)
  · replace hw := ok_f hw c
    refine ⟨fun c => ?_, fun c => ?_⟩
    · replace hw := ok_t hw c
      exact hG.2 _ _ _ _ _ _ _ _ _ (by refine ⟨Or.inr rfl, ?_⟩; refine ⟨Or.inr rfl, ?_⟩; refine ⟨Or.inr rfl, ?_⟩; refine ⟨Or.inr rfl, ?_⟩; refine ⟨Or.inr rfl, ?_⟩; refine ⟨Or.inr rfl, ?_⟩; refine ⟨Or.inr rfl, ?_⟩; refine ⟨Or.inr rfl, ?_⟩; refine ⟨Or.inr rfl, ?_⟩; exact trivial) (Nat.zero_le _) (Nat.zero_le _) (hP _ (ok_some hw :) :)
    · replace hw := ok_f hw c
      refine ⟨(ok_rd hw).1, ?_⟩
      replace hw := (ok_rd hw).2
      refine ⟨(ok_nz hw).1, ?_⟩
      replace hw := (ok_nz hw).2
      refine ⟨fun c => ?_, fun c => ?_⟩
      · replace hw := ok_f hw c
        refine hM 180 449 0 _ _ _ _ _ _ _ _ (by simp only [D_X12_span_0, D_X12_span_1, D_X12_span_2]) (lkX12_449) rfl (Nat.le_of_ble_eq_true rfl) ?_
        refine mj_run hG.1 (fun pc => pc == 7 || pc == 34 || pc == 65 || pc == 80 || pc == 138 || pc == 180 || pc == 189 || pc == 200) 4000 ?_
        simp only [mj_step, mj_W_s, mj_fin, List.getElem?_cons_zero, List.getElem?_cons_succ, mj_go, Nat.reduceAdd, Nat.reduceSub, Nat.reduceLT, Nat.reduceLeDiff, Nat.zero_add, Nat.reduceEqDiff, Nat.reduceBEq, ↓reduceIte, Bool.false_eq_true, List.append_nil, List.nil_append, List.cons_append, Option.toList, and_true, true_and, true_or, or_true, reduceCtorEq, List.map_nil, bI_eq0, bI_eq1, bool_ft, pk_us, vnar0, vnar1, Bool.or_false, Bool.or_true, Bool.false_or, Bool.true_or, mj_kne, eq_self, Int32.reduceLT, Int32.reduceLE, Int32.reduceAdd, Int32.reduceSub, Int32.reduceMul, not_true_eq_false, not_false_eq_true, false_implies, true_implies, D_X12_span_0, D_X12_span_1, D_X12_span_2, mj_F_aload_n_k, mj_F_getfield_i, mj_F_goto_off, mj_F_i2l, mj_F_iadd, mj_F_iaload, mj_F_iconst_n, mj_F_idiv, mj_F_ifCond_eq_off, mj_F_ifCond_le_off, mj_F_ifCond_ne_off, mj_F_if_icmp_eq_off, mj_F_if_icmp_ge_off, mj_F_if_icmp_gt_off, mj_F_if_icmp_ne_off, mj_F_iinc_k_n, mj_F_iload_k, mj_F_iload_n_k, mj_F_imul, mj_F_invokestatic_i, mj_F_invokevirtual_i, mj_F_ireturn, mj_F_istore_k, mj_F_l2i, mj_F_ldc2_w_i, mj_F_ldiv, mj_F_lmul, mj_F_sipush_n, mj_set, mj_set0, mj_unk, mj_c2, mj_kc, FT_X12, FT_X12_1, KT_X12, L_X12_span, List.take_succ_cons, List.take_zero, List.drop_succ_cons, List.drop_zero, List.reverse_cons, List.reverse_nil, List.length_cons, List.length_nil, gS_M0, gMf_12, gMf_5, gS_M5, sS_Ma_5, gMf_80, gMf_76, gS_M59, sS_Ma_59, gMf_77, gS_M60, sS_Ma_60, gMf_79, gS_M62, sS_Ma_62, gMf_78, gS_M61, sS_Ma_61, c_in_eq, J_X12_span]
        refine hM 189 447 1 _ _ _ _ _ _ _ _ (by simp only [D_X12_span_0, D_X12_span_1, D_X12_span_2]) (lkX12_447) rfl (Nat.le_of_ble_eq_true rfl) ?_
        refine mj_run hG.1 (fun pc => pc == 7 || pc == 34 || pc == 65 || pc == 80 || pc == 138 || pc == 180 || pc == 189 || pc == 200) 4000 ?_
        simp only [mj_step, mj_W_s, mj_fin, List.getElem?_cons_zero, List.getElem?_cons_succ, mj_go, Nat.reduceAdd, Nat.reduceSub, Nat.reduceLT, Nat.reduceLeDiff, Nat.zero_add, Nat.reduceEqDiff, Nat.reduceBEq, ↓reduceIte, Bool.false_eq_true, List.append_nil, List.nil_append, List.cons_append, Option.toList, and_true, true_and, true_or, or_true, reduceCtorEq, List.map_nil, bI_eq0, bI_eq1, bool_ft, pk_us, vnar0, vnar1, Bool.or_false, Bool.or_true, Bool.false_or, Bool.true_or, mj_kne, eq_self, Int32.reduceLT, Int32.reduceLE, Int32.reduceAdd, Int32.reduceSub, Int32.reduceMul, not_true_eq_false, not_false_eq_true, false_implies, true_implies, D_X12_span_0, D_X12_span_1, D_X12_span_2, mj_F_aload_n_k, mj_F_getfield_i, mj_F_goto_off, mj_F_i2l, mj_F_iadd, mj_F_iaload, mj_F_iconst_n, mj_F_idiv, mj_F_ifCond_eq_off, mj_F_ifCond_le_off, mj_F_ifCond_ne_off, mj_F_if_icmp_eq_off, mj_F_if_icmp_ge_off, mj_F_if_icmp_gt_off, mj_F_if_icmp_ne_off, mj_F_iinc_k_n, mj_F_iload_k, mj_F_iload_n_k, mj_F_imul, mj_F_invokestatic_i, mj_F_invokevirtual_i, mj_F_ireturn, mj_F_istore_k, mj_F_l2i, mj_F_ldc2_w_i, mj_F_ldiv, mj_F_lmul, mj_F_sipush_n, mj_set, mj_set0, mj_unk, mj_c2, mj_kc, FT_X12, FT_X12_1, KT_X12, L_X12_span, List.take_succ_cons, List.take_zero, List.drop_succ_cons, List.drop_zero, List.reverse_cons, List.reverse_nil, List.length_cons, List.length_nil, gS_M0, gMf_12, gMf_5, gS_M5, sS_Ma_5, gMf_80, gMf_76, gS_M59, sS_Ma_59, gMf_77, gS_M60, sS_Ma_60, gMf_79, gS_M62, sS_Ma_62, gMf_78, gS_M61, sS_Ma_61, c_in_eq, J_X12_span]
        exact hG.2 _ _ _ _ _ _ _ _ _ (by refine ⟨Or.inr rfl, ?_⟩; refine ⟨Or.inr rfl, ?_⟩; refine ⟨Or.inr rfl, ?_⟩; refine ⟨Or.inr rfl, ?_⟩; refine ⟨Or.inr rfl, ?_⟩; refine ⟨Or.inr rfl, ?_⟩; refine ⟨Or.inr rfl, ?_⟩; refine ⟨Or.inr rfl, ?_⟩; refine ⟨Or.inr rfl, ?_⟩; exact trivial) (Nat.zero_le _) (Nat.zero_le _) (hP _ (ok_some hw :) :)
      · replace hw := ok_t hw c
        refine hM 189 447 1 _ _ _ _ _ _ _ _ (by simp only [D_X12_span_0, D_X12_span_1, D_X12_span_2]) (lkX12_447) rfl (Nat.le_of_ble_eq_true rfl) ?_
        refine mj_run hG.1 (fun pc => pc == 7 || pc == 34 || pc == 65 || pc == 80 || pc == 138 || pc == 180 || pc == 189 || pc == 200) 4000 ?_
        simp only [mj_step, mj_W_s, mj_fin, List.getElem?_cons_zero, List.getElem?_cons_succ, mj_go, Nat.reduceAdd, Nat.reduceSub, Nat.reduceLT, Nat.reduceLeDiff, Nat.zero_add, Nat.reduceEqDiff, Nat.reduceBEq, ↓reduceIte, Bool.false_eq_true, List.append_nil, List.nil_append, List.cons_append, Option.toList, and_true, true_and, true_or, or_true, reduceCtorEq, List.map_nil, bI_eq0, bI_eq1, bool_ft, pk_us, vnar0, vnar1, Bool.or_false, Bool.or_true, Bool.false_or, Bool.true_or, mj_kne, eq_self, Int32.reduceLT, Int32.reduceLE, Int32.reduceAdd, Int32.reduceSub, Int32.reduceMul, not_true_eq_false, not_false_eq_true, false_implies, true_implies, D_X12_span_0, D_X12_span_1, D_X12_span_2, mj_F_aload_n_k, mj_F_getfield_i, mj_F_goto_off, mj_F_i2l, mj_F_iadd, mj_F_iaload, mj_F_iconst_n, mj_F_idiv, mj_F_ifCond_eq_off, mj_F_ifCond_le_off, mj_F_ifCond_ne_off, mj_F_if_icmp_eq_off, mj_F_if_icmp_ge_off, mj_F_if_icmp_gt_off, mj_F_if_icmp_ne_off, mj_F_iinc_k_n, mj_F_iload_k, mj_F_iload_n_k, mj_F_imul, mj_F_invokestatic_i, mj_F_invokevirtual_i, mj_F_ireturn, mj_F_istore_k, mj_F_l2i, mj_F_ldc2_w_i, mj_F_ldiv, mj_F_lmul, mj_F_sipush_n, mj_set, mj_set0, mj_unk, mj_c2, mj_kc, FT_X12, FT_X12_1, KT_X12, L_X12_span, List.take_succ_cons, List.take_zero, List.drop_succ_cons, List.drop_zero, List.reverse_cons, List.reverse_nil, List.length_cons, List.length_nil, gS_M0, gMf_12, gMf_5, gS_M5, sS_Ma_5, gMf_80, gMf_76, gS_M59, sS_Ma_59, gMf_77, gS_M60, sS_Ma_60, gMf_79, gS_M62, sS_Ma_62, gMf_78, gS_M61, sS_Ma_61, c_in_eq, J_X12_span]
        exact hG.2 _ _ _ _ _ _ _ _ _ (by refine ⟨Or.inr rfl, ?_⟩; refine ⟨Or.inr rfl, ?_⟩; refine ⟨Or.inr rfl, ?_⟩; refine ⟨Or.inr rfl, ?_⟩; refine ⟨Or.inr rfl, ?_⟩; refine ⟨Or.inr rfl, ?_⟩; refine ⟨Or.inr rfl, ?_⟩; refine ⟨Or.inr rfl, ?_⟩; refine ⟨Or.inr rfl, ?_⟩; exact trivial) (Nat.zero_le _) (Nat.zero_le _) (hP _ (ok_some hw :) :)

set_option maxHeartbeats 4000000 in
theorem g_X12_span_80 {k : Option Value → mj_H → Prop} {G : mj_K} (hG : mj_cl2 cX12_span (TbX12 12 ((some FieldType.int)) ct_X12_span) k G) (hM : mj_ml cX12_span yX12_span.cls G) {v1 : Int32} {v2 : Int32} {v3 : Int32} {v4 : Int32} {s : St} {P : Int32 × Int32 × Int32 × Int32 → Prop} {K : (Int32 × Int32 × Int32) → Prop} (hP : ∀ x, P x → G 34 [.ref 0, .int v1, .int v2, .int v3, .int v4, .int x.1, .int x.2.1, .int x.2.2.1, .int x.2.2.2] [] (mkMs s) 0 0) (hK0 : ∀ y, K y → G 200 [mj_unk, mj_unk, mj_unk, mj_unk, .int v4, .int y.1, .int y.2.1, .int y.2.2] [] (mkMs s) 0 0) {v5 : Int32} {v6 : Int32} {v7 : Int32} {v8 : Int32} {v9 : Int32} {v10 : Int32} {v11 : Int32} (hw : ok (F_X12_span_80 v1 v2 v3 v4 v5 v6 v7 v8 v9 v10 v11 s) (Sum.elim P K)) : G 80 [.ref 0, .int v1, .int v2, .int v3, .int v4, .int v5, .int v6, .int v7, .int v8, .int v9, .int v10, .int v11] [] (mkMs s) 0 0 := by
  unfold F_X12_span_80 at hw
  refine lp_ok (B_X12_span_80 v1 v2 v3 v4 v5 v6 v7 v8 v9 s) (fun x => G 80 [.ref 0, .int v1, .int v2, .int v3, .int v4, .int v5, .int v6, .int v7, .int v8, .int v9, .int x.1, .int x.2] [] (mkMs s) 0 0) _ ?_ _ _ (ok_bind hw)
  rintro ⟨v10, v11⟩ hb
  exact b_X12_span_80 hG hM (fun _ z => z) (fun y hw => by exact hG.2 _ _ _ _ _ _ _ _ _ (by refine ⟨Or.inr rfl, ?_⟩; refine ⟨Or.inr rfl, ?_⟩; refine ⟨Or.inr rfl, ?_⟩; refine ⟨Or.inr rfl, ?_⟩; refine ⟨Or.inr rfl, ?_⟩; refine ⟨Or.inr rfl, ?_⟩; refine ⟨Or.inr rfl, ?_⟩; refine ⟨Or.inr rfl, ?_⟩; refine ⟨Or.inr rfl, ?_⟩; refine ⟨Or.inr rfl, ?_⟩; refine ⟨Or.inr rfl, ?_⟩; exact trivial) (Nat.zero_le _) (Nat.zero_le _) (g_X12_span_138 hG hM hP hK0  hw :)) hb

set_option maxHeartbeats 4000000 in
set_option maxRecDepth 20000 in
theorem b_X12_span_34 {k : Option Value → mj_H → Prop} {G : mj_K} (hG : mj_cl2 cX12_span (TbX12 12 ((some FieldType.int)) ct_X12_span) k G) (hM : mj_ml cX12_span yX12_span.cls G) {v1 : Int32} {v2 : Int32} {v3 : Int32} {v4 : Int32} {s : St} {P : Int32 × Int32 × Int32 × Int32 → Prop} {K : (Int32 × Int32 × Int32) → Prop} (hP : ∀ x, P x → G 34 [.ref 0, .int v1, .int v2, .int v3, .int v4, .int x.1, .int x.2.1, .int x.2.2.1, .int x.2.2.2] [] (mkMs s) 0 0) (hK0 : ∀ y, K y → G 200 [mj_unk, mj_unk, mj_unk, mj_unk, .int v4, .int y.1, .int y.2.1, .int y.2.2] [] (mkMs s) 0 0) {v5 : Int32} {v6 : Int32} {v7 : Int32} {v8 : Int32} (hw : ok (B_X12_span_34 v1 v2 v3 v4 s (v5, v6, v7, v8)) (Sum.elim P K)) : G 34 [.ref 0, .int v1, .int v2, .int v3, .int v4, .int v5, .int v6, .int v7, .int v8] [] (mkMs s) 0 0 := by
  unfold B_X12_span_34 at hw
  refine mj_run hG.1 (fun pc => pc == 7 || pc == 34 || pc == 65 || pc == 80 || pc == 138 || pc == 180 || pc == 189 || pc == 200) 4000 ?_
  simp only [mj_step, mj_W_s, mj_fin, List.getElem?_cons_zero, List.getElem?_cons_succ, mj_go, Nat.reduceAdd, Nat.reduceSub, Nat.reduceLT, Nat.reduceLeDiff, Nat.zero_add, Nat.reduceEqDiff, Nat.reduceBEq, ↓reduceIte, Bool.false_eq_true, List.append_nil, List.nil_append, List.cons_append, Option.toList, and_true, true_and, true_or, or_true, reduceCtorEq, List.map_nil, bI_eq0, bI_eq1, bool_ft, pk_us, vnar0, vnar1, Bool.or_false, Bool.or_true, Bool.false_or, Bool.true_or, mj_kne, eq_self, Int32.reduceLT, Int32.reduceLE, Int32.reduceAdd, Int32.reduceSub, Int32.reduceMul, not_true_eq_false, not_false_eq_true, false_implies, true_implies, D_X12_span_0, D_X12_span_1, D_X12_span_2, mj_F_aload_n_k, mj_F_getfield_i, mj_F_goto_off, mj_F_i2l, mj_F_iadd, mj_F_iaload, mj_F_iconst_n, mj_F_idiv, mj_F_ifCond_eq_off, mj_F_ifCond_le_off, mj_F_ifCond_ne_off, mj_F_if_icmp_eq_off, mj_F_if_icmp_ge_off, mj_F_if_icmp_gt_off, mj_F_if_icmp_ne_off, mj_F_iinc_k_n, mj_F_iload_k, mj_F_iload_n_k, mj_F_imul, mj_F_invokestatic_i, mj_F_invokevirtual_i, mj_F_ireturn, mj_F_istore_k, mj_F_l2i, mj_F_ldc2_w_i, mj_F_ldiv, mj_F_lmul, mj_F_sipush_n, mj_set, mj_set0, mj_unk, mj_c2, mj_kc, FT_X12, FT_X12_1, KT_X12, L_X12_span, List.take_succ_cons, List.take_zero, List.drop_succ_cons, List.drop_zero, List.reverse_cons, List.reverse_nil, List.length_cons, List.length_nil, gS_M0, gMf_12, gMf_5, gS_M5, sS_Ma_5, gMf_80, gMf_76, gS_M59, sS_Ma_59, gMf_77, gS_M60, sS_Ma_60, gMf_79, gS_M62, sS_Ma_62, gMf_78, gS_M61, sS_Ma_61, c_in_eq, J_X12_span]
  refine ⟨fun c => ?_, fun c => ?_⟩
  · replace hw := ok_t hw c
    exact hG.2 _ _ _ _ _ _ _ _ _ (by refine ⟨Or.inl rfl, ?_⟩; refine ⟨Or.inl rfl, ?_⟩; refine ⟨Or.inl rfl, ?_⟩; refine ⟨Or.inl rfl, ?_⟩; refine ⟨Or.inr rfl, ?_⟩; refine ⟨Or.inr rfl, ?_⟩; refine ⟨Or.inr rfl, ?_⟩; refine ⟨Or.inr rfl, ?_⟩; exact trivial) (Nat.zero_le _) (Nat.zero_le _) (hK0 _ (ok_some hw :) :)
  · replace hw := ok_f hw c
    refine ⟨(ok_rd hw).1, ?_⟩
    replace hw := (ok_rd hw).2
    refine ⟨fun c => ?_, fun c => ?_⟩
    · replace hw := ok_t hw c
      refine c_X12_children_in (ok_imp (ok_bind hw) ?_)
      intro p hw
      simp only [Option.toList, List.nil_append, List.cons_append, Nat.reduceSub]
      refine mj_run hG.1 (fun pc => pc == 7 || pc == 34 || pc == 65 || pc == 80 || pc == 138 || pc == 180 || pc == 189 || pc == 200) 4000 ?_
      simp only [mj_step, mj_W_s, mj_fin, List.getElem?_cons_zero, List.getElem?_cons_succ, mj_go, Nat.reduceAdd, Nat.reduceSub, Nat.reduceLT, Nat.reduceLeDiff, Nat.zero_add, Nat.reduceEqDiff, Nat.reduceBEq, ↓reduceIte, Bool.false_eq_true, List.append_nil, List.nil_append, List.cons_append, Option.toList, and_true, true_and, true_or, or_true, reduceCtorEq, List.map_nil, bI_eq0, bI_eq1, bool_ft, pk_us, vnar0, vnar1, Bool.or_false, Bool.or_true, Bool.false_or, Bool.true_or, mj_kne, eq_self, Int32.reduceLT, Int32.reduceLE, Int32.reduceAdd, Int32.reduceSub, Int32.reduceMul, not_true_eq_false, not_false_eq_true, false_implies, true_implies, D_X12_span_0, D_X12_span_1, D_X12_span_2, mj_F_aload_n_k, mj_F_getfield_i, mj_F_goto_off, mj_F_i2l, mj_F_iadd, mj_F_iaload, mj_F_iconst_n, mj_F_idiv, mj_F_ifCond_eq_off, mj_F_ifCond_le_off, mj_F_ifCond_ne_off, mj_F_if_icmp_eq_off, mj_F_if_icmp_ge_off, mj_F_if_icmp_gt_off, mj_F_if_icmp_ne_off, mj_F_iinc_k_n, mj_F_iload_k, mj_F_iload_n_k, mj_F_imul, mj_F_invokestatic_i, mj_F_invokevirtual_i, mj_F_ireturn, mj_F_istore_k, mj_F_l2i, mj_F_ldc2_w_i, mj_F_ldiv, mj_F_lmul, mj_F_sipush_n, mj_set, mj_set0, mj_unk, mj_c2, mj_kc, FT_X12, FT_X12_1, KT_X12, L_X12_span, List.take_succ_cons, List.take_zero, List.drop_succ_cons, List.drop_zero, List.reverse_cons, List.reverse_nil, List.length_cons, List.length_nil, gS_M0, gMf_12, gMf_5, gS_M5, sS_Ma_5, gMf_80, gMf_76, gS_M59, sS_Ma_59, gMf_77, gS_M60, sS_Ma_60, gMf_79, gS_M62, sS_Ma_62, gMf_78, gS_M61, sS_Ma_61, c_in_eq, J_X12_span]
      exact hG.2 _ _ _ _ _ _ _ _ _ (by refine ⟨Or.inr rfl, ?_⟩; refine ⟨Or.inr rfl, ?_⟩; refine ⟨Or.inr rfl, ?_⟩; refine ⟨Or.inr rfl, ?_⟩; refine ⟨Or.inr rfl, ?_⟩; refine ⟨Or.inr rfl, ?_⟩; refine ⟨Or.inr rfl, ?_⟩; refine ⟨Or.inr rfl, ?_⟩; refine ⟨Or.inr rfl, ?_⟩; refine ⟨Or.inr rfl, ?_⟩; refine ⟨Or.inr rfl, ?_⟩; refine ⟨Or.inr rfl, ?_⟩; exact trivial) (Nat.zero_le _) (Nat.zero_le _) (g_X12_span_80 hG hM hP hK0  hw :)
    · replace hw := ok_f hw c
      exact hG.2 _ _ _ _ _ _ _ _ _ (by refine ⟨Or.inr rfl, ?_⟩; refine ⟨Or.inr rfl, ?_⟩; refine ⟨Or.inr rfl, ?_⟩; refine ⟨Or.inr rfl, ?_⟩; refine ⟨Or.inr rfl, ?_⟩; refine ⟨Or.inr rfl, ?_⟩; refine ⟨Or.inr rfl, ?_⟩; refine ⟨Or.inr rfl, ?_⟩; refine ⟨Or.inr rfl, ?_⟩; exact trivial) (Nat.zero_le _) (Nat.zero_le _) (hP _ (ok_some hw :) :)

set_option maxHeartbeats 4000000 in
set_option maxRecDepth 20000 in
theorem g_X12_span_200 {k : Option Value → mj_H → Prop} {G : mj_K} (hG : mj_cl2 cX12_span (TbX12 12 ((some FieldType.int)) ct_X12_span) k G) (hM : mj_ml cX12_span yX12_span.cls G)   {v4 : Int32} {v5 : Int32} {v6 : Int32} {v7 : Int32} {s : St} (hw : ok (F_X12_span_200 v4 v5 v6 v7 s) (fun p => k (some (.int p)) (mkMs s))) : G 200 [mj_unk, mj_unk, mj_unk, mj_unk, .int v4, .int v5, .int v6, .int v7] [] (mkMs s) 0 0 := by
  unfold F_X12_span_200 at hw
  refine mj_run hG.1 (fun pc => pc == 7 || pc == 34 || pc == 65 || pc == 80 || pc == 138 || pc == 180 || pc == 189 || pc == 200) 4000 ?_
  simp only [mj_step, mj_W_s, mj_fin, List.getElem?_cons_zero, List.getElem?_cons_succ, mj_go, Nat.reduceAdd, Nat.reduceSub, Nat.reduceLT, Nat.reduceLeDiff, Nat.zero_add, Nat.reduceEqDiff, Nat.reduceBEq, ↓reduceIte, Bool.false_eq_true, List.append_nil, List.nil_append, List.cons_append, Option.toList, and_true, true_and, true_or, or_true, reduceCtorEq, List.map_nil, bI_eq0, bI_eq1, bool_ft, pk_us, vnar0, vnar1, Bool.or_false, Bool.or_true, Bool.false_or, Bool.true_or, mj_kne, eq_self, Int32.reduceLT, Int32.reduceLE, Int32.reduceAdd, Int32.reduceSub, Int32.reduceMul, not_true_eq_false, not_false_eq_true, false_implies, true_implies, D_X12_span_0, D_X12_span_1, D_X12_span_2, mj_F_aload_n_k, mj_F_getfield_i, mj_F_goto_off, mj_F_i2l, mj_F_iadd, mj_F_iaload, mj_F_iconst_n, mj_F_idiv, mj_F_ifCond_eq_off, mj_F_ifCond_le_off, mj_F_ifCond_ne_off, mj_F_if_icmp_eq_off, mj_F_if_icmp_ge_off, mj_F_if_icmp_gt_off, mj_F_if_icmp_ne_off, mj_F_iinc_k_n, mj_F_iload_k, mj_F_iload_n_k, mj_F_imul, mj_F_invokestatic_i, mj_F_invokevirtual_i, mj_F_ireturn, mj_F_istore_k, mj_F_l2i, mj_F_ldc2_w_i, mj_F_ldiv, mj_F_lmul, mj_F_sipush_n, mj_set, mj_set0, mj_unk, mj_c2, mj_kc, FT_X12, FT_X12_1, KT_X12, L_X12_span, List.take_succ_cons, List.take_zero, List.drop_succ_cons, List.drop_zero, List.reverse_cons, List.reverse_nil, List.length_cons, List.length_nil, gS_M0, gMf_12, gMf_5, gS_M5, sS_Ma_5, gMf_80, gMf_76, gS_M59, sS_Ma_59, gMf_77, gS_M60, sS_Ma_60, gMf_79, gS_M62, sS_Ma_62, gMf_78, gS_M61, sS_Ma_61, c_in_eq, J_X12_span]
  refine ⟨fun c => ?_, fun c => ?_⟩
  · replace hw := ok_f hw c
    refine ⟨fun c => ?_, fun c => ?_⟩
    · replace hw := ok_f hw c
      exact (ok_some hw :)
    · replace hw := ok_t hw c
      exact (ok_some hw :)
  · replace hw := ok_t hw c
    exact (ok_some hw :)

set_option maxHeartbeats 4000000 in
theorem g_X12_span_34 {k : Option Value → mj_H → Prop} {G : mj_K} (hG : mj_cl2 cX12_span (TbX12 12 ((some FieldType.int)) ct_X12_span) k G) (hM : mj_ml cX12_span yX12_span.cls G)   {v1 : Int32} {v2 : Int32} {v3 : Int32} {v4 : Int32} {v5 : Int32} {v6 : Int32} {v7 : Int32} {v8 : Int32} {s : St} (hw : ok (F_X12_span_34 v1 v2 v3 v4 v5 v6 v7 v8 s) (fun p => k (some (.int p)) (mkMs s))) : G 34 [.ref 0, .int v1, .int v2, .int v3, .int v4, .int v5, .int v6, .int v7, .int v8] [] (mkMs s) 0 0 := by
  unfold F_X12_span_34 at hw
  refine lp_ok (B_X12_span_34 v1 v2 v3 v4 s) (fun x => G 34 [.ref 0, .int v1, .int v2, .int v3, .int v4, .int x.1, .int x.2.1, .int x.2.2.1, .int x.2.2.2] [] (mkMs s) 0 0) _ ?_ _ _ (ok_bind hw)
  rintro ⟨v5, v6, v7, v8⟩ hb
  exact b_X12_span_34 hG hM (fun _ z => z) (fun y hw => by exact hG.2 _ _ _ _ _ _ _ _ _ (by refine ⟨Or.inl rfl, ?_⟩; refine ⟨Or.inl rfl, ?_⟩; refine ⟨Or.inl rfl, ?_⟩; refine ⟨Or.inl rfl, ?_⟩; refine ⟨Or.inr rfl, ?_⟩; refine ⟨Or.inr rfl, ?_⟩; refine ⟨Or.inr rfl, ?_⟩; refine ⟨Or.inr rfl, ?_⟩; exact trivial) (Nat.zero_le _) (Nat.zero_le _) (g_X12_span_200 hG hM  hw :)) hb

set_option maxHeartbeats 4000000 in
set_option maxRecDepth 20000 in
theorem g_X12_span {k : Option Value → mj_H → Prop} {G : mj_K} (hG : mj_cl2 cX12_span (TbX12 12 ((some FieldType.int)) ct_X12_span) k G) (hM : mj_ml cX12_span yX12_span.cls G) {v1 : Int32} {v2 : Int32} {v3 : Int32} {v4 : Int32} {s : St} (hw : ok (F_X12_span v1 v2 v3 v4 s) (fun p => k (some (.int p)) (mkMs s))) : G 0 [.ref 0, .int v1, .int v2, .int v3, .int v4] [] (mkMs s) 0 0 := by
  unfold F_X12_span at hw
  refine mj_run hG.1 (fun pc => pc == 7 || pc == 34 || pc == 65 || pc == 80 || pc == 138 || pc == 180 || pc == 189 || pc == 200) 4000 ?_
  simp only [mj_step, mj_W_s, mj_fin, List.getElem?_cons_zero, List.getElem?_cons_succ, mj_go, Nat.reduceAdd, Nat.reduceSub, Nat.reduceLT, Nat.reduceLeDiff, Nat.zero_add, Nat.reduceEqDiff, Nat.reduceBEq, ↓reduceIte, Bool.false_eq_true, List.append_nil, List.nil_append, List.cons_append, Option.toList, and_true, true_and, true_or, or_true, reduceCtorEq, List.map_nil, bI_eq0, bI_eq1, bool_ft, pk_us, vnar0, vnar1, Bool.or_false, Bool.or_true, Bool.false_or, Bool.true_or, mj_kne, eq_self, Int32.reduceLT, Int32.reduceLE, Int32.reduceAdd, Int32.reduceSub, Int32.reduceMul, not_true_eq_false, not_false_eq_true, false_implies, true_implies, D_X12_span_0, D_X12_span_1, D_X12_span_2, mj_F_aload_n_k, mj_F_getfield_i, mj_F_goto_off, mj_F_i2l, mj_F_iadd, mj_F_iaload, mj_F_iconst_n, mj_F_idiv, mj_F_ifCond_eq_off, mj_F_ifCond_le_off, mj_F_ifCond_ne_off, mj_F_if_icmp_eq_off, mj_F_if_icmp_ge_off, mj_F_if_icmp_gt_off, mj_F_if_icmp_ne_off, mj_F_iinc_k_n, mj_F_iload_k, mj_F_iload_n_k, mj_F_imul, mj_F_invokestatic_i, mj_F_invokevirtual_i, mj_F_ireturn, mj_F_istore_k, mj_F_l2i, mj_F_ldc2_w_i, mj_F_ldiv, mj_F_lmul, mj_F_sipush_n, mj_set, mj_set0, mj_unk, mj_c2, mj_kc, FT_X12, FT_X12_1, KT_X12, L_X12_span, List.take_succ_cons, List.take_zero, List.drop_succ_cons, List.drop_zero, List.reverse_cons, List.reverse_nil, List.length_cons, List.length_nil, gS_M0, gMf_12, gMf_5, gS_M5, sS_Ma_5, gMf_80, gMf_76, gS_M59, sS_Ma_59, gMf_77, gS_M60, sS_Ma_60, gMf_79, gS_M62, sS_Ma_62, gMf_78, gS_M61, sS_Ma_61, c_in_eq, J_X12_span]
  refine c_X12_isAsked_in (ok_imp (ok_bind hw) ?_)
  intro p hw
  simp only [Option.toList, List.nil_append, List.cons_append, Nat.reduceSub]
  refine mj_run hG.1 (fun pc => pc == 7 || pc == 34 || pc == 65 || pc == 80 || pc == 138 || pc == 180 || pc == 189 || pc == 200) 4000 ?_
  simp only [mj_step, mj_W_s, mj_fin, List.getElem?_cons_zero, List.getElem?_cons_succ, mj_go, Nat.reduceAdd, Nat.reduceSub, Nat.reduceLT, Nat.reduceLeDiff, Nat.zero_add, Nat.reduceEqDiff, Nat.reduceBEq, ↓reduceIte, Bool.false_eq_true, List.append_nil, List.nil_append, List.cons_append, Option.toList, and_true, true_and, true_or, or_true, reduceCtorEq, List.map_nil, bI_eq0, bI_eq1, bool_ft, pk_us, vnar0, vnar1, Bool.or_false, Bool.or_true, Bool.false_or, Bool.true_or, mj_kne, eq_self, Int32.reduceLT, Int32.reduceLE, Int32.reduceAdd, Int32.reduceSub, Int32.reduceMul, not_true_eq_false, not_false_eq_true, false_implies, true_implies, D_X12_span_0, D_X12_span_1, D_X12_span_2, mj_F_aload_n_k, mj_F_getfield_i, mj_F_goto_off, mj_F_i2l, mj_F_iadd, mj_F_iaload, mj_F_iconst_n, mj_F_idiv, mj_F_ifCond_eq_off, mj_F_ifCond_le_off, mj_F_ifCond_ne_off, mj_F_if_icmp_eq_off, mj_F_if_icmp_ge_off, mj_F_if_icmp_gt_off, mj_F_if_icmp_ne_off, mj_F_iinc_k_n, mj_F_iload_k, mj_F_iload_n_k, mj_F_imul, mj_F_invokestatic_i, mj_F_invokevirtual_i, mj_F_ireturn, mj_F_istore_k, mj_F_l2i, mj_F_ldc2_w_i, mj_F_ldiv, mj_F_lmul, mj_F_sipush_n, mj_set, mj_set0, mj_unk, mj_c2, mj_kc, FT_X12, FT_X12_1, KT_X12, L_X12_span, List.take_succ_cons, List.take_zero, List.drop_succ_cons, List.drop_zero, List.reverse_cons, List.reverse_nil, List.length_cons, List.length_nil, gS_M0, gMf_12, gMf_5, gS_M5, sS_Ma_5, gMf_80, gMf_76, gS_M59, sS_Ma_59, gMf_77, gS_M60, sS_Ma_60, gMf_79, gS_M62, sS_Ma_62, gMf_78, gS_M61, sS_Ma_61, c_in_eq, J_X12_span]
  refine ⟨fun c => ?_, fun c => ?_⟩
  · replace hw := ok_t hw c
    exact (ok_some hw :)
  · replace hw := ok_f hw c
    refine ⟨fun c => ?_, fun c => ?_⟩
    · replace hw := ok_f hw c
      exact hG.2 _ _ _ _ _ _ _ _ _ (by refine ⟨Or.inr rfl, ?_⟩; refine ⟨Or.inr rfl, ?_⟩; refine ⟨Or.inr rfl, ?_⟩; refine ⟨Or.inr rfl, ?_⟩; refine ⟨Or.inr rfl, ?_⟩; refine ⟨Or.inr rfl, ?_⟩; refine ⟨Or.inr rfl, ?_⟩; refine ⟨Or.inr rfl, ?_⟩; refine ⟨Or.inr rfl, ?_⟩; exact trivial) (Nat.zero_le _) (Nat.zero_le _) (g_X12_span_34 hG hM  hw :)
    · replace hw := ok_t hw c
      exact (ok_some hw :)

def c_X12_span : mj_S := fun as h k => ∃ (v1 : Int32) (v2 : Int32) (v3 : Int32) (v4 : Int32) (s : St), as = [.ref 0, .int v1, .int v2, .int v3, .int v4] ∧ h = mkMs s ∧ ok (F_X12_span v1 v2 v3 v4 s) (fun p => k (some (.int p)) (mkMs s))
theorem c_X12_span_in {v1 : Int32} {v2 : Int32} {v3 : Int32} {v4 : Int32} {s : St} {k : Option Value → mj_H → Prop} (hw : ok (F_X12_span v1 v2 v3 v4 s) (fun p => k (some (.int p)) (mkMs s))) : c_X12_span [.ref 0, .int v1, .int v2, .int v3, .int v4] (mkMs s) k := ⟨v1, v2, v3, v4, s, rfl, rfl, hw⟩
theorem m_X12_span (l : Launch) : mj_Met l yX12_span cX12_span 12 ((some FieldType.int)) 3 0 0 c_X12_span := by
  refine mj_body3 false (TbX12 12 ((some FieldType.int)) ct_X12_span) (by decide) (by decide) rfl rfl (fun h => nomatch h) (tfX12 _ (List.forall_mem_cons.mpr ⟨cfX12_243 (m_X12_in l) (by decide), List.forall_mem_cons.mpr ⟨cfX12_422 (m_X12_isAsked l) (by decide), List.forall_mem_cons.mpr ⟨cfX12_463 (m_X12_children l) (by decide), fun _ h => nomatch h⟩⟩⟩)) ?_
  rintro as h k ⟨v1, v2, v3, v4, s, rfl, rfl, hw⟩
  exact ⟨rfl, fun G hG hM => g_X12_span hG hM hw⟩
def F_X12_strength (v1 : Int32) (v2 : Int32) (s : St) : Option (Int32 × St) :=
  if inb v1 0 4 = false then
    some (0, s)
  else
    if inb v2 1 200 = false then
      some (0, s)
    else
      (wr s 1281 5 v1 v2).bind fun s1 =>
      some (1, s1)
theorem J_X12_strength : mj_t 6 14 = 20 ∧ mj_t 17 5 = 22 ∧ (0 ≤ ((6 : Nat) : Int) + 14) = True ∧ (0 ≤ ((17 : Nat) : Int) + 5) = True := by and_intros <;> first | rfl | exact eq_true (by decide)
def ct_X12_strength : List (Nat × mj_Cs) := [(243, 2, 3, 12, 0, 0, c_in)]
theorem L_X12_strength : mj_lk ct_X12_strength 243 = some (2, 3, 12, 0, 0, c_in) := rfl
set_option maxHeartbeats 4000000 in
set_option maxRecDepth 20000 in
theorem g_X12_strength {k : Option Value → mj_H → Prop} {G : mj_K} (hG : mj_cl2 cX12_strength (TbX12 3 ((some FieldType.boolean)) ct_X12_strength) k G) {v1 : Int32} {v2 : Int32} {s : St} (hw : ok (F_X12_strength v1 v2 s) (fun p => k (some (.int p.1)) (mkMs p.2))) : G 0 [.ref 0, .int v1, .int v2] [] (mkMs s) 0 0 := by
  unfold F_X12_strength at hw
  refine mj_run hG.1 (fun _ => false) 4000 ?_
  simp only [mj_step, mj_W_s, mj_fin, List.getElem?_cons_zero, List.getElem?_cons_succ, mj_go, Nat.reduceAdd, Nat.reduceSub, Nat.reduceLT, Nat.reduceLeDiff, Nat.zero_add, Nat.reduceEqDiff, Nat.reduceBEq, ↓reduceIte, Bool.false_eq_true, List.append_nil, List.nil_append, List.cons_append, Option.toList, and_true, true_and, true_or, or_true, reduceCtorEq, List.map_nil, bI_eq0, bI_eq1, bool_ft, pk_us, vnar0, vnar1, Bool.or_false, Bool.or_true, Bool.false_or, Bool.true_or, mj_kne, eq_self, Int32.reduceLT, Int32.reduceLE, Int32.reduceAdd, Int32.reduceSub, Int32.reduceMul, not_true_eq_false, not_false_eq_true, false_implies, true_implies, D_X12_strength, mj_F_aload_n_k, mj_F_getfield_i, mj_F_iastore, mj_F_iconst_n, mj_F_ifCond_eq_off, mj_F_ifCond_ne_off, mj_F_iload_n_k, mj_F_invokestatic_i, mj_F_ireturn, mj_F_sipush_n, mj_kc, FT_X12, FT_X12_1, L_X12_strength, List.take_succ_cons, List.take_zero, List.drop_succ_cons, List.drop_zero, List.reverse_cons, List.reverse_nil, List.length_cons, List.length_nil, gS_M0, gMf_81, gS_M63, sS_Ma_63, c_in_eq, J_X12_strength]
  refine ⟨fun c => ?_, fun c => ?_⟩
  · replace hw := ok_t hw c
    exact (ok_some hw :)
  · replace hw := ok_f hw c
    refine ⟨fun c => ?_, fun c => ?_⟩
    · replace hw := ok_f hw c
      refine ⟨(ok_wr hw).1, ?_⟩
      replace hw := (ok_wr hw).2
      exact (ok_some hw :)
    · replace hw := ok_t hw c
      exact (ok_some hw :)

def c_X12_strength : mj_S := fun as h k => ∃ (v1 : Int32) (v2 : Int32) (s : St), as = [.ref 0, .int v1, .int v2] ∧ h = mkMs s ∧ ok (F_X12_strength v1 v2 s) (fun p => k (some (.int p.1)) (mkMs p.2))
theorem c_X12_strength_in {v1 : Int32} {v2 : Int32} {s : St} {k : Option Value → mj_H → Prop} (hw : ok (F_X12_strength v1 v2 s) (fun p => k (some (.int p.1)) (mkMs p.2))) : c_X12_strength [.ref 0, .int v1, .int v2] (mkMs s) k := ⟨v1, v2, s, rfl, rfl, hw⟩
theorem m_X12_strength (l : Launch) : mj_Met l yX12_strength cX12_strength 3 ((some FieldType.boolean)) 1 0 0 c_X12_strength := by
  refine mj_body2 false (TbX12 3 ((some FieldType.boolean)) ct_X12_strength) (by decide) rfl rfl (fun h => nomatch h) (tfX12 _ (List.forall_mem_cons.mpr ⟨cfX12_243 (m_X12_in l) (by decide), fun _ h => nomatch h⟩)) ?_
  rintro as h k ⟨v1, v2, s, rfl, rfl, hw⟩
  exact ⟨rfl, fun G hG => g_X12_strength hG hw⟩
def F_X12_roof (v1 : Int32) (v2 : Int32) (v3 : Int32) (s : St) : Option (Int32 × St) :=
  (F_X12_isSchool v1 s).bind fun r1 =>
  if r1 = 0 then
    some (0, s)
  else
    if inb v2 0 4 = false then
      some (0, s)
    else
      if inb v3 0 ((s.1 1263) - 1) = false then
        some (0, s)
      else
        if (s.1 1287) = 60 then
          some (0, s)
        else
          (wr s 1282 60 (s.1 1287) v3).bind fun s2 =>
          (wr s2 1283 60 (s2.1 1287) v2).bind fun s3 =>
          (wr s3 1284 60 (s3.1 1287) (s3.1 1200)).bind fun s4 =>
          (wr s4 1286 20 v1 (s4.1 1287)).bind fun s5 =>
          (wI s5 1287 ((s5.1 1287) + 1)).bind fun s6 =>
          some (1, s6)
theorem J_X12_roof : mj_t 5 35 = 40 ∧ mj_t 14 26 = 40 ∧ mj_t 28 12 = 40 ∧ mj_t 37 5 = 42 ∧ (0 ≤ ((5 : Nat) : Int) + 35) = True ∧ (0 ≤ ((14 : Nat) : Int) + 26) = True ∧ (0 ≤ ((28 : Nat) : Int) + 12) = True ∧ (0 ≤ ((37 : Nat) : Int) + 5) = True := by and_intros <;> first | rfl | exact eq_true (by decide)
def ct_X12_roof : List (Nat × mj_Cs) := [(243, 2, 3, 12, 0, 0, c_in), (293, 0, 2, 12, 0, 0, c_X12_isSchool)]
theorem L_X12_roof : mj_lk ct_X12_roof 243 = some (2, 3, 12, 0, 0, c_in) ∧ mj_lk ct_X12_roof 293 = some (0, 2, 12, 0, 0, c_X12_isSchool) := ⟨rfl, rfl⟩
set_option maxHeartbeats 4000000 in
set_option maxRecDepth 20000 in
theorem g_X12_roof {k : Option Value → mj_H → Prop} {G : mj_K} (hG : mj_cl2 cX12_roof (TbX12 4 ((some FieldType.boolean)) ct_X12_roof) k G) {v1 : Int32} {v2 : Int32} {v3 : Int32} {s : St} (hw : ok (F_X12_roof v1 v2 v3 s) (fun p => k (some (.int p.1)) (mkMs p.2))) : G 0 [.ref 0, .int v1, .int v2, .int v3] [] (mkMs s) 0 0 := by
  unfold F_X12_roof at hw
  refine mj_run hG.1 (fun pc => pc == 5) 4000 ?_
  simp only [mj_step, mj_W_s, mj_fin, List.getElem?_cons_zero, List.getElem?_cons_succ, mj_go, Nat.reduceAdd, Nat.reduceSub, Nat.reduceLT, Nat.reduceLeDiff, Nat.zero_add, Nat.reduceEqDiff, Nat.reduceBEq, ↓reduceIte, Bool.false_eq_true, List.append_nil, List.nil_append, List.cons_append, Option.toList, and_true, true_and, true_or, or_true, reduceCtorEq, List.map_nil, bI_eq0, bI_eq1, bool_ft, pk_us, vnar0, vnar1, Bool.or_false, Bool.or_true, Bool.false_or, Bool.true_or, mj_kne, eq_self, Int32.reduceLT, Int32.reduceLE, Int32.reduceAdd, Int32.reduceSub, Int32.reduceMul, not_true_eq_false, not_false_eq_true, false_implies, true_implies, D_X12_roof_0, D_X12_roof_1, mj_F_aload_n_k, mj_F_bipush_n, mj_F_dup, mj_F_getfield_i, mj_F_iadd, mj_F_iastore, mj_F_iconst_n, mj_F_ifCond_eq_off, mj_F_if_icmp_ne_off, mj_F_iload_n_k, mj_F_invokestatic_i, mj_F_invokevirtual_i, mj_F_ireturn, mj_F_isub, mj_F_putfield_i, mj_c2, mj_kc, FT_X12, FT_X12_1, PT_X12, L_X12_roof, List.take_succ_cons, List.take_zero, List.drop_succ_cons, List.drop_zero, List.reverse_cons, List.reverse_nil, List.length_cons, List.length_nil, gS_M0, gMf_63, gMf_87, gMf_82, gS_M64, sS_Ma_64, gMf_83, gS_M65, sS_Ma_65, gMf_84, gS_M66, sS_Ma_66, gMf_0, gMf_86, gS_M68, sS_Ma_68, sS_Mf_87, gMl, c_in_eq, J_X12_roof]
  refine c_X12_isSchool_in (ok_imp (ok_bind hw) ?_)
  intro p hw
  simp only [Option.toList, List.nil_append, List.cons_append, Nat.reduceSub]
  refine mj_run hG.1 (fun pc => pc == 5) 4000 ?_
  simp only [mj_step, mj_W_s, mj_fin, List.getElem?_cons_zero, List.getElem?_cons_succ, mj_go, Nat.reduceAdd, Nat.reduceSub, Nat.reduceLT, Nat.reduceLeDiff, Nat.zero_add, Nat.reduceEqDiff, Nat.reduceBEq, ↓reduceIte, Bool.false_eq_true, List.append_nil, List.nil_append, List.cons_append, Option.toList, and_true, true_and, true_or, or_true, reduceCtorEq, List.map_nil, bI_eq0, bI_eq1, bool_ft, pk_us, vnar0, vnar1, Bool.or_false, Bool.or_true, Bool.false_or, Bool.true_or, mj_kne, eq_self, Int32.reduceLT, Int32.reduceLE, Int32.reduceAdd, Int32.reduceSub, Int32.reduceMul, not_true_eq_false, not_false_eq_true, false_implies, true_implies, D_X12_roof_0, D_X12_roof_1, mj_F_aload_n_k, mj_F_bipush_n, mj_F_dup, mj_F_getfield_i, mj_F_iadd, mj_F_iastore, mj_F_iconst_n, mj_F_ifCond_eq_off, mj_F_if_icmp_ne_off, mj_F_iload_n_k, mj_F_invokestatic_i, mj_F_invokevirtual_i, mj_F_ireturn, mj_F_isub, mj_F_putfield_i, mj_c2, mj_kc, FT_X12, FT_X12_1, PT_X12, L_X12_roof, List.take_succ_cons, List.take_zero, List.drop_succ_cons, List.drop_zero, List.reverse_cons, List.reverse_nil, List.length_cons, List.length_nil, gS_M0, gMf_63, gMf_87, gMf_82, gS_M64, sS_Ma_64, gMf_83, gS_M65, sS_Ma_65, gMf_84, gS_M66, sS_Ma_66, gMf_0, gMf_86, gS_M68, sS_Ma_68, sS_Mf_87, gMl, c_in_eq, J_X12_roof]
  refine ⟨fun c => ?_, fun c => ?_⟩
  · replace hw := ok_t hw c
    exact (ok_some hw :)
  · replace hw := ok_f hw c
    refine ⟨fun c => ?_, fun c => ?_⟩
    · replace hw := ok_t hw c
      exact (ok_some hw :)
    · replace hw := ok_f hw c
      refine ⟨fun c => ?_, fun c => ?_⟩
      · replace hw := ok_t hw c
        exact (ok_some hw :)
      · replace hw := ok_f hw c
        refine ⟨fun c => ?_, fun c => ?_⟩
        · replace hw := ok_f hw c
          refine ⟨(ok_wr hw).1, ?_⟩
          replace hw := (ok_wr hw).2
          refine ⟨(ok_wr hw).1, ?_⟩
          replace hw := (ok_wr hw).2
          refine ⟨(ok_wr hw).1, ?_⟩
          replace hw := (ok_wr hw).2
          refine ⟨(ok_wr hw).1, ?_⟩
          replace hw := (ok_wr hw).2
          replace hw := ok_wI hw
          exact (ok_some hw :)
        · replace hw := ok_t hw c
          exact (ok_some hw :)

def c_X12_roof : mj_S := fun as h k => ∃ (v1 : Int32) (v2 : Int32) (v3 : Int32) (s : St), as = [.ref 0, .int v1, .int v2, .int v3] ∧ h = mkMs s ∧ ok (F_X12_roof v1 v2 v3 s) (fun p => k (some (.int p.1)) (mkMs p.2))
theorem c_X12_roof_in {v1 : Int32} {v2 : Int32} {v3 : Int32} {s : St} {k : Option Value → mj_H → Prop} (hw : ok (F_X12_roof v1 v2 v3 s) (fun p => k (some (.int p.1)) (mkMs p.2))) : c_X12_roof [.ref 0, .int v1, .int v2, .int v3] (mkMs s) k := ⟨v1, v2, v3, s, rfl, rfl, hw⟩
theorem m_X12_roof (l : Launch) : mj_Met l yX12_roof cX12_roof 4 ((some FieldType.boolean)) 2 0 0 c_X12_roof := by
  refine mj_body2 false (TbX12 4 ((some FieldType.boolean)) ct_X12_roof) (by decide) rfl rfl (fun h => nomatch h) (tfX12 _ (List.forall_mem_cons.mpr ⟨cfX12_243 (m_X12_in l) (by decide), List.forall_mem_cons.mpr ⟨cfX12_293 (m_X12_isSchool l) (by decide), fun _ h => nomatch h⟩⟩)) ?_
  rintro as h k ⟨v1, v2, v3, s, rfl, rfl, hw⟩
  exact ⟨rfl, fun G hG => g_X12_roof hG hw⟩
def B_X12_wind_44 (v1 : Int32) (v2 : Int32) : Int32 × Int32 × St → Option ((Int32 × Int32 × St) ⊕ ((Int32 × St)))
  | (v3, v4, s) =>
  if (s.1 1223) ≤ v4 then
    some (.inr (v3, s))
  else
    (rd s 1286 20 v4).bind fun x2 =>
    (rd s 1215 20 v4).bind fun x3 =>
    if x3 = v1 then
      if x2 = (-1) then
        some (.inl (v3, (v4 + 1), s))
      else
        (rd s 1283 60 x2).bind fun x4 =>
        (rd s 1281 5 x4).bind fun x5 =>
        (rd s 1284 60 x2).bind fun x6 =>
        if v2 ≤ (x5 - (((s.1 1200) - x6) / 26)) then
          some (.inl (v3, (v4 + 1), s))
        else
          (wr s 1285 60 x2 1).bind fun s7 =>
          (wr s7 1286 20 v4 (-1)).bind fun s8 =>
          some (.inl ((v3 + 1), (v4 + 1), s8))
    else
      some (.inl (v3, (v4 + 1), s))
def F_X12_wind_136 (v3 : Int32) (s : St) : Option (Int32 × St) :=
  some (v3, s)
def F_X12_wind_44 (v1 : Int32) (v2 : Int32) (v3 : Int32) (v4 : Int32) (s : St) : Option (Int32 × St) :=
  (lp (B_X12_wind_44 v1 v2) FU (v3, v4, s)).bind (fun y => F_X12_wind_136 y.1 y.2)
def F_X12_wind (v1 : Int32) (v2 : Int32) (s : St) : Option (Int32 × St) :=
  if inb v1 0 3 = false then
    some ((-1), s)
  else
    if inb v2 1 300 = false then
      some ((-1), s)
    else
      if (s.1 1288) = 60 then
        some ((-1), s)
      else
        (wI s 1288 ((s.1 1288) + 1)).bind fun s1 =>
        F_X12_wind_44 v1 v2 0 0 s1
theorem J_X12_wind : mj_t 4 23 = 27 ∧ mj_t 15 12 = 27 ∧ mj_t 24 5 = 29 ∧ mj_t 50 86 = 136 ∧ mj_t 70 60 = 130 ∧ mj_t 76 54 = 130 ∧ mj_t 108 22 = 130 ∧ mj_t 133 (-89) = 44 ∧ (0 ≤ ((4 : Nat) : Int) + 23) = True ∧ (0 ≤ ((15 : Nat) : Int) + 12) = True ∧ (0 ≤ ((24 : Nat) : Int) + 5) = True ∧ (0 ≤ ((50 : Nat) : Int) + 86) = True ∧ (0 ≤ ((70 : Nat) : Int) + 60) = True ∧ (0 ≤ ((76 : Nat) : Int) + 54) = True ∧ (0 ≤ ((108 : Nat) : Int) + 22) = True ∧ (0 ≤ ((133 : Nat) : Int) + (-89)) = True := by and_intros <;> first | rfl | exact eq_true (by decide)
def ct_X12_wind : List (Nat × mj_Cs) := [(243, 2, 3, 12, 0, 0, c_in), (271, 2, 1, 12, 0, 0, c_isShire)]
theorem L_X12_wind : mj_lk ct_X12_wind 243 = some (2, 3, 12, 0, 0, c_in) ∧ mj_lk ct_X12_wind 271 = some (2, 1, 12, 0, 0, c_isShire) := ⟨rfl, rfl⟩
set_option maxHeartbeats 4000000 in
set_option maxRecDepth 20000 in
theorem b_X12_wind_44 {k : Option Value → mj_H → Prop} {G : mj_K} (hG : mj_cl2 cX12_wind (TbX12 6 ((some FieldType.int)) ct_X12_wind) k G) {v1 : Int32} {v2 : Int32} {P : Int32 × Int32 × St → Prop} {K : (Int32 × St) → Prop} (hP : ∀ x, P x → G 44 [.ref 0, .int v1, .int v2, .int x.1, .int x.2.1] [] (mkMs x.2.2) 0 0) (hK0 : ∀ y, K y → G 136 [mj_unk, mj_unk, mj_unk, .int y.1] [] (mkMs y.2) 0 0) {v3 : Int32} {v4 : Int32} {s : St} (hw : ok (B_X12_wind_44 v1 v2 (v3, v4, s)) (Sum.elim P K)) : G 44 [.ref 0, .int v1, .int v2, .int v3, .int v4] [] (mkMs s) 0 0 := by
  unfold B_X12_wind_44 at hw
  refine mj_run hG.1 (fun pc => pc == 44 || pc == 136) 4000 ?_
  simp only [mj_step, mj_W_s, mj_fin, List.getElem?_cons_zero, List.getElem?_cons_succ, mj_go, Nat.reduceAdd, Nat.reduceSub, Nat.reduceLT, Nat.reduceLeDiff, Nat.zero_add, Nat.reduceEqDiff, Nat.reduceBEq, ↓reduceIte, Bool.false_eq_true, List.append_nil, List.nil_append, List.cons_append, Option.toList, and_true, true_and, true_or, or_true, reduceCtorEq, List.map_nil, bI_eq0, bI_eq1, bool_ft, pk_us, vnar0, vnar1, Bool.or_false, Bool.or_true, Bool.false_or, Bool.true_or, mj_kne, eq_self, Int32.reduceLT, Int32.reduceLE, Int32.reduceAdd, Int32.reduceSub, Int32.reduceMul, not_true_eq_false, not_false_eq_true, false_implies, true_implies, D_X12_wind_0, D_X12_wind_1, mj_F_aload_n_k, mj_F_bastore, mj_F_bipush_n, mj_F_dup, mj_F_getfield_i, mj_F_goto_off, mj_F_iadd, mj_F_iaload, mj_F_iastore, mj_F_iconst_n, mj_F_idiv, mj_F_ifCond_eq_off, mj_F_if_icmp_eq_off, mj_F_if_icmp_ge_off, mj_F_if_icmp_ne_off, mj_F_iinc_k_n, mj_F_iload_k, mj_F_iload_n_k, mj_F_invokestatic_i, mj_F_ireturn, mj_F_istore_k, mj_F_istore_n_k, mj_F_isub, mj_F_putfield_i, mj_F_sipush_n, mj_set, mj_set0, mj_unk, mj_c2, mj_kc, FT_X12, FT_X12_1, PT_X12, L_X12_wind, List.take_succ_cons, List.take_zero, List.drop_succ_cons, List.drop_zero, List.reverse_cons, List.reverse_nil, List.length_cons, List.length_nil, gS_M0, gMf_88, sS_Mf_88, gMl, gMf_23, gMf_86, gS_M68, sS_Ma_68, gMf_15, gS_M13, sS_Ma_13, gMf_81, gS_M63, sS_Ma_63, gMf_83, gS_M65, sS_Ma_65, gMf_0, gMf_84, gS_M66, sS_Ma_66, gMf_85, gS_M67, sS_Ma_67, c_isShire_eq, c_in_eq, J_X12_wind]
  refine ⟨fun c => ?_, fun c => ?_⟩
  · replace hw := ok_t hw c
    exact hG.2 _ _ _ _ _ _ _ _ _ (by refine ⟨Or.inl rfl, ?_⟩; refine ⟨Or.inl rfl, ?_⟩; refine ⟨Or.inl rfl, ?_⟩; refine ⟨Or.inr rfl, ?_⟩; exact trivial) (Nat.zero_le _) (Nat.zero_le _) (hK0 _ (ok_some hw :) :)
  · replace hw := ok_f hw c
    refine ⟨(ok_rd hw).1, ?_⟩
    replace hw := (ok_rd hw).2
    refine ⟨(ok_rd hw).1, ?_⟩
    replace hw := (ok_rd hw).2
    refine ⟨fun c => ?_, fun c => ?_⟩
    · replace hw := ok_f hw c
      exact hG.2 _ _ _ _ _ _ _ _ _ (by refine ⟨Or.inr rfl, ?_⟩; refine ⟨Or.inr rfl, ?_⟩; refine ⟨Or.inr rfl, ?_⟩; refine ⟨Or.inr rfl, ?_⟩; refine ⟨Or.inr rfl, ?_⟩; exact trivial) (Nat.zero_le _) (Nat.zero_le _) (hP _ (ok_some hw :) :)
    · replace hw := ok_t hw c
      refine ⟨fun c => ?_, fun c => ?_⟩
      · replace hw := ok_t hw c
        exact hG.2 _ _ _ _ _ _ _ _ _ (by refine ⟨Or.inr rfl, ?_⟩; refine ⟨Or.inr rfl, ?_⟩; refine ⟨Or.inr rfl, ?_⟩; refine ⟨Or.inr rfl, ?_⟩; refine ⟨Or.inr rfl, ?_⟩; exact trivial) (Nat.zero_le _) (Nat.zero_le _) (hP _ (ok_some hw :) :)
      · replace hw := ok_f hw c
        refine ⟨(ok_rd hw).1, ?_⟩
        replace hw := (ok_rd hw).2
        refine ⟨(ok_rd hw).1, ?_⟩
        replace hw := (ok_rd hw).2
        refine ⟨(ok_rd hw).1, ?_⟩
        replace hw := (ok_rd hw).2
        refine ⟨fun c => ?_, fun c => ?_⟩
        · replace hw := ok_t hw c
          exact hG.2 _ _ _ _ _ _ _ _ _ (by refine ⟨Or.inr rfl, ?_⟩; refine ⟨Or.inr rfl, ?_⟩; refine ⟨Or.inr rfl, ?_⟩; refine ⟨Or.inr rfl, ?_⟩; refine ⟨Or.inr rfl, ?_⟩; exact trivial) (Nat.zero_le _) (Nat.zero_le _) (hP _ (ok_some hw :) :)
        · replace hw := ok_f hw c
          refine ⟨(ok_wr hw).1, ?_⟩
          replace hw := (ok_wr hw).2
          refine ⟨(ok_wr hw).1, ?_⟩
          replace hw := (ok_wr hw).2
          exact hG.2 _ _ _ _ _ _ _ _ _ (by refine ⟨Or.inr rfl, ?_⟩; refine ⟨Or.inr rfl, ?_⟩; refine ⟨Or.inr rfl, ?_⟩; refine ⟨Or.inr rfl, ?_⟩; refine ⟨Or.inr rfl, ?_⟩; exact trivial) (Nat.zero_le _) (Nat.zero_le _) (hP _ (ok_some hw :) :)

set_option maxHeartbeats 4000000 in
set_option maxRecDepth 20000 in
theorem g_X12_wind_136 {k : Option Value → mj_H → Prop} {G : mj_K} (hG : mj_cl2 cX12_wind (TbX12 6 ((some FieldType.int)) ct_X12_wind) k G)   {v3 : Int32} {s : St} (hw : ok (F_X12_wind_136 v3 s) (fun p => k (some (.int p.1)) (mkMs p.2))) : G 136 [mj_unk, mj_unk, mj_unk, .int v3] [] (mkMs s) 0 0 := by
  unfold F_X12_wind_136 at hw
  refine mj_run hG.1 (fun pc => pc == 44 || pc == 136) 4000 ?_
  simp only [mj_step, mj_W_s, mj_fin, List.getElem?_cons_zero, List.getElem?_cons_succ, mj_go, Nat.reduceAdd, Nat.reduceSub, Nat.reduceLT, Nat.reduceLeDiff, Nat.zero_add, Nat.reduceEqDiff, Nat.reduceBEq, ↓reduceIte, Bool.false_eq_true, List.append_nil, List.nil_append, List.cons_append, Option.toList, and_true, true_and, true_or, or_true, reduceCtorEq, List.map_nil, bI_eq0, bI_eq1, bool_ft, pk_us, vnar0, vnar1, Bool.or_false, Bool.or_true, Bool.false_or, Bool.true_or, mj_kne, eq_self, Int32.reduceLT, Int32.reduceLE, Int32.reduceAdd, Int32.reduceSub, Int32.reduceMul, not_true_eq_false, not_false_eq_true, false_implies, true_implies, D_X12_wind_0, D_X12_wind_1, mj_F_aload_n_k, mj_F_bastore, mj_F_bipush_n, mj_F_dup, mj_F_getfield_i, mj_F_goto_off, mj_F_iadd, mj_F_iaload, mj_F_iastore, mj_F_iconst_n, mj_F_idiv, mj_F_ifCond_eq_off, mj_F_if_icmp_eq_off, mj_F_if_icmp_ge_off, mj_F_if_icmp_ne_off, mj_F_iinc_k_n, mj_F_iload_k, mj_F_iload_n_k, mj_F_invokestatic_i, mj_F_ireturn, mj_F_istore_k, mj_F_istore_n_k, mj_F_isub, mj_F_putfield_i, mj_F_sipush_n, mj_set, mj_set0, mj_unk, mj_c2, mj_kc, FT_X12, FT_X12_1, PT_X12, L_X12_wind, List.take_succ_cons, List.take_zero, List.drop_succ_cons, List.drop_zero, List.reverse_cons, List.reverse_nil, List.length_cons, List.length_nil, gS_M0, gMf_88, sS_Mf_88, gMl, gMf_23, gMf_86, gS_M68, sS_Ma_68, gMf_15, gS_M13, sS_Ma_13, gMf_81, gS_M63, sS_Ma_63, gMf_83, gS_M65, sS_Ma_65, gMf_0, gMf_84, gS_M66, sS_Ma_66, gMf_85, gS_M67, sS_Ma_67, c_isShire_eq, c_in_eq, J_X12_wind]
  exact (ok_some hw :)

set_option maxHeartbeats 4000000 in
theorem g_X12_wind_44 {k : Option Value → mj_H → Prop} {G : mj_K} (hG : mj_cl2 cX12_wind (TbX12 6 ((some FieldType.int)) ct_X12_wind) k G)   {v1 : Int32} {v2 : Int32} {v3 : Int32} {v4 : Int32} {s : St} (hw : ok (F_X12_wind_44 v1 v2 v3 v4 s) (fun p => k (some (.int p.1)) (mkMs p.2))) : G 44 [.ref 0, .int v1, .int v2, .int v3, .int v4] [] (mkMs s) 0 0 := by
  unfold F_X12_wind_44 at hw
  refine lp_ok (B_X12_wind_44 v1 v2) (fun x => G 44 [.ref 0, .int v1, .int v2, .int x.1, .int x.2.1] [] (mkMs x.2.2) 0 0) _ ?_ _ _ (ok_bind hw)
  rintro ⟨v3, v4, s⟩ hb
  exact b_X12_wind_44 hG (fun _ z => z) (fun y hw => by exact hG.2 _ _ _ _ _ _ _ _ _ (by refine ⟨Or.inl rfl, ?_⟩; refine ⟨Or.inl rfl, ?_⟩; refine ⟨Or.inl rfl, ?_⟩; refine ⟨Or.inr rfl, ?_⟩; exact trivial) (Nat.zero_le _) (Nat.zero_le _) (g_X12_wind_136 hG  hw :)) hb

set_option maxHeartbeats 4000000 in
set_option maxRecDepth 20000 in
theorem g_X12_wind {k : Option Value → mj_H → Prop} {G : mj_K} (hG : mj_cl2 cX12_wind (TbX12 6 ((some FieldType.int)) ct_X12_wind) k G) {v1 : Int32} {v2 : Int32} {s : St} (hw : ok (F_X12_wind v1 v2 s) (fun p => k (some (.int p.1)) (mkMs p.2))) : G 0 [.ref 0, .int v1, .int v2] [] (mkMs s) 0 0 := by
  unfold F_X12_wind at hw
  refine mj_run hG.1 (fun pc => pc == 44 || pc == 136) 4000 ?_
  simp only [mj_step, mj_W_s, mj_fin, List.getElem?_cons_zero, List.getElem?_cons_succ, mj_go, Nat.reduceAdd, Nat.reduceSub, Nat.reduceLT, Nat.reduceLeDiff, Nat.zero_add, Nat.reduceEqDiff, Nat.reduceBEq, ↓reduceIte, Bool.false_eq_true, List.append_nil, List.nil_append, List.cons_append, Option.toList, and_true, true_and, true_or, or_true, reduceCtorEq, List.map_nil, bI_eq0, bI_eq1, bool_ft, pk_us, vnar0, vnar1, Bool.or_false, Bool.or_true, Bool.false_or, Bool.true_or, mj_kne, eq_self, Int32.reduceLT, Int32.reduceLE, Int32.reduceAdd, Int32.reduceSub, Int32.reduceMul, not_true_eq_false, not_false_eq_true, false_implies, true_implies, D_X12_wind_0, D_X12_wind_1, mj_F_aload_n_k, mj_F_bastore, mj_F_bipush_n, mj_F_dup, mj_F_getfield_i, mj_F_goto_off, mj_F_iadd, mj_F_iaload, mj_F_iastore, mj_F_iconst_n, mj_F_idiv, mj_F_ifCond_eq_off, mj_F_if_icmp_eq_off, mj_F_if_icmp_ge_off, mj_F_if_icmp_ne_off, mj_F_iinc_k_n, mj_F_iload_k, mj_F_iload_n_k, mj_F_invokestatic_i, mj_F_ireturn, mj_F_istore_k, mj_F_istore_n_k, mj_F_isub, mj_F_putfield_i, mj_F_sipush_n, mj_set, mj_set0, mj_unk, mj_c2, mj_kc, FT_X12, FT_X12_1, PT_X12, L_X12_wind, List.take_succ_cons, List.take_zero, List.drop_succ_cons, List.drop_zero, List.reverse_cons, List.reverse_nil, List.length_cons, List.length_nil, gS_M0, gMf_88, sS_Mf_88, gMl, gMf_23, gMf_86, gS_M68, sS_Ma_68, gMf_15, gS_M13, sS_Ma_13, gMf_81, gS_M63, sS_Ma_63, gMf_83, gS_M65, sS_Ma_65, gMf_0, gMf_84, gS_M66, sS_Ma_66, gMf_85, gS_M67, sS_Ma_67, c_isShire_eq, c_in_eq, J_X12_wind]
  refine ⟨fun c => ?_, fun c => ?_⟩
  · replace hw := ok_t hw c
    exact (ok_some hw :)
  · replace hw := ok_f hw c
    refine ⟨fun c => ?_, fun c => ?_⟩
    · replace hw := ok_t hw c
      exact (ok_some hw :)
    · replace hw := ok_f hw c
      refine ⟨fun c => ?_, fun c => ?_⟩
      · replace hw := ok_f hw c
        replace hw := ok_wI hw
        exact hG.2 _ _ _ _ _ _ _ _ _ (by refine ⟨Or.inr rfl, ?_⟩; refine ⟨Or.inr rfl, ?_⟩; refine ⟨Or.inr rfl, ?_⟩; refine ⟨Or.inr rfl, ?_⟩; refine ⟨Or.inr rfl, ?_⟩; exact trivial) (Nat.zero_le _) (Nat.zero_le _) (g_X12_wind_44 hG  hw :)
      · replace hw := ok_t hw c
        exact (ok_some hw :)

def c_X12_wind : mj_S := fun as h k => ∃ (v1 : Int32) (v2 : Int32) (s : St), as = [.ref 0, .int v1, .int v2] ∧ h = mkMs s ∧ ok (F_X12_wind v1 v2 s) (fun p => k (some (.int p.1)) (mkMs p.2))
theorem c_X12_wind_in {v1 : Int32} {v2 : Int32} {s : St} {k : Option Value → mj_H → Prop} (hw : ok (F_X12_wind v1 v2 s) (fun p => k (some (.int p.1)) (mkMs p.2))) : c_X12_wind [.ref 0, .int v1, .int v2] (mkMs s) k := ⟨v1, v2, s, rfl, rfl, hw⟩
theorem m_X12_wind (l : Launch) : mj_Met l yX12_wind cX12_wind 6 ((some FieldType.int)) 2 0 0 c_X12_wind := by
  refine mj_body2 false (TbX12 6 ((some FieldType.int)) ct_X12_wind) (by decide) rfl rfl (fun h => nomatch h) (tfX12 _ (List.forall_mem_cons.mpr ⟨cfX12_243 (m_X12_in l) (by decide), List.forall_mem_cons.mpr ⟨cfX12_271 (m_X12_isShire l) (by decide), fun _ h => nomatch h⟩⟩)) ?_
  rintro as h k ⟨v1, v2, s, rfl, rfl, hw⟩
  exact ⟨rfl, fun G hG => g_X12_wind hG hw⟩
def B_X12_blame_27 (v1 : Int32) (v2 : Int32) (v3 : Int32) (v4 : Int32) (s : St) : Int32 × Int32 × Int32 → Option ((Int32 × Int32 × Int32) ⊕ ((Int32 × Int32)))
  | (v5, v6, v7) =>
  if (s.1 1287) ≤ v7 then
    some (.inr (v5, v6))
  else
    (rd s 1282 60 v7).bind fun x1 =>
    if x1 = v4 then
      (rd s 1282 60 v7).bind fun x4 =>
      if x4 = v4 then
        (rd s 1285 60 v7).bind fun x5 =>
        if x5 = 0 then
          some (.inl ((v5 + 1), (v6 + 0), (v7 + 1)))
        else
          some (.inl ((v5 + 1), (v6 + 1), (v7 + 1)))
      else
        some (.inl ((v5 + 1), (v6 + 0), (v7 + 1)))
    else
      (rd s 1282 60 v7).bind fun x2 =>
      if x2 = v4 then
        (rd s 1285 60 v7).bind fun x3 =>
        if x3 = 0 then
          some (.inl ((v5 + 0), (v6 + 0), (v7 + 1)))
        else
          some (.inl ((v5 + 0), (v6 + 1), (v7 + 1)))
      else
        some (.inl ((v5 + 0), (v6 + 0), (v7 + 1)))
def F_X12_blame_96 (v1 : Int32) (v2 : Int32) (v3 : Int32) (v4 : Int32) (v5 : Int32) (v6 : Int32) (s : St) : Option ((Int32 × Int32 × Int32 × Int32) ⊕ ((Int32))) :=
  if v6 ≤ 0 then
    some (.inl (v1, v2, v3, (v4 + 1)))
  else
    if (v6 * v3) ≤ (v2 * v5) then
      some (.inl (v1, v2, v3, (v4 + 1)))
    else
      some (.inl (v4, v6, v5, (v4 + 1)))
def F_X12_blame_27 (v1 : Int32) (v2 : Int32) (v3 : Int32) (v4 : Int32) (v5 : Int32) (v6 : Int32) (v7 : Int32) (s : St) : Option ((Int32 × Int32 × Int32 × Int32) ⊕ ((Int32))) :=
  (lp (B_X12_blame_27 v1 v2 v3 v4 s) FU (v5, v6, v7)).bind (fun y => F_X12_blame_96 v1 v2 v3 v4 y.1 y.2 s)
def B_X12_blame_9 (s : St) : Int32 × Int32 × Int32 × Int32 → Option ((Int32 × Int32 × Int32 × Int32) ⊕ ((Int32)))
  | (v1, v2, v3, v4) =>
  if (s.1 1263) ≤ v4 then
    some (.inr v1)
  else
    F_X12_blame_27 v1 v2 v3 v4 0 0 0 s
def F_X12_blame_127 (v1 : Int32) (s : St) : Option (Int32) :=
  some v1
def F_X12_blame_9 (v1 : Int32) (v2 : Int32) (v3 : Int32) (v4 : Int32) (s : St) : Option (Int32) :=
  (lp (B_X12_blame_9 s) FU (v1, v2, v3, v4)).bind (fun y => F_X12_blame_127 y s)
def F_X12_blame (s : St) : Option (Int32) :=
  F_X12_blame_9 (-1) 0 1 0 s
theorem J_X12_blame : mj_t 15 112 = 127 ∧ mj_t 33 63 = 96 ∧ mj_t 47 7 = 54 ∧ mj_t 51 4 = 55 ∧ mj_t 69 17 = 86 ∧ mj_t 79 7 = 86 ∧ mj_t 83 4 = 87 ∧ mj_t 93 (-66) = 27 ∧ mj_t 98 23 = 121 ∧ mj_t 109 12 = 121 ∧ mj_t 124 (-115) = 9 ∧ (0 ≤ ((15 : Nat) : Int) + 112) = True ∧ (0 ≤ ((33 : Nat) : Int) + 63) = True ∧ (0 ≤ ((47 : Nat) : Int) + 7) = True ∧ (0 ≤ ((51 : Nat) : Int) + 4) = True ∧ (0 ≤ ((69 : Nat) : Int) + 17) = True ∧ (0 ≤ ((79 : Nat) : Int) + 7) = True ∧ (0 ≤ ((83 : Nat) : Int) + 4) = True ∧ (0 ≤ ((93 : Nat) : Int) + (-66)) = True ∧ (0 ≤ ((98 : Nat) : Int) + 23) = True ∧ (0 ≤ ((109 : Nat) : Int) + 12) = True ∧ (0 ≤ ((124 : Nat) : Int) + (-115)) = True := by and_intros <;> first | rfl | exact eq_true (by decide)
set_option maxHeartbeats 4000000 in
set_option maxRecDepth 20000 in
theorem b_X12_blame_27 {k : Option Value → mj_H → Prop} {G : mj_K} (hG : mj_cl2 cX12_blame (TbX12 8 ((some FieldType.int)) []) k G) {v1 : Int32} {v2 : Int32} {v3 : Int32} {v4 : Int32} {s : St} {P : Int32 × Int32 × Int32 → Prop} {K : (Int32 × Int32) → Prop} (hP : ∀ x, P x → G 27 [.ref 0, .int v1, .int v2, .int v3, .int v4, .int x.1, .int x.2.1, .int x.2.2] [] (mkMs s) 0 0) (hK0 : ∀ y, K y → G 96 [.ref 0, .int v1, .int v2, .int v3, .int v4, .int y.1, .int y.2] [] (mkMs s) 0 0) {v5 : Int32} {v6 : Int32} {v7 : Int32} (hw : ok (B_X12_blame_27 v1 v2 v3 v4 s (v5, v6, v7)) (Sum.elim P K)) : G 27 [.ref 0, .int v1, .int v2, .int v3, .int v4, .int v5, .int v6, .int v7] [] (mkMs s) 0 0 := by
  unfold B_X12_blame_27 at hw
  refine mj_run hG.1 (fun pc => pc == 9 || pc == 27 || pc == 96 || pc == 127) 4000 ?_
  simp only [mj_step, mj_W_s, mj_fin, List.getElem?_cons_zero, List.getElem?_cons_succ, mj_go, Nat.reduceAdd, Nat.reduceSub, Nat.reduceLT, Nat.reduceLeDiff, Nat.zero_add, Nat.reduceEqDiff, Nat.reduceBEq, ↓reduceIte, Bool.false_eq_true, List.append_nil, List.nil_append, List.cons_append, Option.toList, and_true, true_and, true_or, or_true, reduceCtorEq, List.map_nil, bI_eq0, bI_eq1, bool_ft, pk_us, vnar0, vnar1, Bool.or_false, Bool.or_true, Bool.false_or, Bool.true_or, mj_kne, eq_self, Int32.reduceLT, Int32.reduceLE, Int32.reduceAdd, Int32.reduceSub, Int32.reduceMul, not_true_eq_false, not_false_eq_true, false_implies, true_implies, D_X12_blame_0, D_X12_blame_1, mj_F_aload_n_k, mj_F_baload, mj_F_getfield_i, mj_F_goto_off, mj_F_iadd, mj_F_iaload, mj_F_iconst_n, mj_F_ifCond_eq_off, mj_F_ifCond_le_off, mj_F_if_icmp_ge_off, mj_F_if_icmp_le_off, mj_F_if_icmp_ne_off, mj_F_iinc_k_n, mj_F_iload_k, mj_F_iload_n_k, mj_F_imul, mj_F_ireturn, mj_F_istore_k, mj_F_istore_n_k, mj_set, mj_set0, mj_unk, mj_c2, mj_kc, FT_X12, FT_X12_1, gS_M0, gMf_63, gMf_87, gMf_82, gS_M64, sS_Ma_64, gMf_85, gS_M67, sS_Ma_67, J_X12_blame]
  refine ⟨fun c => ?_, fun c => ?_⟩
  · replace hw := ok_t hw c
    exact hG.2 _ _ _ _ _ _ _ _ _ (by refine ⟨Or.inr rfl, ?_⟩; refine ⟨Or.inr rfl, ?_⟩; refine ⟨Or.inr rfl, ?_⟩; refine ⟨Or.inr rfl, ?_⟩; refine ⟨Or.inr rfl, ?_⟩; refine ⟨Or.inr rfl, ?_⟩; refine ⟨Or.inr rfl, ?_⟩; exact trivial) (Nat.zero_le _) (Nat.zero_le _) (hK0 _ (ok_some hw :) :)
  · replace hw := ok_f hw c
    refine ⟨(ok_rd hw).1, ?_⟩
    replace hw := (ok_rd hw).2
    refine ⟨fun c => ?_, fun c => ?_⟩
    · replace hw := ok_f hw c
      refine ⟨(ok_rd hw).1, ?_⟩
      replace hw := (ok_rd hw).2
      refine ⟨fun c => ?_, fun c => ?_⟩
      · replace hw := ok_f hw c
        exact hG.2 _ _ _ _ _ _ _ _ _ (by refine ⟨Or.inr rfl, ?_⟩; refine ⟨Or.inr rfl, ?_⟩; refine ⟨Or.inr rfl, ?_⟩; refine ⟨Or.inr rfl, ?_⟩; refine ⟨Or.inr rfl, ?_⟩; refine ⟨Or.inr rfl, ?_⟩; refine ⟨Or.inr rfl, ?_⟩; refine ⟨Or.inr rfl, ?_⟩; exact trivial) (Nat.zero_le _) (Nat.zero_le _) (hP _ (ok_some hw :) :)
      · replace hw := ok_t hw c
        refine ⟨(ok_rd hw).1, ?_⟩
        replace hw := (ok_rd hw).2
        refine ⟨fun c => ?_, fun c => ?_⟩
        · replace hw := ok_t hw c
          exact hG.2 _ _ _ _ _ _ _ _ _ (by refine ⟨Or.inr rfl, ?_⟩; refine ⟨Or.inr rfl, ?_⟩; refine ⟨Or.inr rfl, ?_⟩; refine ⟨Or.inr rfl, ?_⟩; refine ⟨Or.inr rfl, ?_⟩; refine ⟨Or.inr rfl, ?_⟩; refine ⟨Or.inr rfl, ?_⟩; refine ⟨Or.inr rfl, ?_⟩; exact trivial) (Nat.zero_le _) (Nat.zero_le _) (hP _ (ok_some hw :) :)
        · replace hw := ok_f hw c
          exact hG.2 _ _ _ _ _ _ _ _ _ (by refine ⟨Or.inr rfl, ?_⟩; refine ⟨Or.inr rfl, ?_⟩; refine ⟨Or.inr rfl, ?_⟩; refine ⟨Or.inr rfl, ?_⟩; refine ⟨Or.inr rfl, ?_⟩; refine ⟨Or.inr rfl, ?_⟩; refine ⟨Or.inr rfl, ?_⟩; refine ⟨Or.inr rfl, ?_⟩; exact trivial) (Nat.zero_le _) (Nat.zero_le _) (hP _ (ok_some hw :) :)
    · replace hw := ok_t hw c
      refine ⟨(ok_rd hw).1, ?_⟩
      replace hw := (ok_rd hw).2
      refine ⟨fun c => ?_, fun c => ?_⟩
      · replace hw := ok_f hw c
        exact hG.2 _ _ _ _ _ _ _ _ _ (by refine ⟨Or.inr rfl, ?_⟩; refine ⟨Or.inr rfl, ?_⟩; refine ⟨Or.inr rfl, ?_⟩; refine ⟨Or.inr rfl, ?_⟩; refine ⟨Or.inr rfl, ?_⟩; refine ⟨Or.inr rfl, ?_⟩; refine ⟨Or.inr rfl, ?_⟩; refine ⟨Or.inr rfl, ?_⟩; exact trivial) (Nat.zero_le _) (Nat.zero_le _) (hP _ (ok_some hw :) :)
      · replace hw := ok_t hw c
        refine ⟨(ok_rd hw).1, ?_⟩
        replace hw := (ok_rd hw).2
        refine ⟨fun c => ?_, fun c => ?_⟩
        · replace hw := ok_t hw c
          exact hG.2 _ _ _ _ _ _ _ _ _ (by refine ⟨Or.inr rfl, ?_⟩; refine ⟨Or.inr rfl, ?_⟩; refine ⟨Or.inr rfl, ?_⟩; refine ⟨Or.inr rfl, ?_⟩; refine ⟨Or.inr rfl, ?_⟩; refine ⟨Or.inr rfl, ?_⟩; refine ⟨Or.inr rfl, ?_⟩; refine ⟨Or.inr rfl, ?_⟩; exact trivial) (Nat.zero_le _) (Nat.zero_le _) (hP _ (ok_some hw :) :)
        · replace hw := ok_f hw c
          exact hG.2 _ _ _ _ _ _ _ _ _ (by refine ⟨Or.inr rfl, ?_⟩; refine ⟨Or.inr rfl, ?_⟩; refine ⟨Or.inr rfl, ?_⟩; refine ⟨Or.inr rfl, ?_⟩; refine ⟨Or.inr rfl, ?_⟩; refine ⟨Or.inr rfl, ?_⟩; refine ⟨Or.inr rfl, ?_⟩; refine ⟨Or.inr rfl, ?_⟩; exact trivial) (Nat.zero_le _) (Nat.zero_le _) (hP _ (ok_some hw :) :)

set_option maxHeartbeats 4000000 in
set_option maxRecDepth 20000 in
theorem g_X12_blame_96 {k : Option Value → mj_H → Prop} {G : mj_K} (hG : mj_cl2 cX12_blame (TbX12 8 ((some FieldType.int)) []) k G) {s : St} {P : Int32 × Int32 × Int32 × Int32 → Prop} {K : (Int32) → Prop} (hP : ∀ x, P x → G 9 [.ref 0, .int x.1, .int x.2.1, .int x.2.2.1, .int x.2.2.2] [] (mkMs s) 0 0) (hK0 : ∀ y, K y → G 127 [mj_unk, .int y] [] (mkMs s) 0 0) {v1 : Int32} {v2 : Int32} {v3 : Int32} {v4 : Int32} {v5 : Int32} {v6 : Int32} (hw : ok (F_X12_blame_96 v1 v2 v3 v4 v5 v6 s) (Sum.elim P K)) : G 96 [.ref 0, .int v1, .int v2, .int v3, .int v4, .int v5, .int v6] [] (mkMs s) 0 0 := by
  unfold F_X12_blame_96 at hw
  refine mj_run hG.1 (fun pc => pc == 9 || pc == 27 || pc == 96 || pc == 127) 4000 ?_
  simp only [mj_step, mj_W_s, mj_fin, List.getElem?_cons_zero, List.getElem?_cons_succ, mj_go, Nat.reduceAdd, Nat.reduceSub, Nat.reduceLT, Nat.reduceLeDiff, Nat.zero_add, Nat.reduceEqDiff, Nat.reduceBEq, ↓reduceIte, Bool.false_eq_true, List.append_nil, List.nil_append, List.cons_append, Option.toList, and_true, true_and, true_or, or_true, reduceCtorEq, List.map_nil, bI_eq0, bI_eq1, bool_ft, pk_us, vnar0, vnar1, Bool.or_false, Bool.or_true, Bool.false_or, Bool.true_or, mj_kne, eq_self, Int32.reduceLT, Int32.reduceLE, Int32.reduceAdd, Int32.reduceSub, Int32.reduceMul, not_true_eq_false, not_false_eq_true, false_implies, true_implies, D_X12_blame_0, D_X12_blame_1, mj_F_aload_n_k, mj_F_baload, mj_F_getfield_i, mj_F_goto_off, mj_F_iadd, mj_F_iaload, mj_F_iconst_n, mj_F_ifCond_eq_off, mj_F_ifCond_le_off, mj_F_if_icmp_ge_off, mj_F_if_icmp_le_off, mj_F_if_icmp_ne_off, mj_F_iinc_k_n, mj_F_iload_k, mj_F_iload_n_k, mj_F_imul, mj_F_ireturn, mj_F_istore_k, mj_F_istore_n_k, mj_set, mj_set0, mj_unk, mj_c2, mj_kc, FT_X12, FT_X12_1, gS_M0, gMf_63, gMf_87, gMf_82, gS_M64, sS_Ma_64, gMf_85, gS_M67, sS_Ma_67, J_X12_blame]
  refine ⟨fun c => ?_, fun c => ?_⟩
  · replace hw := ok_t hw c
    exact hG.2 _ _ _ _ _ _ _ _ _ (by refine ⟨Or.inr rfl, ?_⟩; refine ⟨Or.inr rfl, ?_⟩; refine ⟨Or.inr rfl, ?_⟩; refine ⟨Or.inr rfl, ?_⟩; refine ⟨Or.inr rfl, ?_⟩; exact trivial) (Nat.zero_le _) (Nat.zero_le _) (hP _ (ok_some hw :) :)
  · replace hw := ok_f hw c
    refine ⟨fun c => ?_, fun c => ?_⟩
    · replace hw := ok_t hw c
      exact hG.2 _ _ _ _ _ _ _ _ _ (by refine ⟨Or.inr rfl, ?_⟩; refine ⟨Or.inr rfl, ?_⟩; refine ⟨Or.inr rfl, ?_⟩; refine ⟨Or.inr rfl, ?_⟩; refine ⟨Or.inr rfl, ?_⟩; exact trivial) (Nat.zero_le _) (Nat.zero_le _) (hP _ (ok_some hw :) :)
    · replace hw := ok_f hw c
      exact hG.2 _ _ _ _ _ _ _ _ _ (by refine ⟨Or.inr rfl, ?_⟩; refine ⟨Or.inr rfl, ?_⟩; refine ⟨Or.inr rfl, ?_⟩; refine ⟨Or.inr rfl, ?_⟩; refine ⟨Or.inr rfl, ?_⟩; exact trivial) (Nat.zero_le _) (Nat.zero_le _) (hP _ (ok_some hw :) :)

set_option maxHeartbeats 4000000 in
theorem g_X12_blame_27 {k : Option Value → mj_H → Prop} {G : mj_K} (hG : mj_cl2 cX12_blame (TbX12 8 ((some FieldType.int)) []) k G) {s : St} {P : Int32 × Int32 × Int32 × Int32 → Prop} {K : (Int32) → Prop} (hP : ∀ x, P x → G 9 [.ref 0, .int x.1, .int x.2.1, .int x.2.2.1, .int x.2.2.2] [] (mkMs s) 0 0) (hK0 : ∀ y, K y → G 127 [mj_unk, .int y] [] (mkMs s) 0 0) {v1 : Int32} {v2 : Int32} {v3 : Int32} {v4 : Int32} {v5 : Int32} {v6 : Int32} {v7 : Int32} (hw : ok (F_X12_blame_27 v1 v2 v3 v4 v5 v6 v7 s) (Sum.elim P K)) : G 27 [.ref 0, .int v1, .int v2, .int v3, .int v4, .int v5, .int v6, .int v7] [] (mkMs s) 0 0 := by
  unfold F_X12_blame_27 at hw
  refine lp_ok (B_X12_blame_27 v1 v2 v3 v4 s) (fun x => G 27 [.ref 0, .int v1, .int v2, .int v3, .int v4, .int x.1, .int x.2.1, .int x.2.2] [] (mkMs s) 0 0) _ ?_ _ _ (ok_bind hw)
  rintro ⟨v5, v6, v7⟩ hb
  exact b_X12_blame_27 hG (fun _ z => z) (fun y hw => by exact hG.2 _ _ _ _ _ _ _ _ _ (by refine ⟨Or.inr rfl, ?_⟩; refine ⟨Or.inr rfl, ?_⟩; refine ⟨Or.inr rfl, ?_⟩; refine ⟨Or.inr rfl, ?_⟩; refine ⟨Or.inr rfl, ?_⟩; refine ⟨Or.inr rfl, ?_⟩; refine ⟨Or.inr rfl, ?_⟩; exact trivial) (Nat.zero_le _) (Nat.zero_le _) (g_X12_blame_96 hG hP hK0  hw :)) hb

set_option maxHeartbeats 4000000 in
set_option maxRecDepth 20000 in
theorem b_X12_blame_9 {k : Option Value → mj_H → Prop} {G : mj_K} (hG : mj_cl2 cX12_blame (TbX12 8 ((some FieldType.int)) []) k G) {s : St} {P : Int32 × Int32 × Int32 × Int32 → Prop} {K : (Int32) → Prop} (hP : ∀ x, P x → G 9 [.ref 0, .int x.1, .int x.2.1, .int x.2.2.1, .int x.2.2.2] [] (mkMs s) 0 0) (hK0 : ∀ y, K y → G 127 [mj_unk, .int y] [] (mkMs s) 0 0) {v1 : Int32} {v2 : Int32} {v3 : Int32} {v4 : Int32} (hw : ok (B_X12_blame_9 s (v1, v2, v3, v4)) (Sum.elim P K)) : G 9 [.ref 0, .int v1, .int v2, .int v3, .int v4] [] (mkMs s) 0 0 := by
  unfold B_X12_blame_9 at hw
  refine mj_run hG.1 (fun pc => pc == 9 || pc == 27 || pc == 96 || pc == 127) 4000 ?_
  simp only [mj_step, mj_W_s, mj_fin, List.getElem?_cons_zero, List.getElem?_cons_succ, mj_go, Nat.reduceAdd, Nat.reduceSub, Nat.reduceLT, Nat.reduceLeDiff, Nat.zero_add, Nat.reduceEqDiff, Nat.reduceBEq, ↓reduceIte, Bool.false_eq_true, List.append_nil, List.nil_append, List.cons_append, Option.toList, and_true, true_and, true_or, or_true, reduceCtorEq, List.map_nil, bI_eq0, bI_eq1, bool_ft, pk_us, vnar0, vnar1, Bool.or_false, Bool.or_true, Bool.false_or, Bool.true_or, mj_kne, eq_self, Int32.reduceLT, Int32.reduceLE, Int32.reduceAdd, Int32.reduceSub, Int32.reduceMul, not_true_eq_false, not_false_eq_true, false_implies, true_implies, D_X12_blame_0, D_X12_blame_1, mj_F_aload_n_k, mj_F_baload, mj_F_getfield_i, mj_F_goto_off, mj_F_iadd, mj_F_iaload, mj_F_iconst_n, mj_F_ifCond_eq_off, mj_F_ifCond_le_off, mj_F_if_icmp_ge_off, mj_F_if_icmp_le_off, mj_F_if_icmp_ne_off, mj_F_iinc_k_n, mj_F_iload_k, mj_F_iload_n_k, mj_F_imul, mj_F_ireturn, mj_F_istore_k, mj_F_istore_n_k, mj_set, mj_set0, mj_unk, mj_c2, mj_kc, FT_X12, FT_X12_1, gS_M0, gMf_63, gMf_87, gMf_82, gS_M64, sS_Ma_64, gMf_85, gS_M67, sS_Ma_67, J_X12_blame]
  refine ⟨fun c => ?_, fun c => ?_⟩
  · replace hw := ok_t hw c
    exact hG.2 _ _ _ _ _ _ _ _ _ (by refine ⟨Or.inl rfl, ?_⟩; refine ⟨Or.inr rfl, ?_⟩; exact trivial) (Nat.zero_le _) (Nat.zero_le _) (hK0 _ (ok_some hw :) :)
  · replace hw := ok_f hw c
    exact hG.2 _ _ _ _ _ _ _ _ _ (by refine ⟨Or.inr rfl, ?_⟩; refine ⟨Or.inr rfl, ?_⟩; refine ⟨Or.inr rfl, ?_⟩; refine ⟨Or.inr rfl, ?_⟩; refine ⟨Or.inr rfl, ?_⟩; refine ⟨Or.inr rfl, ?_⟩; refine ⟨Or.inr rfl, ?_⟩; refine ⟨Or.inr rfl, ?_⟩; exact trivial) (Nat.zero_le _) (Nat.zero_le _) (g_X12_blame_27 hG hP hK0  hw :)

set_option maxHeartbeats 4000000 in
set_option maxRecDepth 20000 in
theorem g_X12_blame_127 {k : Option Value → mj_H → Prop} {G : mj_K} (hG : mj_cl2 cX12_blame (TbX12 8 ((some FieldType.int)) []) k G)   {v1 : Int32} {s : St} (hw : ok (F_X12_blame_127 v1 s) (fun p => k (some (.int p)) (mkMs s))) : G 127 [mj_unk, .int v1] [] (mkMs s) 0 0 := by
  unfold F_X12_blame_127 at hw
  refine mj_run hG.1 (fun pc => pc == 9 || pc == 27 || pc == 96 || pc == 127) 4000 ?_
  simp only [mj_step, mj_W_s, mj_fin, List.getElem?_cons_zero, List.getElem?_cons_succ, mj_go, Nat.reduceAdd, Nat.reduceSub, Nat.reduceLT, Nat.reduceLeDiff, Nat.zero_add, Nat.reduceEqDiff, Nat.reduceBEq, ↓reduceIte, Bool.false_eq_true, List.append_nil, List.nil_append, List.cons_append, Option.toList, and_true, true_and, true_or, or_true, reduceCtorEq, List.map_nil, bI_eq0, bI_eq1, bool_ft, pk_us, vnar0, vnar1, Bool.or_false, Bool.or_true, Bool.false_or, Bool.true_or, mj_kne, eq_self, Int32.reduceLT, Int32.reduceLE, Int32.reduceAdd, Int32.reduceSub, Int32.reduceMul, not_true_eq_false, not_false_eq_true, false_implies, true_implies, D_X12_blame_0, D_X12_blame_1, mj_F_aload_n_k, mj_F_baload, mj_F_getfield_i, mj_F_goto_off, mj_F_iadd, mj_F_iaload, mj_F_iconst_n, mj_F_ifCond_eq_off, mj_F_ifCond_le_off, mj_F_if_icmp_ge_off, mj_F_if_icmp_le_off, mj_F_if_icmp_ne_off, mj_F_iinc_k_n, mj_F_iload_k, mj_F_iload_n_k, mj_F_imul, mj_F_ireturn, mj_F_istore_k, mj_F_istore_n_k, mj_set, mj_set0, mj_unk, mj_c2, mj_kc, FT_X12, FT_X12_1, gS_M0, gMf_63, gMf_87, gMf_82, gS_M64, sS_Ma_64, gMf_85, gS_M67, sS_Ma_67, J_X12_blame]
  exact (ok_some hw :)

set_option maxHeartbeats 4000000 in
theorem g_X12_blame_9 {k : Option Value → mj_H → Prop} {G : mj_K} (hG : mj_cl2 cX12_blame (TbX12 8 ((some FieldType.int)) []) k G)   {v1 : Int32} {v2 : Int32} {v3 : Int32} {v4 : Int32} {s : St} (hw : ok (F_X12_blame_9 v1 v2 v3 v4 s) (fun p => k (some (.int p)) (mkMs s))) : G 9 [.ref 0, .int v1, .int v2, .int v3, .int v4] [] (mkMs s) 0 0 := by
  unfold F_X12_blame_9 at hw
  refine lp_ok (B_X12_blame_9 s) (fun x => G 9 [.ref 0, .int x.1, .int x.2.1, .int x.2.2.1, .int x.2.2.2] [] (mkMs s) 0 0) _ ?_ _ _ (ok_bind hw)
  rintro ⟨v1, v2, v3, v4⟩ hb
  exact b_X12_blame_9 hG (fun _ z => z) (fun y hw => by exact hG.2 _ _ _ _ _ _ _ _ _ (by refine ⟨Or.inl rfl, ?_⟩; refine ⟨Or.inr rfl, ?_⟩; exact trivial) (Nat.zero_le _) (Nat.zero_le _) (g_X12_blame_127 hG  hw :)) hb

set_option maxHeartbeats 4000000 in
set_option maxRecDepth 20000 in
theorem g_X12_blame {k : Option Value → mj_H → Prop} {G : mj_K} (hG : mj_cl2 cX12_blame (TbX12 8 ((some FieldType.int)) []) k G) {s : St} (hw : ok (F_X12_blame s) (fun p => k (some (.int p)) (mkMs s))) : G 0 [.ref 0] [] (mkMs s) 0 0 := by
  unfold F_X12_blame at hw
  refine mj_run hG.1 (fun pc => pc == 9 || pc == 27 || pc == 96 || pc == 127) 4000 ?_
  simp only [mj_step, mj_W_s, mj_fin, List.getElem?_cons_zero, List.getElem?_cons_succ, mj_go, Nat.reduceAdd, Nat.reduceSub, Nat.reduceLT, Nat.reduceLeDiff, Nat.zero_add, Nat.reduceEqDiff, Nat.reduceBEq, ↓reduceIte, Bool.false_eq_true, List.append_nil, List.nil_append, List.cons_append, Option.toList, and_true, true_and, true_or, or_true, reduceCtorEq, List.map_nil, bI_eq0, bI_eq1, bool_ft, pk_us, vnar0, vnar1, Bool.or_false, Bool.or_true, Bool.false_or, Bool.true_or, mj_kne, eq_self, Int32.reduceLT, Int32.reduceLE, Int32.reduceAdd, Int32.reduceSub, Int32.reduceMul, not_true_eq_false, not_false_eq_true, false_implies, true_implies, D_X12_blame_0, D_X12_blame_1, mj_F_aload_n_k, mj_F_baload, mj_F_getfield_i, mj_F_goto_off, mj_F_iadd, mj_F_iaload, mj_F_iconst_n, mj_F_ifCond_eq_off, mj_F_ifCond_le_off, mj_F_if_icmp_ge_off, mj_F_if_icmp_le_off, mj_F_if_icmp_ne_off, mj_F_iinc_k_n, mj_F_iload_k, mj_F_iload_n_k, mj_F_imul, mj_F_ireturn, mj_F_istore_k, mj_F_istore_n_k, mj_set, mj_set0, mj_unk, mj_c2, mj_kc, FT_X12, FT_X12_1, gS_M0, gMf_63, gMf_87, gMf_82, gS_M64, sS_Ma_64, gMf_85, gS_M67, sS_Ma_67, J_X12_blame]
  exact hG.2 _ _ _ _ _ _ _ _ _ (by refine ⟨Or.inr rfl, ?_⟩; refine ⟨Or.inr rfl, ?_⟩; refine ⟨Or.inr rfl, ?_⟩; refine ⟨Or.inr rfl, ?_⟩; refine ⟨Or.inr rfl, ?_⟩; exact trivial) (Nat.zero_le _) (Nat.zero_le _) (g_X12_blame_9 hG  hw :)

def c_X12_blame : mj_S := fun as h k => ∃ (s : St), as = [.ref 0] ∧ h = mkMs s ∧ ok (F_X12_blame s) (fun p => k (some (.int p)) (mkMs s))
theorem c_X12_blame_in {s : St} {k : Option Value → mj_H → Prop} (hw : ok (F_X12_blame s) (fun p => k (some (.int p)) (mkMs s))) : c_X12_blame [.ref 0] (mkMs s) k := ⟨s, rfl, rfl, hw⟩
theorem m_X12_blame (l : Launch) : mj_Met l yX12_blame cX12_blame 8 ((some FieldType.int)) 0 0 0 c_X12_blame := by
  refine mj_body2 false (TbX12 8 ((some FieldType.int)) []) (by decide) rfl rfl (fun h => nomatch h) (tfX12 _ (fun _ h => nomatch h)) ?_
  rintro as h k ⟨s, rfl, rfl, hw⟩
  exact ⟨rfl, fun G hG => g_X12_blame hG hw⟩
def F_X12_treat (v1 : Int32) (v2 : Int32) (s : St) : Option (Int32 × St) :=
  (F_X12_isVillage v1 s).bind fun r1 =>
  if r1 = 0 then
    some (0, s)
  else
    if inb v2 0 11 = false then
      some (0, s)
    else
      (rd s 1291 24 v1).bind fun x2 =>
      if x2 = 0 then
        (wr s 1291 24 v1 1).bind fun s3 =>
        (wr s3 1289 24 v1 v2).bind fun s4 =>
        (wr s4 1290 24 v1 (s4.1 1200)).bind fun s5 =>
        some (1, s5)
      else
        some (0, s)
theorem J_X12_treat : mj_t 5 19 = 24 ∧ mj_t 12 12 = 24 ∧ mj_t 21 5 = 26 ∧ (0 ≤ ((5 : Nat) : Int) + 19) = True ∧ (0 ≤ ((12 : Nat) : Int) + 12) = True ∧ (0 ≤ ((21 : Nat) : Int) + 5) = True := by and_intros <;> first | rfl | exact eq_true (by decide)
def ct_X12_treat : List (Nat × mj_Cs) := [(274, 0, 2, 12, 0, 0, c_X12_isVillage), (277, 2, 1, 12, 0, 0, c_isYear)]
theorem L_X12_treat : mj_lk ct_X12_treat 274 = some (0, 2, 12, 0, 0, c_X12_isVillage) ∧ mj_lk ct_X12_treat 277 = some (2, 1, 12, 0, 0, c_isYear) := ⟨rfl, rfl⟩
set_option maxHeartbeats 4000000 in
set_option maxRecDepth 20000 in
theorem g_X12_treat {k : Option Value → mj_H → Prop} {G : mj_K} (hG : mj_cl2 cX12_treat (TbX12 3 ((some FieldType.boolean)) ct_X12_treat) k G) {v1 : Int32} {v2 : Int32} {s : St} (hw : ok (F_X12_treat v1 v2 s) (fun p => k (some (.int p.1)) (mkMs p.2))) : G 0 [.ref 0, .int v1, .int v2] [] (mkMs s) 0 0 := by
  unfold F_X12_treat at hw
  refine mj_run hG.1 (fun pc => pc == 5) 4000 ?_
  simp only [mj_step, mj_W_s, mj_fin, List.getElem?_cons_zero, List.getElem?_cons_succ, mj_go, Nat.reduceAdd, Nat.reduceSub, Nat.reduceLT, Nat.reduceLeDiff, Nat.zero_add, Nat.reduceEqDiff, Nat.reduceBEq, ↓reduceIte, Bool.false_eq_true, List.append_nil, List.nil_append, List.cons_append, Option.toList, and_true, true_and, true_or, or_true, reduceCtorEq, List.map_nil, bI_eq0, bI_eq1, bool_ft, pk_us, vnar0, vnar1, Bool.or_false, Bool.or_true, Bool.false_or, Bool.true_or, mj_kne, eq_self, Int32.reduceLT, Int32.reduceLE, Int32.reduceAdd, Int32.reduceSub, Int32.reduceMul, not_true_eq_false, not_false_eq_true, false_implies, true_implies, D_X12_treat, mj_F_aload_n_k, mj_F_baload, mj_F_bastore, mj_F_getfield_i, mj_F_iastore, mj_F_iconst_n, mj_F_ifCond_eq_off, mj_F_iload_n_k, mj_F_invokestatic_i, mj_F_invokevirtual_i, mj_F_ireturn, mj_kc, FT_X12, FT_X12_1, L_X12_treat, List.take_succ_cons, List.take_zero, List.drop_succ_cons, List.drop_zero, List.reverse_cons, List.reverse_nil, List.length_cons, List.length_nil, gS_M0, gMf_91, gS_M71, sS_Ma_71, gMf_89, gS_M69, sS_Ma_69, gMf_90, gS_M70, sS_Ma_70, gMf_0, c_isYear_eq, J_X12_treat]
  refine c_X12_isVillage_in (ok_imp (ok_bind hw) ?_)
  intro p hw
  simp only [Option.toList, List.nil_append, List.cons_append, Nat.reduceSub]
  refine mj_run hG.1 (fun pc => pc == 5) 4000 ?_
  simp only [mj_step, mj_W_s, mj_fin, List.getElem?_cons_zero, List.getElem?_cons_succ, mj_go, Nat.reduceAdd, Nat.reduceSub, Nat.reduceLT, Nat.reduceLeDiff, Nat.zero_add, Nat.reduceEqDiff, Nat.reduceBEq, ↓reduceIte, Bool.false_eq_true, List.append_nil, List.nil_append, List.cons_append, Option.toList, and_true, true_and, true_or, or_true, reduceCtorEq, List.map_nil, bI_eq0, bI_eq1, bool_ft, pk_us, vnar0, vnar1, Bool.or_false, Bool.or_true, Bool.false_or, Bool.true_or, mj_kne, eq_self, Int32.reduceLT, Int32.reduceLE, Int32.reduceAdd, Int32.reduceSub, Int32.reduceMul, not_true_eq_false, not_false_eq_true, false_implies, true_implies, D_X12_treat, mj_F_aload_n_k, mj_F_baload, mj_F_bastore, mj_F_getfield_i, mj_F_iastore, mj_F_iconst_n, mj_F_ifCond_eq_off, mj_F_iload_n_k, mj_F_invokestatic_i, mj_F_invokevirtual_i, mj_F_ireturn, mj_kc, FT_X12, FT_X12_1, L_X12_treat, List.take_succ_cons, List.take_zero, List.drop_succ_cons, List.drop_zero, List.reverse_cons, List.reverse_nil, List.length_cons, List.length_nil, gS_M0, gMf_91, gS_M71, sS_Ma_71, gMf_89, gS_M69, sS_Ma_69, gMf_90, gS_M70, sS_Ma_70, gMf_0, c_isYear_eq, J_X12_treat]
  refine ⟨fun c => ?_, fun c => ?_⟩
  · replace hw := ok_t hw c
    exact (ok_some hw :)
  · replace hw := ok_f hw c
    refine ⟨fun c => ?_, fun c => ?_⟩
    · replace hw := ok_t hw c
      exact (ok_some hw :)
    · replace hw := ok_f hw c
      refine ⟨(ok_rd hw).1, ?_⟩
      replace hw := (ok_rd hw).2
      refine ⟨fun c => ?_, fun c => ?_⟩
      · replace hw := ok_t hw c
        refine ⟨(ok_wr hw).1, ?_⟩
        replace hw := (ok_wr hw).2
        refine ⟨(ok_wr hw).1, ?_⟩
        replace hw := (ok_wr hw).2
        refine ⟨(ok_wr hw).1, ?_⟩
        replace hw := (ok_wr hw).2
        exact (ok_some hw :)
      · replace hw := ok_f hw c
        exact (ok_some hw :)

def c_X12_treat : mj_S := fun as h k => ∃ (v1 : Int32) (v2 : Int32) (s : St), as = [.ref 0, .int v1, .int v2] ∧ h = mkMs s ∧ ok (F_X12_treat v1 v2 s) (fun p => k (some (.int p.1)) (mkMs p.2))
theorem c_X12_treat_in {v1 : Int32} {v2 : Int32} {s : St} {k : Option Value → mj_H → Prop} (hw : ok (F_X12_treat v1 v2 s) (fun p => k (some (.int p.1)) (mkMs p.2))) : c_X12_treat [.ref 0, .int v1, .int v2] (mkMs s) k := ⟨v1, v2, s, rfl, rfl, hw⟩
theorem m_X12_treat (l : Launch) : mj_Met l yX12_treat cX12_treat 3 ((some FieldType.boolean)) 2 0 0 c_X12_treat := by
  refine mj_body2 false (TbX12 3 ((some FieldType.boolean)) ct_X12_treat) (by decide) rfl rfl (fun h => nomatch h) (tfX12 _ (List.forall_mem_cons.mpr ⟨cfX12_274 (m_X12_isVillage l) (by decide), List.forall_mem_cons.mpr ⟨cfX12_277 (m_X12_isYear l) (by decide), fun _ h => nomatch h⟩⟩)) ?_
  rintro as h k ⟨v1, v2, s, rfl, rfl, hw⟩
  exact ⟨rfl, fun G hG => g_X12_treat hG hw⟩
def F_X12_lender (v1 : Int32) (s : St) : Option (Int32 × St) :=
  if inb v1 0 1000000 = false then
    some ((-1), s)
  else
    if (s.1 1296) = 4 then
      some ((-1), s)
    else
      (wr s 1293 4 (s.1 1296) v1).bind fun s1 =>
      (wI s1 1296 ((s1.1 1296) + 1)).bind fun s2 =>
      some (((s2.1 1296) - 1), s2)
theorem J_X12_lender : mj_t 7 11 = 18 ∧ mj_t 15 5 = 20 ∧ (0 ≤ ((7 : Nat) : Int) + 11) = True ∧ (0 ≤ ((15 : Nat) : Int) + 5) = True := by and_intros <;> first | rfl | exact eq_true (by decide)
def ct_X12_lender : List (Nat × mj_Cs) := [(243, 2, 3, 12, 0, 0, c_in)]
theorem L_X12_lender : mj_lk ct_X12_lender 243 = some (2, 3, 12, 0, 0, c_in) := rfl
set_option maxHeartbeats 4000000 in
set_option maxRecDepth 20000 in
theorem g_X12_lender {k : Option Value → mj_H → Prop} {G : mj_K} (hG : mj_cl2 cX12_lender (TbX12 2 ((some FieldType.int)) ct_X12_lender) k G) {v1 : Int32} {s : St} (hw : ok (F_X12_lender v1 s) (fun p => k (some (.int p.1)) (mkMs p.2))) : G 0 [.ref 0, .int v1] [] (mkMs s) 0 0 := by
  unfold F_X12_lender at hw
  refine mj_run hG.1 (fun _ => false) 4000 ?_
  simp only [mj_step, mj_W_s, mj_fin, List.getElem?_cons_zero, List.getElem?_cons_succ, mj_go, Nat.reduceAdd, Nat.reduceSub, Nat.reduceLT, Nat.reduceLeDiff, Nat.zero_add, Nat.reduceEqDiff, Nat.reduceBEq, ↓reduceIte, Bool.false_eq_true, List.append_nil, List.nil_append, List.cons_append, Option.toList, and_true, true_and, true_or, or_true, reduceCtorEq, List.map_nil, bI_eq0, bI_eq1, bool_ft, pk_us, vnar0, vnar1, Bool.or_false, Bool.or_true, Bool.false_or, Bool.true_or, mj_kne, eq_self, Int32.reduceLT, Int32.reduceLE, Int32.reduceAdd, Int32.reduceSub, Int32.reduceMul, not_true_eq_false, not_false_eq_true, false_implies, true_implies, D_X12_lender, mj_F_aload_n_k, mj_F_dup, mj_F_getfield_i, mj_F_iadd, mj_F_iastore, mj_F_iconst_n, mj_F_ifCond_eq_off, mj_F_if_icmp_ne_off, mj_F_iload_n_k, mj_F_invokestatic_i, mj_F_ireturn, mj_F_isub, mj_F_ldc_i, mj_F_putfield_i, mj_c2, mj_kc, FT_X12, FT_X12_1, PT_X12, KT_X12, L_X12_lender, List.take_succ_cons, List.take_zero, List.drop_succ_cons, List.drop_zero, List.reverse_cons, List.reverse_nil, List.length_cons, List.length_nil, gS_M0, gMf_96, gMf_93, gS_M73, sS_Ma_73, sS_Mf_96, gMl, c_in_eq, J_X12_lender]
  refine ⟨fun c => ?_, fun c => ?_⟩
  · replace hw := ok_t hw c
    exact (ok_some hw :)
  · replace hw := ok_f hw c
    refine ⟨fun c => ?_, fun c => ?_⟩
    · replace hw := ok_f hw c
      refine ⟨(ok_wr hw).1, ?_⟩
      replace hw := (ok_wr hw).2
      replace hw := ok_wI hw
      exact (ok_some hw :)
    · replace hw := ok_t hw c
      exact (ok_some hw :)

def c_X12_lender : mj_S := fun as h k => ∃ (v1 : Int32) (s : St), as = [.ref 0, .int v1] ∧ h = mkMs s ∧ ok (F_X12_lender v1 s) (fun p => k (some (.int p.1)) (mkMs p.2))
theorem c_X12_lender_in {v1 : Int32} {s : St} {k : Option Value → mj_H → Prop} (hw : ok (F_X12_lender v1 s) (fun p => k (some (.int p.1)) (mkMs p.2))) : c_X12_lender [.ref 0, .int v1] (mkMs s) k := ⟨v1, s, rfl, rfl, hw⟩
theorem m_X12_lender (l : Launch) : mj_Met l yX12_lender cX12_lender 2 ((some FieldType.int)) 1 0 0 c_X12_lender := by
  refine mj_body2 false (TbX12 2 ((some FieldType.int)) ct_X12_lender) (by decide) rfl rfl (fun h => nomatch h) (tfX12 _ (List.forall_mem_cons.mpr ⟨cfX12_243 (m_X12_in l) (by decide), fun _ h => nomatch h⟩)) ?_
  rintro as h k ⟨v1, s, rfl, rfl, hw⟩
  exact ⟨rfl, fun G hG => g_X12_lender hG hw⟩
def F_X12_bill (v1 : Int32) (v2 : Int32) (s : St) : Option (Int32 × St) :=
  if inb v1 0 7 = false then
    some (0, s)
  else
    if inb v2 1 100000 = false then
      some (0, s)
    else
      if (s.1 1297) = 40 then
        some (0, s)
      else
        (wr s 1294 40 (s.1 1297) v1).bind fun s1 =>
        (wr s1 1295 40 (s1.1 1297) v2).bind fun s2 =>
        (wI s2 1297 ((s2.1 1297) + 1)).bind fun s3 =>
        some (1, s3)
theorem J_X12_bill : mj_t 7 23 = 30 ∧ mj_t 18 12 = 30 ∧ mj_t 27 5 = 32 ∧ (0 ≤ ((7 : Nat) : Int) + 23) = True ∧ (0 ≤ ((18 : Nat) : Int) + 12) = True ∧ (0 ≤ ((27 : Nat) : Int) + 5) = True := by and_intros <;> first | rfl | exact eq_true (by decide)
def ct_X12_bill : List (Nat × mj_Cs) := [(243, 2, 3, 12, 0, 0, c_in)]
theorem L_X12_bill : mj_lk ct_X12_bill 243 = some (2, 3, 12, 0, 0, c_in) := rfl
set_option maxHeartbeats 4000000 in
set_option maxRecDepth 20000 in
theorem g_X12_bill {k : Option Value → mj_H → Prop} {G : mj_K} (hG : mj_cl2 cX12_bill (TbX12 3 ((some FieldType.boolean)) ct_X12_bill) k G) {v1 : Int32} {v2 : Int32} {s : St} (hw : ok (F_X12_bill v1 v2 s) (fun p => k (some (.int p.1)) (mkMs p.2))) : G 0 [.ref 0, .int v1, .int v2] [] (mkMs s) 0 0 := by
  unfold F_X12_bill at hw
  refine mj_run hG.1 (fun _ => false) 4000 ?_
  simp only [mj_step, mj_W_s, mj_fin, List.getElem?_cons_zero, List.getElem?_cons_succ, mj_go, Nat.reduceAdd, Nat.reduceSub, Nat.reduceLT, Nat.reduceLeDiff, Nat.zero_add, Nat.reduceEqDiff, Nat.reduceBEq, ↓reduceIte, Bool.false_eq_true, List.append_nil, List.nil_append, List.cons_append, Option.toList, and_true, true_and, true_or, or_true, reduceCtorEq, List.map_nil, bI_eq0, bI_eq1, bool_ft, pk_us, vnar0, vnar1, Bool.or_false, Bool.or_true, Bool.false_or, Bool.true_or, mj_kne, eq_self, Int32.reduceLT, Int32.reduceLE, Int32.reduceAdd, Int32.reduceSub, Int32.reduceMul, not_true_eq_false, not_false_eq_true, false_implies, true_implies, D_X12_bill, mj_F_aload_n_k, mj_F_bipush_n, mj_F_dup, mj_F_getfield_i, mj_F_iadd, mj_F_iastore, mj_F_iconst_n, mj_F_ifCond_eq_off, mj_F_if_icmp_ne_off, mj_F_iload_n_k, mj_F_invokestatic_i, mj_F_ireturn, mj_F_ldc_w_i, mj_F_putfield_i, mj_c2, mj_kc, FT_X12, FT_X12_1, PT_X12, KT_X12, L_X12_bill, List.take_succ_cons, List.take_zero, List.drop_succ_cons, List.drop_zero, List.reverse_cons, List.reverse_nil, List.length_cons, List.length_nil, gS_M0, gMf_97, gMf_94, gS_M74, sS_Ma_74, gMf_95, gS_M75, sS_Ma_75, sS_Mf_97, gMl, c_in_eq, J_X12_bill]
  refine ⟨fun c => ?_, fun c => ?_⟩
  · replace hw := ok_t hw c
    exact (ok_some hw :)
  · replace hw := ok_f hw c
    refine ⟨fun c => ?_, fun c => ?_⟩
    · replace hw := ok_t hw c
      exact (ok_some hw :)
    · replace hw := ok_f hw c
      refine ⟨fun c => ?_, fun c => ?_⟩
      · replace hw := ok_f hw c
        refine ⟨(ok_wr hw).1, ?_⟩
        replace hw := (ok_wr hw).2
        refine ⟨(ok_wr hw).1, ?_⟩
        replace hw := (ok_wr hw).2
        replace hw := ok_wI hw
        exact (ok_some hw :)
      · replace hw := ok_t hw c
        exact (ok_some hw :)

def c_X12_bill : mj_S := fun as h k => ∃ (v1 : Int32) (v2 : Int32) (s : St), as = [.ref 0, .int v1, .int v2] ∧ h = mkMs s ∧ ok (F_X12_bill v1 v2 s) (fun p => k (some (.int p.1)) (mkMs p.2))
theorem c_X12_bill_in {v1 : Int32} {v2 : Int32} {s : St} {k : Option Value → mj_H → Prop} (hw : ok (F_X12_bill v1 v2 s) (fun p => k (some (.int p.1)) (mkMs p.2))) : c_X12_bill [.ref 0, .int v1, .int v2] (mkMs s) k := ⟨v1, v2, s, rfl, rfl, hw⟩
theorem m_X12_bill (l : Launch) : mj_Met l yX12_bill cX12_bill 3 ((some FieldType.boolean)) 1 0 0 c_X12_bill := by
  refine mj_body2 false (TbX12 3 ((some FieldType.boolean)) ct_X12_bill) (by decide) rfl rfl (fun h => nomatch h) (tfX12 _ (List.forall_mem_cons.mpr ⟨cfX12_243 (m_X12_in l) (by decide), fun _ h => nomatch h⟩)) ?_
  rintro as h k ⟨v1, v2, s, rfl, rfl, hw⟩
  exact ⟨rfl, fun G hG => g_X12_bill hG hw⟩
def B_X12_payers_5 (v1 : Int32) (v2 : Int32) : Int32 × Int32 × St → Option ((Int32 × Int32 × St) ⊕ ((Int32 × St)))
  | (v3, v4, s) =>
  if (s.1 1296) ≤ v4 then
    some (.inr (v3, s))
  else
    (F_X12_tell v2 0 v4 0 v1 0 s).bind fun s1 =>
    (F_X12_worthOf 0 v2 (s1.1 1200) 99 s1).bind fun r2 =>
    if r2.1 = 0 then
      some (.inl ((v3 ||| 0), (v4 + 1), r2.2))
    else
      some (.inl ((v3 ||| (1 <<< (v4 &&& 31))), (v4 + 1), r2.2))
def F_X12_payers_57 (v3 : Int32) (s : St) : Option (Int32 × St) :=
  some (v3, s)
def F_X12_payers_5 (v1 : Int32) (v2 : Int32) (v3 : Int32) (v4 : Int32) (s : St) : Option (Int32 × St) :=
  (lp (B_X12_payers_5 v1 v2) FU (v3, v4, s)).bind (fun y => F_X12_payers_57 y.1 y.2)
def F_X12_payers (v1 : Int32) (v2 : Int32) (s : St) : Option (Int32 × St) :=
  F_X12_payers_5 v1 v2 0 0 s
theorem J_X12_payers : mj_t 11 46 = 57 ∧ mj_t 38 10 = 48 ∧ mj_t 45 4 = 49 ∧ mj_t 54 (-49) = 5 ∧ (0 ≤ ((11 : Nat) : Int) + 46) = True ∧ (0 ≤ ((38 : Nat) : Int) + 10) = True ∧ (0 ≤ ((45 : Nat) : Int) + 4) = True ∧ (0 ≤ ((54 : Nat) : Int) + (-49)) = True := by and_intros <;> first | rfl | exact eq_true (by decide)
def ct_X12_payers : List (Nat × mj_Cs) := [(426, 0, 7, 12, 0, 0, c_X12_tell), (430, 0, 5, 12, 0, 0, c_X12_worthOf)]
theorem L_X12_payers : mj_lk ct_X12_payers 426 = some (0, 7, 12, 0, 0, c_X12_tell) ∧ mj_lk ct_X12_payers 430 = some (0, 5, 12, 0, 0, c_X12_worthOf) := ⟨rfl, rfl⟩
set_option maxHeartbeats 4000000 in
set_option maxRecDepth 20000 in
theorem b_X12_payers_5 {k : Option Value → mj_H → Prop} {G : mj_K} (hG : mj_cl2 cX12_payers (TbX12 5 ((some FieldType.int)) ct_X12_payers) k G) {v1 : Int32} {v2 : Int32} {P : Int32 × Int32 × St → Prop} {K : (Int32 × St) → Prop} (hP : ∀ x, P x → G 5 [.ref 0, .int v1, .int v2, .int x.1, .int x.2.1] [] (mkMs x.2.2) 0 0) (hK0 : ∀ y, K y → G 57 [mj_unk, mj_unk, mj_unk, .int y.1] [] (mkMs y.2) 0 0) {v3 : Int32} {v4 : Int32} {s : St} (hw : ok (B_X12_payers_5 v1 v2 (v3, v4, s)) (Sum.elim P K)) : G 5 [.ref 0, .int v1, .int v2, .int v3, .int v4] [] (mkMs s) 0 0 := by
  unfold B_X12_payers_5 at hw
  refine mj_run hG.1 (fun pc => pc == 5 || pc == 25 || pc == 38 || pc == 57) 4000 ?_
  simp only [mj_step, mj_W_s, mj_fin, List.getElem?_cons_zero, List.getElem?_cons_succ, mj_go, Nat.reduceAdd, Nat.reduceSub, Nat.reduceLT, Nat.reduceLeDiff, Nat.zero_add, Nat.reduceEqDiff, Nat.reduceBEq, ↓reduceIte, Bool.false_eq_true, List.append_nil, List.nil_append, List.cons_append, Option.toList, and_true, true_and, true_or, or_true, reduceCtorEq, List.map_nil, bI_eq0, bI_eq1, bool_ft, pk_us, vnar0, vnar1, Bool.or_false, Bool.or_true, Bool.false_or, Bool.true_or, mj_kne, eq_self, Int32.reduceLT, Int32.reduceLE, Int32.reduceAdd, Int32.reduceSub, Int32.reduceMul, not_true_eq_false, not_false_eq_true, false_implies, true_implies, D_X12_payers, mj_F_aload_n_k, mj_F_bipush_n, mj_F_getfield_i, mj_F_goto_off, mj_F_iconst_n, mj_F_ifCond_eq_off, mj_F_if_icmp_ge_off, mj_F_iinc_k_n, mj_F_iload_k, mj_F_iload_n_k, mj_F_invokevirtual_i, mj_F_ior, mj_F_ireturn, mj_F_ishl, mj_F_istore_k, mj_F_istore_n_k, mj_set, mj_set0, mj_unk, mj_c2, mj_kc, FT_X12, FT_X12_1, L_X12_payers, List.take_succ_cons, List.take_zero, List.drop_succ_cons, List.drop_zero, List.reverse_cons, List.reverse_nil, List.length_cons, List.length_nil, gS_M0, gMf_96, gMf_0, J_X12_payers]
  refine ⟨fun c => ?_, fun c => ?_⟩
  · replace hw := ok_t hw c
    exact hG.2 _ _ _ _ _ _ _ _ _ (by refine ⟨Or.inl rfl, ?_⟩; refine ⟨Or.inl rfl, ?_⟩; refine ⟨Or.inl rfl, ?_⟩; refine ⟨Or.inr rfl, ?_⟩; exact trivial) (Nat.zero_le _) (Nat.zero_le _) (hK0 _ (ok_some hw :) :)
  · replace hw := ok_f hw c
    refine c_X12_tell_in (ok_imp (ok_bind hw) ?_)
    intro p hw
    simp only [Option.toList, List.nil_append, List.cons_append, Nat.reduceSub]
    refine mj_run hG.1 (fun pc => pc == 5 || pc == 25 || pc == 38 || pc == 57) 4000 ?_
    simp only [mj_step, mj_W_s, mj_fin, List.getElem?_cons_zero, List.getElem?_cons_succ, mj_go, Nat.reduceAdd, Nat.reduceSub, Nat.reduceLT, Nat.reduceLeDiff, Nat.zero_add, Nat.reduceEqDiff, Nat.reduceBEq, ↓reduceIte, Bool.false_eq_true, List.append_nil, List.nil_append, List.cons_append, Option.toList, and_true, true_and, true_or, or_true, reduceCtorEq, List.map_nil, bI_eq0, bI_eq1, bool_ft, pk_us, vnar0, vnar1, Bool.or_false, Bool.or_true, Bool.false_or, Bool.true_or, mj_kne, eq_self, Int32.reduceLT, Int32.reduceLE, Int32.reduceAdd, Int32.reduceSub, Int32.reduceMul, not_true_eq_false, not_false_eq_true, false_implies, true_implies, D_X12_payers, mj_F_aload_n_k, mj_F_bipush_n, mj_F_getfield_i, mj_F_goto_off, mj_F_iconst_n, mj_F_ifCond_eq_off, mj_F_if_icmp_ge_off, mj_F_iinc_k_n, mj_F_iload_k, mj_F_iload_n_k, mj_F_invokevirtual_i, mj_F_ior, mj_F_ireturn, mj_F_ishl, mj_F_istore_k, mj_F_istore_n_k, mj_set, mj_set0, mj_unk, mj_c2, mj_kc, FT_X12, FT_X12_1, L_X12_payers, List.take_succ_cons, List.take_zero, List.drop_succ_cons, List.drop_zero, List.reverse_cons, List.reverse_nil, List.length_cons, List.length_nil, gS_M0, gMf_96, gMf_0, J_X12_payers]
    refine c_X12_worthOf_in (ok_imp (ok_bind hw) ?_)
    intro p hw
    simp only [Option.toList, List.nil_append, List.cons_append, Nat.reduceSub]
    refine mj_run hG.1 (fun pc => pc == 5 || pc == 25 || pc == 38 || pc == 57) 4000 ?_
    simp only [mj_step, mj_W_s, mj_fin, List.getElem?_cons_zero, List.getElem?_cons_succ, mj_go, Nat.reduceAdd, Nat.reduceSub, Nat.reduceLT, Nat.reduceLeDiff, Nat.zero_add, Nat.reduceEqDiff, Nat.reduceBEq, ↓reduceIte, Bool.false_eq_true, List.append_nil, List.nil_append, List.cons_append, Option.toList, and_true, true_and, true_or, or_true, reduceCtorEq, List.map_nil, bI_eq0, bI_eq1, bool_ft, pk_us, vnar0, vnar1, Bool.or_false, Bool.or_true, Bool.false_or, Bool.true_or, mj_kne, eq_self, Int32.reduceLT, Int32.reduceLE, Int32.reduceAdd, Int32.reduceSub, Int32.reduceMul, not_true_eq_false, not_false_eq_true, false_implies, true_implies, D_X12_payers, mj_F_aload_n_k, mj_F_bipush_n, mj_F_getfield_i, mj_F_goto_off, mj_F_iconst_n, mj_F_ifCond_eq_off, mj_F_if_icmp_ge_off, mj_F_iinc_k_n, mj_F_iload_k, mj_F_iload_n_k, mj_F_invokevirtual_i, mj_F_ior, mj_F_ireturn, mj_F_ishl, mj_F_istore_k, mj_F_istore_n_k, mj_set, mj_set0, mj_unk, mj_c2, mj_kc, FT_X12, FT_X12_1, L_X12_payers, List.take_succ_cons, List.take_zero, List.drop_succ_cons, List.drop_zero, List.reverse_cons, List.reverse_nil, List.length_cons, List.length_nil, gS_M0, gMf_96, gMf_0, J_X12_payers]
    refine ⟨fun c => ?_, fun c => ?_⟩
    · replace hw := ok_t hw c
      exact hG.2 _ _ _ _ _ _ _ _ _ (by refine ⟨Or.inr rfl, ?_⟩; refine ⟨Or.inr rfl, ?_⟩; refine ⟨Or.inr rfl, ?_⟩; refine ⟨Or.inr rfl, ?_⟩; refine ⟨Or.inr rfl, ?_⟩; exact trivial) (Nat.zero_le _) (Nat.zero_le _) (hP _ (ok_some hw :) :)
    · replace hw := ok_f hw c
      exact hG.2 _ _ _ _ _ _ _ _ _ (by refine ⟨Or.inr rfl, ?_⟩; refine ⟨Or.inr rfl, ?_⟩; refine ⟨Or.inr rfl, ?_⟩; refine ⟨Or.inr rfl, ?_⟩; refine ⟨Or.inr rfl, ?_⟩; exact trivial) (Nat.zero_le _) (Nat.zero_le _) (hP _ (ok_some hw :) :)

set_option maxHeartbeats 4000000 in
set_option maxRecDepth 20000 in
theorem g_X12_payers_57 {k : Option Value → mj_H → Prop} {G : mj_K} (hG : mj_cl2 cX12_payers (TbX12 5 ((some FieldType.int)) ct_X12_payers) k G)   {v3 : Int32} {s : St} (hw : ok (F_X12_payers_57 v3 s) (fun p => k (some (.int p.1)) (mkMs p.2))) : G 57 [mj_unk, mj_unk, mj_unk, .int v3] [] (mkMs s) 0 0 := by
  unfold F_X12_payers_57 at hw
  refine mj_run hG.1 (fun pc => pc == 5 || pc == 25 || pc == 38 || pc == 57) 4000 ?_
  simp only [mj_step, mj_W_s, mj_fin, List.getElem?_cons_zero, List.getElem?_cons_succ, mj_go, Nat.reduceAdd, Nat.reduceSub, Nat.reduceLT, Nat.reduceLeDiff, Nat.zero_add, Nat.reduceEqDiff, Nat.reduceBEq, ↓reduceIte, Bool.false_eq_true, List.append_nil, List.nil_append, List.cons_append, Option.toList, and_true, true_and, true_or, or_true, reduceCtorEq, List.map_nil, bI_eq0, bI_eq1, bool_ft, pk_us, vnar0, vnar1, Bool.or_false, Bool.or_true, Bool.false_or, Bool.true_or, mj_kne, eq_self, Int32.reduceLT, Int32.reduceLE, Int32.reduceAdd, Int32.reduceSub, Int32.reduceMul, not_true_eq_false, not_false_eq_true, false_implies, true_implies, D_X12_payers, mj_F_aload_n_k, mj_F_bipush_n, mj_F_getfield_i, mj_F_goto_off, mj_F_iconst_n, mj_F_ifCond_eq_off, mj_F_if_icmp_ge_off, mj_F_iinc_k_n, mj_F_iload_k, mj_F_iload_n_k, mj_F_invokevirtual_i, mj_F_ior, mj_F_ireturn, mj_F_ishl, mj_F_istore_k, mj_F_istore_n_k, mj_set, mj_set0, mj_unk, mj_c2, mj_kc, FT_X12, FT_X12_1, L_X12_payers, List.take_succ_cons, List.take_zero, List.drop_succ_cons, List.drop_zero, List.reverse_cons, List.reverse_nil, List.length_cons, List.length_nil, gS_M0, gMf_96, gMf_0, J_X12_payers]
  exact (ok_some hw :)

set_option maxHeartbeats 4000000 in
theorem g_X12_payers_5 {k : Option Value → mj_H → Prop} {G : mj_K} (hG : mj_cl2 cX12_payers (TbX12 5 ((some FieldType.int)) ct_X12_payers) k G)   {v1 : Int32} {v2 : Int32} {v3 : Int32} {v4 : Int32} {s : St} (hw : ok (F_X12_payers_5 v1 v2 v3 v4 s) (fun p => k (some (.int p.1)) (mkMs p.2))) : G 5 [.ref 0, .int v1, .int v2, .int v3, .int v4] [] (mkMs s) 0 0 := by
  unfold F_X12_payers_5 at hw
  refine lp_ok (B_X12_payers_5 v1 v2) (fun x => G 5 [.ref 0, .int v1, .int v2, .int x.1, .int x.2.1] [] (mkMs x.2.2) 0 0) _ ?_ _ _ (ok_bind hw)
  rintro ⟨v3, v4, s⟩ hb
  exact b_X12_payers_5 hG (fun _ z => z) (fun y hw => by exact hG.2 _ _ _ _ _ _ _ _ _ (by refine ⟨Or.inl rfl, ?_⟩; refine ⟨Or.inl rfl, ?_⟩; refine ⟨Or.inl rfl, ?_⟩; refine ⟨Or.inr rfl, ?_⟩; exact trivial) (Nat.zero_le _) (Nat.zero_le _) (g_X12_payers_57 hG  hw :)) hb

set_option maxHeartbeats 4000000 in
set_option maxRecDepth 20000 in
theorem g_X12_payers {k : Option Value → mj_H → Prop} {G : mj_K} (hG : mj_cl2 cX12_payers (TbX12 5 ((some FieldType.int)) ct_X12_payers) k G) {v1 : Int32} {v2 : Int32} {s : St} (hw : ok (F_X12_payers v1 v2 s) (fun p => k (some (.int p.1)) (mkMs p.2))) : G 0 [.ref 0, .int v1, .int v2] [] (mkMs s) 0 0 := by
  unfold F_X12_payers at hw
  refine mj_run hG.1 (fun pc => pc == 5 || pc == 25 || pc == 38 || pc == 57) 4000 ?_
  simp only [mj_step, mj_W_s, mj_fin, List.getElem?_cons_zero, List.getElem?_cons_succ, mj_go, Nat.reduceAdd, Nat.reduceSub, Nat.reduceLT, Nat.reduceLeDiff, Nat.zero_add, Nat.reduceEqDiff, Nat.reduceBEq, ↓reduceIte, Bool.false_eq_true, List.append_nil, List.nil_append, List.cons_append, Option.toList, and_true, true_and, true_or, or_true, reduceCtorEq, List.map_nil, bI_eq0, bI_eq1, bool_ft, pk_us, vnar0, vnar1, Bool.or_false, Bool.or_true, Bool.false_or, Bool.true_or, mj_kne, eq_self, Int32.reduceLT, Int32.reduceLE, Int32.reduceAdd, Int32.reduceSub, Int32.reduceMul, not_true_eq_false, not_false_eq_true, false_implies, true_implies, D_X12_payers, mj_F_aload_n_k, mj_F_bipush_n, mj_F_getfield_i, mj_F_goto_off, mj_F_iconst_n, mj_F_ifCond_eq_off, mj_F_if_icmp_ge_off, mj_F_iinc_k_n, mj_F_iload_k, mj_F_iload_n_k, mj_F_invokevirtual_i, mj_F_ior, mj_F_ireturn, mj_F_ishl, mj_F_istore_k, mj_F_istore_n_k, mj_set, mj_set0, mj_unk, mj_c2, mj_kc, FT_X12, FT_X12_1, L_X12_payers, List.take_succ_cons, List.take_zero, List.drop_succ_cons, List.drop_zero, List.reverse_cons, List.reverse_nil, List.length_cons, List.length_nil, gS_M0, gMf_96, gMf_0, J_X12_payers]
  exact hG.2 _ _ _ _ _ _ _ _ _ (by refine ⟨Or.inr rfl, ?_⟩; refine ⟨Or.inr rfl, ?_⟩; refine ⟨Or.inr rfl, ?_⟩; refine ⟨Or.inr rfl, ?_⟩; refine ⟨Or.inr rfl, ?_⟩; exact trivial) (Nat.zero_le _) (Nat.zero_le _) (g_X12_payers_5 hG  hw :)

def c_X12_payers : mj_S := fun as h k => ∃ (v1 : Int32) (v2 : Int32) (s : St), as = [.ref 0, .int v1, .int v2] ∧ h = mkMs s ∧ ok (F_X12_payers v1 v2 s) (fun p => k (some (.int p.1)) (mkMs p.2))
theorem c_X12_payers_in {v1 : Int32} {v2 : Int32} {s : St} {k : Option Value → mj_H → Prop} (hw : ok (F_X12_payers v1 v2 s) (fun p => k (some (.int p.1)) (mkMs p.2))) : c_X12_payers [.ref 0, .int v1, .int v2] (mkMs s) k := ⟨v1, v2, s, rfl, rfl, hw⟩
theorem m_X12_payers (l : Launch) : mj_Met l yX12_payers cX12_payers 5 ((some FieldType.int)) 7 0 0 c_X12_payers := by
  refine mj_body2 false (TbX12 5 ((some FieldType.int)) ct_X12_payers) (by decide) rfl rfl (fun h => nomatch h) (tfX12 _ (List.forall_mem_cons.mpr ⟨cfX12_426 (m_X12_tell l) (by decide), List.forall_mem_cons.mpr ⟨cfX12_430 (m_X12_worthOf l) (by decide), fun _ h => nomatch h⟩⟩)) ?_
  rintro as h k ⟨v1, v2, s, rfl, rfl, hw⟩
  exact ⟨rfl, fun G hG => g_X12_payers hG hw⟩
def B_X12_paid_23 (v1 : Int32) (v2 : Int32) : Int32 × Int32 × St → Option ((Int32 × Int32 × St) ⊕ ((Int32 × St)))
  | (v3, v4, s) =>
  if (s.1 1297) ≤ v4 then
    some (.inr (v3, s))
  else
    (rd s 1294 40 v4).bind fun x1 =>
    (F_X12_payers x1 v1 s).bind fun r2 =>
    if r2.1 = 0 then
      (rd r2.2 1295 40 v4).bind fun x3 =>
      some (.inl ((v3 + x3), (v4 + 1), r2.2))
    else
      some (.inl ((v3 + 0), (v4 + 1), r2.2))
def B_X12_paid_97 (v1 : Int32) (v4 : Int32) (v5 : Int32) (s : St) : Int32 × Int32 → Option ((Int32 × Int32) ⊕ ((Int32)))
  | (v6, v7) =>
  if (s.1 1296) ≤ v7 then
    some (.inr v6)
  else
    if ((v5 >>> (v7 &&& 31)) &&& 1) = 1 then
      (rd s 1293 4 v7).bind fun x4 =>
      some (.inl ((v6 + x4), (v7 + 1)))
    else
      some (.inl ((v6 + 0), (v7 + 1)))
def B_X12_paid_142 (v1 : Int32) (v4 : Int32) (v5 : Int32) : Int32 × Int32 × St → Option ((Int32 × Int32 × St) ⊕ ((Int32 × St)))
  | (v6, v7, s) =>
  if (s.1 1297) ≤ v7 then
    some (.inr (v6, s))
  else
    (rd s 1294 40 v7).bind fun x5 =>
    (F_X12_payers x5 v1 s).bind fun r6 =>
    if (r6.1 &&& (v5 ^^^ (-1))) = 0 then
      some (.inl ((v6 + 0), (v7 + 1), r6.2))
    else
      (rd r6.2 1295 40 v7).bind fun x7 =>
      some (.inl ((v6 + x7), (v7 + 1), r6.2))
def F_X12_paid_193 (v1 : Int32) (v4 : Int32) (v5 : Int32) (v6 : Int32) (s : St) : Option ((Int32 × Int32 × St) ⊕ ((Int32 × St))) :=
  if v4 = (-1) then
    some (.inl (v6, (v5 + 1), s))
  else
    some (.inl ((zmn v4 v6), (v5 + 1), s))
def F_X12_paid_142 (v1 : Int32) (v4 : Int32) (v5 : Int32) (v6 : Int32) (v7 : Int32) (s : St) : Option ((Int32 × Int32 × St) ⊕ ((Int32 × St))) :=
  (lp (B_X12_paid_142 v1 v4 v5) FU (v6, v7, s)).bind (fun y => F_X12_paid_193 v1 v4 v5 y.1 y.2)
def F_X12_paid_139 (v1 : Int32) (v4 : Int32) (v5 : Int32) (v6 : Int32) (s : St) : Option ((Int32 × Int32 × St) ⊕ ((Int32 × St))) :=
  F_X12_paid_142 v1 v4 v5 v6 0 s
def F_X12_paid_97 (v1 : Int32) (v4 : Int32) (v5 : Int32) (v6 : Int32) (v7 : Int32) (s : St) : Option ((Int32 × Int32 × St) ⊕ ((Int32 × St))) :=
  (lp (B_X12_paid_97 v1 v4 v5 s) FU (v6, v7)).bind (fun y => F_X12_paid_139 v1 v4 v5 y s)
def B_X12_paid_80 (v1 : Int32) : Int32 × Int32 × St → Option ((Int32 × Int32 × St) ⊕ ((Int32 × St)))
  | (v4, v5, s) =>
  if (1 <<< ((s.1 1296) &&& 31)) ≤ v5 then
    some (.inr (v4, s))
  else
    F_X12_paid_97 v1 v4 v5 0 0 s
def F_X12_paid_219 (v4 : Int32) (s : St) : Option (Int32 × St) :=
  some (v4, s)
def F_X12_paid_80 (v1 : Int32) (v4 : Int32) (v5 : Int32) (s : St) : Option (Int32 × St) :=
  (lp (B_X12_paid_80 v1) FU (v4, v5, s)).bind (fun y => F_X12_paid_219 y.1 y.2)
def F_X12_paid_67 (v1 : Int32) (v2 : Int32) (v3 : Int32) (s : St) : Option (Int32 × St) :=
  if v2 = 1 then
    some (v3, s)
  else
    F_X12_paid_80 v1 (-1) 0 s
def F_X12_paid_23 (v1 : Int32) (v2 : Int32) (v3 : Int32) (v4 : Int32) (s : St) : Option (Int32 × St) :=
  (lp (B_X12_paid_23 v1 v2) FU (v3, v4, s)).bind (fun y => F_X12_paid_67 v1 v2 y.1 y.2)
def F_X12_paid (v1 : Int32) (v2 : Int32) (s : St) : Option (Int32 × St) :=
  if inb v1 0 11 = false then
    some ((-1), s)
  else
    if inb v2 0 1 = false then
      some ((-1), s)
    else
      F_X12_paid_23 v1 v2 0 0 s
theorem J_X12_paid : mj_t 4 12 = 16 ∧ mj_t 13 5 = 18 ∧ mj_t 29 38 = 67 ∧ mj_t 45 13 = 58 ∧ mj_t 55 4 = 59 ∧ mj_t 64 (-41) = 23 ∧ mj_t 69 5 = 74 ∧ mj_t 88 131 = 219 ∧ mj_t 103 36 = 139 ∧ mj_t 116 13 = 129 ∧ mj_t 126 4 = 130 ∧ mj_t 136 (-39) = 97 ∧ mj_t 148 45 = 193 ∧ mj_t 170 13 = 183 ∧ mj_t 180 4 = 184 ∧ mj_t 190 (-48) = 142 ∧ mj_t 196 8 = 204 ∧ mj_t 201 10 = 211 ∧ mj_t 216 (-136) = 80 ∧ (0 ≤ ((4 : Nat) : Int) + 12) = True ∧ (0 ≤ ((13 : Nat) : Int) + 5) = True ∧ (0 ≤ ((29 : Nat) : Int) + 38) = True ∧ (0 ≤ ((45 : Nat) : Int) + 13) = True ∧ (0 ≤ ((55 : Nat) : Int) + 4) = True ∧ (0 ≤ ((64 : Nat) : Int) + (-41)) = True ∧ (0 ≤ ((69 : Nat) : Int) + 5) = True ∧ (0 ≤ ((88 : Nat) : Int) + 131) = True ∧ (0 ≤ ((103 : Nat) : Int) + 36) = True ∧ (0 ≤ ((116 : Nat) : Int) + 13) = True ∧ (0 ≤ ((126 : Nat) : Int) + 4) = True ∧ (0 ≤ ((136 : Nat) : Int) + (-39)) = True ∧ (0 ≤ ((148 : Nat) : Int) + 45) = True ∧ (0 ≤ ((170 : Nat) : Int) + 13) = True ∧ (0 ≤ ((180 : Nat) : Int) + 4) = True ∧ (0 ≤ ((190 : Nat) : Int) + (-48)) = True ∧ (0 ≤ ((196 : Nat) : Int) + 8) = True ∧ (0 ≤ ((201 : Nat) : Int) + 10) = True ∧ (0 ≤ ((216 : Nat) : Int) + (-136)) = True := by and_intros <;> first | rfl | exact eq_true (by decide)
def ct_X12_paid : List (Nat × mj_Cs) := [(243, 2, 3, 12, 0, 0, c_in), (277, 2, 1, 12, 0, 0, c_isYear), (558, 0, 3, 12, 0, 0, c_X12_payers)]
theorem L_X12_paid : mj_lk ct_X12_paid 243 = some (2, 3, 12, 0, 0, c_in) ∧ mj_lk ct_X12_paid 277 = some (2, 1, 12, 0, 0, c_isYear) ∧ mj_lk ct_X12_paid 558 = some (0, 3, 12, 0, 0, c_X12_payers) := ⟨rfl, rfl, rfl⟩
set_option maxHeartbeats 4000000 in
set_option maxRecDepth 20000 in
theorem b_X12_paid_23 {k : Option Value → mj_H → Prop} {G : mj_K} (hG : mj_cl2 cX12_paid (TbX12 8 ((some FieldType.int)) ct_X12_paid) k G) (hM : mj_ml cX12_paid yX12_paid.cls G) {v1 : Int32} {v2 : Int32} {P : Int32 × Int32 × St → Prop} {K : (Int32 × St) → Prop} (hP : ∀ x, P x → G 23 [.ref 0, .int v1, .int v2, .int x.1, .int x.2.1] [] (mkMs x.2.2) 0 0) (hK0 : ∀ y, K y → G 67 [.ref 0, .int v1, .int v2, .int y.1] [] (mkMs y.2) 0 0) {v3 : Int32} {v4 : Int32} {s : St} (hw : ok (B_X12_paid_23 v1 v2 (v3, v4, s)) (Sum.elim P K)) : G 23 [.ref 0, .int v1, .int v2, .int v3, .int v4] [] (mkMs s) 0 0 := by
  unfold B_X12_paid_23 at hw
  refine mj_run hG.1 (fun pc => pc == 23 || pc == 45 || pc == 67 || pc == 80 || pc == 97 || pc == 139 || pc == 142 || pc == 165 || pc == 193 || pc == 208 || pc == 219) 4000 ?_
  simp only [mj_step, mj_W_s, mj_fin, List.getElem?_cons_zero, List.getElem?_cons_succ, mj_go, Nat.reduceAdd, Nat.reduceSub, Nat.reduceLT, Nat.reduceLeDiff, Nat.zero_add, Nat.reduceEqDiff, Nat.reduceBEq, ↓reduceIte, Bool.false_eq_true, List.append_nil, List.nil_append, List.cons_append, Option.toList, and_true, true_and, true_or, or_true, reduceCtorEq, List.map_nil, bI_eq0, bI_eq1, bool_ft, pk_us, vnar0, vnar1, Bool.or_false, Bool.or_true, Bool.false_or, Bool.true_or, mj_kne, eq_self, Int32.reduceLT, Int32.reduceLE, Int32.reduceAdd, Int32.reduceSub, Int32.reduceMul, not_true_eq_false, not_false_eq_true, false_implies, true_implies, D_X12_paid_0, D_X12_paid_1, D_X12_paid_2, mj_F_aload_n_k, mj_F_getfield_i, mj_F_goto_off, mj_F_iadd, mj_F_iaload, mj_F_iand, mj_F_iconst_n, mj_F_ifCond_eq_off, mj_F_ifCond_ne_off, mj_F_if_icmp_ge_off, mj_F_if_icmp_ne_off, mj_F_iinc_k_n, mj_F_iload_k, mj_F_iload_n_k, mj_F_invokestatic_i, mj_F_invokevirtual_i, mj_F_ireturn, mj_F_ishl, mj_F_ishr, mj_F_istore_k, mj_F_istore_n_k, mj_F_ixor, mj_set, mj_set0, mj_unk, mj_c2, mj_kc, FT_X12, FT_X12_1, L_X12_paid, List.take_succ_cons, List.take_zero, List.drop_succ_cons, List.drop_zero, List.reverse_cons, List.reverse_nil, List.length_cons, List.length_nil, gS_M0, gMf_97, gMf_94, gS_M74, sS_Ma_74, gMf_95, gS_M75, sS_Ma_75, gMf_96, gMf_93, gS_M73, sS_Ma_73, c_isYear_eq, c_in_eq, J_X12_paid]
  refine ⟨fun c => ?_, fun c => ?_⟩
  · replace hw := ok_t hw c
    exact hG.2 _ _ _ _ _ _ _ _ _ (by refine ⟨Or.inr rfl, ?_⟩; refine ⟨Or.inr rfl, ?_⟩; refine ⟨Or.inr rfl, ?_⟩; refine ⟨Or.inr rfl, ?_⟩; exact trivial) (Nat.zero_le _) (Nat.zero_le _) (hK0 _ (ok_some hw :) :)
  · replace hw := ok_f hw c
    refine ⟨(ok_rd hw).1, ?_⟩
    replace hw := (ok_rd hw).2
    refine c_X12_payers_in (ok_imp (ok_bind hw) ?_)
    intro p hw
    simp only [Option.toList, List.nil_append, List.cons_append, Nat.reduceSub]
    refine mj_run hG.1 (fun pc => pc == 23 || pc == 45 || pc == 67 || pc == 80 || pc == 97 || pc == 139 || pc == 142 || pc == 165 || pc == 193 || pc == 208 || pc == 219) 4000 ?_
    simp only [mj_step, mj_W_s, mj_fin, List.getElem?_cons_zero, List.getElem?_cons_succ, mj_go, Nat.reduceAdd, Nat.reduceSub, Nat.reduceLT, Nat.reduceLeDiff, Nat.zero_add, Nat.reduceEqDiff, Nat.reduceBEq, ↓reduceIte, Bool.false_eq_true, List.append_nil, List.nil_append, List.cons_append, Option.toList, and_true, true_and, true_or, or_true, reduceCtorEq, List.map_nil, bI_eq0, bI_eq1, bool_ft, pk_us, vnar0, vnar1, Bool.or_false, Bool.or_true, Bool.false_or, Bool.true_or, mj_kne, eq_self, Int32.reduceLT, Int32.reduceLE, Int32.reduceAdd, Int32.reduceSub, Int32.reduceMul, not_true_eq_false, not_false_eq_true, false_implies, true_implies, D_X12_paid_0, D_X12_paid_1, D_X12_paid_2, mj_F_aload_n_k, mj_F_getfield_i, mj_F_goto_off, mj_F_iadd, mj_F_iaload, mj_F_iand, mj_F_iconst_n, mj_F_ifCond_eq_off, mj_F_ifCond_ne_off, mj_F_if_icmp_ge_off, mj_F_if_icmp_ne_off, mj_F_iinc_k_n, mj_F_iload_k, mj_F_iload_n_k, mj_F_invokestatic_i, mj_F_invokevirtual_i, mj_F_ireturn, mj_F_ishl, mj_F_ishr, mj_F_istore_k, mj_F_istore_n_k, mj_F_ixor, mj_set, mj_set0, mj_unk, mj_c2, mj_kc, FT_X12, FT_X12_1, L_X12_paid, List.take_succ_cons, List.take_zero, List.drop_succ_cons, List.drop_zero, List.reverse_cons, List.reverse_nil, List.length_cons, List.length_nil, gS_M0, gMf_97, gMf_94, gS_M74, sS_Ma_74, gMf_95, gS_M75, sS_Ma_75, gMf_96, gMf_93, gS_M73, sS_Ma_73, c_isYear_eq, c_in_eq, J_X12_paid]
    refine ⟨fun c => ?_, fun c => ?_⟩
    · replace hw := ok_f hw c
      exact hG.2 _ _ _ _ _ _ _ _ _ (by refine ⟨Or.inr rfl, ?_⟩; refine ⟨Or.inr rfl, ?_⟩; refine ⟨Or.inr rfl, ?_⟩; refine ⟨Or.inr rfl, ?_⟩; refine ⟨Or.inr rfl, ?_⟩; exact trivial) (Nat.zero_le _) (Nat.zero_le _) (hP _ (ok_some hw :) :)
    · replace hw := ok_t hw c
      refine ⟨(ok_rd hw).1, ?_⟩
      replace hw := (ok_rd hw).2
      exact hG.2 _ _ _ _ _ _ _ _ _ (by refine ⟨Or.inr rfl, ?_⟩; refine ⟨Or.inr rfl, ?_⟩; refine ⟨Or.inr rfl, ?_⟩; refine ⟨Or.inr rfl, ?_⟩; refine ⟨Or.inr rfl, ?_⟩; exact trivial) (Nat.zero_le _) (Nat.zero_le _) (hP _ (ok_some hw :) :)

set_option maxHeartbeats 4000000 in
set_option maxRecDepth 20000 in
theorem b_X12_paid_97 {k : Option Value → mj_H → Prop} {G : mj_K} (hG : mj_cl2 cX12_paid (TbX12 8 ((some FieldType.int)) ct_X12_paid) k G) (hM : mj_ml cX12_paid yX12_paid.cls G) {v1 : Int32} {v4 : Int32} {v5 : Int32} {s : St} {P : Int32 × Int32 → Prop} {K : (Int32) → Prop} (hP : ∀ x, P x → G 97 [.ref 0, .int v1, mj_unk, mj_unk, .int v4, .int v5, .int x.1, .int x.2] [] (mkMs s) 0 0) (hK0 : ∀ y, K y → G 139 [.ref 0, .int v1, mj_unk, mj_unk, .int v4, .int v5, .int y] [] (mkMs s) 0 0) {v6 : Int32} {v7 : Int32} (hw : ok (B_X12_paid_97 v1 v4 v5 s (v6, v7)) (Sum.elim P K)) : G 97 [.ref 0, .int v1, mj_unk, mj_unk, .int v4, .int v5, .int v6, .int v7] [] (mkMs s) 0 0 := by
  unfold B_X12_paid_97 at hw
  refine mj_run hG.1 (fun pc => pc == 23 || pc == 45 || pc == 67 || pc == 80 || pc == 97 || pc == 139 || pc == 142 || pc == 165 || pc == 193 || pc == 208 || pc == 219) 4000 ?_
  simp only [mj_step, mj_W_s, mj_fin, List.getElem?_cons_zero, List.getElem?_cons_succ, mj_go, Nat.reduceAdd, Nat.reduceSub, Nat.reduceLT, Nat.reduceLeDiff, Nat.zero_add, Nat.reduceEqDiff, Nat.reduceBEq, ↓reduceIte, Bool.false_eq_true, List.append_nil, List.nil_append, List.cons_append, Option.toList, and_true, true_and, true_or, or_true, reduceCtorEq, List.map_nil, bI_eq0, bI_eq1, bool_ft, pk_us, vnar0, vnar1, Bool.or_false, Bool.or_true, Bool.false_or, Bool.true_or, mj_kne, eq_self, Int32.reduceLT, Int32.reduceLE, Int32.reduceAdd, Int32.reduceSub, Int32.reduceMul, not_true_eq_false, not_false_eq_true, false_implies, true_implies, D_X12_paid_0, D_X12_paid_1, D_X12_paid_2, mj_F_aload_n_k, mj_F_getfield_i, mj_F_goto_off, mj_F_iadd, mj_F_iaload, mj_F_iand, mj_F_iconst_n, mj_F_ifCond_eq_off, mj_F_ifCond_ne_off, mj_F_if_icmp_ge_off, mj_F_if_icmp_ne_off, mj_F_iinc_k_n, mj_F_iload_k, mj_F_iload_n_k, mj_F_invokestatic_i, mj_F_invokevirtual_i, mj_F_ireturn, mj_F_ishl, mj_F_ishr, mj_F_istore_k, mj_F_istore_n_k, mj_F_ixor, mj_set, mj_set0, mj_unk, mj_c2, mj_kc, FT_X12, FT_X12_1, L_X12_paid, List.take_succ_cons, List.take_zero, List.drop_succ_cons, List.drop_zero, List.reverse_cons, List.reverse_nil, List.length_cons, List.length_nil, gS_M0, gMf_97, gMf_94, gS_M74, sS_Ma_74, gMf_95, gS_M75, sS_Ma_75, gMf_96, gMf_93, gS_M73, sS_Ma_73, c_isYear_eq, c_in_eq, J_X12_paid]
  refine ⟨fun c => ?_, fun c => ?_⟩
  · replace hw := ok_t hw c
    exact hG.2 _ _ _ _ _ _ _ _ _ (by refine ⟨Or.inr rfl, ?_⟩; refine ⟨Or.inr rfl, ?_⟩; refine ⟨Or.inl rfl, ?_⟩; refine ⟨Or.inl rfl, ?_⟩; refine ⟨Or.inr rfl, ?_⟩; refine ⟨Or.inr rfl, ?_⟩; refine ⟨Or.inr rfl, ?_⟩; exact trivial) (Nat.zero_le _) (Nat.zero_le _) (hK0 _ (ok_some hw :) :)
  · replace hw := ok_f hw c
    refine ⟨fun c => ?_, fun c => ?_⟩
    · replace hw := ok_f hw c
      exact hG.2 _ _ _ _ _ _ _ _ _ (by refine ⟨Or.inr rfl, ?_⟩; refine ⟨Or.inr rfl, ?_⟩; refine ⟨Or.inl rfl, ?_⟩; refine ⟨Or.inl rfl, ?_⟩; refine ⟨Or.inr rfl, ?_⟩; refine ⟨Or.inr rfl, ?_⟩; refine ⟨Or.inr rfl, ?_⟩; refine ⟨Or.inr rfl, ?_⟩; exact trivial) (Nat.zero_le _) (Nat.zero_le _) (hP _ (ok_some hw :) :)
    · replace hw := ok_t hw c
      refine ⟨(ok_rd hw).1, ?_⟩
      replace hw := (ok_rd hw).2
      exact hG.2 _ _ _ _ _ _ _ _ _ (by refine ⟨Or.inr rfl, ?_⟩; refine ⟨Or.inr rfl, ?_⟩; refine ⟨Or.inl rfl, ?_⟩; refine ⟨Or.inl rfl, ?_⟩; refine ⟨Or.inr rfl, ?_⟩; refine ⟨Or.inr rfl, ?_⟩; refine ⟨Or.inr rfl, ?_⟩; refine ⟨Or.inr rfl, ?_⟩; exact trivial) (Nat.zero_le _) (Nat.zero_le _) (hP _ (ok_some hw :) :)

set_option maxHeartbeats 4000000 in
set_option maxRecDepth 20000 in
theorem b_X12_paid_142 {k : Option Value → mj_H → Prop} {G : mj_K} (hG : mj_cl2 cX12_paid (TbX12 8 ((some FieldType.int)) ct_X12_paid) k G) (hM : mj_ml cX12_paid yX12_paid.cls G) {v1 : Int32} {v4 : Int32} {v5 : Int32} {P : Int32 × Int32 × St → Prop} {K : (Int32 × St) → Prop} (hP : ∀ x, P x → G 142 [.ref 0, .int v1, mj_unk, mj_unk, .int v4, .int v5, .int x.1, .int x.2.1] [] (mkMs x.2.2) 0 0) (hK0 : ∀ y, K y → G 193 [.ref 0, .int v1, mj_unk, mj_unk, .int v4, .int v5, .int y.1] [] (mkMs y.2) 0 0) {v6 : Int32} {v7 : Int32} {s : St} (hw : ok (B_X12_paid_142 v1 v4 v5 (v6, v7, s)) (Sum.elim P K)) : G 142 [.ref 0, .int v1, mj_unk, mj_unk, .int v4, .int v5, .int v6, .int v7] [] (mkMs s) 0 0 := by
  unfold B_X12_paid_142 at hw
  refine mj_run hG.1 (fun pc => pc == 23 || pc == 45 || pc == 67 || pc == 80 || pc == 97 || pc == 139 || pc == 142 || pc == 165 || pc == 193 || pc == 208 || pc == 219) 4000 ?_
  simp only [mj_step, mj_W_s, mj_fin, List.getElem?_cons_zero, List.getElem?_cons_succ, mj_go, Nat.reduceAdd, Nat.reduceSub, Nat.reduceLT, Nat.reduceLeDiff, Nat.zero_add, Nat.reduceEqDiff, Nat.reduceBEq, ↓reduceIte, Bool.false_eq_true, List.append_nil, List.nil_append, List.cons_append, Option.toList, and_true, true_and, true_or, or_true, reduceCtorEq, List.map_nil, bI_eq0, bI_eq1, bool_ft, pk_us, vnar0, vnar1, Bool.or_false, Bool.or_true, Bool.false_or, Bool.true_or, mj_kne, eq_self, Int32.reduceLT, Int32.reduceLE, Int32.reduceAdd, Int32.reduceSub, Int32.reduceMul, not_true_eq_false, not_false_eq_true, false_implies, true_implies, D_X12_paid_0, D_X12_paid_1, D_X12_paid_2, mj_F_aload_n_k, mj_F_getfield_i, mj_F_goto_off, mj_F_iadd, mj_F_iaload, mj_F_iand, mj_F_iconst_n, mj_F_ifCond_eq_off, mj_F_ifCond_ne_off, mj_F_if_icmp_ge_off, mj_F_if_icmp_ne_off, mj_F_iinc_k_n, mj_F_iload_k, mj_F_iload_n_k, mj_F_invokestatic_i, mj_F_invokevirtual_i, mj_F_ireturn, mj_F_ishl, mj_F_ishr, mj_F_istore_k, mj_F_istore_n_k, mj_F_ixor, mj_set, mj_set0, mj_unk, mj_c2, mj_kc, FT_X12, FT_X12_1, L_X12_paid, List.take_succ_cons, List.take_zero, List.drop_succ_cons, List.drop_zero, List.reverse_cons, List.reverse_nil, List.length_cons, List.length_nil, gS_M0, gMf_97, gMf_94, gS_M74, sS_Ma_74, gMf_95, gS_M75, sS_Ma_75, gMf_96, gMf_93, gS_M73, sS_Ma_73, c_isYear_eq, c_in_eq, J_X12_paid]
  refine ⟨fun c => ?_, fun c => ?_⟩
  · replace hw := ok_t hw c
    exact hG.2 _ _ _ _ _ _ _ _ _ (by refine ⟨Or.inr rfl, ?_⟩; refine ⟨Or.inr rfl, ?_⟩; refine ⟨Or.inl rfl, ?_⟩; refine ⟨Or.inl rfl, ?_⟩; refine ⟨Or.inr rfl, ?_⟩; refine ⟨Or.inr rfl, ?_⟩; refine ⟨Or.inr rfl, ?_⟩; exact trivial) (Nat.zero_le _) (Nat.zero_le _) (hK0 _ (ok_some hw :) :)
  · replace hw := ok_f hw c
    refine ⟨(ok_rd hw).1, ?_⟩
    replace hw := (ok_rd hw).2
    refine c_X12_payers_in (ok_imp (ok_bind hw) ?_)
    intro p hw
    simp only [Option.toList, List.nil_append, List.cons_append, Nat.reduceSub]
    refine mj_run hG.1 (fun pc => pc == 23 || pc == 45 || pc == 67 || pc == 80 || pc == 97 || pc == 139 || pc == 142 || pc == 165 || pc == 193 || pc == 208 || pc == 219) 4000 ?_
    simp only [mj_step, mj_W_s, mj_fin, List.getElem?_cons_zero, List.getElem?_cons_succ, mj_go, Nat.reduceAdd, Nat.reduceSub, Nat.reduceLT, Nat.reduceLeDiff, Nat.zero_add, Nat.reduceEqDiff, Nat.reduceBEq, ↓reduceIte, Bool.false_eq_true, List.append_nil, List.nil_append, List.cons_append, Option.toList, and_true, true_and, true_or, or_true, reduceCtorEq, List.map_nil, bI_eq0, bI_eq1, bool_ft, pk_us, vnar0, vnar1, Bool.or_false, Bool.or_true, Bool.false_or, Bool.true_or, mj_kne, eq_self, Int32.reduceLT, Int32.reduceLE, Int32.reduceAdd, Int32.reduceSub, Int32.reduceMul, not_true_eq_false, not_false_eq_true, false_implies, true_implies, D_X12_paid_0, D_X12_paid_1, D_X12_paid_2, mj_F_aload_n_k, mj_F_getfield_i, mj_F_goto_off, mj_F_iadd, mj_F_iaload, mj_F_iand, mj_F_iconst_n, mj_F_ifCond_eq_off, mj_F_ifCond_ne_off, mj_F_if_icmp_ge_off, mj_F_if_icmp_ne_off, mj_F_iinc_k_n, mj_F_iload_k, mj_F_iload_n_k, mj_F_invokestatic_i, mj_F_invokevirtual_i, mj_F_ireturn, mj_F_ishl, mj_F_ishr, mj_F_istore_k, mj_F_istore_n_k, mj_F_ixor, mj_set, mj_set0, mj_unk, mj_c2, mj_kc, FT_X12, FT_X12_1, L_X12_paid, List.take_succ_cons, List.take_zero, List.drop_succ_cons, List.drop_zero, List.reverse_cons, List.reverse_nil, List.length_cons, List.length_nil, gS_M0, gMf_97, gMf_94, gS_M74, sS_Ma_74, gMf_95, gS_M75, sS_Ma_75, gMf_96, gMf_93, gS_M73, sS_Ma_73, c_isYear_eq, c_in_eq, J_X12_paid]
    refine ⟨fun c => ?_, fun c => ?_⟩
    · replace hw := ok_t hw c
      exact hG.2 _ _ _ _ _ _ _ _ _ (by refine ⟨Or.inr rfl, ?_⟩; refine ⟨Or.inr rfl, ?_⟩; refine ⟨Or.inl rfl, ?_⟩; refine ⟨Or.inl rfl, ?_⟩; refine ⟨Or.inr rfl, ?_⟩; refine ⟨Or.inr rfl, ?_⟩; refine ⟨Or.inr rfl, ?_⟩; refine ⟨Or.inr rfl, ?_⟩; exact trivial) (Nat.zero_le _) (Nat.zero_le _) (hP _ (ok_some hw :) :)
    · replace hw := ok_f hw c
      refine ⟨(ok_rd hw).1, ?_⟩
      replace hw := (ok_rd hw).2
      exact hG.2 _ _ _ _ _ _ _ _ _ (by refine ⟨Or.inr rfl, ?_⟩; refine ⟨Or.inr rfl, ?_⟩; refine ⟨Or.inl rfl, ?_⟩; refine ⟨Or.inl rfl, ?_⟩; refine ⟨Or.inr rfl, ?_⟩; refine ⟨Or.inr rfl, ?_⟩; refine ⟨Or.inr rfl, ?_⟩; refine ⟨Or.inr rfl, ?_⟩; exact trivial) (Nat.zero_le _) (Nat.zero_le _) (hP _ (ok_some hw :) :)

set_option maxHeartbeats 4000000 in
set_option maxRecDepth 20000 in
theorem g_X12_paid_193 {k : Option Value → mj_H → Prop} {G : mj_K} (hG : mj_cl2 cX12_paid (TbX12 8 ((some FieldType.int)) ct_X12_paid) k G) (hM : mj_ml cX12_paid yX12_paid.cls G) {v1 : Int32} {P : Int32 × Int32 × St → Prop} {K : (Int32 × St) → Prop} (hP : ∀ x, P x → G 80 [.ref 0, .int v1, mj_unk, mj_unk, .int x.1, .int x.2.1] [] (mkMs x.2.2) 0 0) (hK0 : ∀ y, K y → G 219 [mj_unk, mj_unk, mj_unk, mj_unk, .int y.1] [] (mkMs y.2) 0 0) {v4 : Int32} {v5 : Int32} {v6 : Int32} {s : St} (hw : ok (F_X12_paid_193 v1 v4 v5 v6 s) (Sum.elim P K)) : G 193 [.ref 0, .int v1, mj_unk, mj_unk, .int v4, .int v5, .int v6] [] (mkMs s) 0 0 := by
  unfold F_X12_paid_193 at hw
  refine mj_run hG.1 (fun pc => pc == 23 || pc == 45 || pc == 67 || pc == 80 || pc == 97 || pc == 139 || pc == 142 || pc == 165 || pc == 193 || pc == 208 || pc == 219) 4000 ?_
  simp only [mj_step, mj_W_s, mj_fin, List.getElem?_cons_zero, List.getElem?_cons_succ, mj_go, Nat.reduceAdd, Nat.reduceSub, Nat.reduceLT, Nat.reduceLeDiff, Nat.zero_add, Nat.reduceEqDiff, Nat.reduceBEq, ↓reduceIte, Bool.false_eq_true, List.append_nil, List.nil_append, List.cons_append, Option.toList, and_true, true_and, true_or, or_true, reduceCtorEq, List.map_nil, bI_eq0, bI_eq1, bool_ft, pk_us, vnar0, vnar1, Bool.or_false, Bool.or_true, Bool.false_or, Bool.true_or, mj_kne, eq_self, Int32.reduceLT, Int32.reduceLE, Int32.reduceAdd, Int32.reduceSub, Int32.reduceMul, not_true_eq_false, not_false_eq_true, false_implies, true_implies, D_X12_paid_0, D_X12_paid_1, D_X12_paid_2, mj_F_aload_n_k, mj_F_getfield_i, mj_F_goto_off, mj_F_iadd, mj_F_iaload, mj_F_iand, mj_F_iconst_n, mj_F_ifCond_eq_off, mj_F_ifCond_ne_off, mj_F_if_icmp_ge_off, mj_F_if_icmp_ne_off, mj_F_iinc_k_n, mj_F_iload_k, mj_F_iload_n_k, mj_F_invokestatic_i, mj_F_invokevirtual_i, mj_F_ireturn, mj_F_ishl, mj_F_ishr, mj_F_istore_k, mj_F_istore_n_k, mj_F_ixor, mj_set, mj_set0, mj_unk, mj_c2, mj_kc, FT_X12, FT_X12_1, L_X12_paid, List.take_succ_cons, List.take_zero, List.drop_succ_cons, List.drop_zero, List.reverse_cons, List.reverse_nil, List.length_cons, List.length_nil, gS_M0, gMf_97, gMf_94, gS_M74, sS_Ma_74, gMf_95, gS_M75, sS_Ma_75, gMf_96, gMf_93, gS_M73, sS_Ma_73, c_isYear_eq, c_in_eq, J_X12_paid]
  refine ⟨fun c => ?_, fun c => ?_⟩
  · replace hw := ok_f hw c
    refine hM 208 449 0 _ _ _ _ _ _ _ _ (by simp only [D_X12_paid_0, D_X12_paid_1, D_X12_paid_2]) (lkX12_449) rfl (Nat.le_of_ble_eq_true rfl) ?_
    refine mj_run hG.1 (fun pc => pc == 23 || pc == 45 || pc == 67 || pc == 80 || pc == 97 || pc == 139 || pc == 142 || pc == 165 || pc == 193 || pc == 208 || pc == 219) 4000 ?_
    simp only [mj_step, mj_W_s, mj_fin, List.getElem?_cons_zero, List.getElem?_cons_succ, mj_go, Nat.reduceAdd, Nat.reduceSub, Nat.reduceLT, Nat.reduceLeDiff, Nat.zero_add, Nat.reduceEqDiff, Nat.reduceBEq, ↓reduceIte, Bool.false_eq_true, List.append_nil, List.nil_append, List.cons_append, Option.toList, and_true, true_and, true_or, or_true, reduceCtorEq, List.map_nil, bI_eq0, bI_eq1, bool_ft, pk_us, vnar0, vnar1, Bool.or_false, Bool.or_true, Bool.false_or, Bool.true_or, mj_kne, eq_self, Int32.reduceLT, Int32.reduceLE, Int32.reduceAdd, Int32.reduceSub, Int32.reduceMul, not_true_eq_false, not_false_eq_true, false_implies, true_implies, D_X12_paid_0, D_X12_paid_1, D_X12_paid_2, mj_F_aload_n_k, mj_F_getfield_i, mj_F_goto_off, mj_F_iadd, mj_F_iaload, mj_F_iand, mj_F_iconst_n, mj_F_ifCond_eq_off, mj_F_ifCond_ne_off, mj_F_if_icmp_ge_off, mj_F_if_icmp_ne_off, mj_F_iinc_k_n, mj_F_iload_k, mj_F_iload_n_k, mj_F_invokestatic_i, mj_F_invokevirtual_i, mj_F_ireturn, mj_F_ishl, mj_F_ishr, mj_F_istore_k, mj_F_istore_n_k, mj_F_ixor, mj_set, mj_set0, mj_unk, mj_c2, mj_kc, FT_X12, FT_X12_1, L_X12_paid, List.take_succ_cons, List.take_zero, List.drop_succ_cons, List.drop_zero, List.reverse_cons, List.reverse_nil, List.length_cons, List.length_nil, gS_M0, gMf_97, gMf_94, gS_M74, sS_Ma_74, gMf_95, gS_M75, sS_Ma_75, gMf_96, gMf_93, gS_M73, sS_Ma_73, c_isYear_eq, c_in_eq, J_X12_paid]
    exact hG.2 _ _ _ _ _ _ _ _ _ (by refine ⟨Or.inr rfl, ?_⟩; refine ⟨Or.inr rfl, ?_⟩; refine ⟨Or.inl rfl, ?_⟩; refine ⟨Or.inl rfl, ?_⟩; refine ⟨Or.inr rfl, ?_⟩; refine ⟨Or.inr rfl, ?_⟩; exact trivial) (Nat.zero_le _) (Nat.zero_le _) (hP _ (ok_some hw :) :)
  · replace hw := ok_t hw c
    exact hG.2 _ _ _ _ _ _ _ _ _ (by refine ⟨Or.inr rfl, ?_⟩; refine ⟨Or.inr rfl, ?_⟩; refine ⟨Or.inl rfl, ?_⟩; refine ⟨Or.inl rfl, ?_⟩; refine ⟨Or.inr rfl, ?_⟩; refine ⟨Or.inr rfl, ?_⟩; exact trivial) (Nat.zero_le _) (Nat.zero_le _) (hP _ (ok_some hw :) :)

set_option maxHeartbeats 4000000 in
theorem g_X12_paid_142 {k : Option Value → mj_H → Prop} {G : mj_K} (hG : mj_cl2 cX12_paid (TbX12 8 ((some FieldType.int)) ct_X12_paid) k G) (hM : mj_ml cX12_paid yX12_paid.cls G) {v1 : Int32} {P : Int32 × Int32 × St → Prop} {K : (Int32 × St) → Prop} (hP : ∀ x, P x → G 80 [.ref 0, .int v1, mj_unk, mj_unk, .int x.1, .int x.2.1] [] (mkMs x.2.2) 0 0) (hK0 : ∀ y, K y → G 219 [mj_unk, mj_unk, mj_unk, mj_unk, .int y.1] [] (mkMs y.2) 0 0) {v4 : Int32} {v5 : Int32} {v6 : Int32} {v7 : Int32} {s : St} (hw : ok (F_X12_paid_142 v1 v4 v5 v6 v7 s) (Sum.elim P K)) : G 142 [.ref 0, .int v1, mj_unk, mj_unk, .int v4, .int v5, .int v6, .int v7] [] (mkMs s) 0 0 := by
  unfold F_X12_paid_142 at hw
  refine lp_ok (B_X12_paid_142 v1 v4 v5) (fun x => G 142 [.ref 0, .int v1, mj_unk, mj_unk, .int v4, .int v5, .int x.1, .int x.2.1] [] (mkMs x.2.2) 0 0) _ ?_ _ _ (ok_bind hw)
  rintro ⟨v6, v7, s⟩ hb
  exact b_X12_paid_142 hG hM (fun _ z => z) (fun y hw => by exact hG.2 _ _ _ _ _ _ _ _ _ (by refine ⟨Or.inr rfl, ?_⟩; refine ⟨Or.inr rfl, ?_⟩; refine ⟨Or.inl rfl, ?_⟩; refine ⟨Or.inl rfl, ?_⟩; refine ⟨Or.inr rfl, ?_⟩; refine ⟨Or.inr rfl, ?_⟩; refine ⟨Or.inr rfl, ?_⟩; exact trivial) (Nat.zero_le _) (Nat.zero_le _) (g_X12_paid_193 hG hM hP hK0  hw :)) hb

set_option maxHeartbeats 4000000 in
set_option maxRecDepth 20000 in
theorem g_X12_paid_139 {k : Option Value → mj_H → Prop} {G : mj_K} (hG : mj_cl2 cX12_paid (TbX12 8 ((some FieldType.int)) ct_X12_paid) k G) (hM : mj_ml cX12_paid yX12_paid.cls G) {v1 : Int32} {P : Int32 × Int32 × St → Prop} {K : (Int32 × St) → Prop} (hP : ∀ x, P x → G 80 [.ref 0, .int v1, mj_unk, mj_unk, .int x.1, .int x.2.1] [] (mkMs x.2.2) 0 0) (hK0 : ∀ y, K y → G 219 [mj_unk, mj_unk, mj_unk, mj_unk, .int y.1] [] (mkMs y.2) 0 0) {v4 : Int32} {v5 : Int32} {v6 : Int32} {s : St} (hw : ok (F_X12_paid_139 v1 v4 v5 v6 s) (Sum.elim P K)) : G 139 [.ref 0, .int v1, mj_unk, mj_unk, .int v4, .int v5, .int v6] [] (mkMs s) 0 0 := by
  unfold F_X12_paid_139 at hw
  refine mj_run hG.1 (fun pc => pc == 23 || pc == 45 || pc == 67 || pc == 80 || pc == 97 || pc == 139 || pc == 142 || pc == 165 || pc == 193 || pc == 208 || pc == 219) 4000 ?_
  simp only [mj_step, mj_W_s, mj_fin, List.getElem?_cons_zero, List.getElem?_cons_succ, mj_go, Nat.reduceAdd, Nat.reduceSub, Nat.reduceLT, Nat.reduceLeDiff, Nat.zero_add, Nat.reduceEqDiff, Nat.reduceBEq, ↓reduceIte, Bool.false_eq_true, List.append_nil, List.nil_append, List.cons_append, Option.toList, and_true, true_and, true_or, or_true, reduceCtorEq, List.map_nil, bI_eq0, bI_eq1, bool_ft, pk_us, vnar0, vnar1, Bool.or_false, Bool.or_true, Bool.false_or, Bool.true_or, mj_kne, eq_self, Int32.reduceLT, Int32.reduceLE, Int32.reduceAdd, Int32.reduceSub, Int32.reduceMul, not_true_eq_false, not_false_eq_true, false_implies, true_implies, D_X12_paid_0, D_X12_paid_1, D_X12_paid_2, mj_F_aload_n_k, mj_F_getfield_i, mj_F_goto_off, mj_F_iadd, mj_F_iaload, mj_F_iand, mj_F_iconst_n, mj_F_ifCond_eq_off, mj_F_ifCond_ne_off, mj_F_if_icmp_ge_off, mj_F_if_icmp_ne_off, mj_F_iinc_k_n, mj_F_iload_k, mj_F_iload_n_k, mj_F_invokestatic_i, mj_F_invokevirtual_i, mj_F_ireturn, mj_F_ishl, mj_F_ishr, mj_F_istore_k, mj_F_istore_n_k, mj_F_ixor, mj_set, mj_set0, mj_unk, mj_c2, mj_kc, FT_X12, FT_X12_1, L_X12_paid, List.take_succ_cons, List.take_zero, List.drop_succ_cons, List.drop_zero, List.reverse_cons, List.reverse_nil, List.length_cons, List.length_nil, gS_M0, gMf_97, gMf_94, gS_M74, sS_Ma_74, gMf_95, gS_M75, sS_Ma_75, gMf_96, gMf_93, gS_M73, sS_Ma_73, c_isYear_eq, c_in_eq, J_X12_paid]
  exact hG.2 _ _ _ _ _ _ _ _ _ (by refine ⟨Or.inr rfl, ?_⟩; refine ⟨Or.inr rfl, ?_⟩; refine ⟨Or.inl rfl, ?_⟩; refine ⟨Or.inl rfl, ?_⟩; refine ⟨Or.inr rfl, ?_⟩; refine ⟨Or.inr rfl, ?_⟩; refine ⟨Or.inr rfl, ?_⟩; refine ⟨Or.inr rfl, ?_⟩; exact trivial) (Nat.zero_le _) (Nat.zero_le _) (g_X12_paid_142 hG hM hP hK0  hw :)

set_option maxHeartbeats 4000000 in
theorem g_X12_paid_97 {k : Option Value → mj_H → Prop} {G : mj_K} (hG : mj_cl2 cX12_paid (TbX12 8 ((some FieldType.int)) ct_X12_paid) k G) (hM : mj_ml cX12_paid yX12_paid.cls G) {v1 : Int32} {P : Int32 × Int32 × St → Prop} {K : (Int32 × St) → Prop} (hP : ∀ x, P x → G 80 [.ref 0, .int v1, mj_unk, mj_unk, .int x.1, .int x.2.1] [] (mkMs x.2.2) 0 0) (hK0 : ∀ y, K y → G 219 [mj_unk, mj_unk, mj_unk, mj_unk, .int y.1] [] (mkMs y.2) 0 0) {v4 : Int32} {v5 : Int32} {v6 : Int32} {v7 : Int32} {s : St} (hw : ok (F_X12_paid_97 v1 v4 v5 v6 v7 s) (Sum.elim P K)) : G 97 [.ref 0, .int v1, mj_unk, mj_unk, .int v4, .int v5, .int v6, .int v7] [] (mkMs s) 0 0 := by
  unfold F_X12_paid_97 at hw
  refine lp_ok (B_X12_paid_97 v1 v4 v5 s) (fun x => G 97 [.ref 0, .int v1, mj_unk, mj_unk, .int v4, .int v5, .int x.1, .int x.2] [] (mkMs s) 0 0) _ ?_ _ _ (ok_bind hw)
  rintro ⟨v6, v7⟩ hb
  exact b_X12_paid_97 hG hM (fun _ z => z) (fun y hw => by exact hG.2 _ _ _ _ _ _ _ _ _ (by refine ⟨Or.inr rfl, ?_⟩; refine ⟨Or.inr rfl, ?_⟩; refine ⟨Or.inl rfl, ?_⟩; refine ⟨Or.inl rfl, ?_⟩; refine ⟨Or.inr rfl, ?_⟩; refine ⟨Or.inr rfl, ?_⟩; refine ⟨Or.inr rfl, ?_⟩; exact trivial) (Nat.zero_le _) (Nat.zero_le _) (g_X12_paid_139 hG hM hP hK0  hw :)) hb

set_option maxHeartbeats 4000000 in
set_option maxRecDepth 20000 in
theorem b_X12_paid_80 {k : Option Value → mj_H → Prop} {G : mj_K} (hG : mj_cl2 cX12_paid (TbX12 8 ((some FieldType.int)) ct_X12_paid) k G) (hM : mj_ml cX12_paid yX12_paid.cls G) {v1 : Int32} {P : Int32 × Int32 × St → Prop} {K : (Int32 × St) → Prop} (hP : ∀ x, P x → G 80 [.ref 0, .int v1, mj_unk, mj_unk, .int x.1, .int x.2.1] [] (mkMs x.2.2) 0 0) (hK0 : ∀ y, K y → G 219 [mj_unk, mj_unk, mj_unk, mj_unk, .int y.1] [] (mkMs y.2) 0 0) {v4 : Int32} {v5 : Int32} {s : St} (hw : ok (B_X12_paid_80 v1 (v4, v5, s)) (Sum.elim P K)) : G 80 [.ref 0, .int v1, mj_unk, mj_unk, .int v4, .int v5] [] (mkMs s) 0 0 := by
  unfold B_X12_paid_80 at hw
  refine mj_run hG.1 (fun pc => pc == 23 || pc == 45 || pc == 67 || pc == 80 || pc == 97 || pc == 139 || pc == 142 || pc == 165 || pc == 193 || pc == 208 || pc == 219) 4000 ?_
  simp only [mj_step, mj_W_s, mj_fin, List.getElem?_cons_zero, List.getElem?_cons_succ, mj_go, Nat.reduceAdd, Nat.reduceSub, Nat.reduceLT, Nat.reduceLeDiff, Nat.zero_add, Nat.reduceEqDiff, Nat.reduceBEq, ↓reduceIte, Bool.false_eq_true, List.append_nil, List.nil_append, List.cons_append, Option.toList, and_true, true_and, true_or, or_true, reduceCtorEq, List.map_nil, bI_eq0, bI_eq1, bool_ft, pk_us, vnar0, vnar1, Bool.or_false, Bool.or_true, Bool.false_or, Bool.true_or, mj_kne, eq_self, Int32.reduceLT, Int32.reduceLE, Int32.reduceAdd, Int32.reduceSub, Int32.reduceMul, not_true_eq_false, not_false_eq_true, false_implies, true_implies, D_X12_paid_0, D_X12_paid_1, D_X12_paid_2, mj_F_aload_n_k, mj_F_getfield_i, mj_F_goto_off, mj_F_iadd, mj_F_iaload, mj_F_iand, mj_F_iconst_n, mj_F_ifCond_eq_off, mj_F_ifCond_ne_off, mj_F_if_icmp_ge_off, mj_F_if_icmp_ne_off, mj_F_iinc_k_n, mj_F_iload_k, mj_F_iload_n_k, mj_F_invokestatic_i, mj_F_invokevirtual_i, mj_F_ireturn, mj_F_ishl, mj_F_ishr, mj_F_istore_k, mj_F_istore_n_k, mj_F_ixor, mj_set, mj_set0, mj_unk, mj_c2, mj_kc, FT_X12, FT_X12_1, L_X12_paid, List.take_succ_cons, List.take_zero, List.drop_succ_cons, List.drop_zero, List.reverse_cons, List.reverse_nil, List.length_cons, List.length_nil, gS_M0, gMf_97, gMf_94, gS_M74, sS_Ma_74, gMf_95, gS_M75, sS_Ma_75, gMf_96, gMf_93, gS_M73, sS_Ma_73, c_isYear_eq, c_in_eq, J_X12_paid]
  refine ⟨fun c => ?_, fun c => ?_⟩
  · replace hw := ok_t hw c
    exact hG.2 _ _ _ _ _ _ _ _ _ (by refine ⟨Or.inl rfl, ?_⟩; refine ⟨Or.inl rfl, ?_⟩; refine ⟨Or.inl rfl, ?_⟩; refine ⟨Or.inl rfl, ?_⟩; refine ⟨Or.inr rfl, ?_⟩; exact trivial) (Nat.zero_le _) (Nat.zero_le _) (hK0 _ (ok_some hw :) :)
  · replace hw := ok_f hw c
    exact hG.2 _ _ _ _ _ _ _ _ _ (by refine ⟨Or.inr rfl, ?_⟩; refine ⟨Or.inr rfl, ?_⟩; refine ⟨Or.inl rfl, ?_⟩; refine ⟨Or.inl rfl, ?_⟩; refine ⟨Or.inr rfl, ?_⟩; refine ⟨Or.inr rfl, ?_⟩; refine ⟨Or.inr rfl, ?_⟩; refine ⟨Or.inr rfl, ?_⟩; exact trivial) (Nat.zero_le _) (Nat.zero_le _) (g_X12_paid_97 hG hM hP hK0  hw :)

set_option maxHeartbeats 4000000 in
set_option maxRecDepth 20000 in
theorem g_X12_paid_219 {k : Option Value → mj_H → Prop} {G : mj_K} (hG : mj_cl2 cX12_paid (TbX12 8 ((some FieldType.int)) ct_X12_paid) k G) (hM : mj_ml cX12_paid yX12_paid.cls G)   {v4 : Int32} {s : St} (hw : ok (F_X12_paid_219 v4 s) (fun p => k (some (.int p.1)) (mkMs p.2))) : G 219 [mj_unk, mj_unk, mj_unk, mj_unk, .int v4] [] (mkMs s) 0 0 := by
  unfold F_X12_paid_219 at hw
  refine mj_run hG.1 (fun pc => pc == 23 || pc == 45 || pc == 67 || pc == 80 || pc == 97 || pc == 139 || pc == 142 || pc == 165 || pc == 193 || pc == 208 || pc == 219) 4000 ?_
  simp only [mj_step, mj_W_s, mj_fin, List.getElem?_cons_zero, List.getElem?_cons_succ, mj_go, Nat.reduceAdd, Nat.reduceSub, Nat.reduceLT, Nat.reduceLeDiff, Nat.zero_add, Nat.reduceEqDiff, Nat.reduceBEq, ↓reduceIte, Bool.false_eq_true, List.append_nil, List.nil_append, List.cons_append, Option.toList, and_true, true_and, true_or, or_true, reduceCtorEq, List.map_nil, bI_eq0, bI_eq1, bool_ft, pk_us, vnar0, vnar1, Bool.or_false, Bool.or_true, Bool.false_or, Bool.true_or, mj_kne, eq_self, Int32.reduceLT, Int32.reduceLE, Int32.reduceAdd, Int32.reduceSub, Int32.reduceMul, not_true_eq_false, not_false_eq_true, false_implies, true_implies, D_X12_paid_0, D_X12_paid_1, D_X12_paid_2, mj_F_aload_n_k, mj_F_getfield_i, mj_F_goto_off, mj_F_iadd, mj_F_iaload, mj_F_iand, mj_F_iconst_n, mj_F_ifCond_eq_off, mj_F_ifCond_ne_off, mj_F_if_icmp_ge_off, mj_F_if_icmp_ne_off, mj_F_iinc_k_n, mj_F_iload_k, mj_F_iload_n_k, mj_F_invokestatic_i, mj_F_invokevirtual_i, mj_F_ireturn, mj_F_ishl, mj_F_ishr, mj_F_istore_k, mj_F_istore_n_k, mj_F_ixor, mj_set, mj_set0, mj_unk, mj_c2, mj_kc, FT_X12, FT_X12_1, L_X12_paid, List.take_succ_cons, List.take_zero, List.drop_succ_cons, List.drop_zero, List.reverse_cons, List.reverse_nil, List.length_cons, List.length_nil, gS_M0, gMf_97, gMf_94, gS_M74, sS_Ma_74, gMf_95, gS_M75, sS_Ma_75, gMf_96, gMf_93, gS_M73, sS_Ma_73, c_isYear_eq, c_in_eq, J_X12_paid]
  exact (ok_some hw :)

set_option maxHeartbeats 4000000 in
theorem g_X12_paid_80 {k : Option Value → mj_H → Prop} {G : mj_K} (hG : mj_cl2 cX12_paid (TbX12 8 ((some FieldType.int)) ct_X12_paid) k G) (hM : mj_ml cX12_paid yX12_paid.cls G)   {v1 : Int32} {v4 : Int32} {v5 : Int32} {s : St} (hw : ok (F_X12_paid_80 v1 v4 v5 s) (fun p => k (some (.int p.1)) (mkMs p.2))) : G 80 [.ref 0, .int v1, mj_unk, mj_unk, .int v4, .int v5] [] (mkMs s) 0 0 := by
  unfold F_X12_paid_80 at hw
  refine lp_ok (B_X12_paid_80 v1) (fun x => G 80 [.ref 0, .int v1, mj_unk, mj_unk, .int x.1, .int x.2.1] [] (mkMs x.2.2) 0 0) _ ?_ _ _ (ok_bind hw)
  rintro ⟨v4, v5, s⟩ hb
  exact b_X12_paid_80 hG hM (fun _ z => z) (fun y hw => by exact hG.2 _ _ _ _ _ _ _ _ _ (by refine ⟨Or.inl rfl, ?_⟩; refine ⟨Or.inl rfl, ?_⟩; refine ⟨Or.inl rfl, ?_⟩; refine ⟨Or.inl rfl, ?_⟩; refine ⟨Or.inr rfl, ?_⟩; exact trivial) (Nat.zero_le _) (Nat.zero_le _) (g_X12_paid_219 hG hM  hw :)) hb

set_option maxHeartbeats 4000000 in
set_option maxRecDepth 20000 in
theorem g_X12_paid_67 {k : Option Value → mj_H → Prop} {G : mj_K} (hG : mj_cl2 cX12_paid (TbX12 8 ((some FieldType.int)) ct_X12_paid) k G) (hM : mj_ml cX12_paid yX12_paid.cls G)   {v1 : Int32} {v2 : Int32} {v3 : Int32} {s : St} (hw : ok (F_X12_paid_67 v1 v2 v3 s) (fun p => k (some (.int p.1)) (mkMs p.2))) : G 67 [.ref 0, .int v1, .int v2, .int v3] [] (mkMs s) 0 0 := by
  unfold F_X12_paid_67 at hw
  refine mj_run hG.1 (fun pc => pc == 23 || pc == 45 || pc == 67 || pc == 80 || pc == 97 || pc == 139 || pc == 142 || pc == 165 || pc == 193 || pc == 208 || pc == 219) 4000 ?_
  simp only [mj_step, mj_W_s, mj_fin, List.getElem?_cons_zero, List.getElem?_cons_succ, mj_go, Nat.reduceAdd, Nat.reduceSub, Nat.reduceLT, Nat.reduceLeDiff, Nat.zero_add, Nat.reduceEqDiff, Nat.reduceBEq, ↓reduceIte, Bool.false_eq_true, List.append_nil, List.nil_append, List.cons_append, Option.toList, and_true, true_and, true_or, or_true, reduceCtorEq, List.map_nil, bI_eq0, bI_eq1, bool_ft, pk_us, vnar0, vnar1, Bool.or_false, Bool.or_true, Bool.false_or, Bool.true_or, mj_kne, eq_self, Int32.reduceLT, Int32.reduceLE, Int32.reduceAdd, Int32.reduceSub, Int32.reduceMul, not_true_eq_false, not_false_eq_true, false_implies, true_implies, D_X12_paid_0, D_X12_paid_1, D_X12_paid_2, mj_F_aload_n_k, mj_F_getfield_i, mj_F_goto_off, mj_F_iadd, mj_F_iaload, mj_F_iand, mj_F_iconst_n, mj_F_ifCond_eq_off, mj_F_ifCond_ne_off, mj_F_if_icmp_ge_off, mj_F_if_icmp_ne_off, mj_F_iinc_k_n, mj_F_iload_k, mj_F_iload_n_k, mj_F_invokestatic_i, mj_F_invokevirtual_i, mj_F_ireturn, mj_F_ishl, mj_F_ishr, mj_F_istore_k, mj_F_istore_n_k, mj_F_ixor, mj_set, mj_set0, mj_unk, mj_c2, mj_kc, FT_X12, FT_X12_1, L_X12_paid, List.take_succ_cons, List.take_zero, List.drop_succ_cons, List.drop_zero, List.reverse_cons, List.reverse_nil, List.length_cons, List.length_nil, gS_M0, gMf_97, gMf_94, gS_M74, sS_Ma_74, gMf_95, gS_M75, sS_Ma_75, gMf_96, gMf_93, gS_M73, sS_Ma_73, c_isYear_eq, c_in_eq, J_X12_paid]
  refine ⟨fun c => ?_, fun c => ?_⟩
  · replace hw := ok_f hw c
    exact hG.2 _ _ _ _ _ _ _ _ _ (by refine ⟨Or.inr rfl, ?_⟩; refine ⟨Or.inr rfl, ?_⟩; refine ⟨Or.inl rfl, ?_⟩; refine ⟨Or.inl rfl, ?_⟩; refine ⟨Or.inr rfl, ?_⟩; refine ⟨Or.inr rfl, ?_⟩; exact trivial) (Nat.zero_le _) (Nat.zero_le _) (g_X12_paid_80 hG hM  hw :)
  · replace hw := ok_t hw c
    exact (ok_some hw :)

set_option maxHeartbeats 4000000 in
theorem g_X12_paid_23 {k : Option Value → mj_H → Prop} {G : mj_K} (hG : mj_cl2 cX12_paid (TbX12 8 ((some FieldType.int)) ct_X12_paid) k G) (hM : mj_ml cX12_paid yX12_paid.cls G)   {v1 : Int32} {v2 : Int32} {v3 : Int32} {v4 : Int32} {s : St} (hw : ok (F_X12_paid_23 v1 v2 v3 v4 s) (fun p => k (some (.int p.1)) (mkMs p.2))) : G 23 [.ref 0, .int v1, .int v2, .int v3, .int v4] [] (mkMs s) 0 0 := by
  unfold F_X12_paid_23 at hw
  refine lp_ok (B_X12_paid_23 v1 v2) (fun x => G 23 [.ref 0, .int v1, .int v2, .int x.1, .int x.2.1] [] (mkMs x.2.2) 0 0) _ ?_ _ _ (ok_bind hw)
  rintro ⟨v3, v4, s⟩ hb
  exact b_X12_paid_23 hG hM (fun _ z => z) (fun y hw => by exact hG.2 _ _ _ _ _ _ _ _ _ (by refine ⟨Or.inr rfl, ?_⟩; refine ⟨Or.inr rfl, ?_⟩; refine ⟨Or.inr rfl, ?_⟩; refine ⟨Or.inr rfl, ?_⟩; exact trivial) (Nat.zero_le _) (Nat.zero_le _) (g_X12_paid_67 hG hM  hw :)) hb

set_option maxHeartbeats 4000000 in
set_option maxRecDepth 20000 in
theorem g_X12_paid {k : Option Value → mj_H → Prop} {G : mj_K} (hG : mj_cl2 cX12_paid (TbX12 8 ((some FieldType.int)) ct_X12_paid) k G) (hM : mj_ml cX12_paid yX12_paid.cls G) {v1 : Int32} {v2 : Int32} {s : St} (hw : ok (F_X12_paid v1 v2 s) (fun p => k (some (.int p.1)) (mkMs p.2))) : G 0 [.ref 0, .int v1, .int v2] [] (mkMs s) 0 0 := by
  unfold F_X12_paid at hw
  refine mj_run hG.1 (fun pc => pc == 23 || pc == 45 || pc == 67 || pc == 80 || pc == 97 || pc == 139 || pc == 142 || pc == 165 || pc == 193 || pc == 208 || pc == 219) 4000 ?_
  simp only [mj_step, mj_W_s, mj_fin, List.getElem?_cons_zero, List.getElem?_cons_succ, mj_go, Nat.reduceAdd, Nat.reduceSub, Nat.reduceLT, Nat.reduceLeDiff, Nat.zero_add, Nat.reduceEqDiff, Nat.reduceBEq, ↓reduceIte, Bool.false_eq_true, List.append_nil, List.nil_append, List.cons_append, Option.toList, and_true, true_and, true_or, or_true, reduceCtorEq, List.map_nil, bI_eq0, bI_eq1, bool_ft, pk_us, vnar0, vnar1, Bool.or_false, Bool.or_true, Bool.false_or, Bool.true_or, mj_kne, eq_self, Int32.reduceLT, Int32.reduceLE, Int32.reduceAdd, Int32.reduceSub, Int32.reduceMul, not_true_eq_false, not_false_eq_true, false_implies, true_implies, D_X12_paid_0, D_X12_paid_1, D_X12_paid_2, mj_F_aload_n_k, mj_F_getfield_i, mj_F_goto_off, mj_F_iadd, mj_F_iaload, mj_F_iand, mj_F_iconst_n, mj_F_ifCond_eq_off, mj_F_ifCond_ne_off, mj_F_if_icmp_ge_off, mj_F_if_icmp_ne_off, mj_F_iinc_k_n, mj_F_iload_k, mj_F_iload_n_k, mj_F_invokestatic_i, mj_F_invokevirtual_i, mj_F_ireturn, mj_F_ishl, mj_F_ishr, mj_F_istore_k, mj_F_istore_n_k, mj_F_ixor, mj_set, mj_set0, mj_unk, mj_c2, mj_kc, FT_X12, FT_X12_1, L_X12_paid, List.take_succ_cons, List.take_zero, List.drop_succ_cons, List.drop_zero, List.reverse_cons, List.reverse_nil, List.length_cons, List.length_nil, gS_M0, gMf_97, gMf_94, gS_M74, sS_Ma_74, gMf_95, gS_M75, sS_Ma_75, gMf_96, gMf_93, gS_M73, sS_Ma_73, c_isYear_eq, c_in_eq, J_X12_paid]
  refine ⟨fun c => ?_, fun c => ?_⟩
  · replace hw := ok_t hw c
    exact (ok_some hw :)
  · replace hw := ok_f hw c
    refine ⟨fun c => ?_, fun c => ?_⟩
    · replace hw := ok_f hw c
      exact hG.2 _ _ _ _ _ _ _ _ _ (by refine ⟨Or.inr rfl, ?_⟩; refine ⟨Or.inr rfl, ?_⟩; refine ⟨Or.inr rfl, ?_⟩; refine ⟨Or.inr rfl, ?_⟩; refine ⟨Or.inr rfl, ?_⟩; exact trivial) (Nat.zero_le _) (Nat.zero_le _) (g_X12_paid_23 hG hM  hw :)
    · replace hw := ok_t hw c
      exact (ok_some hw :)

def c_X12_paid : mj_S := fun as h k => ∃ (v1 : Int32) (v2 : Int32) (s : St), as = [.ref 0, .int v1, .int v2] ∧ h = mkMs s ∧ ok (F_X12_paid v1 v2 s) (fun p => k (some (.int p.1)) (mkMs p.2))
theorem c_X12_paid_in {v1 : Int32} {v2 : Int32} {s : St} {k : Option Value → mj_H → Prop} (hw : ok (F_X12_paid v1 v2 s) (fun p => k (some (.int p.1)) (mkMs p.2))) : c_X12_paid [.ref 0, .int v1, .int v2] (mkMs s) k := ⟨v1, v2, s, rfl, rfl, hw⟩
theorem m_X12_paid (l : Launch) : mj_Met l yX12_paid cX12_paid 8 ((some FieldType.int)) 8 0 0 c_X12_paid := by
  refine mj_body3 false (TbX12 8 ((some FieldType.int)) ct_X12_paid) (by decide) (by decide) rfl rfl (fun h => nomatch h) (tfX12 _ (List.forall_mem_cons.mpr ⟨cfX12_243 (m_X12_in l) (by decide), List.forall_mem_cons.mpr ⟨cfX12_277 (m_X12_isYear l) (by decide), List.forall_mem_cons.mpr ⟨cfX12_558 (m_X12_payers l) (by decide), fun _ h => nomatch h⟩⟩⟩)) ?_
  rintro as h k ⟨v1, v2, s, rfl, rfl, hw⟩
  exact ⟨rfl, fun G hG hM => g_X12_paid hG hM hw⟩
def B_X12_row_13 (v1 : Int32) (v2 : Int32) : Int32 × St → Option ((Int32 × St) ⊕ ((St) ⊕ (St)))
  | (v3, s) =>
  if 8 ≤ v3 then
    some (.inr (.inl s))
  else
    if 4 ≤ v3 then
      if ((v2 >>> ((24 - (8 * (v3 - v3 / 4 * 4))) &&& 31)) &&& 255) ≤ 9 then
        (wr s 1298 48 ((8 * (s.1 1299)) + v3) ((v2 >>> ((24 - (8 * (v3 - v3 / 4 * 4))) &&& 31)) &&& 255)).bind fun s1 =>
        some (.inl ((v3 + 1), s1))
      else
        some (.inr (.inr s))
    else
      if ((v1 >>> ((24 - (8 * (v3 - v3 / 4 * 4))) &&& 31)) &&& 255) ≤ 9 then
        (wr s 1298 48 ((8 * (s.1 1299)) + v3) ((v1 >>> ((24 - (8 * (v3 - v3 / 4 * 4))) &&& 31)) &&& 255)).bind fun s2 =>
        some (.inl ((v3 + 1), s2))
      else
        some (.inr (.inr s))
def F_X12_row_76 (s : St) : Option (Int32 × St) :=
  (wI s 1299 ((s.1 1299) + 1)).bind fun s3 =>
  some (((s3.1 1299) - 1), s3)
def F_X12_row_52 (s : St) : Option (Int32 × St) :=
  some ((-1), s)
def F_X12_row_13 (v1 : Int32) (v2 : Int32) (v3 : Int32) (s : St) : Option (Int32 × St) :=
  (lp (B_X12_row_13 v1 v2) FU (v3, s)).bind (Sum.elim (fun y => F_X12_row_76 y) (fun y => F_X12_row_52 y))
def F_X12_row (v1 : Int32) (v2 : Int32) (s : St) : Option (Int32 × St) :=
  if (s.1 1299) = 6 then
    some ((-1), s)
  else
    F_X12_row_13 v1 v2 0 s
theorem J_X12_row : mj_t 6 5 = 11 ∧ mj_t 16 60 = 76 ∧ mj_t 21 7 = 28 ∧ mj_t 25 4 = 29 ∧ mj_t 49 5 = 54 ∧ mj_t 73 (-60) = 13 ∧ (0 ≤ ((6 : Nat) : Int) + 5) = True ∧ (0 ≤ ((16 : Nat) : Int) + 60) = True ∧ (0 ≤ ((21 : Nat) : Int) + 7) = True ∧ (0 ≤ ((25 : Nat) : Int) + 4) = True ∧ (0 ≤ ((49 : Nat) : Int) + 5) = True ∧ (0 ≤ ((73 : Nat) : Int) + (-60)) = True := by and_intros <;> first | rfl | exact eq_true (by decide)
set_option maxHeartbeats 4000000 in
set_option maxRecDepth 20000 in
theorem b_X12_row_13 {k : Option Value → mj_H → Prop} {G : mj_K} (hG : mj_cl2 cX12_row (TbX12 5 ((some FieldType.int)) []) k G) {v1 : Int32} {v2 : Int32} {P : Int32 × St → Prop} {K : (St) ⊕ (St) → Prop} (hP : ∀ x, P x → G 13 [.ref 0, .int v1, .int v2, .int x.1] [] (mkMs x.2) 0 0) (hK0 : ∀ y, K (.inl y) → G 76 [.ref 0] [] (mkMs y) 0 0) (hK1 : ∀ y, K (.inr y) → G 52 [] [] (mkMs y) 0 0) {v3 : Int32} {s : St} (hw : ok (B_X12_row_13 v1 v2 (v3, s)) (Sum.elim P K)) : G 13 [.ref 0, .int v1, .int v2, .int v3] [] (mkMs s) 0 0 := by
  unfold B_X12_row_13 at hw
  refine mj_run hG.1 (fun pc => pc == 13 || pc == 52 || pc == 76) 4000 ?_
  simp only [mj_step, mj_W_s, mj_fin, List.getElem?_cons_zero, List.getElem?_cons_succ, mj_go, Nat.reduceAdd, Nat.reduceSub, Nat.reduceLT, Nat.reduceLeDiff, Nat.zero_add, Nat.reduceEqDiff, Nat.reduceBEq, ↓reduceIte, Bool.false_eq_true, List.append_nil, List.nil_append, List.cons_append, Option.toList, and_true, true_and, true_or, or_true, reduceCtorEq, List.map_nil, bI_eq0, bI_eq1, bool_ft, pk_us, vnar0, vnar1, Bool.or_false, Bool.or_true, Bool.false_or, Bool.true_or, mj_kne, eq_self, Int32.reduceLT, Int32.reduceLE, Int32.reduceAdd, Int32.reduceSub, Int32.reduceMul, not_true_eq_false, not_false_eq_true, false_implies, true_implies, D_X12_row_0, D_X12_row_1, mj_F_aload_n_k, mj_F_bipush_n, mj_F_dup, mj_F_getfield_i, mj_F_goto_off, mj_F_iadd, mj_F_iand, mj_F_iastore, mj_F_iconst_n, mj_F_if_icmp_ge_off, mj_F_if_icmp_le_off, mj_F_if_icmp_ne_off, mj_F_iinc_k_n, mj_F_iload_k, mj_F_iload_n_k, mj_F_imul, mj_F_irem, mj_F_ireturn, mj_F_ishr, mj_F_istore_k, mj_F_istore_n_k, mj_F_isub, mj_F_putfield_i, mj_F_sipush_n, mj_set, mj_set0, mj_unk, mj_c2, mj_kc, FT_X12, FT_X12_1, PT_X12, gS_M0, gMf_99, gMf_98, gS_M76, sS_Ma_76, sS_Mf_99, gMl, J_X12_row]
  refine ⟨fun c => ?_, fun c => ?_⟩
  · replace hw := ok_t hw c
    exact hG.2 _ _ _ _ _ _ _ _ _ (by refine ⟨Or.inr rfl, ?_⟩; exact trivial) (Nat.zero_le _) (Nat.zero_le _) (hK0 _ (ok_some hw :) :)
  · replace hw := ok_f hw c
    refine ⟨fun c => ?_, fun c => ?_⟩
    · replace hw := ok_t hw c
      refine ⟨fun c => ?_, fun c => ?_⟩
      · replace hw := ok_t hw c
        refine ⟨(ok_wr hw).1, ?_⟩
        replace hw := (ok_wr hw).2
        exact hG.2 _ _ _ _ _ _ _ _ _ (by refine ⟨Or.inr rfl, ?_⟩; refine ⟨Or.inr rfl, ?_⟩; refine ⟨Or.inr rfl, ?_⟩; refine ⟨Or.inr rfl, ?_⟩; exact trivial) (Nat.zero_le _) (Nat.zero_le _) (hP _ (ok_some hw :) :)
      · replace hw := ok_f hw c
        exact hG.2 _ _ _ _ _ _ _ _ _ (by exact trivial) (Nat.zero_le _) (Nat.zero_le _) (hK1 _ (ok_some hw :) :)
    · replace hw := ok_f hw c
      refine ⟨fun c => ?_, fun c => ?_⟩
      · replace hw := ok_t hw c
        refine ⟨(ok_wr hw).1, ?_⟩
        replace hw := (ok_wr hw).2
        exact hG.2 _ _ _ _ _ _ _ _ _ (by refine ⟨Or.inr rfl, ?_⟩; refine ⟨Or.inr rfl, ?_⟩; refine ⟨Or.inr rfl, ?_⟩; refine ⟨Or.inr rfl, ?_⟩; exact trivial) (Nat.zero_le _) (Nat.zero_le _) (hP _ (ok_some hw :) :)
      · replace hw := ok_f hw c
        exact hG.2 _ _ _ _ _ _ _ _ _ (by exact trivial) (Nat.zero_le _) (Nat.zero_le _) (hK1 _ (ok_some hw :) :)

set_option maxHeartbeats 4000000 in
set_option maxRecDepth 20000 in
theorem g_X12_row_76 {k : Option Value → mj_H → Prop} {G : mj_K} (hG : mj_cl2 cX12_row (TbX12 5 ((some FieldType.int)) []) k G)   {s : St} (hw : ok (F_X12_row_76 s) (fun p => k (some (.int p.1)) (mkMs p.2))) : G 76 [.ref 0] [] (mkMs s) 0 0 := by
  unfold F_X12_row_76 at hw
  refine mj_run hG.1 (fun pc => pc == 13 || pc == 52 || pc == 76) 4000 ?_
  simp only [mj_step, mj_W_s, mj_fin, List.getElem?_cons_zero, List.getElem?_cons_succ, mj_go, Nat.reduceAdd, Nat.reduceSub, Nat.reduceLT, Nat.reduceLeDiff, Nat.zero_add, Nat.reduceEqDiff, Nat.reduceBEq, ↓reduceIte, Bool.false_eq_true, List.append_nil, List.nil_append, List.cons_append, Option.toList, and_true, true_and, true_or, or_true, reduceCtorEq, List.map_nil, bI_eq0, bI_eq1, bool_ft, pk_us, vnar0, vnar1, Bool.or_false, Bool.or_true, Bool.false_or, Bool.true_or, mj_kne, eq_self, Int32.reduceLT, Int32.reduceLE, Int32.reduceAdd, Int32.reduceSub, Int32.reduceMul, not_true_eq_false, not_false_eq_true, false_implies, true_implies, D_X12_row_0, D_X12_row_1, mj_F_aload_n_k, mj_F_bipush_n, mj_F_dup, mj_F_getfield_i, mj_F_goto_off, mj_F_iadd, mj_F_iand, mj_F_iastore, mj_F_iconst_n, mj_F_if_icmp_ge_off, mj_F_if_icmp_le_off, mj_F_if_icmp_ne_off, mj_F_iinc_k_n, mj_F_iload_k, mj_F_iload_n_k, mj_F_imul, mj_F_irem, mj_F_ireturn, mj_F_ishr, mj_F_istore_k, mj_F_istore_n_k, mj_F_isub, mj_F_putfield_i, mj_F_sipush_n, mj_set, mj_set0, mj_unk, mj_c2, mj_kc, FT_X12, FT_X12_1, PT_X12, gS_M0, gMf_99, gMf_98, gS_M76, sS_Ma_76, sS_Mf_99, gMl, J_X12_row]
  replace hw := ok_wI hw
  exact (ok_some hw :)

set_option maxHeartbeats 4000000 in
set_option maxRecDepth 20000 in
theorem g_X12_row_52 {k : Option Value → mj_H → Prop} {G : mj_K} (hG : mj_cl2 cX12_row (TbX12 5 ((some FieldType.int)) []) k G)   {s : St} (hw : ok (F_X12_row_52 s) (fun p => k (some (.int p.1)) (mkMs p.2))) : G 52 [] [] (mkMs s) 0 0 := by
  unfold F_X12_row_52 at hw
  refine mj_run hG.1 (fun pc => pc == 13 || pc == 52 || pc == 76) 4000 ?_
  simp only [mj_step, mj_W_s, mj_fin, List.getElem?_cons_zero, List.getElem?_cons_succ, mj_go, Nat.reduceAdd, Nat.reduceSub, Nat.reduceLT, Nat.reduceLeDiff, Nat.zero_add, Nat.reduceEqDiff, Nat.reduceBEq, ↓reduceIte, Bool.false_eq_true, List.append_nil, List.nil_append, List.cons_append, Option.toList, and_true, true_and, true_or, or_true, reduceCtorEq, List.map_nil, bI_eq0, bI_eq1, bool_ft, pk_us, vnar0, vnar1, Bool.or_false, Bool.or_true, Bool.false_or, Bool.true_or, mj_kne, eq_self, Int32.reduceLT, Int32.reduceLE, Int32.reduceAdd, Int32.reduceSub, Int32.reduceMul, not_true_eq_false, not_false_eq_true, false_implies, true_implies, D_X12_row_0, D_X12_row_1, mj_F_aload_n_k, mj_F_bipush_n, mj_F_dup, mj_F_getfield_i, mj_F_goto_off, mj_F_iadd, mj_F_iand, mj_F_iastore, mj_F_iconst_n, mj_F_if_icmp_ge_off, mj_F_if_icmp_le_off, mj_F_if_icmp_ne_off, mj_F_iinc_k_n, mj_F_iload_k, mj_F_iload_n_k, mj_F_imul, mj_F_irem, mj_F_ireturn, mj_F_ishr, mj_F_istore_k, mj_F_istore_n_k, mj_F_isub, mj_F_putfield_i, mj_F_sipush_n, mj_set, mj_set0, mj_unk, mj_c2, mj_kc, FT_X12, FT_X12_1, PT_X12, gS_M0, gMf_99, gMf_98, gS_M76, sS_Ma_76, sS_Mf_99, gMl, J_X12_row]
  exact (ok_some hw :)

set_option maxHeartbeats 4000000 in
theorem g_X12_row_13 {k : Option Value → mj_H → Prop} {G : mj_K} (hG : mj_cl2 cX12_row (TbX12 5 ((some FieldType.int)) []) k G)   {v1 : Int32} {v2 : Int32} {v3 : Int32} {s : St} (hw : ok (F_X12_row_13 v1 v2 v3 s) (fun p => k (some (.int p.1)) (mkMs p.2))) : G 13 [.ref 0, .int v1, .int v2, .int v3] [] (mkMs s) 0 0 := by
  unfold F_X12_row_13 at hw
  refine lp_ok (B_X12_row_13 v1 v2) (fun x => G 13 [.ref 0, .int v1, .int v2, .int x.1] [] (mkMs x.2) 0 0) _ ?_ _ _ (ok_bind hw)
  rintro ⟨v3, s⟩ hb
  exact b_X12_row_13 hG (fun _ z => z) (fun y hw => by exact hG.2 _ _ _ _ _ _ _ _ _ (by refine ⟨Or.inr rfl, ?_⟩; exact trivial) (Nat.zero_le _) (Nat.zero_le _) (g_X12_row_76 hG  hw :)) (fun y hw => by exact hG.2 _ _ _ _ _ _ _ _ _ (by exact trivial) (Nat.zero_le _) (Nat.zero_le _) (g_X12_row_52 hG  hw :)) hb

set_option maxHeartbeats 4000000 in
set_option maxRecDepth 20000 in
theorem g_X12_row {k : Option Value → mj_H → Prop} {G : mj_K} (hG : mj_cl2 cX12_row (TbX12 5 ((some FieldType.int)) []) k G) {v1 : Int32} {v2 : Int32} {s : St} (hw : ok (F_X12_row v1 v2 s) (fun p => k (some (.int p.1)) (mkMs p.2))) : G 0 [.ref 0, .int v1, .int v2] [] (mkMs s) 0 0 := by
  unfold F_X12_row at hw
  refine mj_run hG.1 (fun pc => pc == 13 || pc == 52 || pc == 76) 4000 ?_
  simp only [mj_step, mj_W_s, mj_fin, List.getElem?_cons_zero, List.getElem?_cons_succ, mj_go, Nat.reduceAdd, Nat.reduceSub, Nat.reduceLT, Nat.reduceLeDiff, Nat.zero_add, Nat.reduceEqDiff, Nat.reduceBEq, ↓reduceIte, Bool.false_eq_true, List.append_nil, List.nil_append, List.cons_append, Option.toList, and_true, true_and, true_or, or_true, reduceCtorEq, List.map_nil, bI_eq0, bI_eq1, bool_ft, pk_us, vnar0, vnar1, Bool.or_false, Bool.or_true, Bool.false_or, Bool.true_or, mj_kne, eq_self, Int32.reduceLT, Int32.reduceLE, Int32.reduceAdd, Int32.reduceSub, Int32.reduceMul, not_true_eq_false, not_false_eq_true, false_implies, true_implies, D_X12_row_0, D_X12_row_1, mj_F_aload_n_k, mj_F_bipush_n, mj_F_dup, mj_F_getfield_i, mj_F_goto_off, mj_F_iadd, mj_F_iand, mj_F_iastore, mj_F_iconst_n, mj_F_if_icmp_ge_off, mj_F_if_icmp_le_off, mj_F_if_icmp_ne_off, mj_F_iinc_k_n, mj_F_iload_k, mj_F_iload_n_k, mj_F_imul, mj_F_irem, mj_F_ireturn, mj_F_ishr, mj_F_istore_k, mj_F_istore_n_k, mj_F_isub, mj_F_putfield_i, mj_F_sipush_n, mj_set, mj_set0, mj_unk, mj_c2, mj_kc, FT_X12, FT_X12_1, PT_X12, gS_M0, gMf_99, gMf_98, gS_M76, sS_Ma_76, sS_Mf_99, gMl, J_X12_row]
  refine ⟨fun c => ?_, fun c => ?_⟩
  · replace hw := ok_f hw c
    exact hG.2 _ _ _ _ _ _ _ _ _ (by refine ⟨Or.inr rfl, ?_⟩; refine ⟨Or.inr rfl, ?_⟩; refine ⟨Or.inr rfl, ?_⟩; refine ⟨Or.inr rfl, ?_⟩; exact trivial) (Nat.zero_le _) (Nat.zero_le _) (g_X12_row_13 hG  hw :)
  · replace hw := ok_t hw c
    exact (ok_some hw :)

def c_X12_row : mj_S := fun as h k => ∃ (v1 : Int32) (v2 : Int32) (s : St), as = [.ref 0, .int v1, .int v2] ∧ h = mkMs s ∧ ok (F_X12_row v1 v2 s) (fun p => k (some (.int p.1)) (mkMs p.2))
theorem c_X12_row_in {v1 : Int32} {v2 : Int32} {s : St} {k : Option Value → mj_H → Prop} (hw : ok (F_X12_row v1 v2 s) (fun p => k (some (.int p.1)) (mkMs p.2))) : c_X12_row [.ref 0, .int v1, .int v2] (mkMs s) k := ⟨v1, v2, s, rfl, rfl, hw⟩
theorem m_X12_row (l : Launch) : mj_Met l yX12_row cX12_row 5 ((some FieldType.int)) 0 0 0 c_X12_row := by
  refine mj_body2 false (TbX12 5 ((some FieldType.int)) []) (by decide) rfl rfl (fun h => nomatch h) (tfX12 _ (fun _ h => nomatch h)) ?_
  rintro as h k ⟨v1, v2, s, rfl, rfl, hw⟩
  exact ⟨rfl, fun G hG => g_X12_row hG hw⟩
def B_X12_plan_75 (v4 : Int32) (v5 : Int32) (v6 : Int32) (s : St) : Int32 × Int32 → Option ((Int32 × Int32) ⊕ ((Int32)))
  | (v7, v8) =>
  if 8 ≤ v8 then
    some (.inr v8)
  else
    (rd s 1298 48 ((8 * v6) + v8)).bind fun x4 =>
    (F_J6_bitCount_0f7a4 v4).bind fun r5 =>
    if r5 ≤ (v7 + x4) then
      some (.inr v8)
    else
      (rd s 1298 48 ((8 * v6) + v8)).bind fun x6 =>
      some (.inl ((v7 + x6), (v8 + 1)))
def F_X12_plan_130 (v4 : Int32) (v5 : Int32) (v6 : Int32) (v8 : Int32) (s : St) : Option ((Int32 × Int32) ⊕ ((Int32) ⊕ (Unit))) :=
  if v8 = 8 then
    some (.inr (.inr ()))
  else
    some (.inl ((zmx v5 v8), (v6 + 1)))
def F_X12_plan_75 (v4 : Int32) (v5 : Int32) (v6 : Int32) (v7 : Int32) (v8 : Int32) (s : St) : Option ((Int32 × Int32) ⊕ ((Int32) ⊕ (Unit))) :=
  (lp (B_X12_plan_75 v4 v5 v6 s) FU (v7, v8)).bind (fun y => F_X12_plan_130 v4 v5 v6 y s)
def B_X12_plan_60 (v4 : Int32) (s : St) : Int32 × Int32 → Option ((Int32 × Int32) ⊕ ((Int32) ⊕ (Unit)))
  | (v5, v6) =>
  if (s.1 1299) ≤ v6 then
    some (.inr (.inl v5))
  else
    F_X12_plan_75 v4 v5 v6 0 0 s
def F_X12_plan_154 (v5 : Int32) (s : St) : Option (Int32 × St) :=
  some (v5, s)
def F_X12_plan_137 (s : St) : Option (Int32 × St) :=
  some ((-1), s)
def F_X12_plan_60 (v4 : Int32) (v5 : Int32) (v6 : Int32) (s : St) : Option (Int32 × St) :=
  (lp (B_X12_plan_60 v4 s) FU (v5, v6)).bind (Sum.elim (fun y => F_X12_plan_154 y s) (fun _ => F_X12_plan_137 s))
def F_X12_plan (v1 : Int32) (v2 : Int32) (v3 : Int32) (s : St) : Option (Int32 × St) :=
  (F_X12_mayCover v2 v3 s).bind fun r1 =>
  if r1 = 0 then
    some ((-1), s)
  else
    if v1 < 0 then
      some ((-1), s)
    else
      if (1 <<< ((s.1 1256) &&& 31)) ≤ v1 then
        some ((-1), s)
      else
        if (s.1 1299) = 0 then
          some ((-1), s)
        else
          (F_X12_look_ v2 v3 s).bind fun s2 =>
          (F_X12_fewest v1 v2 s2).bind fun r3 =>
          if r3 = (-1) then
            some ((-1), s2)
          else
            F_X12_plan_60 r3 0 0 s2
theorem J_X12_plan : mj_t 6 24 = 30 ∧ mj_t 10 20 = 30 ∧ mj_t 20 10 = 30 ∧ mj_t 27 5 = 32 ∧ mj_t 49 5 = 54 ∧ mj_t 66 88 = 154 ∧ mj_t 79 51 = 130 ∧ mj_t 103 27 = 130 ∧ mj_t 127 (-52) = 75 ∧ mj_t 134 5 = 139 ∧ mj_t 151 (-91) = 60 ∧ (0 ≤ ((6 : Nat) : Int) + 24) = True ∧ (0 ≤ ((10 : Nat) : Int) + 20) = True ∧ (0 ≤ ((20 : Nat) : Int) + 10) = True ∧ (0 ≤ ((27 : Nat) : Int) + 5) = True ∧ (0 ≤ ((49 : Nat) : Int) + 5) = True ∧ (0 ≤ ((66 : Nat) : Int) + 88) = True ∧ (0 ≤ ((79 : Nat) : Int) + 51) = True ∧ (0 ≤ ((103 : Nat) : Int) + 27) = True ∧ (0 ≤ ((127 : Nat) : Int) + (-52)) = True ∧ (0 ≤ ((134 : Nat) : Int) + 5) = True ∧ (0 ≤ ((151 : Nat) : Int) + (-91)) = True := by and_intros <;> first | rfl | exact eq_true (by decide)
def ct_X12_plan : List (Nat × mj_Cs) := [(497, 2, 1, 99, 0, 0, c_J6_bitCount_0f7a4), (502, 0, 3, 12, 0, 0, c_X12_mayCover), (505, 0, 3, 12, 0, 0, c_X12_look_), (507, 0, 3, 12, 0, 0, c_X12_fewest)]
theorem L_X12_plan : mj_lk ct_X12_plan 497 = some (2, 1, 99, 0, 0, c_J6_bitCount_0f7a4) ∧ mj_lk ct_X12_plan 502 = some (0, 3, 12, 0, 0, c_X12_mayCover) ∧ mj_lk ct_X12_plan 505 = some (0, 3, 12, 0, 0, c_X12_look_) ∧ mj_lk ct_X12_plan 507 = some (0, 3, 12, 0, 0, c_X12_fewest) := ⟨rfl, rfl, rfl, rfl⟩
set_option maxHeartbeats 4000000 in
set_option maxRecDepth 20000 in
theorem b_X12_plan_75 {k : Option Value → mj_H → Prop} {G : mj_K} (hG : mj_cl2 cX12_plan (TbX12 9 ((some FieldType.int)) ct_X12_plan) k G) (hM : mj_ml cX12_plan yX12_plan.cls G) {v4 : Int32} {v5 : Int32} {v6 : Int32} {s : St} {P : Int32 × Int32 → Prop} {K : (Int32) → Prop} (hP : ∀ x, P x → G 75 [.ref 0, mj_unk, mj_unk, mj_unk, .int v4, .int v5, .int v6, .int x.1, .int x.2] [] (mkMs s) 0 0) (hK0 : ∀ y, K y → G 130 [.ref 0, mj_unk, mj_unk, mj_unk, .int v4, .int v5, .int v6, mj_unk, .int y] [] (mkMs s) 0 0) {v7 : Int32} {v8 : Int32} (hw : ok (B_X12_plan_75 v4 v5 v6 s (v7, v8)) (Sum.elim P K)) : G 75 [.ref 0, mj_unk, mj_unk, mj_unk, .int v4, .int v5, .int v6, .int v7, .int v8] [] (mkMs s) 0 0 := by
  unfold B_X12_plan_75 at hw
  refine mj_run hG.1 (fun pc => pc == 6 || pc == 38 || pc == 44 || pc == 60 || pc == 75 || pc == 103 || pc == 130 || pc == 137 || pc == 143 || pc == 154) 4000 ?_
  simp only [mj_step, mj_W_s, mj_fin, List.getElem?_cons_zero, List.getElem?_cons_succ, mj_go, Nat.reduceAdd, Nat.reduceSub, Nat.reduceLT, Nat.reduceLeDiff, Nat.zero_add, Nat.reduceEqDiff, Nat.reduceBEq, ↓reduceIte, Bool.false_eq_true, List.append_nil, List.nil_append, List.cons_append, Option.toList, and_true, true_and, true_or, or_true, reduceCtorEq, List.map_nil, bI_eq0, bI_eq1, bool_ft, pk_us, vnar0, vnar1, Bool.or_false, Bool.or_true, Bool.false_or, Bool.true_or, mj_kne, eq_self, Int32.reduceLT, Int32.reduceLE, Int32.reduceAdd, Int32.reduceSub, Int32.reduceMul, not_true_eq_false, not_false_eq_true, false_implies, true_implies, D_X12_plan_0, D_X12_plan_1, mj_F_aload_n_k, mj_F_bipush_n, mj_F_getfield_i, mj_F_goto_off, mj_F_iadd, mj_F_iaload, mj_F_iconst_n, mj_F_ifCond_eq_off, mj_F_ifCond_lt_off, mj_F_ifCond_ne_off, mj_F_if_icmp_ge_off, mj_F_if_icmp_ne_off, mj_F_iinc_k_n, mj_F_iload_k, mj_F_iload_n_k, mj_F_imul, mj_F_invokestatic_i, mj_F_invokevirtual_i, mj_F_ireturn, mj_F_ishl, mj_F_istore_k, mj_set, mj_set0, mj_unk, mj_c2, mj_kc, FT_X12, FT_X12_1, L_X12_plan, List.take_succ_cons, List.take_zero, List.drop_succ_cons, List.drop_zero, List.reverse_cons, List.reverse_nil, List.length_cons, List.length_nil, gS_M0, gMf_56, gMf_99, gMf_98, gS_M76, sS_Ma_76, J_X12_plan]
  refine ⟨fun c => ?_, fun c => ?_⟩
  · replace hw := ok_t hw c
    exact hG.2 _ _ _ _ _ _ _ _ _ (by refine ⟨Or.inr rfl, ?_⟩; refine ⟨Or.inl rfl, ?_⟩; refine ⟨Or.inl rfl, ?_⟩; refine ⟨Or.inl rfl, ?_⟩; refine ⟨Or.inr rfl, ?_⟩; refine ⟨Or.inr rfl, ?_⟩; refine ⟨Or.inr rfl, ?_⟩; refine ⟨Or.inl rfl, ?_⟩; refine ⟨Or.inr rfl, ?_⟩; exact trivial) (Nat.zero_le _) (Nat.zero_le _) (hK0 _ (ok_some hw :) :)
  · replace hw := ok_f hw c
    refine ⟨(ok_rd hw).1, ?_⟩
    replace hw := (ok_rd hw).2
    refine c_J6_bitCount_0f7a4_in (ok_imp (ok_bind hw) ?_)
    intro p hw
    simp only [Option.toList, List.nil_append, List.cons_append, Nat.reduceSub]
    refine mj_run hG.1 (fun pc => pc == 6 || pc == 38 || pc == 44 || pc == 60 || pc == 75 || pc == 103 || pc == 130 || pc == 137 || pc == 143 || pc == 154) 4000 ?_
    simp only [mj_step, mj_W_s, mj_fin, List.getElem?_cons_zero, List.getElem?_cons_succ, mj_go, Nat.reduceAdd, Nat.reduceSub, Nat.reduceLT, Nat.reduceLeDiff, Nat.zero_add, Nat.reduceEqDiff, Nat.reduceBEq, ↓reduceIte, Bool.false_eq_true, List.append_nil, List.nil_append, List.cons_append, Option.toList, and_true, true_and, true_or, or_true, reduceCtorEq, List.map_nil, bI_eq0, bI_eq1, bool_ft, pk_us, vnar0, vnar1, Bool.or_false, Bool.or_true, Bool.false_or, Bool.true_or, mj_kne, eq_self, Int32.reduceLT, Int32.reduceLE, Int32.reduceAdd, Int32.reduceSub, Int32.reduceMul, not_true_eq_false, not_false_eq_true, false_implies, true_implies, D_X12_plan_0, D_X12_plan_1, mj_F_aload_n_k, mj_F_bipush_n, mj_F_getfield_i, mj_F_goto_off, mj_F_iadd, mj_F_iaload, mj_F_iconst_n, mj_F_ifCond_eq_off, mj_F_ifCond_lt_off, mj_F_ifCond_ne_off, mj_F_if_icmp_ge_off, mj_F_if_icmp_ne_off, mj_F_iinc_k_n, mj_F_iload_k, mj_F_iload_n_k, mj_F_imul, mj_F_invokestatic_i, mj_F_invokevirtual_i, mj_F_ireturn, mj_F_ishl, mj_F_istore_k, mj_set, mj_set0, mj_unk, mj_c2, mj_kc, FT_X12, FT_X12_1, L_X12_plan, List.take_succ_cons, List.take_zero, List.drop_succ_cons, List.drop_zero, List.reverse_cons, List.reverse_nil, List.length_cons, List.length_nil, gS_M0, gMf_56, gMf_99, gMf_98, gS_M76, sS_Ma_76, J_X12_plan]
    refine ⟨fun c => ?_, fun c => ?_⟩
    · replace hw := ok_t hw c
      exact hG.2 _ _ _ _ _ _ _ _ _ (by refine ⟨Or.inr rfl, ?_⟩; refine ⟨Or.inl rfl, ?_⟩; refine ⟨Or.inl rfl, ?_⟩; refine ⟨Or.inl rfl, ?_⟩; refine ⟨Or.inr rfl, ?_⟩; refine ⟨Or.inr rfl, ?_⟩; refine ⟨Or.inr rfl, ?_⟩; refine ⟨Or.inl rfl, ?_⟩; refine ⟨Or.inr rfl, ?_⟩; exact trivial) (Nat.zero_le _) (Nat.zero_le _) (hK0 _ (ok_some hw :) :)
    · replace hw := ok_f hw c
      refine ⟨(ok_rd hw).1, ?_⟩
      replace hw := (ok_rd hw).2
      exact hG.2 _ _ _ _ _ _ _ _ _ (by refine ⟨Or.inr rfl, ?_⟩; refine ⟨Or.inl rfl, ?_⟩; refine ⟨Or.inl rfl, ?_⟩; refine ⟨Or.inl rfl, ?_⟩; refine ⟨Or.inr rfl, ?_⟩; refine ⟨Or.inr rfl, ?_⟩; refine ⟨Or.inr rfl, ?_⟩; refine ⟨Or.inr rfl, ?_⟩; refine ⟨Or.inr rfl, ?_⟩; exact trivial) (Nat.zero_le _) (Nat.zero_le _) (hP _ (ok_some hw :) :)

set_option maxHeartbeats 4000000 in
set_option maxRecDepth 20000 in
theorem g_X12_plan_130 {k : Option Value → mj_H → Prop} {G : mj_K} (hG : mj_cl2 cX12_plan (TbX12 9 ((some FieldType.int)) ct_X12_plan) k G) (hM : mj_ml cX12_plan yX12_plan.cls G) {v4 : Int32} {s : St} {P : Int32 × Int32 → Prop} {K : (Int32) ⊕ (Unit) → Prop} (hP : ∀ x, P x → G 60 [.ref 0, mj_unk, mj_unk, mj_unk, .int v4, .int x.1, .int x.2] [] (mkMs s) 0 0) (hK0 : ∀ y, K (.inl y) → G 154 [mj_unk, mj_unk, mj_unk, mj_unk, mj_unk, .int y] [] (mkMs s) 0 0) (hK1 : ∀ y, K (.inr y) → G 137 [] [] (mkMs s) 0 0) {v5 : Int32} {v6 : Int32} {v8 : Int32} (hw : ok (F_X12_plan_130 v4 v5 v6 v8 s) (Sum.elim P K)) : G 130 [.ref 0, mj_unk, mj_unk, mj_unk, .int v4, .int v5, .int v6, mj_unk, .int v8] [] (mkMs s) 0 0 := by
  unfold F_X12_plan_130 at hw
  refine mj_run hG.1 (fun pc => pc == 6 || pc == 38 || pc == 44 || pc == 60 || pc == 75 || pc == 103 || pc == 130 || pc == 137 || pc == 143 || pc == 154) 4000 ?_
  simp only [mj_step, mj_W_s, mj_fin, List.getElem?_cons_zero, List.getElem?_cons_succ, mj_go, Nat.reduceAdd, Nat.reduceSub, Nat.reduceLT, Nat.reduceLeDiff, Nat.zero_add, Nat.reduceEqDiff, Nat.reduceBEq, ↓reduceIte, Bool.false_eq_true, List.append_nil, List.nil_append, List.cons_append, Option.toList, and_true, true_and, true_or, or_true, reduceCtorEq, List.map_nil, bI_eq0, bI_eq1, bool_ft, pk_us, vnar0, vnar1, Bool.or_false, Bool.or_true, Bool.false_or, Bool.true_or, mj_kne, eq_self, Int32.reduceLT, Int32.reduceLE, Int32.reduceAdd, Int32.reduceSub, Int32.reduceMul, not_true_eq_false, not_false_eq_true, false_implies, true_implies, D_X12_plan_0, D_X12_plan_1, mj_F_aload_n_k, mj_F_bipush_n, mj_F_getfield_i, mj_F_goto_off, mj_F_iadd, mj_F_iaload, mj_F_iconst_n, mj_F_ifCond_eq_off, mj_F_ifCond_lt_off, mj_F_ifCond_ne_off, mj_F_if_icmp_ge_off, mj_F_if_icmp_ne_off, mj_F_iinc_k_n, mj_F_iload_k, mj_F_iload_n_k, mj_F_imul, mj_F_invokestatic_i, mj_F_invokevirtual_i, mj_F_ireturn, mj_F_ishl, mj_F_istore_k, mj_set, mj_set0, mj_unk, mj_c2, mj_kc, FT_X12, FT_X12_1, L_X12_plan, List.take_succ_cons, List.take_zero, List.drop_succ_cons, List.drop_zero, List.reverse_cons, List.reverse_nil, List.length_cons, List.length_nil, gS_M0, gMf_56, gMf_99, gMf_98, gS_M76, sS_Ma_76, J_X12_plan]
  refine ⟨fun c => ?_, fun c => ?_⟩
  · replace hw := ok_f hw c
    refine hM 143 447 1 _ _ _ _ _ _ _ _ (by simp only [D_X12_plan_0, D_X12_plan_1]) (lkX12_447) rfl (Nat.le_of_ble_eq_true rfl) ?_
    refine mj_run hG.1 (fun pc => pc == 6 || pc == 38 || pc == 44 || pc == 60 || pc == 75 || pc == 103 || pc == 130 || pc == 137 || pc == 143 || pc == 154) 4000 ?_
    simp only [mj_step, mj_W_s, mj_fin, List.getElem?_cons_zero, List.getElem?_cons_succ, mj_go, Nat.reduceAdd, Nat.reduceSub, Nat.reduceLT, Nat.reduceLeDiff, Nat.zero_add, Nat.reduceEqDiff, Nat.reduceBEq, ↓reduceIte, Bool.false_eq_true, List.append_nil, List.nil_append, List.cons_append, Option.toList, and_true, true_and, true_or, or_true, reduceCtorEq, List.map_nil, bI_eq0, bI_eq1, bool_ft, pk_us, vnar0, vnar1, Bool.or_false, Bool.or_true, Bool.false_or, Bool.true_or, mj_kne, eq_self, Int32.reduceLT, Int32.reduceLE, Int32.reduceAdd, Int32.reduceSub, Int32.reduceMul, not_true_eq_false, not_false_eq_true, false_implies, true_implies, D_X12_plan_0, D_X12_plan_1, mj_F_aload_n_k, mj_F_bipush_n, mj_F_getfield_i, mj_F_goto_off, mj_F_iadd, mj_F_iaload, mj_F_iconst_n, mj_F_ifCond_eq_off, mj_F_ifCond_lt_off, mj_F_ifCond_ne_off, mj_F_if_icmp_ge_off, mj_F_if_icmp_ne_off, mj_F_iinc_k_n, mj_F_iload_k, mj_F_iload_n_k, mj_F_imul, mj_F_invokestatic_i, mj_F_invokevirtual_i, mj_F_ireturn, mj_F_ishl, mj_F_istore_k, mj_set, mj_set0, mj_unk, mj_c2, mj_kc, FT_X12, FT_X12_1, L_X12_plan, List.take_succ_cons, List.take_zero, List.drop_succ_cons, List.drop_zero, List.reverse_cons, List.reverse_nil, List.length_cons, List.length_nil, gS_M0, gMf_56, gMf_99, gMf_98, gS_M76, sS_Ma_76, J_X12_plan]
    exact hG.2 _ _ _ _ _ _ _ _ _ (by refine ⟨Or.inr rfl, ?_⟩; refine ⟨Or.inl rfl, ?_⟩; refine ⟨Or.inl rfl, ?_⟩; refine ⟨Or.inl rfl, ?_⟩; refine ⟨Or.inr rfl, ?_⟩; refine ⟨Or.inr rfl, ?_⟩; refine ⟨Or.inr rfl, ?_⟩; exact trivial) (Nat.zero_le _) (Nat.zero_le _) (hP _ (ok_some hw :) :)
  · replace hw := ok_t hw c
    exact hG.2 _ _ _ _ _ _ _ _ _ (by exact trivial) (Nat.zero_le _) (Nat.zero_le _) (hK1 _ (ok_some hw :) :)

set_option maxHeartbeats 4000000 in
theorem g_X12_plan_75 {k : Option Value → mj_H → Prop} {G : mj_K} (hG : mj_cl2 cX12_plan (TbX12 9 ((some FieldType.int)) ct_X12_plan) k G) (hM : mj_ml cX12_plan yX12_plan.cls G) {v4 : Int32} {s : St} {P : Int32 × Int32 → Prop} {K : (Int32) ⊕ (Unit) → Prop} (hP : ∀ x, P x → G 60 [.ref 0, mj_unk, mj_unk, mj_unk, .int v4, .int x.1, .int x.2] [] (mkMs s) 0 0) (hK0 : ∀ y, K (.inl y) → G 154 [mj_unk, mj_unk, mj_unk, mj_unk, mj_unk, .int y] [] (mkMs s) 0 0) (hK1 : ∀ y, K (.inr y) → G 137 [] [] (mkMs s) 0 0) {v5 : Int32} {v6 : Int32} {v7 : Int32} {v8 : Int32} (hw : ok (F_X12_plan_75 v4 v5 v6 v7 v8 s) (Sum.elim P K)) : G 75 [.ref 0, mj_unk, mj_unk, mj_unk, .int v4, .int v5, .int v6, .int v7, .int v8] [] (mkMs s) 0 0 := by
  unfold F_X12_plan_75 at hw
  refine lp_ok (B_X12_plan_75 v4 v5 v6 s) (fun x => G 75 [.ref 0, mj_unk, mj_unk, mj_unk, .int v4, .int v5, .int v6, .int x.1, .int x.2] [] (mkMs s) 0 0) _ ?_ _ _ (ok_bind hw)
  rintro ⟨v7, v8⟩ hb
  exact b_X12_plan_75 hG hM (fun _ z => z) (fun y hw => by exact hG.2 _ _ _ _ _ _ _ _ _ (by refine ⟨Or.inr rfl, ?_⟩; refine ⟨Or.inl rfl, ?_⟩; refine ⟨Or.inl rfl, ?_⟩; refine ⟨Or.inl rfl, ?_⟩; refine ⟨Or.inr rfl, ?_⟩; refine ⟨Or.inr rfl, ?_⟩; refine ⟨Or.inr rfl, ?_⟩; refine ⟨Or.inl rfl, ?_⟩; refine ⟨Or.inr rfl, ?_⟩; exact trivial) (Nat.zero_le _) (Nat.zero_le _) (g_X12_plan_130 hG hM hP hK0 hK1  hw :)) hb

set_option maxHeartbeats 4000000 in
set_option maxRecDepth 20000 in
theorem b_X12_plan_60 {k : Option Value → mj_H → Prop} {G : mj_K} (hG : mj_cl2 cX12_plan (TbX12 9 ((some FieldType.int)) ct_X12_plan) k G) (hM : mj_ml cX12_plan yX12_plan.cls G) {v4 : Int32} {s : St} {P : Int32 × Int32 → Prop} {K : (Int32) ⊕ (Unit) → Prop} (hP : ∀ x, P x → G 60 [.ref 0, mj_unk, mj_unk, mj_unk, .int v4, .int x.1, .int x.2] [] (mkMs s) 0 0) (hK0 : ∀ y, K (.inl y) → G 154 [mj_unk, mj_unk, mj_unk, mj_unk, mj_unk, .int y] [] (mkMs s) 0 0) (hK1 : ∀ y, K (.inr y) → G 137 [] [] (mkMs s) 0 0) {v5 : Int32} {v6 : Int32} (hw : ok (B_X12_plan_60 v4 s (v5, v6)) (Sum.elim P K)) : G 60 [.ref 0, mj_unk, mj_unk, mj_unk, .int v4, .int v5, .int v6] [] (mkMs s) 0 0 := by
  unfold B_X12_plan_60 at hw
  refine mj_run hG.1 (fun pc => pc == 6 || pc == 38 || pc == 44 || pc == 60 || pc == 75 || pc == 103 || pc == 130 || pc == 137 || pc == 143 || pc == 154) 4000 ?_
  simp only [mj_step, mj_W_s, mj_fin, List.getElem?_cons_zero, List.getElem?_cons_succ, mj_go, Nat.reduceAdd, Nat.reduceSub, Nat.reduceLT, Nat.reduceLeDiff, Nat.zero_add, Nat.reduceEqDiff, Nat.reduceBEq, ↓reduceIte, Bool.false_eq_true, List.append_nil, List.nil_append, List.cons_append, Option.toList, and_true, true_and, true_or, or_true, reduceCtorEq, List.map_nil, bI_eq0, bI_eq1, bool_ft, pk_us, vnar0, vnar1, Bool.or_false, Bool.or_true, Bool.false_or, Bool.true_or, mj_kne, eq_self, Int32.reduceLT, Int32.reduceLE, Int32.reduceAdd, Int32.reduceSub, Int32.reduceMul, not_true_eq_false, not_false_eq_true, false_implies, true_implies, D_X12_plan_0, D_X12_plan_1, mj_F_aload_n_k, mj_F_bipush_n, mj_F_getfield_i, mj_F_goto_off, mj_F_iadd, mj_F_iaload, mj_F_iconst_n, mj_F_ifCond_eq_off, mj_F_ifCond_lt_off, mj_F_ifCond_ne_off, mj_F_if_icmp_ge_off, mj_F_if_icmp_ne_off, mj_F_iinc_k_n, mj_F_iload_k, mj_F_iload_n_k, mj_F_imul, mj_F_invokestatic_i, mj_F_invokevirtual_i, mj_F_ireturn, mj_F_ishl, mj_F_istore_k, mj_set, mj_set0, mj_unk, mj_c2, mj_kc, FT_X12, FT_X12_1, L_X12_plan, List.take_succ_cons, List.take_zero, List.drop_succ_cons, List.drop_zero, List.reverse_cons, List.reverse_nil, List.length_cons, List.length_nil, gS_M0, gMf_56, gMf_99, gMf_98, gS_M76, sS_Ma_76, J_X12_plan]
  refine ⟨fun c => ?_, fun c => ?_⟩
  · replace hw := ok_t hw c
    exact hG.2 _ _ _ _ _ _ _ _ _ (by refine ⟨Or.inl rfl, ?_⟩; refine ⟨Or.inl rfl, ?_⟩; refine ⟨Or.inl rfl, ?_⟩; refine ⟨Or.inl rfl, ?_⟩; refine ⟨Or.inl rfl, ?_⟩; refine ⟨Or.inr rfl, ?_⟩; exact trivial) (Nat.zero_le _) (Nat.zero_le _) (hK0 _ (ok_some hw :) :)
  · replace hw := ok_f hw c
    exact hG.2 _ _ _ _ _ _ _ _ _ (by refine ⟨Or.inr rfl, ?_⟩; refine ⟨Or.inl rfl, ?_⟩; refine ⟨Or.inl rfl, ?_⟩; refine ⟨Or.inl rfl, ?_⟩; refine ⟨Or.inr rfl, ?_⟩; refine ⟨Or.inr rfl, ?_⟩; refine ⟨Or.inr rfl, ?_⟩; refine ⟨Or.inr rfl, ?_⟩; refine ⟨Or.inr rfl, ?_⟩; exact trivial) (Nat.zero_le _) (Nat.zero_le _) (g_X12_plan_75 hG hM hP hK0 hK1  hw :)

set_option maxHeartbeats 4000000 in
set_option maxRecDepth 20000 in
theorem g_X12_plan_154 {k : Option Value → mj_H → Prop} {G : mj_K} (hG : mj_cl2 cX12_plan (TbX12 9 ((some FieldType.int)) ct_X12_plan) k G) (hM : mj_ml cX12_plan yX12_plan.cls G)   {v5 : Int32} {s : St} (hw : ok (F_X12_plan_154 v5 s) (fun p => k (some (.int p.1)) (mkMs p.2))) : G 154 [mj_unk, mj_unk, mj_unk, mj_unk, mj_unk, .int v5] [] (mkMs s) 0 0 := by
  unfold F_X12_plan_154 at hw
  refine mj_run hG.1 (fun pc => pc == 6 || pc == 38 || pc == 44 || pc == 60 || pc == 75 || pc == 103 || pc == 130 || pc == 137 || pc == 143 || pc == 154) 4000 ?_
  simp only [mj_step, mj_W_s, mj_fin, List.getElem?_cons_zero, List.getElem?_cons_succ, mj_go, Nat.reduceAdd, Nat.reduceSub, Nat.reduceLT, Nat.reduceLeDiff, Nat.zero_add, Nat.reduceEqDiff, Nat.reduceBEq, ↓reduceIte, Bool.false_eq_true, List.append_nil, List.nil_append, List.cons_append, Option.toList, and_true, true_and, true_or, or_true, reduceCtorEq, List.map_nil, bI_eq0, bI_eq1, bool_ft, pk_us, vnar0, vnar1, Bool.or_false, Bool.or_true, Bool.false_or, Bool.true_or, mj_kne, eq_self, Int32.reduceLT, Int32.reduceLE, Int32.reduceAdd, Int32.reduceSub, Int32.reduceMul, not_true_eq_false, not_false_eq_true, false_implies, true_implies, D_X12_plan_0, D_X12_plan_1, mj_F_aload_n_k, mj_F_bipush_n, mj_F_getfield_i, mj_F_goto_off, mj_F_iadd, mj_F_iaload, mj_F_iconst_n, mj_F_ifCond_eq_off, mj_F_ifCond_lt_off, mj_F_ifCond_ne_off, mj_F_if_icmp_ge_off, mj_F_if_icmp_ne_off, mj_F_iinc_k_n, mj_F_iload_k, mj_F_iload_n_k, mj_F_imul, mj_F_invokestatic_i, mj_F_invokevirtual_i, mj_F_ireturn, mj_F_ishl, mj_F_istore_k, mj_set, mj_set0, mj_unk, mj_c2, mj_kc, FT_X12, FT_X12_1, L_X12_plan, List.take_succ_cons, List.take_zero, List.drop_succ_cons, List.drop_zero, List.reverse_cons, List.reverse_nil, List.length_cons, List.length_nil, gS_M0, gMf_56, gMf_99, gMf_98, gS_M76, sS_Ma_76, J_X12_plan]
  exact (ok_some hw :)

set_option maxHeartbeats 4000000 in
set_option maxRecDepth 20000 in
theorem g_X12_plan_137 {k : Option Value → mj_H → Prop} {G : mj_K} (hG : mj_cl2 cX12_plan (TbX12 9 ((some FieldType.int)) ct_X12_plan) k G) (hM : mj_ml cX12_plan yX12_plan.cls G)   {s : St} (hw : ok (F_X12_plan_137 s) (fun p => k (some (.int p.1)) (mkMs p.2))) : G 137 [] [] (mkMs s) 0 0 := by
  unfold F_X12_plan_137 at hw
  refine mj_run hG.1 (fun pc => pc == 6 || pc == 38 || pc == 44 || pc == 60 || pc == 75 || pc == 103 || pc == 130 || pc == 137 || pc == 143 || pc == 154) 4000 ?_
  simp only [mj_step, mj_W_s, mj_fin, List.getElem?_cons_zero, List.getElem?_cons_succ, mj_go, Nat.reduceAdd, Nat.reduceSub, Nat.reduceLT, Nat.reduceLeDiff, Nat.zero_add, Nat.reduceEqDiff, Nat.reduceBEq, ↓reduceIte, Bool.false_eq_true, List.append_nil, List.nil_append, List.cons_append, Option.toList, and_true, true_and, true_or, or_true, reduceCtorEq, List.map_nil, bI_eq0, bI_eq1, bool_ft, pk_us, vnar0, vnar1, Bool.or_false, Bool.or_true, Bool.false_or, Bool.true_or, mj_kne, eq_self, Int32.reduceLT, Int32.reduceLE, Int32.reduceAdd, Int32.reduceSub, Int32.reduceMul, not_true_eq_false, not_false_eq_true, false_implies, true_implies, D_X12_plan_0, D_X12_plan_1, mj_F_aload_n_k, mj_F_bipush_n, mj_F_getfield_i, mj_F_goto_off, mj_F_iadd, mj_F_iaload, mj_F_iconst_n, mj_F_ifCond_eq_off, mj_F_ifCond_lt_off, mj_F_ifCond_ne_off, mj_F_if_icmp_ge_off, mj_F_if_icmp_ne_off, mj_F_iinc_k_n, mj_F_iload_k, mj_F_iload_n_k, mj_F_imul, mj_F_invokestatic_i, mj_F_invokevirtual_i, mj_F_ireturn, mj_F_ishl, mj_F_istore_k, mj_set, mj_set0, mj_unk, mj_c2, mj_kc, FT_X12, FT_X12_1, L_X12_plan, List.take_succ_cons, List.take_zero, List.drop_succ_cons, List.drop_zero, List.reverse_cons, List.reverse_nil, List.length_cons, List.length_nil, gS_M0, gMf_56, gMf_99, gMf_98, gS_M76, sS_Ma_76, J_X12_plan]
  exact (ok_some hw :)

set_option maxHeartbeats 4000000 in
theorem g_X12_plan_60 {k : Option Value → mj_H → Prop} {G : mj_K} (hG : mj_cl2 cX12_plan (TbX12 9 ((some FieldType.int)) ct_X12_plan) k G) (hM : mj_ml cX12_plan yX12_plan.cls G)   {v4 : Int32} {v5 : Int32} {v6 : Int32} {s : St} (hw : ok (F_X12_plan_60 v4 v5 v6 s) (fun p => k (some (.int p.1)) (mkMs p.2))) : G 60 [.ref 0, mj_unk, mj_unk, mj_unk, .int v4, .int v5, .int v6] [] (mkMs s) 0 0 := by
  unfold F_X12_plan_60 at hw
  refine lp_ok (B_X12_plan_60 v4 s) (fun x => G 60 [.ref 0, mj_unk, mj_unk, mj_unk, .int v4, .int x.1, .int x.2] [] (mkMs s) 0 0) _ ?_ _ _ (ok_bind hw)
  rintro ⟨v5, v6⟩ hb
  exact b_X12_plan_60 hG hM (fun _ z => z) (fun y hw => by exact hG.2 _ _ _ _ _ _ _ _ _ (by refine ⟨Or.inl rfl, ?_⟩; refine ⟨Or.inl rfl, ?_⟩; refine ⟨Or.inl rfl, ?_⟩; refine ⟨Or.inl rfl, ?_⟩; refine ⟨Or.inl rfl, ?_⟩; refine ⟨Or.inr rfl, ?_⟩; exact trivial) (Nat.zero_le _) (Nat.zero_le _) (g_X12_plan_154 hG hM  hw :)) (fun y hw => by exact hG.2 _ _ _ _ _ _ _ _ _ (by exact trivial) (Nat.zero_le _) (Nat.zero_le _) (g_X12_plan_137 hG hM  hw :)) hb

set_option maxHeartbeats 4000000 in
set_option maxRecDepth 20000 in
theorem g_X12_plan {k : Option Value → mj_H → Prop} {G : mj_K} (hG : mj_cl2 cX12_plan (TbX12 9 ((some FieldType.int)) ct_X12_plan) k G) (hM : mj_ml cX12_plan yX12_plan.cls G) {v1 : Int32} {v2 : Int32} {v3 : Int32} {s : St} (hw : ok (F_X12_plan v1 v2 v3 s) (fun p => k (some (.int p.1)) (mkMs p.2))) : G 0 [.ref 0, .int v1, .int v2, .int v3] [] (mkMs s) 0 0 := by
  unfold F_X12_plan at hw
  refine mj_run hG.1 (fun pc => pc == 6 || pc == 38 || pc == 44 || pc == 60 || pc == 75 || pc == 103 || pc == 130 || pc == 137 || pc == 143 || pc == 154) 4000 ?_
  simp only [mj_step, mj_W_s, mj_fin, List.getElem?_cons_zero, List.getElem?_cons_succ, mj_go, Nat.reduceAdd, Nat.reduceSub, Nat.reduceLT, Nat.reduceLeDiff, Nat.zero_add, Nat.reduceEqDiff, Nat.reduceBEq, ↓reduceIte, Bool.false_eq_true, List.append_nil, List.nil_append, List.cons_append, Option.toList, and_true, true_and, true_or, or_true, reduceCtorEq, List.map_nil, bI_eq0, bI_eq1, bool_ft, pk_us, vnar0, vnar1, Bool.or_false, Bool.or_true, Bool.false_or, Bool.true_or, mj_kne, eq_self, Int32.reduceLT, Int32.reduceLE, Int32.reduceAdd, Int32.reduceSub, Int32.reduceMul, not_true_eq_false, not_false_eq_true, false_implies, true_implies, D_X12_plan_0, D_X12_plan_1, mj_F_aload_n_k, mj_F_bipush_n, mj_F_getfield_i, mj_F_goto_off, mj_F_iadd, mj_F_iaload, mj_F_iconst_n, mj_F_ifCond_eq_off, mj_F_ifCond_lt_off, mj_F_ifCond_ne_off, mj_F_if_icmp_ge_off, mj_F_if_icmp_ne_off, mj_F_iinc_k_n, mj_F_iload_k, mj_F_iload_n_k, mj_F_imul, mj_F_invokestatic_i, mj_F_invokevirtual_i, mj_F_ireturn, mj_F_ishl, mj_F_istore_k, mj_set, mj_set0, mj_unk, mj_c2, mj_kc, FT_X12, FT_X12_1, L_X12_plan, List.take_succ_cons, List.take_zero, List.drop_succ_cons, List.drop_zero, List.reverse_cons, List.reverse_nil, List.length_cons, List.length_nil, gS_M0, gMf_56, gMf_99, gMf_98, gS_M76, sS_Ma_76, J_X12_plan]
  refine c_X12_mayCover_in (ok_imp (ok_bind hw) ?_)
  intro p hw
  simp only [Option.toList, List.nil_append, List.cons_append, Nat.reduceSub]
  refine mj_run hG.1 (fun pc => pc == 6 || pc == 38 || pc == 44 || pc == 60 || pc == 75 || pc == 103 || pc == 130 || pc == 137 || pc == 143 || pc == 154) 4000 ?_
  simp only [mj_step, mj_W_s, mj_fin, List.getElem?_cons_zero, List.getElem?_cons_succ, mj_go, Nat.reduceAdd, Nat.reduceSub, Nat.reduceLT, Nat.reduceLeDiff, Nat.zero_add, Nat.reduceEqDiff, Nat.reduceBEq, ↓reduceIte, Bool.false_eq_true, List.append_nil, List.nil_append, List.cons_append, Option.toList, and_true, true_and, true_or, or_true, reduceCtorEq, List.map_nil, bI_eq0, bI_eq1, bool_ft, pk_us, vnar0, vnar1, Bool.or_false, Bool.or_true, Bool.false_or, Bool.true_or, mj_kne, eq_self, Int32.reduceLT, Int32.reduceLE, Int32.reduceAdd, Int32.reduceSub, Int32.reduceMul, not_true_eq_false, not_false_eq_true, false_implies, true_implies, D_X12_plan_0, D_X12_plan_1, mj_F_aload_n_k, mj_F_bipush_n, mj_F_getfield_i, mj_F_goto_off, mj_F_iadd, mj_F_iaload, mj_F_iconst_n, mj_F_ifCond_eq_off, mj_F_ifCond_lt_off, mj_F_ifCond_ne_off, mj_F_if_icmp_ge_off, mj_F_if_icmp_ne_off, mj_F_iinc_k_n, mj_F_iload_k, mj_F_iload_n_k, mj_F_imul, mj_F_invokestatic_i, mj_F_invokevirtual_i, mj_F_ireturn, mj_F_ishl, mj_F_istore_k, mj_set, mj_set0, mj_unk, mj_c2, mj_kc, FT_X12, FT_X12_1, L_X12_plan, List.take_succ_cons, List.take_zero, List.drop_succ_cons, List.drop_zero, List.reverse_cons, List.reverse_nil, List.length_cons, List.length_nil, gS_M0, gMf_56, gMf_99, gMf_98, gS_M76, sS_Ma_76, J_X12_plan]
  refine ⟨fun c => ?_, fun c => ?_⟩
  · replace hw := ok_t hw c
    exact (ok_some hw :)
  · replace hw := ok_f hw c
    refine ⟨fun c => ?_, fun c => ?_⟩
    · replace hw := ok_t hw c
      exact (ok_some hw :)
    · replace hw := ok_f hw c
      refine ⟨fun c => ?_, fun c => ?_⟩
      · replace hw := ok_t hw c
        exact (ok_some hw :)
      · replace hw := ok_f hw c
        refine ⟨fun c => ?_, fun c => ?_⟩
        · replace hw := ok_f hw c
          refine c_X12_look__in (ok_imp (ok_bind hw) ?_)
          intro p hw
          simp only [Option.toList, List.nil_append, List.cons_append, Nat.reduceSub]
          refine mj_run hG.1 (fun pc => pc == 6 || pc == 38 || pc == 44 || pc == 60 || pc == 75 || pc == 103 || pc == 130 || pc == 137 || pc == 143 || pc == 154) 4000 ?_
          simp only [mj_step, mj_W_s, mj_fin, List.getElem?_cons_zero, List.getElem?_cons_succ, mj_go, Nat.reduceAdd, Nat.reduceSub, Nat.reduceLT, Nat.reduceLeDiff, Nat.zero_add, Nat.reduceEqDiff, Nat.reduceBEq, ↓reduceIte, Bool.false_eq_true, List.append_nil, List.nil_append, List.cons_append, Option.toList, and_true, true_and, true_or, or_true, reduceCtorEq, List.map_nil, bI_eq0, bI_eq1, bool_ft, pk_us, vnar0, vnar1, Bool.or_false, Bool.or_true, Bool.false_or, Bool.true_or, mj_kne, eq_self, Int32.reduceLT, Int32.reduceLE, Int32.reduceAdd, Int32.reduceSub, Int32.reduceMul, not_true_eq_false, not_false_eq_true, false_implies, true_implies, D_X12_plan_0, D_X12_plan_1, mj_F_aload_n_k, mj_F_bipush_n, mj_F_getfield_i, mj_F_goto_off, mj_F_iadd, mj_F_iaload, mj_F_iconst_n, mj_F_ifCond_eq_off, mj_F_ifCond_lt_off, mj_F_ifCond_ne_off, mj_F_if_icmp_ge_off, mj_F_if_icmp_ne_off, mj_F_iinc_k_n, mj_F_iload_k, mj_F_iload_n_k, mj_F_imul, mj_F_invokestatic_i, mj_F_invokevirtual_i, mj_F_ireturn, mj_F_ishl, mj_F_istore_k, mj_set, mj_set0, mj_unk, mj_c2, mj_kc, FT_X12, FT_X12_1, L_X12_plan, List.take_succ_cons, List.take_zero, List.drop_succ_cons, List.drop_zero, List.reverse_cons, List.reverse_nil, List.length_cons, List.length_nil, gS_M0, gMf_56, gMf_99, gMf_98, gS_M76, sS_Ma_76, J_X12_plan]
          refine c_X12_fewest_in (ok_imp (ok_bind hw) ?_)
          intro p hw
          simp only [Option.toList, List.nil_append, List.cons_append, Nat.reduceSub]
          refine mj_run hG.1 (fun pc => pc == 6 || pc == 38 || pc == 44 || pc == 60 || pc == 75 || pc == 103 || pc == 130 || pc == 137 || pc == 143 || pc == 154) 4000 ?_
          simp only [mj_step, mj_W_s, mj_fin, List.getElem?_cons_zero, List.getElem?_cons_succ, mj_go, Nat.reduceAdd, Nat.reduceSub, Nat.reduceLT, Nat.reduceLeDiff, Nat.zero_add, Nat.reduceEqDiff, Nat.reduceBEq, ↓reduceIte, Bool.false_eq_true, List.append_nil, List.nil_append, List.cons_append, Option.toList, and_true, true_and, true_or, or_true, reduceCtorEq, List.map_nil, bI_eq0, bI_eq1, bool_ft, pk_us, vnar0, vnar1, Bool.or_false, Bool.or_true, Bool.false_or, Bool.true_or, mj_kne, eq_self, Int32.reduceLT, Int32.reduceLE, Int32.reduceAdd, Int32.reduceSub, Int32.reduceMul, not_true_eq_false, not_false_eq_true, false_implies, true_implies, D_X12_plan_0, D_X12_plan_1, mj_F_aload_n_k, mj_F_bipush_n, mj_F_getfield_i, mj_F_goto_off, mj_F_iadd, mj_F_iaload, mj_F_iconst_n, mj_F_ifCond_eq_off, mj_F_ifCond_lt_off, mj_F_ifCond_ne_off, mj_F_if_icmp_ge_off, mj_F_if_icmp_ne_off, mj_F_iinc_k_n, mj_F_iload_k, mj_F_iload_n_k, mj_F_imul, mj_F_invokestatic_i, mj_F_invokevirtual_i, mj_F_ireturn, mj_F_ishl, mj_F_istore_k, mj_set, mj_set0, mj_unk, mj_c2, mj_kc, FT_X12, FT_X12_1, L_X12_plan, List.take_succ_cons, List.take_zero, List.drop_succ_cons, List.drop_zero, List.reverse_cons, List.reverse_nil, List.length_cons, List.length_nil, gS_M0, gMf_56, gMf_99, gMf_98, gS_M76, sS_Ma_76, J_X12_plan]
          refine ⟨fun c => ?_, fun c => ?_⟩
          · replace hw := ok_f hw c
            exact hG.2 _ _ _ _ _ _ _ _ _ (by refine ⟨Or.inr rfl, ?_⟩; refine ⟨Or.inl rfl, ?_⟩; refine ⟨Or.inl rfl, ?_⟩; refine ⟨Or.inl rfl, ?_⟩; refine ⟨Or.inr rfl, ?_⟩; refine ⟨Or.inr rfl, ?_⟩; refine ⟨Or.inr rfl, ?_⟩; exact trivial) (Nat.zero_le _) (Nat.zero_le _) (g_X12_plan_60 hG hM  hw :)
          · replace hw := ok_t hw c
            exact (ok_some hw :)
        · replace hw := ok_t hw c
          exact (ok_some hw :)

def c_X12_plan : mj_S := fun as h k => ∃ (v1 : Int32) (v2 : Int32) (v3 : Int32) (s : St), as = [.ref 0, .int v1, .int v2, .int v3] ∧ h = mkMs s ∧ ok (F_X12_plan v1 v2 v3 s) (fun p => k (some (.int p.1)) (mkMs p.2))
theorem c_X12_plan_in {v1 : Int32} {v2 : Int32} {v3 : Int32} {s : St} {k : Option Value → mj_H → Prop} (hw : ok (F_X12_plan v1 v2 v3 s) (fun p => k (some (.int p.1)) (mkMs p.2))) : c_X12_plan [.ref 0, .int v1, .int v2, .int v3] (mkMs s) k := ⟨v1, v2, v3, s, rfl, rfl, hw⟩
theorem m_X12_plan (l : Launch) : mj_Met l yX12_plan cX12_plan 9 ((some FieldType.int)) 9 0 0 c_X12_plan := by
  refine mj_body3 false (TbX12 9 ((some FieldType.int)) ct_X12_plan) (by decide) (by decide) rfl rfl (fun h => nomatch h) (tfX12 _ (List.forall_mem_cons.mpr ⟨cfX12_497 (m_J6_bitCount_0f7a4 l) (by decide), List.forall_mem_cons.mpr ⟨cfX12_502 (m_X12_mayCover l) (by decide), List.forall_mem_cons.mpr ⟨cfX12_505 (m_X12_look_ l) (by decide), List.forall_mem_cons.mpr ⟨cfX12_507 (m_X12_fewest l) (by decide), fun _ h => nomatch h⟩⟩⟩⟩)) ?_
  rintro as h k ⟨v1, v2, v3, s, rfl, rfl, hw⟩
  exact ⟨rfl, fun G hG hM => g_X12_plan hG hM hw⟩
def B_X12_many_7 (v1 : Int32) (v3 : Int32) (s : St) : Int32 × Int32 → Option ((Int32 × Int32) ⊕ ((Int32)))
  | (v2, v4) =>
  if (s.1 1223) ≤ v4 then
    some (.inr v2)
  else
    (rd s 1220 20 v4).bind fun x1 =>
    if x1 = (-1) then
      some (.inl ((v2 + 0), (v4 + 1)))
    else
      some (.inl ((v2 + 1), (v4 + 1)))
def B_X12_many_44 (v1 : Int32) (v2 : Int32) (s : St) : Int32 × Int32 → Option ((Int32 × Int32) ⊕ ((Int32)))
  | (v3, v4) =>
  if 5 ≤ v4 then
    some (.inr v3)
  else
    (rd s 1262 5 v4).bind fun x2 =>
    some (.inl ((v3 + x2), (v4 + 1)))
def F_X12_many_66 (v1 : Int32) (v2 : Int32) (v3 : Int32) (s : St) : Option (Int32) :=
  if v1 = 0 then
    some (s.1 1200)
  else
  if v1 = 1 then
    some (s.1 1212)
  else
  if v1 = 2 then
    some (s.1 1223)
  else
  if v1 = 3 then
    some v2
  else
  if v1 = 4 then
    some (s.1 1240)
  else
  if v1 = 5 then
    some (s.1 1213)
  else
  if v1 = 6 then
    some (s.1 1256)
  else
  if v1 = 7 then
    some (s.1 1263)
  else
  if v1 = 8 then
    some (s.1 1264)
  else
  if v1 = 9 then
    some (s.1 1275)
  else
  if v1 = 10 then
    some (s.1 1280)
  else
  if v1 = 11 then
    some (s.1 1287)
  else
  if v1 = 12 then
    some (s.1 1288)
  else
  if v1 = 13 then
    some (s.1 1296)
  else
  if v1 = 14 then
    some (s.1 1297)
  else
  if v1 = 15 then
    some (s.1 1299)
  else
  if v1 = 16 then
    some (s.1 1235)
  else
  if v1 = 17 then
    some v3
  else
  some (-1)
def F_X12_many_44 (v1 : Int32) (v2 : Int32) (v3 : Int32) (v4 : Int32) (s : St) : Option (Int32) :=
  (lp (B_X12_many_44 v1 v2 s) FU (v3, v4)).bind (fun y => F_X12_many_66 v1 v2 y s)
def F_X12_many_41 (v1 : Int32) (v2 : Int32) (v3 : Int32) (s : St) : Option (Int32) :=
  F_X12_many_44 v1 v2 v3 0 s
def F_X12_many_7 (v1 : Int32) (v2 : Int32) (v3 : Int32) (v4 : Int32) (s : St) : Option (Int32) :=
  (lp (B_X12_many_7 v1 v3 s) FU (v2, v4)).bind (fun y => F_X12_many_41 v1 y v3 s)
def F_X12_many (v1 : Int32) (s : St) : Option (Int32) :=
  F_X12_many_7 v1 0 0 0 s
theorem J_X12_many : mj_t 13 28 = 41 ∧ mj_t 25 7 = 32 ∧ mj_t 29 4 = 33 ∧ mj_t 38 (-31) = 7 ∧ mj_t 47 19 = 66 ∧ mj_t 63 (-19) = 44 ∧ mj_t 67 85 = 152 ∧ mj_t 67 90 = 157 ∧ mj_t 67 95 = 162 ∧ mj_t 67 100 = 167 ∧ mj_t 67 102 = 169 ∧ mj_t 67 107 = 174 ∧ mj_t 67 112 = 179 ∧ mj_t 67 117 = 184 ∧ mj_t 67 122 = 189 ∧ mj_t 67 127 = 194 ∧ mj_t 67 132 = 199 ∧ mj_t 67 137 = 204 ∧ mj_t 67 142 = 209 ∧ mj_t 67 147 = 214 ∧ mj_t 67 152 = 219 ∧ mj_t 67 157 = 224 ∧ mj_t 67 162 = 229 ∧ mj_t 67 167 = 234 ∧ mj_t 67 169 = 236 ∧ (0 ≤ ((13 : Nat) : Int) + 28) = True ∧ (0 ≤ ((25 : Nat) : Int) + 7) = True ∧ (0 ≤ ((29 : Nat) : Int) + 4) = True ∧ (0 ≤ ((38 : Nat) : Int) + (-31)) = True ∧ (0 ≤ ((47 : Nat) : Int) + 19) = True ∧ (0 ≤ ((63 : Nat) : Int) + (-19)) = True ∧ (0 ≤ ((67 : Nat) : Int) + 85) = True ∧ (0 ≤ ((67 : Nat) : Int) + 90) = True ∧ (0 ≤ ((67 : Nat) : Int) + 95) = True ∧ (0 ≤ ((67 : Nat) : Int) + 100) = True ∧ (0 ≤ ((67 : Nat) : Int) + 102) = True ∧ (0 ≤ ((67 : Nat) : Int) + 107) = True ∧ (0 ≤ ((67 : Nat) : Int) + 112) = True ∧ (0 ≤ ((67 : Nat) : Int) + 117) = True ∧ (0 ≤ ((67 : Nat) : Int) + 122) = True ∧ (0 ≤ ((67 : Nat) : Int) + 127) = True ∧ (0 ≤ ((67 : Nat) : Int) + 132) = True ∧ (0 ≤ ((67 : Nat) : Int) + 137) = True ∧ (0 ≤ ((67 : Nat) : Int) + 142) = True ∧ (0 ≤ ((67 : Nat) : Int) + 147) = True ∧ (0 ≤ ((67 : Nat) : Int) + 152) = True ∧ (0 ≤ ((67 : Nat) : Int) + 157) = True ∧ (0 ≤ ((67 : Nat) : Int) + 162) = True ∧ (0 ≤ ((67 : Nat) : Int) + 167) = True ∧ (0 ≤ ((67 : Nat) : Int) + 169) = True := by and_intros <;> first | rfl | exact eq_true (by decide)
set_option maxHeartbeats 4000000 in
set_option maxRecDepth 20000 in
theorem b_X12_many_7 {k : Option Value → mj_H → Prop} {G : mj_K} (hG : mj_cl2 cX12_many (TbX12 5 ((some FieldType.int)) []) k G) {v1 : Int32} {v3 : Int32} {s : St} {P : Int32 × Int32 → Prop} {K : (Int32) → Prop} (hP : ∀ x, P x → G 7 [.ref 0, .int v1, .int x.1, .int v3, .int x.2] [] (mkMs s) 0 0) (hK0 : ∀ y, K y → G 41 [.ref 0, .int v1, .int y, .int v3] [] (mkMs s) 0 0) {v2 : Int32} {v4 : Int32} (hw : ok (B_X12_many_7 v1 v3 s (v2, v4)) (Sum.elim P K)) : G 7 [.ref 0, .int v1, .int v2, .int v3, .int v4] [] (mkMs s) 0 0 := by
  unfold B_X12_many_7 at hw
  refine mj_run hG.1 (fun pc => pc == 7 || pc == 41 || pc == 44 || pc == 66) 4000 ?_
  simp only [mj_step, mj_W_s, mj_fin, List.getElem?_cons_zero, List.getElem?_cons_succ, mj_go, Nat.reduceAdd, Nat.reduceSub, Nat.reduceLT, Nat.reduceLeDiff, Nat.zero_add, Nat.reduceEqDiff, Nat.reduceBEq, ↓reduceIte, Bool.false_eq_true, List.append_nil, List.nil_append, List.cons_append, Option.toList, and_true, true_and, true_or, or_true, reduceCtorEq, List.map_nil, bI_eq0, bI_eq1, bool_ft, pk_us, vnar0, vnar1, Bool.or_false, Bool.or_true, Bool.false_or, Bool.true_or, mj_kne, eq_self, Int32.reduceLT, Int32.reduceLE, Int32.reduceAdd, Int32.reduceSub, Int32.reduceMul, not_true_eq_false, not_false_eq_true, false_implies, true_implies, D_X12_many_0, D_X12_many_1, mj_F_aload_n_k, mj_F_getfield_i, mj_F_goto_off, mj_F_iadd, mj_F_iaload, mj_F_iconst_n, mj_F_if_icmp_eq_off, mj_F_if_icmp_ge_off, mj_F_iinc_k_n, mj_F_iload_k, mj_F_iload_n_k, mj_F_ireturn, mj_F_istore_k, mj_F_istore_n_k, mj_set, mj_set0, mj_unk, mj_c2, mj_kc, FT_X12, FT_X12_1, gS_M0, gMf_23, gMf_20, gS_M18, sS_Ma_18, gMf_62, gS_M49, sS_Ma_49, gMf_0, gMf_12, gMf_40, gMf_13, gMf_56, gMf_63, gMf_64, gMf_75, gMf_80, gMf_87, gMf_88, gMf_96, gMf_97, gMf_99, gMf_35, J_X12_many]
  refine ⟨fun c => ?_, fun c => ?_⟩
  · replace hw := ok_t hw c
    exact hG.2 _ _ _ _ _ _ _ _ _ (by refine ⟨Or.inr rfl, ?_⟩; refine ⟨Or.inr rfl, ?_⟩; refine ⟨Or.inr rfl, ?_⟩; refine ⟨Or.inr rfl, ?_⟩; exact trivial) (Nat.zero_le _) (Nat.zero_le _) (hK0 _ (ok_some hw :) :)
  · replace hw := ok_f hw c
    refine ⟨(ok_rd hw).1, ?_⟩
    replace hw := (ok_rd hw).2
    refine ⟨fun c => ?_, fun c => ?_⟩
    · replace hw := ok_t hw c
      exact hG.2 _ _ _ _ _ _ _ _ _ (by refine ⟨Or.inr rfl, ?_⟩; refine ⟨Or.inr rfl, ?_⟩; refine ⟨Or.inr rfl, ?_⟩; refine ⟨Or.inr rfl, ?_⟩; refine ⟨Or.inr rfl, ?_⟩; exact trivial) (Nat.zero_le _) (Nat.zero_le _) (hP _ (ok_some hw :) :)
    · replace hw := ok_f hw c
      exact hG.2 _ _ _ _ _ _ _ _ _ (by refine ⟨Or.inr rfl, ?_⟩; refine ⟨Or.inr rfl, ?_⟩; refine ⟨Or.inr rfl, ?_⟩; refine ⟨Or.inr rfl, ?_⟩; refine ⟨Or.inr rfl, ?_⟩; exact trivial) (Nat.zero_le _) (Nat.zero_le _) (hP _ (ok_some hw :) :)

set_option maxHeartbeats 4000000 in
set_option maxRecDepth 20000 in
theorem b_X12_many_44 {k : Option Value → mj_H → Prop} {G : mj_K} (hG : mj_cl2 cX12_many (TbX12 5 ((some FieldType.int)) []) k G) {v1 : Int32} {v2 : Int32} {s : St} {P : Int32 × Int32 → Prop} {K : (Int32) → Prop} (hP : ∀ x, P x → G 44 [.ref 0, .int v1, .int v2, .int x.1, .int x.2] [] (mkMs s) 0 0) (hK0 : ∀ y, K y → G 66 [.ref 0, .int v1, .int v2, .int y] [] (mkMs s) 0 0) {v3 : Int32} {v4 : Int32} (hw : ok (B_X12_many_44 v1 v2 s (v3, v4)) (Sum.elim P K)) : G 44 [.ref 0, .int v1, .int v2, .int v3, .int v4] [] (mkMs s) 0 0 := by
  unfold B_X12_many_44 at hw
  refine mj_run hG.1 (fun pc => pc == 7 || pc == 41 || pc == 44 || pc == 66) 4000 ?_
  simp only [mj_step, mj_W_s, mj_fin, List.getElem?_cons_zero, List.getElem?_cons_succ, mj_go, Nat.reduceAdd, Nat.reduceSub, Nat.reduceLT, Nat.reduceLeDiff, Nat.zero_add, Nat.reduceEqDiff, Nat.reduceBEq, ↓reduceIte, Bool.false_eq_true, List.append_nil, List.nil_append, List.cons_append, Option.toList, and_true, true_and, true_or, or_true, reduceCtorEq, List.map_nil, bI_eq0, bI_eq1, bool_ft, pk_us, vnar0, vnar1, Bool.or_false, Bool.or_true, Bool.false_or, Bool.true_or, mj_kne, eq_self, Int32.reduceLT, Int32.reduceLE, Int32.reduceAdd, Int32.reduceSub, Int32.reduceMul, not_true_eq_false, not_false_eq_true, false_implies, true_implies, D_X12_many_0, D_X12_many_1, mj_F_aload_n_k, mj_F_getfield_i, mj_F_goto_off, mj_F_iadd, mj_F_iaload, mj_F_iconst_n, mj_F_if_icmp_eq_off, mj_F_if_icmp_ge_off, mj_F_iinc_k_n, mj_F_iload_k, mj_F_iload_n_k, mj_F_ireturn, mj_F_istore_k, mj_F_istore_n_k, mj_set, mj_set0, mj_unk, mj_c2, mj_kc, FT_X12, FT_X12_1, gS_M0, gMf_23, gMf_20, gS_M18, sS_Ma_18, gMf_62, gS_M49, sS_Ma_49, gMf_0, gMf_12, gMf_40, gMf_13, gMf_56, gMf_63, gMf_64, gMf_75, gMf_80, gMf_87, gMf_88, gMf_96, gMf_97, gMf_99, gMf_35, J_X12_many]
  refine ⟨fun c => ?_, fun c => ?_⟩
  · replace hw := ok_t hw c
    exact hG.2 _ _ _ _ _ _ _ _ _ (by refine ⟨Or.inr rfl, ?_⟩; refine ⟨Or.inr rfl, ?_⟩; refine ⟨Or.inr rfl, ?_⟩; refine ⟨Or.inr rfl, ?_⟩; exact trivial) (Nat.zero_le _) (Nat.zero_le _) (hK0 _ (ok_some hw :) :)
  · replace hw := ok_f hw c
    refine ⟨(ok_rd hw).1, ?_⟩
    replace hw := (ok_rd hw).2
    exact hG.2 _ _ _ _ _ _ _ _ _ (by refine ⟨Or.inr rfl, ?_⟩; refine ⟨Or.inr rfl, ?_⟩; refine ⟨Or.inr rfl, ?_⟩; refine ⟨Or.inr rfl, ?_⟩; refine ⟨Or.inr rfl, ?_⟩; exact trivial) (Nat.zero_le _) (Nat.zero_le _) (hP _ (ok_some hw :) :)

set_option maxHeartbeats 4000000 in
set_option maxRecDepth 20000 in
theorem g_X12_many_66 {k : Option Value → mj_H → Prop} {G : mj_K} (hG : mj_cl2 cX12_many (TbX12 5 ((some FieldType.int)) []) k G)   {v1 : Int32} {v2 : Int32} {v3 : Int32} {s : St} (hw : ok (F_X12_many_66 v1 v2 v3 s) (fun p => k (some (.int p)) (mkMs s))) : G 66 [.ref 0, .int v1, .int v2, .int v3] [] (mkMs s) 0 0 := by
  unfold F_X12_many_66 at hw
  refine mj_run hG.1 (fun pc => pc == 7 || pc == 41 || pc == 44 || pc == 66) 4000 ?_
  simp only [mj_step, mj_W_s, mj_fin, List.getElem?_cons_zero, List.getElem?_cons_succ, mj_go, Nat.reduceAdd, Nat.reduceSub, Nat.reduceLT, Nat.reduceLeDiff, Nat.zero_add, Nat.reduceEqDiff, Nat.reduceBEq, ↓reduceIte, Bool.false_eq_true, List.append_nil, List.nil_append, List.cons_append, Option.toList, and_true, true_and, true_or, or_true, reduceCtorEq, List.map_nil, bI_eq0, bI_eq1, bool_ft, pk_us, vnar0, vnar1, Bool.or_false, Bool.or_true, Bool.false_or, Bool.true_or, mj_kne, eq_self, Int32.reduceLT, Int32.reduceLE, Int32.reduceAdd, Int32.reduceSub, Int32.reduceMul, not_true_eq_false, not_false_eq_true, false_implies, true_implies, D_X12_many_0, D_X12_many_1, mj_F_aload_n_k, mj_F_getfield_i, mj_F_goto_off, mj_F_iadd, mj_F_iaload, mj_F_iconst_n, mj_F_if_icmp_eq_off, mj_F_if_icmp_ge_off, mj_F_iinc_k_n, mj_F_iload_k, mj_F_iload_n_k, mj_F_ireturn, mj_F_istore_k, mj_F_istore_n_k, mj_set, mj_set0, mj_unk, mj_c2, mj_kc, FT_X12, FT_X12_1, gS_M0, gMf_23, gMf_20, gS_M18, sS_Ma_18, gMf_62, gS_M49, sS_Ma_49, gMf_0, gMf_12, gMf_40, gMf_13, gMf_56, gMf_63, gMf_64, gMf_75, gMf_80, gMf_87, gMf_88, gMf_96, gMf_97, gMf_99, gMf_35, J_X12_many]
  by_cases c3 : v1 = 0
  · replace hw := ok_t hw c3
    have c := c3
    refine mj_tsc 0 85 (by rw [show v1 = 0 from c]; decide) (by decide) rfl (by decide) ?_
    simp only [mj_step, mj_W_s, mj_fin, List.getElem?_cons_zero, List.getElem?_cons_succ, mj_go, Nat.reduceAdd, Nat.reduceSub, Nat.reduceLT, Nat.reduceLeDiff, Nat.zero_add, Nat.reduceEqDiff, Nat.reduceBEq, ↓reduceIte, Bool.false_eq_true, List.append_nil, List.nil_append, List.cons_append, Option.toList, and_true, true_and, true_or, or_true, reduceCtorEq, List.map_nil, bI_eq0, bI_eq1, bool_ft, pk_us, vnar0, vnar1, Bool.or_false, Bool.or_true, Bool.false_or, Bool.true_or, mj_kne, eq_self, Int32.reduceLT, Int32.reduceLE, Int32.reduceAdd, Int32.reduceSub, Int32.reduceMul, not_true_eq_false, not_false_eq_true, false_implies, true_implies, D_X12_many_0, D_X12_many_1, mj_F_aload_n_k, mj_F_getfield_i, mj_F_goto_off, mj_F_iadd, mj_F_iaload, mj_F_iconst_n, mj_F_if_icmp_eq_off, mj_F_if_icmp_ge_off, mj_F_iinc_k_n, mj_F_iload_k, mj_F_iload_n_k, mj_F_ireturn, mj_F_istore_k, mj_F_istore_n_k, mj_set, mj_set0, mj_unk, mj_c2, mj_kc, FT_X12, FT_X12_1, gS_M0, gMf_23, gMf_20, gS_M18, sS_Ma_18, gMf_62, gS_M49, sS_Ma_49, gMf_0, gMf_12, gMf_40, gMf_13, gMf_56, gMf_63, gMf_64, gMf_75, gMf_80, gMf_87, gMf_88, gMf_96, gMf_97, gMf_99, gMf_35, J_X12_many]
    exact (ok_some hw :)
  replace hw := ok_f hw c3
  by_cases c4 : v1 = 1
  · replace hw := ok_t hw c4
    have c := c4
    refine mj_tsc 1 90 (by rw [show v1 = 1 from c]; decide) (by decide) rfl (by decide) ?_
    simp only [mj_step, mj_W_s, mj_fin, List.getElem?_cons_zero, List.getElem?_cons_succ, mj_go, Nat.reduceAdd, Nat.reduceSub, Nat.reduceLT, Nat.reduceLeDiff, Nat.zero_add, Nat.reduceEqDiff, Nat.reduceBEq, ↓reduceIte, Bool.false_eq_true, List.append_nil, List.nil_append, List.cons_append, Option.toList, and_true, true_and, true_or, or_true, reduceCtorEq, List.map_nil, bI_eq0, bI_eq1, bool_ft, pk_us, vnar0, vnar1, Bool.or_false, Bool.or_true, Bool.false_or, Bool.true_or, mj_kne, eq_self, Int32.reduceLT, Int32.reduceLE, Int32.reduceAdd, Int32.reduceSub, Int32.reduceMul, not_true_eq_false, not_false_eq_true, false_implies, true_implies, D_X12_many_0, D_X12_many_1, mj_F_aload_n_k, mj_F_getfield_i, mj_F_goto_off, mj_F_iadd, mj_F_iaload, mj_F_iconst_n, mj_F_if_icmp_eq_off, mj_F_if_icmp_ge_off, mj_F_iinc_k_n, mj_F_iload_k, mj_F_iload_n_k, mj_F_ireturn, mj_F_istore_k, mj_F_istore_n_k, mj_set, mj_set0, mj_unk, mj_c2, mj_kc, FT_X12, FT_X12_1, gS_M0, gMf_23, gMf_20, gS_M18, sS_Ma_18, gMf_62, gS_M49, sS_Ma_49, gMf_0, gMf_12, gMf_40, gMf_13, gMf_56, gMf_63, gMf_64, gMf_75, gMf_80, gMf_87, gMf_88, gMf_96, gMf_97, gMf_99, gMf_35, J_X12_many]
    exact (ok_some hw :)
  replace hw := ok_f hw c4
  by_cases c5 : v1 = 2
  · replace hw := ok_t hw c5
    have c := c5
    refine mj_tsc 2 95 (by rw [show v1 = 2 from c]; decide) (by decide) rfl (by decide) ?_
    simp only [mj_step, mj_W_s, mj_fin, List.getElem?_cons_zero, List.getElem?_cons_succ, mj_go, Nat.reduceAdd, Nat.reduceSub, Nat.reduceLT, Nat.reduceLeDiff, Nat.zero_add, Nat.reduceEqDiff, Nat.reduceBEq, ↓reduceIte, Bool.false_eq_true, List.append_nil, List.nil_append, List.cons_append, Option.toList, and_true, true_and, true_or, or_true, reduceCtorEq, List.map_nil, bI_eq0, bI_eq1, bool_ft, pk_us, vnar0, vnar1, Bool.or_false, Bool.or_true, Bool.false_or, Bool.true_or, mj_kne, eq_self, Int32.reduceLT, Int32.reduceLE, Int32.reduceAdd, Int32.reduceSub, Int32.reduceMul, not_true_eq_false, not_false_eq_true, false_implies, true_implies, D_X12_many_0, D_X12_many_1, mj_F_aload_n_k, mj_F_getfield_i, mj_F_goto_off, mj_F_iadd, mj_F_iaload, mj_F_iconst_n, mj_F_if_icmp_eq_off, mj_F_if_icmp_ge_off, mj_F_iinc_k_n, mj_F_iload_k, mj_F_iload_n_k, mj_F_ireturn, mj_F_istore_k, mj_F_istore_n_k, mj_set, mj_set0, mj_unk, mj_c2, mj_kc, FT_X12, FT_X12_1, gS_M0, gMf_23, gMf_20, gS_M18, sS_Ma_18, gMf_62, gS_M49, sS_Ma_49, gMf_0, gMf_12, gMf_40, gMf_13, gMf_56, gMf_63, gMf_64, gMf_75, gMf_80, gMf_87, gMf_88, gMf_96, gMf_97, gMf_99, gMf_35, J_X12_many]
    exact (ok_some hw :)
  replace hw := ok_f hw c5
  by_cases c6 : v1 = 3
  · replace hw := ok_t hw c6
    have c := c6
    refine mj_tsc 3 100 (by rw [show v1 = 3 from c]; decide) (by decide) rfl (by decide) ?_
    simp only [mj_step, mj_W_s, mj_fin, List.getElem?_cons_zero, List.getElem?_cons_succ, mj_go, Nat.reduceAdd, Nat.reduceSub, Nat.reduceLT, Nat.reduceLeDiff, Nat.zero_add, Nat.reduceEqDiff, Nat.reduceBEq, ↓reduceIte, Bool.false_eq_true, List.append_nil, List.nil_append, List.cons_append, Option.toList, and_true, true_and, true_or, or_true, reduceCtorEq, List.map_nil, bI_eq0, bI_eq1, bool_ft, pk_us, vnar0, vnar1, Bool.or_false, Bool.or_true, Bool.false_or, Bool.true_or, mj_kne, eq_self, Int32.reduceLT, Int32.reduceLE, Int32.reduceAdd, Int32.reduceSub, Int32.reduceMul, not_true_eq_false, not_false_eq_true, false_implies, true_implies, D_X12_many_0, D_X12_many_1, mj_F_aload_n_k, mj_F_getfield_i, mj_F_goto_off, mj_F_iadd, mj_F_iaload, mj_F_iconst_n, mj_F_if_icmp_eq_off, mj_F_if_icmp_ge_off, mj_F_iinc_k_n, mj_F_iload_k, mj_F_iload_n_k, mj_F_ireturn, mj_F_istore_k, mj_F_istore_n_k, mj_set, mj_set0, mj_unk, mj_c2, mj_kc, FT_X12, FT_X12_1, gS_M0, gMf_23, gMf_20, gS_M18, sS_Ma_18, gMf_62, gS_M49, sS_Ma_49, gMf_0, gMf_12, gMf_40, gMf_13, gMf_56, gMf_63, gMf_64, gMf_75, gMf_80, gMf_87, gMf_88, gMf_96, gMf_97, gMf_99, gMf_35, J_X12_many]
    exact (ok_some hw :)
  replace hw := ok_f hw c6
  by_cases c7 : v1 = 4
  · replace hw := ok_t hw c7
    have c := c7
    refine mj_tsc 4 102 (by rw [show v1 = 4 from c]; decide) (by decide) rfl (by decide) ?_
    simp only [mj_step, mj_W_s, mj_fin, List.getElem?_cons_zero, List.getElem?_cons_succ, mj_go, Nat.reduceAdd, Nat.reduceSub, Nat.reduceLT, Nat.reduceLeDiff, Nat.zero_add, Nat.reduceEqDiff, Nat.reduceBEq, ↓reduceIte, Bool.false_eq_true, List.append_nil, List.nil_append, List.cons_append, Option.toList, and_true, true_and, true_or, or_true, reduceCtorEq, List.map_nil, bI_eq0, bI_eq1, bool_ft, pk_us, vnar0, vnar1, Bool.or_false, Bool.or_true, Bool.false_or, Bool.true_or, mj_kne, eq_self, Int32.reduceLT, Int32.reduceLE, Int32.reduceAdd, Int32.reduceSub, Int32.reduceMul, not_true_eq_false, not_false_eq_true, false_implies, true_implies, D_X12_many_0, D_X12_many_1, mj_F_aload_n_k, mj_F_getfield_i, mj_F_goto_off, mj_F_iadd, mj_F_iaload, mj_F_iconst_n, mj_F_if_icmp_eq_off, mj_F_if_icmp_ge_off, mj_F_iinc_k_n, mj_F_iload_k, mj_F_iload_n_k, mj_F_ireturn, mj_F_istore_k, mj_F_istore_n_k, mj_set, mj_set0, mj_unk, mj_c2, mj_kc, FT_X12, FT_X12_1, gS_M0, gMf_23, gMf_20, gS_M18, sS_Ma_18, gMf_62, gS_M49, sS_Ma_49, gMf_0, gMf_12, gMf_40, gMf_13, gMf_56, gMf_63, gMf_64, gMf_75, gMf_80, gMf_87, gMf_88, gMf_96, gMf_97, gMf_99, gMf_35, J_X12_many]
    exact (ok_some hw :)
  replace hw := ok_f hw c7
  by_cases c8 : v1 = 5
  · replace hw := ok_t hw c8
    have c := c8
    refine mj_tsc 5 107 (by rw [show v1 = 5 from c]; decide) (by decide) rfl (by decide) ?_
    simp only [mj_step, mj_W_s, mj_fin, List.getElem?_cons_zero, List.getElem?_cons_succ, mj_go, Nat.reduceAdd, Nat.reduceSub, Nat.reduceLT, Nat.reduceLeDiff, Nat.zero_add, Nat.reduceEqDiff, Nat.reduceBEq, ↓reduceIte, Bool.false_eq_true, List.append_nil, List.nil_append, List.cons_append, Option.toList, and_true, true_and, true_or, or_true, reduceCtorEq, List.map_nil, bI_eq0, bI_eq1, bool_ft, pk_us, vnar0, vnar1, Bool.or_false, Bool.or_true, Bool.false_or, Bool.true_or, mj_kne, eq_self, Int32.reduceLT, Int32.reduceLE, Int32.reduceAdd, Int32.reduceSub, Int32.reduceMul, not_true_eq_false, not_false_eq_true, false_implies, true_implies, D_X12_many_0, D_X12_many_1, mj_F_aload_n_k, mj_F_getfield_i, mj_F_goto_off, mj_F_iadd, mj_F_iaload, mj_F_iconst_n, mj_F_if_icmp_eq_off, mj_F_if_icmp_ge_off, mj_F_iinc_k_n, mj_F_iload_k, mj_F_iload_n_k, mj_F_ireturn, mj_F_istore_k, mj_F_istore_n_k, mj_set, mj_set0, mj_unk, mj_c2, mj_kc, FT_X12, FT_X12_1, gS_M0, gMf_23, gMf_20, gS_M18, sS_Ma_18, gMf_62, gS_M49, sS_Ma_49, gMf_0, gMf_12, gMf_40, gMf_13, gMf_56, gMf_63, gMf_64, gMf_75, gMf_80, gMf_87, gMf_88, gMf_96, gMf_97, gMf_99, gMf_35, J_X12_many]
    exact (ok_some hw :)
  replace hw := ok_f hw c8
  by_cases c9 : v1 = 6
  · replace hw := ok_t hw c9
    have c := c9
    refine mj_tsc 6 112 (by rw [show v1 = 6 from c]; decide) (by decide) rfl (by decide) ?_
    simp only [mj_step, mj_W_s, mj_fin, List.getElem?_cons_zero, List.getElem?_cons_succ, mj_go, Nat.reduceAdd, Nat.reduceSub, Nat.reduceLT, Nat.reduceLeDiff, Nat.zero_add, Nat.reduceEqDiff, Nat.reduceBEq, ↓reduceIte, Bool.false_eq_true, List.append_nil, List.nil_append, List.cons_append, Option.toList, and_true, true_and, true_or, or_true, reduceCtorEq, List.map_nil, bI_eq0, bI_eq1, bool_ft, pk_us, vnar0, vnar1, Bool.or_false, Bool.or_true, Bool.false_or, Bool.true_or, mj_kne, eq_self, Int32.reduceLT, Int32.reduceLE, Int32.reduceAdd, Int32.reduceSub, Int32.reduceMul, not_true_eq_false, not_false_eq_true, false_implies, true_implies, D_X12_many_0, D_X12_many_1, mj_F_aload_n_k, mj_F_getfield_i, mj_F_goto_off, mj_F_iadd, mj_F_iaload, mj_F_iconst_n, mj_F_if_icmp_eq_off, mj_F_if_icmp_ge_off, mj_F_iinc_k_n, mj_F_iload_k, mj_F_iload_n_k, mj_F_ireturn, mj_F_istore_k, mj_F_istore_n_k, mj_set, mj_set0, mj_unk, mj_c2, mj_kc, FT_X12, FT_X12_1, gS_M0, gMf_23, gMf_20, gS_M18, sS_Ma_18, gMf_62, gS_M49, sS_Ma_49, gMf_0, gMf_12, gMf_40, gMf_13, gMf_56, gMf_63, gMf_64, gMf_75, gMf_80, gMf_87, gMf_88, gMf_96, gMf_97, gMf_99, gMf_35, J_X12_many]
    exact (ok_some hw :)
  replace hw := ok_f hw c9
  by_cases c10 : v1 = 7
  · replace hw := ok_t hw c10
    have c := c10
    refine mj_tsc 7 117 (by rw [show v1 = 7 from c]; decide) (by decide) rfl (by decide) ?_
    simp only [mj_step, mj_W_s, mj_fin, List.getElem?_cons_zero, List.getElem?_cons_succ, mj_go, Nat.reduceAdd, Nat.reduceSub, Nat.reduceLT, Nat.reduceLeDiff, Nat.zero_add, Nat.reduceEqDiff, Nat.reduceBEq, ↓reduceIte, Bool.false_eq_true, List.append_nil, List.nil_append, List.cons_append, Option.toList, and_true, true_and, true_or, or_true, reduceCtorEq, List.map_nil, bI_eq0, bI_eq1, bool_ft, pk_us, vnar0, vnar1, Bool.or_false, Bool.or_true, Bool.false_or, Bool.true_or, mj_kne, eq_self, Int32.reduceLT, Int32.reduceLE, Int32.reduceAdd, Int32.reduceSub, Int32.reduceMul, not_true_eq_false, not_false_eq_true, false_implies, true_implies, D_X12_many_0, D_X12_many_1, mj_F_aload_n_k, mj_F_getfield_i, mj_F_goto_off, mj_F_iadd, mj_F_iaload, mj_F_iconst_n, mj_F_if_icmp_eq_off, mj_F_if_icmp_ge_off, mj_F_iinc_k_n, mj_F_iload_k, mj_F_iload_n_k, mj_F_ireturn, mj_F_istore_k, mj_F_istore_n_k, mj_set, mj_set0, mj_unk, mj_c2, mj_kc, FT_X12, FT_X12_1, gS_M0, gMf_23, gMf_20, gS_M18, sS_Ma_18, gMf_62, gS_M49, sS_Ma_49, gMf_0, gMf_12, gMf_40, gMf_13, gMf_56, gMf_63, gMf_64, gMf_75, gMf_80, gMf_87, gMf_88, gMf_96, gMf_97, gMf_99, gMf_35, J_X12_many]
    exact (ok_some hw :)
  replace hw := ok_f hw c10
  by_cases c11 : v1 = 8
  · replace hw := ok_t hw c11
    have c := c11
    refine mj_tsc 8 122 (by rw [show v1 = 8 from c]; decide) (by decide) rfl (by decide) ?_
    simp only [mj_step, mj_W_s, mj_fin, List.getElem?_cons_zero, List.getElem?_cons_succ, mj_go, Nat.reduceAdd, Nat.reduceSub, Nat.reduceLT, Nat.reduceLeDiff, Nat.zero_add, Nat.reduceEqDiff, Nat.reduceBEq, ↓reduceIte, Bool.false_eq_true, List.append_nil, List.nil_append, List.cons_append, Option.toList, and_true, true_and, true_or, or_true, reduceCtorEq, List.map_nil, bI_eq0, bI_eq1, bool_ft, pk_us, vnar0, vnar1, Bool.or_false, Bool.or_true, Bool.false_or, Bool.true_or, mj_kne, eq_self, Int32.reduceLT, Int32.reduceLE, Int32.reduceAdd, Int32.reduceSub, Int32.reduceMul, not_true_eq_false, not_false_eq_true, false_implies, true_implies, D_X12_many_0, D_X12_many_1, mj_F_aload_n_k, mj_F_getfield_i, mj_F_goto_off, mj_F_iadd, mj_F_iaload, mj_F_iconst_n, mj_F_if_icmp_eq_off, mj_F_if_icmp_ge_off, mj_F_iinc_k_n, mj_F_iload_k, mj_F_iload_n_k, mj_F_ireturn, mj_F_istore_k, mj_F_istore_n_k, mj_set, mj_set0, mj_unk, mj_c2, mj_kc, FT_X12, FT_X12_1, gS_M0, gMf_23, gMf_20, gS_M18, sS_Ma_18, gMf_62, gS_M49, sS_Ma_49, gMf_0, gMf_12, gMf_40, gMf_13, gMf_56, gMf_63, gMf_64, gMf_75, gMf_80, gMf_87, gMf_88, gMf_96, gMf_97, gMf_99, gMf_35, J_X12_many]
    exact (ok_some hw :)
  replace hw := ok_f hw c11
  by_cases c12 : v1 = 9
  · replace hw := ok_t hw c12
    have c := c12
    refine mj_tsc 9 127 (by rw [show v1 = 9 from c]; decide) (by decide) rfl (by decide) ?_
    simp only [mj_step, mj_W_s, mj_fin, List.getElem?_cons_zero, List.getElem?_cons_succ, mj_go, Nat.reduceAdd, Nat.reduceSub, Nat.reduceLT, Nat.reduceLeDiff, Nat.zero_add, Nat.reduceEqDiff, Nat.reduceBEq, ↓reduceIte, Bool.false_eq_true, List.append_nil, List.nil_append, List.cons_append, Option.toList, and_true, true_and, true_or, or_true, reduceCtorEq, List.map_nil, bI_eq0, bI_eq1, bool_ft, pk_us, vnar0, vnar1, Bool.or_false, Bool.or_true, Bool.false_or, Bool.true_or, mj_kne, eq_self, Int32.reduceLT, Int32.reduceLE, Int32.reduceAdd, Int32.reduceSub, Int32.reduceMul, not_true_eq_false, not_false_eq_true, false_implies, true_implies, D_X12_many_0, D_X12_many_1, mj_F_aload_n_k, mj_F_getfield_i, mj_F_goto_off, mj_F_iadd, mj_F_iaload, mj_F_iconst_n, mj_F_if_icmp_eq_off, mj_F_if_icmp_ge_off, mj_F_iinc_k_n, mj_F_iload_k, mj_F_iload_n_k, mj_F_ireturn, mj_F_istore_k, mj_F_istore_n_k, mj_set, mj_set0, mj_unk, mj_c2, mj_kc, FT_X12, FT_X12_1, gS_M0, gMf_23, gMf_20, gS_M18, sS_Ma_18, gMf_62, gS_M49, sS_Ma_49, gMf_0, gMf_12, gMf_40, gMf_13, gMf_56, gMf_63, gMf_64, gMf_75, gMf_80, gMf_87, gMf_88, gMf_96, gMf_97, gMf_99, gMf_35, J_X12_many]
    exact (ok_some hw :)
  replace hw := ok_f hw c12
  by_cases c13 : v1 = 10
  · replace hw := ok_t hw c13
    have c := c13
    refine mj_tsc 10 132 (by rw [show v1 = 10 from c]; decide) (by decide) rfl (by decide) ?_
    simp only [mj_step, mj_W_s, mj_fin, List.getElem?_cons_zero, List.getElem?_cons_succ, mj_go, Nat.reduceAdd, Nat.reduceSub, Nat.reduceLT, Nat.reduceLeDiff, Nat.zero_add, Nat.reduceEqDiff, Nat.reduceBEq, ↓reduceIte, Bool.false_eq_true, List.append_nil, List.nil_append, List.cons_append, Option.toList, and_true, true_and, true_or, or_true, reduceCtorEq, List.map_nil, bI_eq0, bI_eq1, bool_ft, pk_us, vnar0, vnar1, Bool.or_false, Bool.or_true, Bool.false_or, Bool.true_or, mj_kne, eq_self, Int32.reduceLT, Int32.reduceLE, Int32.reduceAdd, Int32.reduceSub, Int32.reduceMul, not_true_eq_false, not_false_eq_true, false_implies, true_implies, D_X12_many_0, D_X12_many_1, mj_F_aload_n_k, mj_F_getfield_i, mj_F_goto_off, mj_F_iadd, mj_F_iaload, mj_F_iconst_n, mj_F_if_icmp_eq_off, mj_F_if_icmp_ge_off, mj_F_iinc_k_n, mj_F_iload_k, mj_F_iload_n_k, mj_F_ireturn, mj_F_istore_k, mj_F_istore_n_k, mj_set, mj_set0, mj_unk, mj_c2, mj_kc, FT_X12, FT_X12_1, gS_M0, gMf_23, gMf_20, gS_M18, sS_Ma_18, gMf_62, gS_M49, sS_Ma_49, gMf_0, gMf_12, gMf_40, gMf_13, gMf_56, gMf_63, gMf_64, gMf_75, gMf_80, gMf_87, gMf_88, gMf_96, gMf_97, gMf_99, gMf_35, J_X12_many]
    exact (ok_some hw :)
  replace hw := ok_f hw c13
  by_cases c14 : v1 = 11
  · replace hw := ok_t hw c14
    have c := c14
    refine mj_tsc 11 137 (by rw [show v1 = 11 from c]; decide) (by decide) rfl (by decide) ?_
    simp only [mj_step, mj_W_s, mj_fin, List.getElem?_cons_zero, List.getElem?_cons_succ, mj_go, Nat.reduceAdd, Nat.reduceSub, Nat.reduceLT, Nat.reduceLeDiff, Nat.zero_add, Nat.reduceEqDiff, Nat.reduceBEq, ↓reduceIte, Bool.false_eq_true, List.append_nil, List.nil_append, List.cons_append, Option.toList, and_true, true_and, true_or, or_true, reduceCtorEq, List.map_nil, bI_eq0, bI_eq1, bool_ft, pk_us, vnar0, vnar1, Bool.or_false, Bool.or_true, Bool.false_or, Bool.true_or, mj_kne, eq_self, Int32.reduceLT, Int32.reduceLE, Int32.reduceAdd, Int32.reduceSub, Int32.reduceMul, not_true_eq_false, not_false_eq_true, false_implies, true_implies, D_X12_many_0, D_X12_many_1, mj_F_aload_n_k, mj_F_getfield_i, mj_F_goto_off, mj_F_iadd, mj_F_iaload, mj_F_iconst_n, mj_F_if_icmp_eq_off, mj_F_if_icmp_ge_off, mj_F_iinc_k_n, mj_F_iload_k, mj_F_iload_n_k, mj_F_ireturn, mj_F_istore_k, mj_F_istore_n_k, mj_set, mj_set0, mj_unk, mj_c2, mj_kc, FT_X12, FT_X12_1, gS_M0, gMf_23, gMf_20, gS_M18, sS_Ma_18, gMf_62, gS_M49, sS_Ma_49, gMf_0, gMf_12, gMf_40, gMf_13, gMf_56, gMf_63, gMf_64, gMf_75, gMf_80, gMf_87, gMf_88, gMf_96, gMf_97, gMf_99, gMf_35, J_X12_many]
    exact (ok_some hw :)
  replace hw := ok_f hw c14
  by_cases c15 : v1 = 12
  · replace hw := ok_t hw c15
    have c := c15
    refine mj_tsc 12 142 (by rw [show v1 = 12 from c]; decide) (by decide) rfl (by decide) ?_
    simp only [mj_step, mj_W_s, mj_fin, List.getElem?_cons_zero, List.getElem?_cons_succ, mj_go, Nat.reduceAdd, Nat.reduceSub, Nat.reduceLT, Nat.reduceLeDiff, Nat.zero_add, Nat.reduceEqDiff, Nat.reduceBEq, ↓reduceIte, Bool.false_eq_true, List.append_nil, List.nil_append, List.cons_append, Option.toList, and_true, true_and, true_or, or_true, reduceCtorEq, List.map_nil, bI_eq0, bI_eq1, bool_ft, pk_us, vnar0, vnar1, Bool.or_false, Bool.or_true, Bool.false_or, Bool.true_or, mj_kne, eq_self, Int32.reduceLT, Int32.reduceLE, Int32.reduceAdd, Int32.reduceSub, Int32.reduceMul, not_true_eq_false, not_false_eq_true, false_implies, true_implies, D_X12_many_0, D_X12_many_1, mj_F_aload_n_k, mj_F_getfield_i, mj_F_goto_off, mj_F_iadd, mj_F_iaload, mj_F_iconst_n, mj_F_if_icmp_eq_off, mj_F_if_icmp_ge_off, mj_F_iinc_k_n, mj_F_iload_k, mj_F_iload_n_k, mj_F_ireturn, mj_F_istore_k, mj_F_istore_n_k, mj_set, mj_set0, mj_unk, mj_c2, mj_kc, FT_X12, FT_X12_1, gS_M0, gMf_23, gMf_20, gS_M18, sS_Ma_18, gMf_62, gS_M49, sS_Ma_49, gMf_0, gMf_12, gMf_40, gMf_13, gMf_56, gMf_63, gMf_64, gMf_75, gMf_80, gMf_87, gMf_88, gMf_96, gMf_97, gMf_99, gMf_35, J_X12_many]
    exact (ok_some hw :)
  replace hw := ok_f hw c15
  by_cases c16 : v1 = 13
  · replace hw := ok_t hw c16
    have c := c16
    refine mj_tsc 13 147 (by rw [show v1 = 13 from c]; decide) (by decide) rfl (by decide) ?_
    simp only [mj_step, mj_W_s, mj_fin, List.getElem?_cons_zero, List.getElem?_cons_succ, mj_go, Nat.reduceAdd, Nat.reduceSub, Nat.reduceLT, Nat.reduceLeDiff, Nat.zero_add, Nat.reduceEqDiff, Nat.reduceBEq, ↓reduceIte, Bool.false_eq_true, List.append_nil, List.nil_append, List.cons_append, Option.toList, and_true, true_and, true_or, or_true, reduceCtorEq, List.map_nil, bI_eq0, bI_eq1, bool_ft, pk_us, vnar0, vnar1, Bool.or_false, Bool.or_true, Bool.false_or, Bool.true_or, mj_kne, eq_self, Int32.reduceLT, Int32.reduceLE, Int32.reduceAdd, Int32.reduceSub, Int32.reduceMul, not_true_eq_false, not_false_eq_true, false_implies, true_implies, D_X12_many_0, D_X12_many_1, mj_F_aload_n_k, mj_F_getfield_i, mj_F_goto_off, mj_F_iadd, mj_F_iaload, mj_F_iconst_n, mj_F_if_icmp_eq_off, mj_F_if_icmp_ge_off, mj_F_iinc_k_n, mj_F_iload_k, mj_F_iload_n_k, mj_F_ireturn, mj_F_istore_k, mj_F_istore_n_k, mj_set, mj_set0, mj_unk, mj_c2, mj_kc, FT_X12, FT_X12_1, gS_M0, gMf_23, gMf_20, gS_M18, sS_Ma_18, gMf_62, gS_M49, sS_Ma_49, gMf_0, gMf_12, gMf_40, gMf_13, gMf_56, gMf_63, gMf_64, gMf_75, gMf_80, gMf_87, gMf_88, gMf_96, gMf_97, gMf_99, gMf_35, J_X12_many]
    exact (ok_some hw :)
  replace hw := ok_f hw c16
  by_cases c17 : v1 = 14
  · replace hw := ok_t hw c17
    have c := c17
    refine mj_tsc 14 152 (by rw [show v1 = 14 from c]; decide) (by decide) rfl (by decide) ?_
    simp only [mj_step, mj_W_s, mj_fin, List.getElem?_cons_zero, List.getElem?_cons_succ, mj_go, Nat.reduceAdd, Nat.reduceSub, Nat.reduceLT, Nat.reduceLeDiff, Nat.zero_add, Nat.reduceEqDiff, Nat.reduceBEq, ↓reduceIte, Bool.false_eq_true, List.append_nil, List.nil_append, List.cons_append, Option.toList, and_true, true_and, true_or, or_true, reduceCtorEq, List.map_nil, bI_eq0, bI_eq1, bool_ft, pk_us, vnar0, vnar1, Bool.or_false, Bool.or_true, Bool.false_or, Bool.true_or, mj_kne, eq_self, Int32.reduceLT, Int32.reduceLE, Int32.reduceAdd, Int32.reduceSub, Int32.reduceMul, not_true_eq_false, not_false_eq_true, false_implies, true_implies, D_X12_many_0, D_X12_many_1, mj_F_aload_n_k, mj_F_getfield_i, mj_F_goto_off, mj_F_iadd, mj_F_iaload, mj_F_iconst_n, mj_F_if_icmp_eq_off, mj_F_if_icmp_ge_off, mj_F_iinc_k_n, mj_F_iload_k, mj_F_iload_n_k, mj_F_ireturn, mj_F_istore_k, mj_F_istore_n_k, mj_set, mj_set0, mj_unk, mj_c2, mj_kc, FT_X12, FT_X12_1, gS_M0, gMf_23, gMf_20, gS_M18, sS_Ma_18, gMf_62, gS_M49, sS_Ma_49, gMf_0, gMf_12, gMf_40, gMf_13, gMf_56, gMf_63, gMf_64, gMf_75, gMf_80, gMf_87, gMf_88, gMf_96, gMf_97, gMf_99, gMf_35, J_X12_many]
    exact (ok_some hw :)
  replace hw := ok_f hw c17
  by_cases c18 : v1 = 15
  · replace hw := ok_t hw c18
    have c := c18
    refine mj_tsc 15 157 (by rw [show v1 = 15 from c]; decide) (by decide) rfl (by decide) ?_
    simp only [mj_step, mj_W_s, mj_fin, List.getElem?_cons_zero, List.getElem?_cons_succ, mj_go, Nat.reduceAdd, Nat.reduceSub, Nat.reduceLT, Nat.reduceLeDiff, Nat.zero_add, Nat.reduceEqDiff, Nat.reduceBEq, ↓reduceIte, Bool.false_eq_true, List.append_nil, List.nil_append, List.cons_append, Option.toList, and_true, true_and, true_or, or_true, reduceCtorEq, List.map_nil, bI_eq0, bI_eq1, bool_ft, pk_us, vnar0, vnar1, Bool.or_false, Bool.or_true, Bool.false_or, Bool.true_or, mj_kne, eq_self, Int32.reduceLT, Int32.reduceLE, Int32.reduceAdd, Int32.reduceSub, Int32.reduceMul, not_true_eq_false, not_false_eq_true, false_implies, true_implies, D_X12_many_0, D_X12_many_1, mj_F_aload_n_k, mj_F_getfield_i, mj_F_goto_off, mj_F_iadd, mj_F_iaload, mj_F_iconst_n, mj_F_if_icmp_eq_off, mj_F_if_icmp_ge_off, mj_F_iinc_k_n, mj_F_iload_k, mj_F_iload_n_k, mj_F_ireturn, mj_F_istore_k, mj_F_istore_n_k, mj_set, mj_set0, mj_unk, mj_c2, mj_kc, FT_X12, FT_X12_1, gS_M0, gMf_23, gMf_20, gS_M18, sS_Ma_18, gMf_62, gS_M49, sS_Ma_49, gMf_0, gMf_12, gMf_40, gMf_13, gMf_56, gMf_63, gMf_64, gMf_75, gMf_80, gMf_87, gMf_88, gMf_96, gMf_97, gMf_99, gMf_35, J_X12_many]
    exact (ok_some hw :)
  replace hw := ok_f hw c18
  by_cases c19 : v1 = 16
  · replace hw := ok_t hw c19
    have c := c19
    refine mj_tsc 16 162 (by rw [show v1 = 16 from c]; decide) (by decide) rfl (by decide) ?_
    simp only [mj_step, mj_W_s, mj_fin, List.getElem?_cons_zero, List.getElem?_cons_succ, mj_go, Nat.reduceAdd, Nat.reduceSub, Nat.reduceLT, Nat.reduceLeDiff, Nat.zero_add, Nat.reduceEqDiff, Nat.reduceBEq, ↓reduceIte, Bool.false_eq_true, List.append_nil, List.nil_append, List.cons_append, Option.toList, and_true, true_and, true_or, or_true, reduceCtorEq, List.map_nil, bI_eq0, bI_eq1, bool_ft, pk_us, vnar0, vnar1, Bool.or_false, Bool.or_true, Bool.false_or, Bool.true_or, mj_kne, eq_self, Int32.reduceLT, Int32.reduceLE, Int32.reduceAdd, Int32.reduceSub, Int32.reduceMul, not_true_eq_false, not_false_eq_true, false_implies, true_implies, D_X12_many_0, D_X12_many_1, mj_F_aload_n_k, mj_F_getfield_i, mj_F_goto_off, mj_F_iadd, mj_F_iaload, mj_F_iconst_n, mj_F_if_icmp_eq_off, mj_F_if_icmp_ge_off, mj_F_iinc_k_n, mj_F_iload_k, mj_F_iload_n_k, mj_F_ireturn, mj_F_istore_k, mj_F_istore_n_k, mj_set, mj_set0, mj_unk, mj_c2, mj_kc, FT_X12, FT_X12_1, gS_M0, gMf_23, gMf_20, gS_M18, sS_Ma_18, gMf_62, gS_M49, sS_Ma_49, gMf_0, gMf_12, gMf_40, gMf_13, gMf_56, gMf_63, gMf_64, gMf_75, gMf_80, gMf_87, gMf_88, gMf_96, gMf_97, gMf_99, gMf_35, J_X12_many]
    exact (ok_some hw :)
  replace hw := ok_f hw c19
  by_cases c20 : v1 = 17
  · replace hw := ok_t hw c20
    have c := c20
    refine mj_tsc 17 167 (by rw [show v1 = 17 from c]; decide) (by decide) rfl (by decide) ?_
    simp only [mj_step, mj_W_s, mj_fin, List.getElem?_cons_zero, List.getElem?_cons_succ, mj_go, Nat.reduceAdd, Nat.reduceSub, Nat.reduceLT, Nat.reduceLeDiff, Nat.zero_add, Nat.reduceEqDiff, Nat.reduceBEq, ↓reduceIte, Bool.false_eq_true, List.append_nil, List.nil_append, List.cons_append, Option.toList, and_true, true_and, true_or, or_true, reduceCtorEq, List.map_nil, bI_eq0, bI_eq1, bool_ft, pk_us, vnar0, vnar1, Bool.or_false, Bool.or_true, Bool.false_or, Bool.true_or, mj_kne, eq_self, Int32.reduceLT, Int32.reduceLE, Int32.reduceAdd, Int32.reduceSub, Int32.reduceMul, not_true_eq_false, not_false_eq_true, false_implies, true_implies, D_X12_many_0, D_X12_many_1, mj_F_aload_n_k, mj_F_getfield_i, mj_F_goto_off, mj_F_iadd, mj_F_iaload, mj_F_iconst_n, mj_F_if_icmp_eq_off, mj_F_if_icmp_ge_off, mj_F_iinc_k_n, mj_F_iload_k, mj_F_iload_n_k, mj_F_ireturn, mj_F_istore_k, mj_F_istore_n_k, mj_set, mj_set0, mj_unk, mj_c2, mj_kc, FT_X12, FT_X12_1, gS_M0, gMf_23, gMf_20, gS_M18, sS_Ma_18, gMf_62, gS_M49, sS_Ma_49, gMf_0, gMf_12, gMf_40, gMf_13, gMf_56, gMf_63, gMf_64, gMf_75, gMf_80, gMf_87, gMf_88, gMf_96, gMf_97, gMf_99, gMf_35, J_X12_many]
    exact (ok_some hw :)
  replace hw := ok_f hw c20
  refine mj_tsd (mj_tsr [0, 1, 2, 3, 4, 5, 6, 7, 8, 9, 10, 11, 12, 13, 14, 15, 16, 17] (List.forall_mem_cons.mpr ⟨mj_nt c3 rfl, List.forall_mem_cons.mpr ⟨mj_nt c4 rfl, List.forall_mem_cons.mpr ⟨mj_nt c5 rfl, List.forall_mem_cons.mpr ⟨mj_nt c6 rfl, List.forall_mem_cons.mpr ⟨mj_nt c7 rfl, List.forall_mem_cons.mpr ⟨mj_nt c8 rfl, List.forall_mem_cons.mpr ⟨mj_nt c9 rfl, List.forall_mem_cons.mpr ⟨mj_nt c10 rfl, List.forall_mem_cons.mpr ⟨mj_nt c11 rfl, List.forall_mem_cons.mpr ⟨mj_nt c12 rfl, List.forall_mem_cons.mpr ⟨mj_nt c13 rfl, List.forall_mem_cons.mpr ⟨mj_nt c14 rfl, List.forall_mem_cons.mpr ⟨mj_nt c15 rfl, List.forall_mem_cons.mpr ⟨mj_nt c16 rfl, List.forall_mem_cons.mpr ⟨mj_nt c17 rfl, List.forall_mem_cons.mpr ⟨mj_nt c18 rfl, List.forall_mem_cons.mpr ⟨mj_nt c19 rfl, List.forall_mem_cons.mpr ⟨mj_nt c20 rfl, fun _ h => (nomatch h)⟩⟩⟩⟩⟩⟩⟩⟩⟩⟩⟩⟩⟩⟩⟩⟩⟩⟩) (by decide)) (by decide) ?_
  simp only [mj_step, mj_W_s, mj_fin, List.getElem?_cons_zero, List.getElem?_cons_succ, mj_go, Nat.reduceAdd, Nat.reduceSub, Nat.reduceLT, Nat.reduceLeDiff, Nat.zero_add, Nat.reduceEqDiff, Nat.reduceBEq, ↓reduceIte, Bool.false_eq_true, List.append_nil, List.nil_append, List.cons_append, Option.toList, and_true, true_and, true_or, or_true, reduceCtorEq, List.map_nil, bI_eq0, bI_eq1, bool_ft, pk_us, vnar0, vnar1, Bool.or_false, Bool.or_true, Bool.false_or, Bool.true_or, mj_kne, eq_self, Int32.reduceLT, Int32.reduceLE, Int32.reduceAdd, Int32.reduceSub, Int32.reduceMul, not_true_eq_false, not_false_eq_true, false_implies, true_implies, D_X12_many_0, D_X12_many_1, mj_F_aload_n_k, mj_F_getfield_i, mj_F_goto_off, mj_F_iadd, mj_F_iaload, mj_F_iconst_n, mj_F_if_icmp_eq_off, mj_F_if_icmp_ge_off, mj_F_iinc_k_n, mj_F_iload_k, mj_F_iload_n_k, mj_F_ireturn, mj_F_istore_k, mj_F_istore_n_k, mj_set, mj_set0, mj_unk, mj_c2, mj_kc, FT_X12, FT_X12_1, gS_M0, gMf_23, gMf_20, gS_M18, sS_Ma_18, gMf_62, gS_M49, sS_Ma_49, gMf_0, gMf_12, gMf_40, gMf_13, gMf_56, gMf_63, gMf_64, gMf_75, gMf_80, gMf_87, gMf_88, gMf_96, gMf_97, gMf_99, gMf_35, J_X12_many]
  exact (ok_some hw :)

set_option maxHeartbeats 4000000 in
theorem g_X12_many_44 {k : Option Value → mj_H → Prop} {G : mj_K} (hG : mj_cl2 cX12_many (TbX12 5 ((some FieldType.int)) []) k G)   {v1 : Int32} {v2 : Int32} {v3 : Int32} {v4 : Int32} {s : St} (hw : ok (F_X12_many_44 v1 v2 v3 v4 s) (fun p => k (some (.int p)) (mkMs s))) : G 44 [.ref 0, .int v1, .int v2, .int v3, .int v4] [] (mkMs s) 0 0 := by
  unfold F_X12_many_44 at hw
  refine lp_ok (B_X12_many_44 v1 v2 s) (fun x => G 44 [.ref 0, .int v1, .int v2, .int x.1, .int x.2] [] (mkMs s) 0 0) _ ?_ _ _ (ok_bind hw)
  rintro ⟨v3, v4⟩ hb
  exact b_X12_many_44 hG (fun _ z => z) (fun y hw => by exact hG.2 _ _ _ _ _ _ _ _ _ (by refine ⟨Or.inr rfl, ?_⟩; refine ⟨Or.inr rfl, ?_⟩; refine ⟨Or.inr rfl, ?_⟩; refine ⟨Or.inr rfl, ?_⟩; exact trivial) (Nat.zero_le _) (Nat.zero_le _) (g_X12_many_66 hG  hw :)) hb

set_option maxHeartbeats 4000000 in
set_option maxRecDepth 20000 in
theorem g_X12_many_41 {k : Option Value → mj_H → Prop} {G : mj_K} (hG : mj_cl2 cX12_many (TbX12 5 ((some FieldType.int)) []) k G)   {v1 : Int32} {v2 : Int32} {v3 : Int32} {s : St} (hw : ok (F_X12_many_41 v1 v2 v3 s) (fun p => k (some (.int p)) (mkMs s))) : G 41 [.ref 0, .int v1, .int v2, .int v3] [] (mkMs s) 0 0 := by
  unfold F_X12_many_41 at hw
  refine mj_run hG.1 (fun pc => pc == 7 || pc == 41 || pc == 44 || pc == 66) 4000 ?_
  simp only [mj_step, mj_W_s, mj_fin, List.getElem?_cons_zero, List.getElem?_cons_succ, mj_go, Nat.reduceAdd, Nat.reduceSub, Nat.reduceLT, Nat.reduceLeDiff, Nat.zero_add, Nat.reduceEqDiff, Nat.reduceBEq, ↓reduceIte, Bool.false_eq_true, List.append_nil, List.nil_append, List.cons_append, Option.toList, and_true, true_and, true_or, or_true, reduceCtorEq, List.map_nil, bI_eq0, bI_eq1, bool_ft, pk_us, vnar0, vnar1, Bool.or_false, Bool.or_true, Bool.false_or, Bool.true_or, mj_kne, eq_self, Int32.reduceLT, Int32.reduceLE, Int32.reduceAdd, Int32.reduceSub, Int32.reduceMul, not_true_eq_false, not_false_eq_true, false_implies, true_implies, D_X12_many_0, D_X12_many_1, mj_F_aload_n_k, mj_F_getfield_i, mj_F_goto_off, mj_F_iadd, mj_F_iaload, mj_F_iconst_n, mj_F_if_icmp_eq_off, mj_F_if_icmp_ge_off, mj_F_iinc_k_n, mj_F_iload_k, mj_F_iload_n_k, mj_F_ireturn, mj_F_istore_k, mj_F_istore_n_k, mj_set, mj_set0, mj_unk, mj_c2, mj_kc, FT_X12, FT_X12_1, gS_M0, gMf_23, gMf_20, gS_M18, sS_Ma_18, gMf_62, gS_M49, sS_Ma_49, gMf_0, gMf_12, gMf_40, gMf_13, gMf_56, gMf_63, gMf_64, gMf_75, gMf_80, gMf_87, gMf_88, gMf_96, gMf_97, gMf_99, gMf_35, J_X12_many]
  exact hG.2 _ _ _ _ _ _ _ _ _ (by refine ⟨Or.inr rfl, ?_⟩; refine ⟨Or.inr rfl, ?_⟩; refine ⟨Or.inr rfl, ?_⟩; refine ⟨Or.inr rfl, ?_⟩; refine ⟨Or.inr rfl, ?_⟩; exact trivial) (Nat.zero_le _) (Nat.zero_le _) (g_X12_many_44 hG  hw :)

set_option maxHeartbeats 4000000 in
theorem g_X12_many_7 {k : Option Value → mj_H → Prop} {G : mj_K} (hG : mj_cl2 cX12_many (TbX12 5 ((some FieldType.int)) []) k G)   {v1 : Int32} {v2 : Int32} {v3 : Int32} {v4 : Int32} {s : St} (hw : ok (F_X12_many_7 v1 v2 v3 v4 s) (fun p => k (some (.int p)) (mkMs s))) : G 7 [.ref 0, .int v1, .int v2, .int v3, .int v4] [] (mkMs s) 0 0 := by
  unfold F_X12_many_7 at hw
  refine lp_ok (B_X12_many_7 v1 v3 s) (fun x => G 7 [.ref 0, .int v1, .int x.1, .int v3, .int x.2] [] (mkMs s) 0 0) _ ?_ _ _ (ok_bind hw)
  rintro ⟨v2, v4⟩ hb
  exact b_X12_many_7 hG (fun _ z => z) (fun y hw => by exact hG.2 _ _ _ _ _ _ _ _ _ (by refine ⟨Or.inr rfl, ?_⟩; refine ⟨Or.inr rfl, ?_⟩; refine ⟨Or.inr rfl, ?_⟩; refine ⟨Or.inr rfl, ?_⟩; exact trivial) (Nat.zero_le _) (Nat.zero_le _) (g_X12_many_41 hG  hw :)) hb

set_option maxHeartbeats 4000000 in
set_option maxRecDepth 20000 in
theorem g_X12_many {k : Option Value → mj_H → Prop} {G : mj_K} (hG : mj_cl2 cX12_many (TbX12 5 ((some FieldType.int)) []) k G) {v1 : Int32} {s : St} (hw : ok (F_X12_many v1 s) (fun p => k (some (.int p)) (mkMs s))) : G 0 [.ref 0, .int v1] [] (mkMs s) 0 0 := by
  unfold F_X12_many at hw
  refine mj_run hG.1 (fun pc => pc == 7 || pc == 41 || pc == 44 || pc == 66) 4000 ?_
  simp only [mj_step, mj_W_s, mj_fin, List.getElem?_cons_zero, List.getElem?_cons_succ, mj_go, Nat.reduceAdd, Nat.reduceSub, Nat.reduceLT, Nat.reduceLeDiff, Nat.zero_add, Nat.reduceEqDiff, Nat.reduceBEq, ↓reduceIte, Bool.false_eq_true, List.append_nil, List.nil_append, List.cons_append, Option.toList, and_true, true_and, true_or, or_true, reduceCtorEq, List.map_nil, bI_eq0, bI_eq1, bool_ft, pk_us, vnar0, vnar1, Bool.or_false, Bool.or_true, Bool.false_or, Bool.true_or, mj_kne, eq_self, Int32.reduceLT, Int32.reduceLE, Int32.reduceAdd, Int32.reduceSub, Int32.reduceMul, not_true_eq_false, not_false_eq_true, false_implies, true_implies, D_X12_many_0, D_X12_many_1, mj_F_aload_n_k, mj_F_getfield_i, mj_F_goto_off, mj_F_iadd, mj_F_iaload, mj_F_iconst_n, mj_F_if_icmp_eq_off, mj_F_if_icmp_ge_off, mj_F_iinc_k_n, mj_F_iload_k, mj_F_iload_n_k, mj_F_ireturn, mj_F_istore_k, mj_F_istore_n_k, mj_set, mj_set0, mj_unk, mj_c2, mj_kc, FT_X12, FT_X12_1, gS_M0, gMf_23, gMf_20, gS_M18, sS_Ma_18, gMf_62, gS_M49, sS_Ma_49, gMf_0, gMf_12, gMf_40, gMf_13, gMf_56, gMf_63, gMf_64, gMf_75, gMf_80, gMf_87, gMf_88, gMf_96, gMf_97, gMf_99, gMf_35, J_X12_many]
  exact hG.2 _ _ _ _ _ _ _ _ _ (by refine ⟨Or.inr rfl, ?_⟩; refine ⟨Or.inr rfl, ?_⟩; refine ⟨Or.inr rfl, ?_⟩; refine ⟨Or.inr rfl, ?_⟩; refine ⟨Or.inr rfl, ?_⟩; exact trivial) (Nat.zero_le _) (Nat.zero_le _) (g_X12_many_7 hG  hw :)

def c_X12_many : mj_S := fun as h k => ∃ (v1 : Int32) (s : St), as = [.ref 0, .int v1] ∧ h = mkMs s ∧ ok (F_X12_many v1 s) (fun p => k (some (.int p)) (mkMs s))
theorem c_X12_many_in {v1 : Int32} {s : St} {k : Option Value → mj_H → Prop} (hw : ok (F_X12_many v1 s) (fun p => k (some (.int p)) (mkMs s))) : c_X12_many [.ref 0, .int v1] (mkMs s) k := ⟨v1, s, rfl, rfl, hw⟩
theorem m_X12_many (l : Launch) : mj_Met l yX12_many cX12_many 5 ((some FieldType.int)) 0 0 0 c_X12_many := by
  refine mj_body2 false (TbX12 5 ((some FieldType.int)) []) (by decide) rfl rfl (fun h => nomatch h) (tfX12 _ (fun _ h => nomatch h)) ?_
  rintro as h k ⟨v1, s, rfl, rfl, hw⟩
  exact ⟨rfl, fun G hG => g_X12_many hG hw⟩
