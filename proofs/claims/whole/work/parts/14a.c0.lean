/-! functional pictures, and that the bytecode keeps them (c0) -/
def B_X10_bring_2 (v1 : Int32) : Int32 × St → Option ((Int32 × St) ⊕ ((St)))
  | (v2, s) =>
  if (s.1 1004) ≤ v2 then
    some (.inr s)
  else
    (rd s 1007 8 v2).bind fun x1 =>
    (rd s 1008 8 v2).bind fun x2 =>
    if inb v1 x1 x2 = false then
      some (.inl ((v2 + 1), s))
    else
      (rd s 1005 8 v2).bind fun x3 =>
      (rd s 1011 5 x3).bind fun x4 =>
      (rd s 1006 8 v2).bind fun x5 =>
      (wr s 1011 5 x3 (x4 + x5)).bind fun s6 =>
      some (.inl ((v2 + 1), s6))
def F_X10_bring_55 (s : St) : Option (St) :=
  some s
def F_X10_bring_2 (v1 : Int32) (v2 : Int32) (s : St) : Option (St) :=
  (lp (B_X10_bring_2 v1) FU (v2, s)).bind (fun y => F_X10_bring_55 y)
def F_X10_bring (v1 : Int32) (s : St) : Option (St) :=
  F_X10_bring_2 v1 0 s
theorem J_X10_bring : mj_t 7 48 = 55 ∧ mj_t 26 23 = 49 ∧ mj_t 52 (-50) = 2 ∧ (0 ≤ ((7 : Nat) : Int) + 48) = True ∧ (0 ≤ ((26 : Nat) : Int) + 23) = True ∧ (0 ≤ ((52 : Nat) : Int) + (-50)) = True := by and_intros <;> first | rfl | exact eq_true (by decide)
def ct_X10_bring : List (Nat × mj_Cs) := [(69, 3, 3, 11, 0, 0, c_in)]
theorem L_X10_bring : mj_lk ct_X10_bring 69 = some (3, 3, 11, 0, 0, c_in) := rfl
set_option maxHeartbeats 4000000 in
set_option maxRecDepth 20000 in
theorem b_X10_bring_2 {k : Option Value → mj_H → Prop} {G : mj_K} (hG : mj_cl2 cX10_bring (TbX10 3 (none) ct_X10_bring) k G) {v1 : Int32} {P : Int32 × St → Prop} {K : (St) → Prop} (hP : ∀ x, P x → G 2 [.ref 45, .int v1, .int x.1] [] (mkCs x.2) 0 0) (hK0 : ∀ y, K y → G 55 [] [] (mkCs y) 0 0) {v2 : Int32} {s : St} (hw : ok (B_X10_bring_2 v1 (v2, s)) (Sum.elim P K)) : G 2 [.ref 45, .int v1, .int v2] [] (mkCs s) 0 0 := by
  unfold B_X10_bring_2 at hw
  refine mj_run hG.1 (fun pc => pc == 2 || pc == 55) 4000 ?_
  simp only [mj_step, mj_W_s, mj_fin, List.getElem?_cons_zero, List.getElem?_cons_succ, mj_go, Nat.reduceAdd, Nat.reduceSub, Nat.reduceLT, Nat.reduceLeDiff, Nat.zero_add, Nat.reduceEqDiff, Nat.reduceBEq, ↓reduceIte, Bool.false_eq_true, List.append_nil, List.nil_append, List.cons_append, Option.toList, and_true, true_and, true_or, or_true, reduceCtorEq, List.map_nil, bI_eq0, bI_eq1, bool_ft, pk_us, Bool.or_false, Bool.or_true, Bool.false_or, Bool.true_or, mj_kne, eq_self, Int32.reduceLT, Int32.reduceLE, Int32.reduceAdd, Int32.reduceSub, Int32.reduceMul, not_true_eq_false, not_false_eq_true, false_implies, true_implies, D_X10_bring, mj_F_aload_n_k, mj_F_dup2, mj_F_getfield_i, mj_F_goto_off, mj_F_iadd, mj_F_iaload, mj_F_iastore, mj_F_iconst_n, mj_F_ifCond_eq_off, mj_F_if_icmp_ge_off, mj_F_iinc_k_n, mj_F_iload_n_k, mj_F_invokestatic_i, mj_F_istore_n_k, mj_F_return_, mj_set, mj_set0, mj_unk, mj_c2, mj_kc, FT_X10, L_X10_bring, List.take_succ_cons, List.take_zero, List.drop_succ_cons, List.drop_zero, List.reverse_cons, List.reverse_nil, List.length_cons, List.length_nil, gS_C45, gCf10_4, gCf10_7, gS_C48, sS_Ca_48, gCf10_8, gS_C49, sS_Ca_49, gCf10_11, gS_C51, sS_Ca_51, gCf10_5, gS_C46, sS_Ca_46, gCf10_6, gS_C47, sS_Ca_47, c_in_eq, J_X10_bring]
  refine ⟨fun c => ?_, fun c => ?_⟩
  · replace hw := ok_t hw c
    exact hG.2 _ _ _ _ _ _ _ _ _ (by exact trivial) (Nat.zero_le _) (Nat.zero_le _) (hK0 _ (ok_some hw :) :)
  · replace hw := ok_f hw c
    refine ⟨(ok_rd hw).1, ?_⟩
    replace hw := (ok_rd hw).2
    refine ⟨(ok_rd hw).1, ?_⟩
    replace hw := (ok_rd hw).2
    refine ⟨fun c => ?_, fun c => ?_⟩
    · replace hw := ok_t hw c
      exact hG.2 _ _ _ _ _ _ _ _ _ (by refine ⟨Or.inr rfl, ?_⟩; refine ⟨Or.inr rfl, ?_⟩; refine ⟨Or.inr rfl, ?_⟩; exact trivial) (Nat.zero_le _) (Nat.zero_le _) (hP _ (ok_some hw :) :)
    · replace hw := ok_f hw c
      refine ⟨(ok_rd hw).1, ?_⟩
      replace hw := (ok_rd hw).2
      refine ⟨(ok_rd hw).1, ?_⟩
      replace hw := (ok_rd hw).2
      refine ⟨(ok_rd hw).1, ?_⟩
      replace hw := (ok_rd hw).2
      refine ⟨(ok_wr hw).1, ?_⟩
      replace hw := (ok_wr hw).2
      exact hG.2 _ _ _ _ _ _ _ _ _ (by refine ⟨Or.inr rfl, ?_⟩; refine ⟨Or.inr rfl, ?_⟩; refine ⟨Or.inr rfl, ?_⟩; exact trivial) (Nat.zero_le _) (Nat.zero_le _) (hP _ (ok_some hw :) :)

set_option maxHeartbeats 4000000 in
set_option maxRecDepth 20000 in
theorem g_X10_bring_55 {k : Option Value → mj_H → Prop} {G : mj_K} (hG : mj_cl2 cX10_bring (TbX10 3 (none) ct_X10_bring) k G)   {s : St} (hw : ok (F_X10_bring_55 s) (fun p => k none (mkCs p))) : G 55 [] [] (mkCs s) 0 0 := by
  unfold F_X10_bring_55 at hw
  refine mj_run hG.1 (fun pc => pc == 2 || pc == 55) 4000 ?_
  simp only [mj_step, mj_W_s, mj_fin, List.getElem?_cons_zero, List.getElem?_cons_succ, mj_go, Nat.reduceAdd, Nat.reduceSub, Nat.reduceLT, Nat.reduceLeDiff, Nat.zero_add, Nat.reduceEqDiff, Nat.reduceBEq, ↓reduceIte, Bool.false_eq_true, List.append_nil, List.nil_append, List.cons_append, Option.toList, and_true, true_and, true_or, or_true, reduceCtorEq, List.map_nil, bI_eq0, bI_eq1, bool_ft, pk_us, Bool.or_false, Bool.or_true, Bool.false_or, Bool.true_or, mj_kne, eq_self, Int32.reduceLT, Int32.reduceLE, Int32.reduceAdd, Int32.reduceSub, Int32.reduceMul, not_true_eq_false, not_false_eq_true, false_implies, true_implies, D_X10_bring, mj_F_aload_n_k, mj_F_dup2, mj_F_getfield_i, mj_F_goto_off, mj_F_iadd, mj_F_iaload, mj_F_iastore, mj_F_iconst_n, mj_F_ifCond_eq_off, mj_F_if_icmp_ge_off, mj_F_iinc_k_n, mj_F_iload_n_k, mj_F_invokestatic_i, mj_F_istore_n_k, mj_F_return_, mj_set, mj_set0, mj_unk, mj_c2, mj_kc, FT_X10, L_X10_bring, List.take_succ_cons, List.take_zero, List.drop_succ_cons, List.drop_zero, List.reverse_cons, List.reverse_nil, List.length_cons, List.length_nil, gS_C45, gCf10_4, gCf10_7, gS_C48, sS_Ca_48, gCf10_8, gS_C49, sS_Ca_49, gCf10_11, gS_C51, sS_Ca_51, gCf10_5, gS_C46, sS_Ca_46, gCf10_6, gS_C47, sS_Ca_47, c_in_eq, J_X10_bring]
  exact (ok_some hw :)

set_option maxHeartbeats 4000000 in
theorem g_X10_bring_2 {k : Option Value → mj_H → Prop} {G : mj_K} (hG : mj_cl2 cX10_bring (TbX10 3 (none) ct_X10_bring) k G)   {v1 : Int32} {v2 : Int32} {s : St} (hw : ok (F_X10_bring_2 v1 v2 s) (fun p => k none (mkCs p))) : G 2 [.ref 45, .int v1, .int v2] [] (mkCs s) 0 0 := by
  unfold F_X10_bring_2 at hw
  refine lp_ok (B_X10_bring_2 v1) (fun x => G 2 [.ref 45, .int v1, .int x.1] [] (mkCs x.2) 0 0) _ ?_ _ _ (ok_bind hw)
  rintro ⟨v2, s⟩ hb
  exact b_X10_bring_2 hG (fun _ z => z) (fun y hw => by exact hG.2 _ _ _ _ _ _ _ _ _ (by exact trivial) (Nat.zero_le _) (Nat.zero_le _) (g_X10_bring_55 hG  hw :)) hb

set_option maxHeartbeats 4000000 in
set_option maxRecDepth 20000 in
theorem g_X10_bring {k : Option Value → mj_H → Prop} {G : mj_K} (hG : mj_cl2 cX10_bring (TbX10 3 (none) ct_X10_bring) k G) {v1 : Int32} {s : St} (hw : ok (F_X10_bring v1 s) (fun p => k none (mkCs p))) : G 0 [.ref 45, .int v1] [] (mkCs s) 0 0 := by
  unfold F_X10_bring at hw
  refine mj_run hG.1 (fun pc => pc == 2 || pc == 55) 4000 ?_
  simp only [mj_step, mj_W_s, mj_fin, List.getElem?_cons_zero, List.getElem?_cons_succ, mj_go, Nat.reduceAdd, Nat.reduceSub, Nat.reduceLT, Nat.reduceLeDiff, Nat.zero_add, Nat.reduceEqDiff, Nat.reduceBEq, ↓reduceIte, Bool.false_eq_true, List.append_nil, List.nil_append, List.cons_append, Option.toList, and_true, true_and, true_or, or_true, reduceCtorEq, List.map_nil, bI_eq0, bI_eq1, bool_ft, pk_us, Bool.or_false, Bool.or_true, Bool.false_or, Bool.true_or, mj_kne, eq_self, Int32.reduceLT, Int32.reduceLE, Int32.reduceAdd, Int32.reduceSub, Int32.reduceMul, not_true_eq_false, not_false_eq_true, false_implies, true_implies, D_X10_bring, mj_F_aload_n_k, mj_F_dup2, mj_F_getfield_i, mj_F_goto_off, mj_F_iadd, mj_F_iaload, mj_F_iastore, mj_F_iconst_n, mj_F_ifCond_eq_off, mj_F_if_icmp_ge_off, mj_F_iinc_k_n, mj_F_iload_n_k, mj_F_invokestatic_i, mj_F_istore_n_k, mj_F_return_, mj_set, mj_set0, mj_unk, mj_c2, mj_kc, FT_X10, L_X10_bring, List.take_succ_cons, List.take_zero, List.drop_succ_cons, List.drop_zero, List.reverse_cons, List.reverse_nil, List.length_cons, List.length_nil, gS_C45, gCf10_4, gCf10_7, gS_C48, sS_Ca_48, gCf10_8, gS_C49, sS_Ca_49, gCf10_11, gS_C51, sS_Ca_51, gCf10_5, gS_C46, sS_Ca_46, gCf10_6, gS_C47, sS_Ca_47, c_in_eq, J_X10_bring]
  exact hG.2 _ _ _ _ _ _ _ _ _ (by refine ⟨Or.inr rfl, ?_⟩; refine ⟨Or.inr rfl, ?_⟩; refine ⟨Or.inr rfl, ?_⟩; exact trivial) (Nat.zero_le _) (Nat.zero_le _) (g_X10_bring_2 hG  hw :)

def c_X10_bring : mj_S := fun as h k => ∃ (v1 : Int32) (s : St), as = [.ref 45, .int v1] ∧ h = mkCs s ∧ ok (F_X10_bring v1 s) (fun p => k none (mkCs p))
theorem c_X10_bring_in {v1 : Int32} {s : St} {k : Option Value → mj_H → Prop} (hw : ok (F_X10_bring v1 s) (fun p => k none (mkCs p))) : c_X10_bring [.ref 45, .int v1] (mkCs s) k := ⟨v1, s, rfl, rfl, hw⟩
theorem m_X10_bring (l : Launch) : mj_Met l yX10_bring cX10_bring 3 (none) 1 0 0 c_X10_bring := by
  refine mj_body2 false (TbX10 3 (none) ct_X10_bring) (by decide) rfl rfl (fun h => nomatch h) (tfX10 _ (List.forall_mem_cons.mpr ⟨cfX10_69 (m_X11_within l) (by decide), fun _ h => nomatch h⟩)) ?_
  rintro as h k ⟨v1, s, rfl, rfl, hw⟩
  exact ⟨rfl, fun G hG => g_X10_bring hG hw⟩
def F_X2_isWet (v1 : Int32) (s : St) : Option (Int32) :=
  if inb v1 0 600 = false then
    some 0
  else
    (rd s 202 601 v1).bind fun x1 =>
    if x1 = 0 then
      some 0
    else
      some 1
theorem J_X2_isWet : mj_t 8 16 = 24 ∧ mj_t 17 7 = 24 ∧ mj_t 21 4 = 25 ∧ (0 ≤ ((8 : Nat) : Int) + 16) = True ∧ (0 ≤ ((17 : Nat) : Int) + 7) = True ∧ (0 ≤ ((21 : Nat) : Int) + 4) = True := by and_intros <;> first | rfl | exact eq_true (by decide)
def ct_X2_isWet : List (Nat × mj_Cs) := [(42, 3, 3, 11, 0, 0, c_in)]
theorem L_X2_isWet : mj_lk ct_X2_isWet 42 = some (3, 3, 11, 0, 0, c_in) := rfl
set_option maxHeartbeats 4000000 in
set_option maxRecDepth 20000 in
theorem g_X2_isWet {k : Option Value → mj_H → Prop} {G : mj_K} (hG : mj_cl2 cX2_isWet (TbX2 2 ((some FieldType.boolean)) ct_X2_isWet) k G) {v1 : Int32} {s : St} (hw : ok (F_X2_isWet v1 s) (fun p => k (some (.int p)) (mkCs s))) : G 0 [.ref 1, .int v1] [] (mkCs s) 0 0 := by
  unfold F_X2_isWet at hw
  refine mj_run hG.1 (fun _ => false) 4000 ?_
  simp only [mj_step, mj_W_s, mj_fin, List.getElem?_cons_zero, List.getElem?_cons_succ, mj_go, Nat.reduceAdd, Nat.reduceSub, Nat.reduceLT, Nat.reduceLeDiff, Nat.zero_add, Nat.reduceEqDiff, Nat.reduceBEq, ↓reduceIte, Bool.false_eq_true, List.append_nil, List.nil_append, List.cons_append, Option.toList, and_true, true_and, true_or, or_true, reduceCtorEq, List.map_nil, bI_eq0, bI_eq1, bool_ft, pk_us, Bool.or_false, Bool.or_true, Bool.false_or, Bool.true_or, mj_kne, eq_self, Int32.reduceLT, Int32.reduceLE, Int32.reduceAdd, Int32.reduceSub, Int32.reduceMul, not_true_eq_false, not_false_eq_true, false_implies, true_implies, D_X2_isWet, mj_F_aload_n_k, mj_F_baload, mj_F_getfield_i, mj_F_goto_off, mj_F_iconst_n, mj_F_ifCond_eq_off, mj_F_iload_n_k, mj_F_invokestatic_i, mj_F_ireturn, mj_F_sipush_n, mj_kc, FT_X2, L_X2_isWet, List.take_succ_cons, List.take_zero, List.drop_succ_cons, List.drop_zero, List.reverse_cons, List.reverse_nil, List.length_cons, List.length_nil, gS_C1, gCf2_2, gS_C4, sS_Ca_4, c_in_eq, J_X2_isWet]
  refine ⟨fun c => ?_, fun c => ?_⟩
  · replace hw := ok_t hw c
    exact (ok_some hw :)
  · replace hw := ok_f hw c
    refine ⟨(ok_rd hw).1, ?_⟩
    replace hw := (ok_rd hw).2
    refine ⟨fun c => ?_, fun c => ?_⟩
    · replace hw := ok_t hw c
      exact (ok_some hw :)
    · replace hw := ok_f hw c
      exact (ok_some hw :)

def c_X2_isWet : mj_S := fun as h k => ∃ (v1 : Int32) (s : St), as = [.ref 1, .int v1] ∧ h = mkCs s ∧ ok (F_X2_isWet v1 s) (fun p => k (some (.int p)) (mkCs s))
theorem c_X2_isWet_in {v1 : Int32} {s : St} {k : Option Value → mj_H → Prop} (hw : ok (F_X2_isWet v1 s) (fun p => k (some (.int p)) (mkCs s))) : c_X2_isWet [.ref 1, .int v1] (mkCs s) k := ⟨v1, s, rfl, rfl, hw⟩
theorem m_X2_isWet (l : Launch) : mj_Met l yX2_isWet cX2_isWet 2 ((some FieldType.boolean)) 1 0 0 c_X2_isWet := by
  refine mj_body2 false (TbX2 2 ((some FieldType.boolean)) ct_X2_isWet) (by decide) rfl rfl (fun h => nomatch h) (tfX2 _ (List.forall_mem_cons.mpr ⟨cfX2_42 (m_X11_within l) (by decide), fun _ h => nomatch h⟩)) ?_
  rintro as h k ⟨v1, s, rfl, rfl, hw⟩
  exact ⟨rfl, fun G hG => g_X2_isWet hG hw⟩
def F_X2_isShutWet (v1 : Int32) (s : St) : Option (Int32) :=
  if inb v1 0 119 = false then
    some 0
  else
    (rd s 201 120 v1).bind fun x1 =>
    if x1 = 0 then
      some 1
    else
      some 0
theorem J_X2_isShutWet : mj_t 4 16 = 20 ∧ mj_t 13 7 = 20 ∧ mj_t 17 4 = 21 ∧ (0 ≤ ((4 : Nat) : Int) + 16) = True ∧ (0 ≤ ((13 : Nat) : Int) + 7) = True ∧ (0 ≤ ((17 : Nat) : Int) + 4) = True := by and_intros <;> first | rfl | exact eq_true (by decide)
def ct_X2_isShutWet : List (Nat × mj_Cs) := [(46, 3, 1, 11, 0, 0, c_isCell)]
theorem L_X2_isShutWet : mj_lk ct_X2_isShutWet 46 = some (3, 1, 11, 0, 0, c_isCell) := rfl
set_option maxHeartbeats 4000000 in
set_option maxRecDepth 20000 in
theorem g_X2_isShutWet {k : Option Value → mj_H → Prop} {G : mj_K} (hG : mj_cl2 cX2_isShutWet (TbX2 2 ((some FieldType.boolean)) ct_X2_isShutWet) k G) {v1 : Int32} {s : St} (hw : ok (F_X2_isShutWet v1 s) (fun p => k (some (.int p)) (mkCs s))) : G 0 [.ref 1, .int v1] [] (mkCs s) 0 0 := by
  unfold F_X2_isShutWet at hw
  refine mj_run hG.1 (fun _ => false) 4000 ?_
  simp only [mj_step, mj_W_s, mj_fin, List.getElem?_cons_zero, List.getElem?_cons_succ, mj_go, Nat.reduceAdd, Nat.reduceSub, Nat.reduceLT, Nat.reduceLeDiff, Nat.zero_add, Nat.reduceEqDiff, Nat.reduceBEq, ↓reduceIte, Bool.false_eq_true, List.append_nil, List.nil_append, List.cons_append, Option.toList, and_true, true_and, true_or, or_true, reduceCtorEq, List.map_nil, bI_eq0, bI_eq1, bool_ft, pk_us, Bool.or_false, Bool.or_true, Bool.false_or, Bool.true_or, mj_kne, eq_self, Int32.reduceLT, Int32.reduceLE, Int32.reduceAdd, Int32.reduceSub, Int32.reduceMul, not_true_eq_false, not_false_eq_true, false_implies, true_implies, D_X2_isShutWet, mj_F_aload_n_k, mj_F_getfield_i, mj_F_goto_off, mj_F_iaload, mj_F_iconst_n, mj_F_ifCond_eq_off, mj_F_ifCond_ne_off, mj_F_iload_n_k, mj_F_invokestatic_i, mj_F_ireturn, mj_kc, FT_X2, L_X2_isShutWet, List.take_succ_cons, List.take_zero, List.drop_succ_cons, List.drop_zero, List.reverse_cons, List.reverse_nil, List.length_cons, List.length_nil, gS_C1, gCf2_1, gS_C3, sS_Ca_3, c_isCell_eq, J_X2_isShutWet]
  refine ⟨fun c => ?_, fun c => ?_⟩
  · replace hw := ok_t hw c
    exact (ok_some hw :)
  · replace hw := ok_f hw c
    refine ⟨(ok_rd hw).1, ?_⟩
    replace hw := (ok_rd hw).2
    refine ⟨fun c => ?_, fun c => ?_⟩
    · replace hw := ok_f hw c
      exact (ok_some hw :)
    · replace hw := ok_t hw c
      exact (ok_some hw :)

def c_X2_isShutWet : mj_S := fun as h k => ∃ (v1 : Int32) (s : St), as = [.ref 1, .int v1] ∧ h = mkCs s ∧ ok (F_X2_isShutWet v1 s) (fun p => k (some (.int p)) (mkCs s))
theorem c_X2_isShutWet_in {v1 : Int32} {s : St} {k : Option Value → mj_H → Prop} (hw : ok (F_X2_isShutWet v1 s) (fun p => k (some (.int p)) (mkCs s))) : c_X2_isShutWet [.ref 1, .int v1] (mkCs s) k := ⟨v1, s, rfl, rfl, hw⟩
theorem m_X2_isShutWet (l : Launch) : mj_Met l yX2_isShutWet cX2_isShutWet 2 ((some FieldType.boolean)) 2 0 0 c_X2_isShutWet := by
  refine mj_body2 false (TbX2 2 ((some FieldType.boolean)) ct_X2_isShutWet) (by decide) rfl rfl (fun h => nomatch h) (tfX2 _ (List.forall_mem_cons.mpr ⟨cfX2_46 (m_X11_isCell l) (by decide), fun _ h => nomatch h⟩)) ?_
  rintro as h k ⟨v1, s, rfl, rfl, hw⟩
  exact ⟨rfl, fun G hG => g_X2_isShutWet hG hw⟩
def B_X10_canBeServed_2 (v1 : Int32) (s : St) : Int32 → Option ((Int32) ⊕ ((Unit) ⊕ (Unit)))
  | v2 =>
  if 5 ≤ v2 then
    some (.inr (.inl ()))
  else
    (rd s 1012 100 ((v1 * 5) + v2)).bind fun x1 =>
    if x1 ≤ 0 then
      some (.inl (v2 + 1))
    else
      (rd s 1011 5 v2).bind fun x2 =>
      if x2 ≤ 0 then
        some (.inl (v2 + 1))
      else
        some (.inr (.inr ()))
def F_X10_canBeServed_37 (s : St) : Option (Int32) :=
  some 0
def F_X10_canBeServed_29 (s : St) : Option (Int32) :=
  some 1
def F_X10_canBeServed_2 (v1 : Int32) (v2 : Int32) (s : St) : Option (Int32) :=
  (lp (B_X10_canBeServed_2 v1 s) FU v2).bind (Sum.elim (fun _ => F_X10_canBeServed_37 s) (fun _ => F_X10_canBeServed_29 s))
def F_X10_canBeServed (v1 : Int32) (s : St) : Option (Int32) :=
  F_X10_canBeServed_2 v1 0 s
theorem J_X10_canBeServed : mj_t 4 33 = 37 ∧ mj_t 17 14 = 31 ∧ mj_t 26 5 = 31 ∧ mj_t 34 (-32) = 2 ∧ (0 ≤ ((4 : Nat) : Int) + 33) = True ∧ (0 ≤ ((17 : Nat) : Int) + 14) = True ∧ (0 ≤ ((26 : Nat) : Int) + 5) = True ∧ (0 ≤ ((34 : Nat) : Int) + (-32)) = True := by and_intros <;> first | rfl | exact eq_true (by decide)
set_option maxHeartbeats 4000000 in
set_option maxRecDepth 20000 in
theorem b_X10_canBeServed_2 {k : Option Value → mj_H → Prop} {G : mj_K} (hG : mj_cl2 cX10_canBeServed (TbX10 3 ((some FieldType.boolean)) []) k G) {v1 : Int32} {s : St} {P : Int32 → Prop} {K : (Unit) ⊕ (Unit) → Prop} (hP : ∀ x, P x → G 2 [.ref 45, .int v1, .int x] [] (mkCs s) 0 0) (hK0 : ∀ y, K (.inl y) → G 37 [] [] (mkCs s) 0 0) (hK1 : ∀ y, K (.inr y) → G 29 [] [] (mkCs s) 0 0) {v2 : Int32} (hw : ok (B_X10_canBeServed_2 v1 s v2) (Sum.elim P K)) : G 2 [.ref 45, .int v1, .int v2] [] (mkCs s) 0 0 := by
  unfold B_X10_canBeServed_2 at hw
  refine mj_run hG.1 (fun pc => pc == 2 || pc == 29 || pc == 37) 4000 ?_
  simp only [mj_step, mj_W_s, mj_fin, List.getElem?_cons_zero, List.getElem?_cons_succ, mj_go, Nat.reduceAdd, Nat.reduceSub, Nat.reduceLT, Nat.reduceLeDiff, Nat.zero_add, Nat.reduceEqDiff, Nat.reduceBEq, ↓reduceIte, Bool.false_eq_true, List.append_nil, List.nil_append, List.cons_append, Option.toList, and_true, true_and, true_or, or_true, reduceCtorEq, List.map_nil, bI_eq0, bI_eq1, bool_ft, pk_us, Bool.or_false, Bool.or_true, Bool.false_or, Bool.true_or, mj_kne, eq_self, Int32.reduceLT, Int32.reduceLE, Int32.reduceAdd, Int32.reduceSub, Int32.reduceMul, not_true_eq_false, not_false_eq_true, false_implies, true_implies, D_X10_canBeServed, mj_F_aload_n_k, mj_F_getfield_i, mj_F_goto_off, mj_F_iadd, mj_F_iaload, mj_F_iconst_n, mj_F_ifCond_le_off, mj_F_if_icmp_ge_off, mj_F_iinc_k_n, mj_F_iload_n_k, mj_F_imul, mj_F_ireturn, mj_F_istore_n_k, mj_set, mj_set0, mj_unk, mj_c2, mj_kc, FT_X10, gS_C45, gCf10_12, gS_C52, sS_Ca_52, gCf10_11, gS_C51, sS_Ca_51, J_X10_canBeServed]
  refine ⟨fun c => ?_, fun c => ?_⟩
  · replace hw := ok_t hw c
    exact hG.2 _ _ _ _ _ _ _ _ _ (by exact trivial) (Nat.zero_le _) (Nat.zero_le _) (hK0 _ (ok_some hw :) :)
  · replace hw := ok_f hw c
    refine ⟨(ok_rd hw).1, ?_⟩
    replace hw := (ok_rd hw).2
    refine ⟨fun c => ?_, fun c => ?_⟩
    · replace hw := ok_t hw c
      exact hG.2 _ _ _ _ _ _ _ _ _ (by refine ⟨Or.inr rfl, ?_⟩; refine ⟨Or.inr rfl, ?_⟩; refine ⟨Or.inr rfl, ?_⟩; exact trivial) (Nat.zero_le _) (Nat.zero_le _) (hP _ (ok_some hw :) :)
    · replace hw := ok_f hw c
      refine ⟨(ok_rd hw).1, ?_⟩
      replace hw := (ok_rd hw).2
      refine ⟨fun c => ?_, fun c => ?_⟩
      · replace hw := ok_t hw c
        exact hG.2 _ _ _ _ _ _ _ _ _ (by refine ⟨Or.inr rfl, ?_⟩; refine ⟨Or.inr rfl, ?_⟩; refine ⟨Or.inr rfl, ?_⟩; exact trivial) (Nat.zero_le _) (Nat.zero_le _) (hP _ (ok_some hw :) :)
      · replace hw := ok_f hw c
        exact hG.2 _ _ _ _ _ _ _ _ _ (by exact trivial) (Nat.zero_le _) (Nat.zero_le _) (hK1 _ (ok_some hw :) :)

set_option maxHeartbeats 4000000 in
set_option maxRecDepth 20000 in
theorem g_X10_canBeServed_37 {k : Option Value → mj_H → Prop} {G : mj_K} (hG : mj_cl2 cX10_canBeServed (TbX10 3 ((some FieldType.boolean)) []) k G)   {s : St} (hw : ok (F_X10_canBeServed_37 s) (fun p => k (some (.int p)) (mkCs s))) : G 37 [] [] (mkCs s) 0 0 := by
  unfold F_X10_canBeServed_37 at hw
  refine mj_run hG.1 (fun pc => pc == 2 || pc == 29 || pc == 37) 4000 ?_
  simp only [mj_step, mj_W_s, mj_fin, List.getElem?_cons_zero, List.getElem?_cons_succ, mj_go, Nat.reduceAdd, Nat.reduceSub, Nat.reduceLT, Nat.reduceLeDiff, Nat.zero_add, Nat.reduceEqDiff, Nat.reduceBEq, ↓reduceIte, Bool.false_eq_true, List.append_nil, List.nil_append, List.cons_append, Option.toList, and_true, true_and, true_or, or_true, reduceCtorEq, List.map_nil, bI_eq0, bI_eq1, bool_ft, pk_us, Bool.or_false, Bool.or_true, Bool.false_or, Bool.true_or, mj_kne, eq_self, Int32.reduceLT, Int32.reduceLE, Int32.reduceAdd, Int32.reduceSub, Int32.reduceMul, not_true_eq_false, not_false_eq_true, false_implies, true_implies, D_X10_canBeServed, mj_F_aload_n_k, mj_F_getfield_i, mj_F_goto_off, mj_F_iadd, mj_F_iaload, mj_F_iconst_n, mj_F_ifCond_le_off, mj_F_if_icmp_ge_off, mj_F_iinc_k_n, mj_F_iload_n_k, mj_F_imul, mj_F_ireturn, mj_F_istore_n_k, mj_set, mj_set0, mj_unk, mj_c2, mj_kc, FT_X10, gS_C45, gCf10_12, gS_C52, sS_Ca_52, gCf10_11, gS_C51, sS_Ca_51, J_X10_canBeServed]
  exact (ok_some hw :)

set_option maxHeartbeats 4000000 in
set_option maxRecDepth 20000 in
theorem g_X10_canBeServed_29 {k : Option Value → mj_H → Prop} {G : mj_K} (hG : mj_cl2 cX10_canBeServed (TbX10 3 ((some FieldType.boolean)) []) k G)   {s : St} (hw : ok (F_X10_canBeServed_29 s) (fun p => k (some (.int p)) (mkCs s))) : G 29 [] [] (mkCs s) 0 0 := by
  unfold F_X10_canBeServed_29 at hw
  refine mj_run hG.1 (fun pc => pc == 2 || pc == 29 || pc == 37) 4000 ?_
  simp only [mj_step, mj_W_s, mj_fin, List.getElem?_cons_zero, List.getElem?_cons_succ, mj_go, Nat.reduceAdd, Nat.reduceSub, Nat.reduceLT, Nat.reduceLeDiff, Nat.zero_add, Nat.reduceEqDiff, Nat.reduceBEq, ↓reduceIte, Bool.false_eq_true, List.append_nil, List.nil_append, List.cons_append, Option.toList, and_true, true_and, true_or, or_true, reduceCtorEq, List.map_nil, bI_eq0, bI_eq1, bool_ft, pk_us, Bool.or_false, Bool.or_true, Bool.false_or, Bool.true_or, mj_kne, eq_self, Int32.reduceLT, Int32.reduceLE, Int32.reduceAdd, Int32.reduceSub, Int32.reduceMul, not_true_eq_false, not_false_eq_true, false_implies, true_implies, D_X10_canBeServed, mj_F_aload_n_k, mj_F_getfield_i, mj_F_goto_off, mj_F_iadd, mj_F_iaload, mj_F_iconst_n, mj_F_ifCond_le_off, mj_F_if_icmp_ge_off, mj_F_iinc_k_n, mj_F_iload_n_k, mj_F_imul, mj_F_ireturn, mj_F_istore_n_k, mj_set, mj_set0, mj_unk, mj_c2, mj_kc, FT_X10, gS_C45, gCf10_12, gS_C52, sS_Ca_52, gCf10_11, gS_C51, sS_Ca_51, J_X10_canBeServed]
  exact (ok_some hw :)

set_option maxHeartbeats 4000000 in
theorem g_X10_canBeServed_2 {k : Option Value → mj_H → Prop} {G : mj_K} (hG : mj_cl2 cX10_canBeServed (TbX10 3 ((some FieldType.boolean)) []) k G)   {v1 : Int32} {v2 : Int32} {s : St} (hw : ok (F_X10_canBeServed_2 v1 v2 s) (fun p => k (some (.int p)) (mkCs s))) : G 2 [.ref 45, .int v1, .int v2] [] (mkCs s) 0 0 := by
  unfold F_X10_canBeServed_2 at hw
  refine lp_ok (B_X10_canBeServed_2 v1 s) (fun x => G 2 [.ref 45, .int v1, .int x] [] (mkCs s) 0 0) _ ?_ _ _ (ok_bind hw)
  rintro v2 hb
  exact b_X10_canBeServed_2 hG (fun _ z => z) (fun y hw => by exact hG.2 _ _ _ _ _ _ _ _ _ (by exact trivial) (Nat.zero_le _) (Nat.zero_le _) (g_X10_canBeServed_37 hG  hw :)) (fun y hw => by exact hG.2 _ _ _ _ _ _ _ _ _ (by exact trivial) (Nat.zero_le _) (Nat.zero_le _) (g_X10_canBeServed_29 hG  hw :)) hb

set_option maxHeartbeats 4000000 in
set_option maxRecDepth 20000 in
theorem g_X10_canBeServed {k : Option Value → mj_H → Prop} {G : mj_K} (hG : mj_cl2 cX10_canBeServed (TbX10 3 ((some FieldType.boolean)) []) k G) {v1 : Int32} {s : St} (hw : ok (F_X10_canBeServed v1 s) (fun p => k (some (.int p)) (mkCs s))) : G 0 [.ref 45, .int v1] [] (mkCs s) 0 0 := by
  unfold F_X10_canBeServed at hw
  refine mj_run hG.1 (fun pc => pc == 2 || pc == 29 || pc == 37) 4000 ?_
  simp only [mj_step, mj_W_s, mj_fin, List.getElem?_cons_zero, List.getElem?_cons_succ, mj_go, Nat.reduceAdd, Nat.reduceSub, Nat.reduceLT, Nat.reduceLeDiff, Nat.zero_add, Nat.reduceEqDiff, Nat.reduceBEq, ↓reduceIte, Bool.false_eq_true, List.append_nil, List.nil_append, List.cons_append, Option.toList, and_true, true_and, true_or, or_true, reduceCtorEq, List.map_nil, bI_eq0, bI_eq1, bool_ft, pk_us, Bool.or_false, Bool.or_true, Bool.false_or, Bool.true_or, mj_kne, eq_self, Int32.reduceLT, Int32.reduceLE, Int32.reduceAdd, Int32.reduceSub, Int32.reduceMul, not_true_eq_false, not_false_eq_true, false_implies, true_implies, D_X10_canBeServed, mj_F_aload_n_k, mj_F_getfield_i, mj_F_goto_off, mj_F_iadd, mj_F_iaload, mj_F_iconst_n, mj_F_ifCond_le_off, mj_F_if_icmp_ge_off, mj_F_iinc_k_n, mj_F_iload_n_k, mj_F_imul, mj_F_ireturn, mj_F_istore_n_k, mj_set, mj_set0, mj_unk, mj_c2, mj_kc, FT_X10, gS_C45, gCf10_12, gS_C52, sS_Ca_52, gCf10_11, gS_C51, sS_Ca_51, J_X10_canBeServed]
  exact hG.2 _ _ _ _ _ _ _ _ _ (by refine ⟨Or.inr rfl, ?_⟩; refine ⟨Or.inr rfl, ?_⟩; refine ⟨Or.inr rfl, ?_⟩; exact trivial) (Nat.zero_le _) (Nat.zero_le _) (g_X10_canBeServed_2 hG  hw :)

def c_X10_canBeServed : mj_S := fun as h k => ∃ (v1 : Int32) (s : St), as = [.ref 45, .int v1] ∧ h = mkCs s ∧ ok (F_X10_canBeServed v1 s) (fun p => k (some (.int p)) (mkCs s))
theorem c_X10_canBeServed_in {v1 : Int32} {s : St} {k : Option Value → mj_H → Prop} (hw : ok (F_X10_canBeServed v1 s) (fun p => k (some (.int p)) (mkCs s))) : c_X10_canBeServed [.ref 45, .int v1] (mkCs s) k := ⟨v1, s, rfl, rfl, hw⟩
theorem m_X10_canBeServed (l : Launch) : mj_Met l yX10_canBeServed cX10_canBeServed 3 ((some FieldType.boolean)) 0 0 0 c_X10_canBeServed := by
  refine mj_body2 false (TbX10 3 ((some FieldType.boolean)) []) (by decide) rfl rfl (fun h => nomatch h) (tfX10 _ (fun _ h => nomatch h)) ?_
  rintro as h k ⟨v1, s, rfl, rfl, hw⟩
  exact ⟨rfl, fun G hG => g_X10_canBeServed hG hw⟩
def B_X10_lowestToServe_2 (v1 : Int32) (s : St) : Int32 → Option ((Int32) ⊕ ((Unit) ⊕ (Int32)))
  | v2 =>
  if (s.1 501) ≤ v2 then
    some (.inr (.inl ()))
  else
    if v1 = 0 then
      (F_X10_canBeServed v2 s).bind fun r1 =>
      if r1 = 0 then
        some (.inl (v2 + 1))
      else
        some (.inr (.inr v2))
    else
      (rd s 509 20 v2).bind fun x2 =>
      if x2 = 0 then
        (rd s 502 20 v2).bind fun x3 =>
        (F_X2_isShutWet x3 s).bind fun r4 =>
        if r4 = 0 then
          (F_X10_canBeServed v2 s).bind fun r5 =>
          if r5 = 0 then
            some (.inl (v2 + 1))
          else
            some (.inr (.inr v2))
        else
          some (.inl (v2 + 1))
      else
        some (.inl (v2 + 1))
def F_X10_lowestToServe_74 (s : St) : Option (Int32) :=
  some (-1)
def F_X10_lowestToServe_66 (v2 : Int32) (s : St) : Option (Int32) :=
  some v2
def F_X10_lowestToServe_2 (v1 : Int32) (v2 : Int32) (s : St) : Option (Int32) :=
  (lp (B_X10_lowestToServe_2 v1 s) FU v2).bind (Sum.elim (fun _ => F_X10_lowestToServe_74 s) (fun y => F_X10_lowestToServe_66 y s))
def F_X10_lowestToServe (v1 : Int32) (s : St) : Option (Int32) :=
  F_X10_lowestToServe_2 v1 0 s
theorem J_X10_lowestToServe : mj_t 10 64 = 74 ∧ mj_t 14 38 = 52 ∧ mj_t 26 22 = 48 ∧ mj_t 45 7 = 52 ∧ mj_t 49 4 = 53 ∧ mj_t 55 13 = 68 ∧ mj_t 63 5 = 68 ∧ mj_t 71 (-69) = 2 ∧ (0 ≤ ((10 : Nat) : Int) + 64) = True ∧ (0 ≤ ((14 : Nat) : Int) + 38) = True ∧ (0 ≤ ((26 : Nat) : Int) + 22) = True ∧ (0 ≤ ((45 : Nat) : Int) + 7) = True ∧ (0 ≤ ((49 : Nat) : Int) + 4) = True ∧ (0 ≤ ((55 : Nat) : Int) + 13) = True ∧ (0 ≤ ((63 : Nat) : Int) + 5) = True ∧ (0 ≤ ((71 : Nat) : Int) + (-69)) = True := by and_intros <;> first | rfl | exact eq_true (by decide)
def ct_X10_lowestToServe : List (Nat × mj_Cs) := [(109, 0, 2, 2, 0, 0, c_X2_isShutWet), (112, 0, 2, 10, 0, 0, c_X10_canBeServed)]
theorem L_X10_lowestToServe : mj_lk ct_X10_lowestToServe 109 = some (0, 2, 2, 0, 0, c_X2_isShutWet) ∧ mj_lk ct_X10_lowestToServe 112 = some (0, 2, 10, 0, 0, c_X10_canBeServed) := ⟨rfl, rfl⟩
set_option maxHeartbeats 4000000 in
set_option maxRecDepth 20000 in
theorem b_X10_lowestToServe_2 {k : Option Value → mj_H → Prop} {G : mj_K} (hG : mj_cl2 cX10_lowestToServe (TbX10 4 ((some FieldType.int)) ct_X10_lowestToServe) k G) {v1 : Int32} {s : St} {P : Int32 → Prop} {K : (Unit) ⊕ (Int32) → Prop} (hP : ∀ x, P x → G 2 [.ref 45, .int v1, .int x] [] (mkCs s) 0 0) (hK0 : ∀ y, K (.inl y) → G 74 [] [] (mkCs s) 0 0) (hK1 : ∀ y, K (.inr y) → G 66 [mj_unk, mj_unk, .int y] [] (mkCs s) 0 0) {v2 : Int32} (hw : ok (B_X10_lowestToServe_2 v1 s v2) (Sum.elim P K)) : G 2 [.ref 45, .int v1, .int v2] [] (mkCs s) 0 0 := by
  unfold B_X10_lowestToServe_2 at hw
  refine mj_run hG.1 (fun pc => pc == 2 || pc == 45 || pc == 63 || pc == 66 || pc == 74) 4000 ?_
  simp only [mj_step, mj_W_s, mj_fin, List.getElem?_cons_zero, List.getElem?_cons_succ, mj_go, Nat.reduceAdd, Nat.reduceSub, Nat.reduceLT, Nat.reduceLeDiff, Nat.zero_add, Nat.reduceEqDiff, Nat.reduceBEq, ↓reduceIte, Bool.false_eq_true, List.append_nil, List.nil_append, List.cons_append, Option.toList, and_true, true_and, true_or, or_true, reduceCtorEq, List.map_nil, bI_eq0, bI_eq1, bool_ft, pk_us, Bool.or_false, Bool.or_true, Bool.false_or, Bool.true_or, mj_kne, eq_self, Int32.reduceLT, Int32.reduceLE, Int32.reduceAdd, Int32.reduceSub, Int32.reduceMul, not_true_eq_false, not_false_eq_true, false_implies, true_implies, D_X10_lowestToServe, mj_F_aload_n_k, mj_F_baload, mj_F_getfield_i, mj_F_goto_off, mj_F_iaload, mj_F_iconst_n, mj_F_ifCond_eq_off, mj_F_ifCond_ne_off, mj_F_if_icmp_ge_off, mj_F_iinc_k_n, mj_F_iload_n_k, mj_F_invokevirtual_i, mj_F_ireturn, mj_F_istore_n_k, mj_set, mj_set0, mj_unk, mj_c2, mj_kc, FT_X10, L_X10_lowestToServe, List.take_succ_cons, List.take_zero, List.drop_succ_cons, List.drop_zero, List.reverse_cons, List.reverse_nil, List.length_cons, List.length_nil, gS_C45, gCf10_3, gS_C35, gCf5_1, gCf5_9, gS_C43, sS_Ca_43, gCf10_0, gCf5_2, gS_C36, sS_Ca_36, gS_C1, J_X10_lowestToServe]
  refine ⟨fun c => ?_, fun c => ?_⟩
  · replace hw := ok_t hw c
    exact hG.2 _ _ _ _ _ _ _ _ _ (by exact trivial) (Nat.zero_le _) (Nat.zero_le _) (hK0 _ (ok_some hw :) :)
  · replace hw := ok_f hw c
    refine ⟨fun c => ?_, fun c => ?_⟩
    · replace hw := ok_t hw c
      refine c_X10_canBeServed_in (ok_imp (ok_bind hw) ?_)
      intro p hw
      simp only [Option.toList, List.nil_append, List.cons_append, Nat.reduceSub]
      refine mj_run hG.1 (fun pc => pc == 2 || pc == 45 || pc == 63 || pc == 66 || pc == 74) 4000 ?_
      simp only [mj_step, mj_W_s, mj_fin, List.getElem?_cons_zero, List.getElem?_cons_succ, mj_go, Nat.reduceAdd, Nat.reduceSub, Nat.reduceLT, Nat.reduceLeDiff, Nat.zero_add, Nat.reduceEqDiff, Nat.reduceBEq, ↓reduceIte, Bool.false_eq_true, List.append_nil, List.nil_append, List.cons_append, Option.toList, and_true, true_and, true_or, or_true, reduceCtorEq, List.map_nil, bI_eq0, bI_eq1, bool_ft, pk_us, Bool.or_false, Bool.or_true, Bool.false_or, Bool.true_or, mj_kne, eq_self, Int32.reduceLT, Int32.reduceLE, Int32.reduceAdd, Int32.reduceSub, Int32.reduceMul, not_true_eq_false, not_false_eq_true, false_implies, true_implies, D_X10_lowestToServe, mj_F_aload_n_k, mj_F_baload, mj_F_getfield_i, mj_F_goto_off, mj_F_iaload, mj_F_iconst_n, mj_F_ifCond_eq_off, mj_F_ifCond_ne_off, mj_F_if_icmp_ge_off, mj_F_iinc_k_n, mj_F_iload_n_k, mj_F_invokevirtual_i, mj_F_ireturn, mj_F_istore_n_k, mj_set, mj_set0, mj_unk, mj_c2, mj_kc, FT_X10, L_X10_lowestToServe, List.take_succ_cons, List.take_zero, List.drop_succ_cons, List.drop_zero, List.reverse_cons, List.reverse_nil, List.length_cons, List.length_nil, gS_C45, gCf10_3, gS_C35, gCf5_1, gCf5_9, gS_C43, sS_Ca_43, gCf10_0, gCf5_2, gS_C36, sS_Ca_36, gS_C1, J_X10_lowestToServe]
      refine ⟨fun c => ?_, fun c => ?_⟩
      · replace hw := ok_t hw c
        exact hG.2 _ _ _ _ _ _ _ _ _ (by refine ⟨Or.inr rfl, ?_⟩; refine ⟨Or.inr rfl, ?_⟩; refine ⟨Or.inr rfl, ?_⟩; exact trivial) (Nat.zero_le _) (Nat.zero_le _) (hP _ (ok_some hw :) :)
      · replace hw := ok_f hw c
        exact hG.2 _ _ _ _ _ _ _ _ _ (by refine ⟨Or.inl rfl, ?_⟩; refine ⟨Or.inl rfl, ?_⟩; refine ⟨Or.inr rfl, ?_⟩; exact trivial) (Nat.zero_le _) (Nat.zero_le _) (hK1 _ (ok_some hw :) :)
    · replace hw := ok_f hw c
      refine ⟨(ok_rd hw).1, ?_⟩
      replace hw := (ok_rd hw).2
      refine ⟨fun c => ?_, fun c => ?_⟩
      · replace hw := ok_f hw c
        exact hG.2 _ _ _ _ _ _ _ _ _ (by refine ⟨Or.inr rfl, ?_⟩; refine ⟨Or.inr rfl, ?_⟩; refine ⟨Or.inr rfl, ?_⟩; exact trivial) (Nat.zero_le _) (Nat.zero_le _) (hP _ (ok_some hw :) :)
      · replace hw := ok_t hw c
        refine ⟨(ok_rd hw).1, ?_⟩
        replace hw := (ok_rd hw).2
        refine c_X2_isShutWet_in (ok_imp (ok_bind hw) ?_)
        intro p hw
        simp only [Option.toList, List.nil_append, List.cons_append, Nat.reduceSub]
        refine mj_run hG.1 (fun pc => pc == 2 || pc == 45 || pc == 63 || pc == 66 || pc == 74) 4000 ?_
        simp only [mj_step, mj_W_s, mj_fin, List.getElem?_cons_zero, List.getElem?_cons_succ, mj_go, Nat.reduceAdd, Nat.reduceSub, Nat.reduceLT, Nat.reduceLeDiff, Nat.zero_add, Nat.reduceEqDiff, Nat.reduceBEq, ↓reduceIte, Bool.false_eq_true, List.append_nil, List.nil_append, List.cons_append, Option.toList, and_true, true_and, true_or, or_true, reduceCtorEq, List.map_nil, bI_eq0, bI_eq1, bool_ft, pk_us, Bool.or_false, Bool.or_true, Bool.false_or, Bool.true_or, mj_kne, eq_self, Int32.reduceLT, Int32.reduceLE, Int32.reduceAdd, Int32.reduceSub, Int32.reduceMul, not_true_eq_false, not_false_eq_true, false_implies, true_implies, D_X10_lowestToServe, mj_F_aload_n_k, mj_F_baload, mj_F_getfield_i, mj_F_goto_off, mj_F_iaload, mj_F_iconst_n, mj_F_ifCond_eq_off, mj_F_ifCond_ne_off, mj_F_if_icmp_ge_off, mj_F_iinc_k_n, mj_F_iload_n_k, mj_F_invokevirtual_i, mj_F_ireturn, mj_F_istore_n_k, mj_set, mj_set0, mj_unk, mj_c2, mj_kc, FT_X10, L_X10_lowestToServe, List.take_succ_cons, List.take_zero, List.drop_succ_cons, List.drop_zero, List.reverse_cons, List.reverse_nil, List.length_cons, List.length_nil, gS_C45, gCf10_3, gS_C35, gCf5_1, gCf5_9, gS_C43, sS_Ca_43, gCf10_0, gCf5_2, gS_C36, sS_Ca_36, gS_C1, J_X10_lowestToServe]
        refine ⟨fun c => ?_, fun c => ?_⟩
        · replace hw := ok_t hw c
          refine c_X10_canBeServed_in (ok_imp (ok_bind hw) ?_)
          intro p hw
          simp only [Option.toList, List.nil_append, List.cons_append, Nat.reduceSub]
          refine mj_run hG.1 (fun pc => pc == 2 || pc == 45 || pc == 63 || pc == 66 || pc == 74) 4000 ?_
          simp only [mj_step, mj_W_s, mj_fin, List.getElem?_cons_zero, List.getElem?_cons_succ, mj_go, Nat.reduceAdd, Nat.reduceSub, Nat.reduceLT, Nat.reduceLeDiff, Nat.zero_add, Nat.reduceEqDiff, Nat.reduceBEq, ↓reduceIte, Bool.false_eq_true, List.append_nil, List.nil_append, List.cons_append, Option.toList, and_true, true_and, true_or, or_true, reduceCtorEq, List.map_nil, bI_eq0, bI_eq1, bool_ft, pk_us, Bool.or_false, Bool.or_true, Bool.false_or, Bool.true_or, mj_kne, eq_self, Int32.reduceLT, Int32.reduceLE, Int32.reduceAdd, Int32.reduceSub, Int32.reduceMul, not_true_eq_false, not_false_eq_true, false_implies, true_implies, D_X10_lowestToServe, mj_F_aload_n_k, mj_F_baload, mj_F_getfield_i, mj_F_goto_off, mj_F_iaload, mj_F_iconst_n, mj_F_ifCond_eq_off, mj_F_ifCond_ne_off, mj_F_if_icmp_ge_off, mj_F_iinc_k_n, mj_F_iload_n_k, mj_F_invokevirtual_i, mj_F_ireturn, mj_F_istore_n_k, mj_set, mj_set0, mj_unk, mj_c2, mj_kc, FT_X10, L_X10_lowestToServe, List.take_succ_cons, List.take_zero, List.drop_succ_cons, List.drop_zero, List.reverse_cons, List.reverse_nil, List.length_cons, List.length_nil, gS_C45, gCf10_3, gS_C35, gCf5_1, gCf5_9, gS_C43, sS_Ca_43, gCf10_0, gCf5_2, gS_C36, sS_Ca_36, gS_C1, J_X10_lowestToServe]
          refine ⟨fun c => ?_, fun c => ?_⟩
          · replace hw := ok_t hw c
            exact hG.2 _ _ _ _ _ _ _ _ _ (by refine ⟨Or.inr rfl, ?_⟩; refine ⟨Or.inr rfl, ?_⟩; refine ⟨Or.inr rfl, ?_⟩; exact trivial) (Nat.zero_le _) (Nat.zero_le _) (hP _ (ok_some hw :) :)
          · replace hw := ok_f hw c
            exact hG.2 _ _ _ _ _ _ _ _ _ (by refine ⟨Or.inl rfl, ?_⟩; refine ⟨Or.inl rfl, ?_⟩; refine ⟨Or.inr rfl, ?_⟩; exact trivial) (Nat.zero_le _) (Nat.zero_le _) (hK1 _ (ok_some hw :) :)
        · replace hw := ok_f hw c
          exact hG.2 _ _ _ _ _ _ _ _ _ (by refine ⟨Or.inr rfl, ?_⟩; refine ⟨Or.inr rfl, ?_⟩; refine ⟨Or.inr rfl, ?_⟩; exact trivial) (Nat.zero_le _) (Nat.zero_le _) (hP _ (ok_some hw :) :)

set_option maxHeartbeats 4000000 in
set_option maxRecDepth 20000 in
theorem g_X10_lowestToServe_74 {k : Option Value → mj_H → Prop} {G : mj_K} (hG : mj_cl2 cX10_lowestToServe (TbX10 4 ((some FieldType.int)) ct_X10_lowestToServe) k G)   {s : St} (hw : ok (F_X10_lowestToServe_74 s) (fun p => k (some (.int p)) (mkCs s))) : G 74 [] [] (mkCs s) 0 0 := by
  unfold F_X10_lowestToServe_74 at hw
  refine mj_run hG.1 (fun pc => pc == 2 || pc == 45 || pc == 63 || pc == 66 || pc == 74) 4000 ?_
  simp only [mj_step, mj_W_s, mj_fin, List.getElem?_cons_zero, List.getElem?_cons_succ, mj_go, Nat.reduceAdd, Nat.reduceSub, Nat.reduceLT, Nat.reduceLeDiff, Nat.zero_add, Nat.reduceEqDiff, Nat.reduceBEq, ↓reduceIte, Bool.false_eq_true, List.append_nil, List.nil_append, List.cons_append, Option.toList, and_true, true_and, true_or, or_true, reduceCtorEq, List.map_nil, bI_eq0, bI_eq1, bool_ft, pk_us, Bool.or_false, Bool.or_true, Bool.false_or, Bool.true_or, mj_kne, eq_self, Int32.reduceLT, Int32.reduceLE, Int32.reduceAdd, Int32.reduceSub, Int32.reduceMul, not_true_eq_false, not_false_eq_true, false_implies, true_implies, D_X10_lowestToServe, mj_F_aload_n_k, mj_F_baload, mj_F_getfield_i, mj_F_goto_off, mj_F_iaload, mj_F_iconst_n, mj_F_ifCond_eq_off, mj_F_ifCond_ne_off, mj_F_if_icmp_ge_off, mj_F_iinc_k_n, mj_F_iload_n_k, mj_F_invokevirtual_i, mj_F_ireturn, mj_F_istore_n_k, mj_set, mj_set0, mj_unk, mj_c2, mj_kc, FT_X10, L_X10_lowestToServe, List.take_succ_cons, List.take_zero, List.drop_succ_cons, List.drop_zero, List.reverse_cons, List.reverse_nil, List.length_cons, List.length_nil, gS_C45, gCf10_3, gS_C35, gCf5_1, gCf5_9, gS_C43, sS_Ca_43, gCf10_0, gCf5_2, gS_C36, sS_Ca_36, gS_C1, J_X10_lowestToServe]
  exact (ok_some hw :)

set_option maxHeartbeats 4000000 in
set_option maxRecDepth 20000 in
theorem g_X10_lowestToServe_66 {k : Option Value → mj_H → Prop} {G : mj_K} (hG : mj_cl2 cX10_lowestToServe (TbX10 4 ((some FieldType.int)) ct_X10_lowestToServe) k G)   {v2 : Int32} {s : St} (hw : ok (F_X10_lowestToServe_66 v2 s) (fun p => k (some (.int p)) (mkCs s))) : G 66 [mj_unk, mj_unk, .int v2] [] (mkCs s) 0 0 := by
  unfold F_X10_lowestToServe_66 at hw
  refine mj_run hG.1 (fun pc => pc == 2 || pc == 45 || pc == 63 || pc == 66 || pc == 74) 4000 ?_
  simp only [mj_step, mj_W_s, mj_fin, List.getElem?_cons_zero, List.getElem?_cons_succ, mj_go, Nat.reduceAdd, Nat.reduceSub, Nat.reduceLT, Nat.reduceLeDiff, Nat.zero_add, Nat.reduceEqDiff, Nat.reduceBEq, ↓reduceIte, Bool.false_eq_true, List.append_nil, List.nil_append, List.cons_append, Option.toList, and_true, true_and, true_or, or_true, reduceCtorEq, List.map_nil, bI_eq0, bI_eq1, bool_ft, pk_us, Bool.or_false, Bool.or_true, Bool.false_or, Bool.true_or, mj_kne, eq_self, Int32.reduceLT, Int32.reduceLE, Int32.reduceAdd, Int32.reduceSub, Int32.reduceMul, not_true_eq_false, not_false_eq_true, false_implies, true_implies, D_X10_lowestToServe, mj_F_aload_n_k, mj_F_baload, mj_F_getfield_i, mj_F_goto_off, mj_F_iaload, mj_F_iconst_n, mj_F_ifCond_eq_off, mj_F_ifCond_ne_off, mj_F_if_icmp_ge_off, mj_F_iinc_k_n, mj_F_iload_n_k, mj_F_invokevirtual_i, mj_F_ireturn, mj_F_istore_n_k, mj_set, mj_set0, mj_unk, mj_c2, mj_kc, FT_X10, L_X10_lowestToServe, List.take_succ_cons, List.take_zero, List.drop_succ_cons, List.drop_zero, List.reverse_cons, List.reverse_nil, List.length_cons, List.length_nil, gS_C45, gCf10_3, gS_C35, gCf5_1, gCf5_9, gS_C43, sS_Ca_43, gCf10_0, gCf5_2, gS_C36, sS_Ca_36, gS_C1, J_X10_lowestToServe]
  exact (ok_some hw :)

set_option maxHeartbeats 4000000 in
theorem g_X10_lowestToServe_2 {k : Option Value → mj_H → Prop} {G : mj_K} (hG : mj_cl2 cX10_lowestToServe (TbX10 4 ((some FieldType.int)) ct_X10_lowestToServe) k G)   {v1 : Int32} {v2 : Int32} {s : St} (hw : ok (F_X10_lowestToServe_2 v1 v2 s) (fun p => k (some (.int p)) (mkCs s))) : G 2 [.ref 45, .int v1, .int v2] [] (mkCs s) 0 0 := by
  unfold F_X10_lowestToServe_2 at hw
  refine lp_ok (B_X10_lowestToServe_2 v1 s) (fun x => G 2 [.ref 45, .int v1, .int x] [] (mkCs s) 0 0) _ ?_ _ _ (ok_bind hw)
  rintro v2 hb
  exact b_X10_lowestToServe_2 hG (fun _ z => z) (fun y hw => by exact hG.2 _ _ _ _ _ _ _ _ _ (by exact trivial) (Nat.zero_le _) (Nat.zero_le _) (g_X10_lowestToServe_74 hG  hw :)) (fun y hw => by exact hG.2 _ _ _ _ _ _ _ _ _ (by refine ⟨Or.inl rfl, ?_⟩; refine ⟨Or.inl rfl, ?_⟩; refine ⟨Or.inr rfl, ?_⟩; exact trivial) (Nat.zero_le _) (Nat.zero_le _) (g_X10_lowestToServe_66 hG  hw :)) hb

set_option maxHeartbeats 4000000 in
set_option maxRecDepth 20000 in
theorem g_X10_lowestToServe {k : Option Value → mj_H → Prop} {G : mj_K} (hG : mj_cl2 cX10_lowestToServe (TbX10 4 ((some FieldType.int)) ct_X10_lowestToServe) k G) {v1 : Int32} {s : St} (hw : ok (F_X10_lowestToServe v1 s) (fun p => k (some (.int p)) (mkCs s))) : G 0 [.ref 45, .int v1] [] (mkCs s) 0 0 := by
  unfold F_X10_lowestToServe at hw
  refine mj_run hG.1 (fun pc => pc == 2 || pc == 45 || pc == 63 || pc == 66 || pc == 74) 4000 ?_
  simp only [mj_step, mj_W_s, mj_fin, List.getElem?_cons_zero, List.getElem?_cons_succ, mj_go, Nat.reduceAdd, Nat.reduceSub, Nat.reduceLT, Nat.reduceLeDiff, Nat.zero_add, Nat.reduceEqDiff, Nat.reduceBEq, ↓reduceIte, Bool.false_eq_true, List.append_nil, List.nil_append, List.cons_append, Option.toList, and_true, true_and, true_or, or_true, reduceCtorEq, List.map_nil, bI_eq0, bI_eq1, bool_ft, pk_us, Bool.or_false, Bool.or_true, Bool.false_or, Bool.true_or, mj_kne, eq_self, Int32.reduceLT, Int32.reduceLE, Int32.reduceAdd, Int32.reduceSub, Int32.reduceMul, not_true_eq_false, not_false_eq_true, false_implies, true_implies, D_X10_lowestToServe, mj_F_aload_n_k, mj_F_baload, mj_F_getfield_i, mj_F_goto_off, mj_F_iaload, mj_F_iconst_n, mj_F_ifCond_eq_off, mj_F_ifCond_ne_off, mj_F_if_icmp_ge_off, mj_F_iinc_k_n, mj_F_iload_n_k, mj_F_invokevirtual_i, mj_F_ireturn, mj_F_istore_n_k, mj_set, mj_set0, mj_unk, mj_c2, mj_kc, FT_X10, L_X10_lowestToServe, List.take_succ_cons, List.take_zero, List.drop_succ_cons, List.drop_zero, List.reverse_cons, List.reverse_nil, List.length_cons, List.length_nil, gS_C45, gCf10_3, gS_C35, gCf5_1, gCf5_9, gS_C43, sS_Ca_43, gCf10_0, gCf5_2, gS_C36, sS_Ca_36, gS_C1, J_X10_lowestToServe]
  exact hG.2 _ _ _ _ _ _ _ _ _ (by refine ⟨Or.inr rfl, ?_⟩; refine ⟨Or.inr rfl, ?_⟩; refine ⟨Or.inr rfl, ?_⟩; exact trivial) (Nat.zero_le _) (Nat.zero_le _) (g_X10_lowestToServe_2 hG  hw :)

def c_X10_lowestToServe : mj_S := fun as h k => ∃ (v1 : Int32) (s : St), as = [.ref 45, .int v1] ∧ h = mkCs s ∧ ok (F_X10_lowestToServe v1 s) (fun p => k (some (.int p)) (mkCs s))
theorem c_X10_lowestToServe_in {v1 : Int32} {s : St} {k : Option Value → mj_H → Prop} (hw : ok (F_X10_lowestToServe v1 s) (fun p => k (some (.int p)) (mkCs s))) : c_X10_lowestToServe [.ref 45, .int v1] (mkCs s) k := ⟨v1, s, rfl, rfl, hw⟩
theorem m_X10_lowestToServe (l : Launch) : mj_Met l yX10_lowestToServe cX10_lowestToServe 4 ((some FieldType.int)) 3 0 0 c_X10_lowestToServe := by
  refine mj_body2 false (TbX10 4 ((some FieldType.int)) ct_X10_lowestToServe) (by decide) rfl rfl (fun h => nomatch h) (tfX10 _ (List.forall_mem_cons.mpr ⟨cfX10_109 (m_X2_isShutWet l) (by decide), List.forall_mem_cons.mpr ⟨cfX10_112 (m_X10_canBeServed l) (by decide), fun _ h => nomatch h⟩⟩)) ?_
  rintro as h k ⟨v1, s, rfl, rfl, hw⟩
  exact ⟨rfl, fun G hG => g_X10_lowestToServe hG hw⟩
def B_X10_unload_5 (v1 : Int32) : Int32 × Int32 × St → Option ((Int32 × Int32 × St) ⊕ ((St)))
  | (v3, v4, s) =>
  if 5 ≤ v4 then
    some (.inr s)
  else
    (rd s 1011 5 v4).bind fun x1 =>
    (rd s 1012 100 ((v1 * 5) + v4)).bind fun x2 =>
    (rd s 1011 5 v4).bind fun x3 =>
    (wr s 1011 5 v4 (x3 - (zmn v3 (zmn x1 x2)))).bind fun s4 =>
    (rd s4 1012 100 ((v1 * 5) + v4)).bind fun x5 =>
    (wr s4 1012 100 ((v1 * 5) + v4) (x5 - (zmn v3 (zmn x1 x2)))).bind fun s6 =>
    some (.inl ((v3 - (zmn v3 (zmn x1 x2))), (v4 + 1), s6))
def F_X10_unload_77 (s : St) : Option (St) :=
  some s
def F_X10_unload_5 (v1 : Int32) (v3 : Int32) (v4 : Int32) (s : St) : Option (St) :=
  (lp (B_X10_unload_5 v1) FU (v3, v4, s)).bind (fun y => F_X10_unload_77 y)
def F_X10_unload (v1 : Int32) (v2 : Int32) (s : St) : Option (St) :=
  F_X10_unload_5 v1 v2 0 s
theorem J_X10_unload : mj_t 8 69 = 77 ∧ mj_t 74 (-69) = 5 ∧ (0 ≤ ((8 : Nat) : Int) + 69) = True ∧ (0 ≤ ((74 : Nat) : Int) + (-69)) = True := by and_intros <;> first | rfl | exact eq_true (by decide)
set_option maxHeartbeats 4000000 in
set_option maxRecDepth 20000 in
theorem b_X10_unload_5 {k : Option Value → mj_H → Prop} {G : mj_K} (hG : mj_cl2 cX10_unload (TbX10 6 (none) []) k G) (hM : mj_ml cX10_unload yX10_unload.cls G) {v1 : Int32} {P : Int32 × Int32 × St → Prop} {K : (St) → Prop} (hP : ∀ x, P x → G 5 [.ref 45, .int v1, mj_unk, .int x.1, .int x.2.1] [] (mkCs x.2.2) 0 0) (hK0 : ∀ y, K y → G 77 [] [] (mkCs y) 0 0) {v3 : Int32} {v4 : Int32} {s : St} (hw : ok (B_X10_unload_5 v1 (v3, v4, s)) (Sum.elim P K)) : G 5 [.ref 45, .int v1, mj_unk, .int v3, .int v4] [] (mkCs s) 0 0 := by
  unfold B_X10_unload_5 at hw
  refine mj_run hG.1 (fun pc => pc == 5 || pc == 30 || pc == 33 || pc == 77) 4000 ?_
  simp only [mj_step, mj_W_s, mj_fin, List.getElem?_cons_zero, List.getElem?_cons_succ, mj_go, Nat.reduceAdd, Nat.reduceSub, Nat.reduceLT, Nat.reduceLeDiff, Nat.zero_add, Nat.reduceEqDiff, Nat.reduceBEq, ↓reduceIte, Bool.false_eq_true, List.append_nil, List.nil_append, List.cons_append, Option.toList, and_true, true_and, true_or, or_true, reduceCtorEq, List.map_nil, bI_eq0, bI_eq1, bool_ft, pk_us, Bool.or_false, Bool.or_true, Bool.false_or, Bool.true_or, mj_kne, eq_self, Int32.reduceLT, Int32.reduceLE, Int32.reduceAdd, Int32.reduceSub, Int32.reduceMul, not_true_eq_false, not_false_eq_true, false_implies, true_implies, D_X10_unload, mj_F_aload_n_k, mj_F_dup2, mj_F_getfield_i, mj_F_goto_off, mj_F_iadd, mj_F_iaload, mj_F_iastore, mj_F_iconst_n, mj_F_if_icmp_ge_off, mj_F_iinc_k_n, mj_F_iload_k, mj_F_iload_n_k, mj_F_imul, mj_F_invokestatic_i, mj_F_istore_k, mj_F_istore_n_k, mj_F_isub, mj_F_return_, mj_set, mj_set0, mj_unk, mj_c2, mj_kc, FT_X10, List.take_succ_cons, List.take_zero, List.drop_succ_cons, List.drop_zero, List.reverse_cons, List.reverse_nil, List.length_cons, List.length_nil, gS_C45, gCf10_11, gS_C51, sS_Ca_51, gCf10_12, gS_C52, sS_Ca_52, J_X10_unload]
  refine ⟨fun c => ?_, fun c => ?_⟩
  · replace hw := ok_t hw c
    exact hG.2 _ _ _ _ _ _ _ _ _ (by exact trivial) (Nat.zero_le _) (Nat.zero_le _) (hK0 _ (ok_some hw :) :)
  · replace hw := ok_f hw c
    refine ⟨(ok_rd hw).1, ?_⟩
    replace hw := (ok_rd hw).2
    refine ⟨(ok_rd hw).1, ?_⟩
    replace hw := (ok_rd hw).2
    refine hM 30 115 0 _ _ _ _ _ _ _ _ (by simp only [D_X10_unload]) (lkX10_115) rfl (Nat.le_of_ble_eq_true rfl) ?_
    refine hM 33 115 0 _ _ _ _ _ _ _ _ (by simp only [D_X10_unload]) (lkX10_115) rfl (Nat.le_of_ble_eq_true rfl) ?_
    refine mj_run hG.1 (fun pc => pc == 5 || pc == 30 || pc == 33 || pc == 77) 4000 ?_
    simp only [mj_step, mj_W_s, mj_fin, List.getElem?_cons_zero, List.getElem?_cons_succ, mj_go, Nat.reduceAdd, Nat.reduceSub, Nat.reduceLT, Nat.reduceLeDiff, Nat.zero_add, Nat.reduceEqDiff, Nat.reduceBEq, ↓reduceIte, Bool.false_eq_true, List.append_nil, List.nil_append, List.cons_append, Option.toList, and_true, true_and, true_or, or_true, reduceCtorEq, List.map_nil, bI_eq0, bI_eq1, bool_ft, pk_us, Bool.or_false, Bool.or_true, Bool.false_or, Bool.true_or, mj_kne, eq_self, Int32.reduceLT, Int32.reduceLE, Int32.reduceAdd, Int32.reduceSub, Int32.reduceMul, not_true_eq_false, not_false_eq_true, false_implies, true_implies, D_X10_unload, mj_F_aload_n_k, mj_F_dup2, mj_F_getfield_i, mj_F_goto_off, mj_F_iadd, mj_F_iaload, mj_F_iastore, mj_F_iconst_n, mj_F_if_icmp_ge_off, mj_F_iinc_k_n, mj_F_iload_k, mj_F_iload_n_k, mj_F_imul, mj_F_invokestatic_i, mj_F_istore_k, mj_F_istore_n_k, mj_F_isub, mj_F_return_, mj_set, mj_set0, mj_unk, mj_c2, mj_kc, FT_X10, List.take_succ_cons, List.take_zero, List.drop_succ_cons, List.drop_zero, List.reverse_cons, List.reverse_nil, List.length_cons, List.length_nil, gS_C45, gCf10_11, gS_C51, sS_Ca_51, gCf10_12, gS_C52, sS_Ca_52, J_X10_unload]
    refine ⟨(ok_rd hw).1, ?_⟩
    replace hw := (ok_rd hw).2
    refine ⟨(ok_wr hw).1, ?_⟩
    replace hw := (ok_wr hw).2
    refine ⟨(ok_rd hw).1, ?_⟩
    replace hw := (ok_rd hw).2
    refine ⟨(ok_wr hw).1, ?_⟩
    replace hw := (ok_wr hw).2
    exact hG.2 _ _ _ _ _ _ _ _ _ (by refine ⟨Or.inr rfl, ?_⟩; refine ⟨Or.inr rfl, ?_⟩; refine ⟨Or.inl rfl, ?_⟩; refine ⟨Or.inr rfl, ?_⟩; refine ⟨Or.inr rfl, ?_⟩; exact trivial) (Nat.zero_le _) (Nat.zero_le _) (hP _ (ok_some hw :) :)

set_option maxHeartbeats 4000000 in
set_option maxRecDepth 20000 in
theorem g_X10_unload_77 {k : Option Value → mj_H → Prop} {G : mj_K} (hG : mj_cl2 cX10_unload (TbX10 6 (none) []) k G) (hM : mj_ml cX10_unload yX10_unload.cls G)   {s : St} (hw : ok (F_X10_unload_77 s) (fun p => k none (mkCs p))) : G 77 [] [] (mkCs s) 0 0 := by
  unfold F_X10_unload_77 at hw
  refine mj_run hG.1 (fun pc => pc == 5 || pc == 30 || pc == 33 || pc == 77) 4000 ?_
  simp only [mj_step, mj_W_s, mj_fin, List.getElem?_cons_zero, List.getElem?_cons_succ, mj_go, Nat.reduceAdd, Nat.reduceSub, Nat.reduceLT, Nat.reduceLeDiff, Nat.zero_add, Nat.reduceEqDiff, Nat.reduceBEq, ↓reduceIte, Bool.false_eq_true, List.append_nil, List.nil_append, List.cons_append, Option.toList, and_true, true_and, true_or, or_true, reduceCtorEq, List.map_nil, bI_eq0, bI_eq1, bool_ft, pk_us, Bool.or_false, Bool.or_true, Bool.false_or, Bool.true_or, mj_kne, eq_self, Int32.reduceLT, Int32.reduceLE, Int32.reduceAdd, Int32.reduceSub, Int32.reduceMul, not_true_eq_false, not_false_eq_true, false_implies, true_implies, D_X10_unload, mj_F_aload_n_k, mj_F_dup2, mj_F_getfield_i, mj_F_goto_off, mj_F_iadd, mj_F_iaload, mj_F_iastore, mj_F_iconst_n, mj_F_if_icmp_ge_off, mj_F_iinc_k_n, mj_F_iload_k, mj_F_iload_n_k, mj_F_imul, mj_F_invokestatic_i, mj_F_istore_k, mj_F_istore_n_k, mj_F_isub, mj_F_return_, mj_set, mj_set0, mj_unk, mj_c2, mj_kc, FT_X10, List.take_succ_cons, List.take_zero, List.drop_succ_cons, List.drop_zero, List.reverse_cons, List.reverse_nil, List.length_cons, List.length_nil, gS_C45, gCf10_11, gS_C51, sS_Ca_51, gCf10_12, gS_C52, sS_Ca_52, J_X10_unload]
  exact (ok_some hw :)

set_option maxHeartbeats 4000000 in
theorem g_X10_unload_5 {k : Option Value → mj_H → Prop} {G : mj_K} (hG : mj_cl2 cX10_unload (TbX10 6 (none) []) k G) (hM : mj_ml cX10_unload yX10_unload.cls G)   {v1 : Int32} {v3 : Int32} {v4 : Int32} {s : St} (hw : ok (F_X10_unload_5 v1 v3 v4 s) (fun p => k none (mkCs p))) : G 5 [.ref 45, .int v1, mj_unk, .int v3, .int v4] [] (mkCs s) 0 0 := by
  unfold F_X10_unload_5 at hw
  refine lp_ok (B_X10_unload_5 v1) (fun x => G 5 [.ref 45, .int v1, mj_unk, .int x.1, .int x.2.1] [] (mkCs x.2.2) 0 0) _ ?_ _ _ (ok_bind hw)
  rintro ⟨v3, v4, s⟩ hb
  exact b_X10_unload_5 hG hM (fun _ z => z) (fun y hw => by exact hG.2 _ _ _ _ _ _ _ _ _ (by exact trivial) (Nat.zero_le _) (Nat.zero_le _) (g_X10_unload_77 hG hM  hw :)) hb

set_option maxHeartbeats 4000000 in
set_option maxRecDepth 20000 in
theorem g_X10_unload {k : Option Value → mj_H → Prop} {G : mj_K} (hG : mj_cl2 cX10_unload (TbX10 6 (none) []) k G) (hM : mj_ml cX10_unload yX10_unload.cls G) {v1 : Int32} {v2 : Int32} {s : St} (hw : ok (F_X10_unload v1 v2 s) (fun p => k none (mkCs p))) : G 0 [.ref 45, .int v1, .int v2] [] (mkCs s) 0 0 := by
  unfold F_X10_unload at hw
  refine mj_run hG.1 (fun pc => pc == 5 || pc == 30 || pc == 33 || pc == 77) 4000 ?_
  simp only [mj_step, mj_W_s, mj_fin, List.getElem?_cons_zero, List.getElem?_cons_succ, mj_go, Nat.reduceAdd, Nat.reduceSub, Nat.reduceLT, Nat.reduceLeDiff, Nat.zero_add, Nat.reduceEqDiff, Nat.reduceBEq, ↓reduceIte, Bool.false_eq_true, List.append_nil, List.nil_append, List.cons_append, Option.toList, and_true, true_and, true_or, or_true, reduceCtorEq, List.map_nil, bI_eq0, bI_eq1, bool_ft, pk_us, Bool.or_false, Bool.or_true, Bool.false_or, Bool.true_or, mj_kne, eq_self, Int32.reduceLT, Int32.reduceLE, Int32.reduceAdd, Int32.reduceSub, Int32.reduceMul, not_true_eq_false, not_false_eq_true, false_implies, true_implies, D_X10_unload, mj_F_aload_n_k, mj_F_dup2, mj_F_getfield_i, mj_F_goto_off, mj_F_iadd, mj_F_iaload, mj_F_iastore, mj_F_iconst_n, mj_F_if_icmp_ge_off, mj_F_iinc_k_n, mj_F_iload_k, mj_F_iload_n_k, mj_F_imul, mj_F_invokestatic_i, mj_F_istore_k, mj_F_istore_n_k, mj_F_isub, mj_F_return_, mj_set, mj_set0, mj_unk, mj_c2, mj_kc, FT_X10, List.take_succ_cons, List.take_zero, List.drop_succ_cons, List.drop_zero, List.reverse_cons, List.reverse_nil, List.length_cons, List.length_nil, gS_C45, gCf10_11, gS_C51, sS_Ca_51, gCf10_12, gS_C52, sS_Ca_52, J_X10_unload]
  exact hG.2 _ _ _ _ _ _ _ _ _ (by refine ⟨Or.inr rfl, ?_⟩; refine ⟨Or.inr rfl, ?_⟩; refine ⟨Or.inl rfl, ?_⟩; refine ⟨Or.inr rfl, ?_⟩; refine ⟨Or.inr rfl, ?_⟩; exact trivial) (Nat.zero_le _) (Nat.zero_le _) (g_X10_unload_5 hG hM  hw :)

def c_X10_unload : mj_S := fun as h k => ∃ (v1 : Int32) (v2 : Int32) (s : St), as = [.ref 45, .int v1, .int v2] ∧ h = mkCs s ∧ ok (F_X10_unload v1 v2 s) (fun p => k none (mkCs p))
theorem c_X10_unload_in {v1 : Int32} {v2 : Int32} {s : St} {k : Option Value → mj_H → Prop} (hw : ok (F_X10_unload v1 v2 s) (fun p => k none (mkCs p))) : c_X10_unload [.ref 45, .int v1, .int v2] (mkCs s) k := ⟨v1, v2, s, rfl, rfl, hw⟩
theorem m_X10_unload (l : Launch) : mj_Met l yX10_unload cX10_unload 6 (none) 1 0 0 c_X10_unload := by
  refine mj_body3 false (TbX10 6 (none) []) (by decide) (by decide) rfl rfl (fun h => nomatch h) (tfX10 _ (fun _ h => nomatch h)) ?_
  rintro as h k ⟨v1, v2, s, rfl, rfl, hw⟩
  exact ⟨rfl, fun G hG hM => g_X10_unload hG hM hw⟩
def B_X10_drive_11 (v2 : Int32) : Int32 × St → Option ((Int32 × St) ⊕ ((St) ⊕ (St)))
  | (v3, s) =>
  if (s.1 1009) ≤ v3 then
    some (.inr (.inl s))
  else
    (F_X10_lowestToServe v2 s).bind fun r2 =>
    if r2 = (-1) then
      some (.inr (.inr s))
    else
      (rd s 1010 10 v3).bind fun x3 =>
      (F_X10_unload r2 x3 s).bind fun s4 =>
      some (.inl ((v3 + 1), s4))
def F_X10_drive_51 (s : St) : Option (St) :=
  some s
def F_X10_drive_32 (s : St) : Option (St) :=
  some s
def F_X10_drive_11 (v2 : Int32) (v3 : Int32) (s : St) : Option (St) :=
  (lp (B_X10_drive_11 v2) FU (v3, s)).bind (Sum.elim (fun y => F_X10_drive_51 y) (fun y => F_X10_drive_32 y))
def F_X10_drive (v1 : Int32) (s : St) : Option (St) :=
  (F_X2_isWet v1 s).bind fun r1 =>
  F_X10_drive_11 r1 0 s
theorem J_X10_drive : mj_t 16 35 = 51 ∧ mj_t 29 4 = 33 ∧ mj_t 48 (-37) = 11 ∧ (0 ≤ ((16 : Nat) : Int) + 35) = True ∧ (0 ≤ ((29 : Nat) : Int) + 4) = True ∧ (0 ≤ ((48 : Nat) : Int) + (-37)) = True := by and_intros <;> first | rfl | exact eq_true (by decide)
def ct_X10_drive : List (Nat × mj_Cs) := [(73, 0, 2, 2, 0, 0, c_X2_isWet), (79, 0, 2, 10, 0, 0, c_X10_lowestToServe), (83, 0, 3, 10, 0, 0, c_X10_unload)]
theorem L_X10_drive : mj_lk ct_X10_drive 73 = some (0, 2, 2, 0, 0, c_X2_isWet) ∧ mj_lk ct_X10_drive 79 = some (0, 2, 10, 0, 0, c_X10_lowestToServe) ∧ mj_lk ct_X10_drive 83 = some (0, 3, 10, 0, 0, c_X10_unload) := ⟨rfl, rfl, rfl⟩
set_option maxHeartbeats 4000000 in
set_option maxRecDepth 20000 in
theorem b_X10_drive_11 {k : Option Value → mj_H → Prop} {G : mj_K} (hG : mj_cl2 cX10_drive (TbX10 5 (none) ct_X10_drive) k G) {v2 : Int32} {P : Int32 × St → Prop} {K : (St) ⊕ (St) → Prop} (hP : ∀ x, P x → G 11 [.ref 45, mj_unk, .int v2, .int x.1] [] (mkCs x.2) 0 0) (hK0 : ∀ y, K (.inl y) → G 51 [] [] (mkCs y) 0 0) (hK1 : ∀ y, K (.inr y) → G 32 [] [] (mkCs y) 0 0) {v3 : Int32} {s : St} (hw : ok (B_X10_drive_11 v2 (v3, s)) (Sum.elim P K)) : G 11 [.ref 45, mj_unk, .int v2, .int v3] [] (mkCs s) 0 0 := by
  unfold B_X10_drive_11 at hw
  refine mj_run hG.1 (fun pc => pc == 8 || pc == 11 || pc == 24 || pc == 32 || pc == 45 || pc == 51) 4000 ?_
  simp only [mj_step, mj_W_s, mj_fin, List.getElem?_cons_zero, List.getElem?_cons_succ, mj_go, Nat.reduceAdd, Nat.reduceSub, Nat.reduceLT, Nat.reduceLeDiff, Nat.zero_add, Nat.reduceEqDiff, Nat.reduceBEq, ↓reduceIte, Bool.false_eq_true, List.append_nil, List.nil_append, List.cons_append, Option.toList, and_true, true_and, true_or, or_true, reduceCtorEq, List.map_nil, bI_eq0, bI_eq1, bool_ft, pk_us, Bool.or_false, Bool.or_true, Bool.false_or, Bool.true_or, mj_kne, eq_self, Int32.reduceLT, Int32.reduceLE, Int32.reduceAdd, Int32.reduceSub, Int32.reduceMul, not_true_eq_false, not_false_eq_true, false_implies, true_implies, D_X10_drive, mj_F_aload_n_k, mj_F_getfield_i, mj_F_goto_off, mj_F_iaload, mj_F_iconst_n, mj_F_if_icmp_ge_off, mj_F_if_icmp_ne_off, mj_F_iinc_k_n, mj_F_iload_k, mj_F_iload_n_k, mj_F_invokevirtual_i, mj_F_istore_k, mj_F_istore_n_k, mj_F_return_, mj_set, mj_set0, mj_unk, mj_c2, mj_kc, FT_X10, L_X10_drive, List.take_succ_cons, List.take_zero, List.drop_succ_cons, List.drop_zero, List.reverse_cons, List.reverse_nil, List.length_cons, List.length_nil, gS_C45, gCf10_0, gCf10_9, gCf10_10, gS_C50, sS_Ca_50, gS_C1, J_X10_drive]
  refine ⟨fun c => ?_, fun c => ?_⟩
  · replace hw := ok_t hw c
    exact hG.2 _ _ _ _ _ _ _ _ _ (by exact trivial) (Nat.zero_le _) (Nat.zero_le _) (hK0 _ (ok_some hw :) :)
  · replace hw := ok_f hw c
    refine c_X10_lowestToServe_in (ok_imp (ok_bind hw) ?_)
    intro p hw
    simp only [Option.toList, List.nil_append, List.cons_append, Nat.reduceSub]
    refine mj_run hG.1 (fun pc => pc == 8 || pc == 11 || pc == 24 || pc == 32 || pc == 45 || pc == 51) 4000 ?_
    simp only [mj_step, mj_W_s, mj_fin, List.getElem?_cons_zero, List.getElem?_cons_succ, mj_go, Nat.reduceAdd, Nat.reduceSub, Nat.reduceLT, Nat.reduceLeDiff, Nat.zero_add, Nat.reduceEqDiff, Nat.reduceBEq, ↓reduceIte, Bool.false_eq_true, List.append_nil, List.nil_append, List.cons_append, Option.toList, and_true, true_and, true_or, or_true, reduceCtorEq, List.map_nil, bI_eq0, bI_eq1, bool_ft, pk_us, Bool.or_false, Bool.or_true, Bool.false_or, Bool.true_or, mj_kne, eq_self, Int32.reduceLT, Int32.reduceLE, Int32.reduceAdd, Int32.reduceSub, Int32.reduceMul, not_true_eq_false, not_false_eq_true, false_implies, true_implies, D_X10_drive, mj_F_aload_n_k, mj_F_getfield_i, mj_F_goto_off, mj_F_iaload, mj_F_iconst_n, mj_F_if_icmp_ge_off, mj_F_if_icmp_ne_off, mj_F_iinc_k_n, mj_F_iload_k, mj_F_iload_n_k, mj_F_invokevirtual_i, mj_F_istore_k, mj_F_istore_n_k, mj_F_return_, mj_set, mj_set0, mj_unk, mj_c2, mj_kc, FT_X10, L_X10_drive, List.take_succ_cons, List.take_zero, List.drop_succ_cons, List.drop_zero, List.reverse_cons, List.reverse_nil, List.length_cons, List.length_nil, gS_C45, gCf10_0, gCf10_9, gCf10_10, gS_C50, sS_Ca_50, gS_C1, J_X10_drive]
    refine ⟨fun c => ?_, fun c => ?_⟩
    · replace hw := ok_f hw c
      refine ⟨(ok_rd hw).1, ?_⟩
      replace hw := (ok_rd hw).2
      refine c_X10_unload_in (ok_imp (ok_bind hw) ?_)
      intro p hw
      simp only [Option.toList, List.nil_append, List.cons_append, Nat.reduceSub]
      refine mj_run hG.1 (fun pc => pc == 8 || pc == 11 || pc == 24 || pc == 32 || pc == 45 || pc == 51) 4000 ?_
      simp only [mj_step, mj_W_s, mj_fin, List.getElem?_cons_zero, List.getElem?_cons_succ, mj_go, Nat.reduceAdd, Nat.reduceSub, Nat.reduceLT, Nat.reduceLeDiff, Nat.zero_add, Nat.reduceEqDiff, Nat.reduceBEq, ↓reduceIte, Bool.false_eq_true, List.append_nil, List.nil_append, List.cons_append, Option.toList, and_true, true_and, true_or, or_true, reduceCtorEq, List.map_nil, bI_eq0, bI_eq1, bool_ft, pk_us, Bool.or_false, Bool.or_true, Bool.false_or, Bool.true_or, mj_kne, eq_self, Int32.reduceLT, Int32.reduceLE, Int32.reduceAdd, Int32.reduceSub, Int32.reduceMul, not_true_eq_false, not_false_eq_true, false_implies, true_implies, D_X10_drive, mj_F_aload_n_k, mj_F_getfield_i, mj_F_goto_off, mj_F_iaload, mj_F_iconst_n, mj_F_if_icmp_ge_off, mj_F_if_icmp_ne_off, mj_F_iinc_k_n, mj_F_iload_k, mj_F_iload_n_k, mj_F_invokevirtual_i, mj_F_istore_k, mj_F_istore_n_k, mj_F_return_, mj_set, mj_set0, mj_unk, mj_c2, mj_kc, FT_X10, L_X10_drive, List.take_succ_cons, List.take_zero, List.drop_succ_cons, List.drop_zero, List.reverse_cons, List.reverse_nil, List.length_cons, List.length_nil, gS_C45, gCf10_0, gCf10_9, gCf10_10, gS_C50, sS_Ca_50, gS_C1, J_X10_drive]
      exact hG.2 _ _ _ _ _ _ _ _ _ (by refine ⟨Or.inr rfl, ?_⟩; refine ⟨Or.inl rfl, ?_⟩; refine ⟨Or.inr rfl, ?_⟩; refine ⟨Or.inr rfl, ?_⟩; exact trivial) (Nat.zero_le _) (Nat.zero_le _) (hP _ (ok_some hw :) :)
    · replace hw := ok_t hw c
      exact hG.2 _ _ _ _ _ _ _ _ _ (by exact trivial) (Nat.zero_le _) (Nat.zero_le _) (hK1 _ (ok_some hw :) :)

set_option maxHeartbeats 4000000 in
set_option maxRecDepth 20000 in
theorem g_X10_drive_51 {k : Option Value → mj_H → Prop} {G : mj_K} (hG : mj_cl2 cX10_drive (TbX10 5 (none) ct_X10_drive) k G)   {s : St} (hw : ok (F_X10_drive_51 s) (fun p => k none (mkCs p))) : G 51 [] [] (mkCs s) 0 0 := by
  unfold F_X10_drive_51 at hw
  refine mj_run hG.1 (fun pc => pc == 8 || pc == 11 || pc == 24 || pc == 32 || pc == 45 || pc == 51) 4000 ?_
  simp only [mj_step, mj_W_s, mj_fin, List.getElem?_cons_zero, List.getElem?_cons_succ, mj_go, Nat.reduceAdd, Nat.reduceSub, Nat.reduceLT, Nat.reduceLeDiff, Nat.zero_add, Nat.reduceEqDiff, Nat.reduceBEq, ↓reduceIte, Bool.false_eq_true, List.append_nil, List.nil_append, List.cons_append, Option.toList, and_true, true_and, true_or, or_true, reduceCtorEq, List.map_nil, bI_eq0, bI_eq1, bool_ft, pk_us, Bool.or_false, Bool.or_true, Bool.false_or, Bool.true_or, mj_kne, eq_self, Int32.reduceLT, Int32.reduceLE, Int32.reduceAdd, Int32.reduceSub, Int32.reduceMul, not_true_eq_false, not_false_eq_true, false_implies, true_implies, D_X10_drive, mj_F_aload_n_k, mj_F_getfield_i, mj_F_goto_off, mj_F_iaload, mj_F_iconst_n, mj_F_if_icmp_ge_off, mj_F_if_icmp_ne_off, mj_F_iinc_k_n, mj_F_iload_k, mj_F_iload_n_k, mj_F_invokevirtual_i, mj_F_istore_k, mj_F_istore_n_k, mj_F_return_, mj_set, mj_set0, mj_unk, mj_c2, mj_kc, FT_X10, L_X10_drive, List.take_succ_cons, List.take_zero, List.drop_succ_cons, List.drop_zero, List.reverse_cons, List.reverse_nil, List.length_cons, List.length_nil, gS_C45, gCf10_0, gCf10_9, gCf10_10, gS_C50, sS_Ca_50, gS_C1, J_X10_drive]
  exact (ok_some hw :)

set_option maxHeartbeats 4000000 in
set_option maxRecDepth 20000 in
theorem g_X10_drive_32 {k : Option Value → mj_H → Prop} {G : mj_K} (hG : mj_cl2 cX10_drive (TbX10 5 (none) ct_X10_drive) k G)   {s : St} (hw : ok (F_X10_drive_32 s) (fun p => k none (mkCs p))) : G 32 [] [] (mkCs s) 0 0 := by
  unfold F_X10_drive_32 at hw
  refine mj_run hG.1 (fun pc => pc == 8 || pc == 11 || pc == 24 || pc == 32 || pc == 45 || pc == 51) 4000 ?_
  simp only [mj_step, mj_W_s, mj_fin, List.getElem?_cons_zero, List.getElem?_cons_succ, mj_go, Nat.reduceAdd, Nat.reduceSub, Nat.reduceLT, Nat.reduceLeDiff, Nat.zero_add, Nat.reduceEqDiff, Nat.reduceBEq, ↓reduceIte, Bool.false_eq_true, List.append_nil, List.nil_append, List.cons_append, Option.toList, and_true, true_and, true_or, or_true, reduceCtorEq, List.map_nil, bI_eq0, bI_eq1, bool_ft, pk_us, Bool.or_false, Bool.or_true, Bool.false_or, Bool.true_or, mj_kne, eq_self, Int32.reduceLT, Int32.reduceLE, Int32.reduceAdd, Int32.reduceSub, Int32.reduceMul, not_true_eq_false, not_false_eq_true, false_implies, true_implies, D_X10_drive, mj_F_aload_n_k, mj_F_getfield_i, mj_F_goto_off, mj_F_iaload, mj_F_iconst_n, mj_F_if_icmp_ge_off, mj_F_if_icmp_ne_off, mj_F_iinc_k_n, mj_F_iload_k, mj_F_iload_n_k, mj_F_invokevirtual_i, mj_F_istore_k, mj_F_istore_n_k, mj_F_return_, mj_set, mj_set0, mj_unk, mj_c2, mj_kc, FT_X10, L_X10_drive, List.take_succ_cons, List.take_zero, List.drop_succ_cons, List.drop_zero, List.reverse_cons, List.reverse_nil, List.length_cons, List.length_nil, gS_C45, gCf10_0, gCf10_9, gCf10_10, gS_C50, sS_Ca_50, gS_C1, J_X10_drive]
  exact (ok_some hw :)

set_option maxHeartbeats 4000000 in
theorem g_X10_drive_11 {k : Option Value → mj_H → Prop} {G : mj_K} (hG : mj_cl2 cX10_drive (TbX10 5 (none) ct_X10_drive) k G)   {v2 : Int32} {v3 : Int32} {s : St} (hw : ok (F_X10_drive_11 v2 v3 s) (fun p => k none (mkCs p))) : G 11 [.ref 45, mj_unk, .int v2, .int v3] [] (mkCs s) 0 0 := by
  unfold F_X10_drive_11 at hw
  refine lp_ok (B_X10_drive_11 v2) (fun x => G 11 [.ref 45, mj_unk, .int v2, .int x.1] [] (mkCs x.2) 0 0) _ ?_ _ _ (ok_bind hw)
  rintro ⟨v3, s⟩ hb
  exact b_X10_drive_11 hG (fun _ z => z) (fun y hw => by exact hG.2 _ _ _ _ _ _ _ _ _ (by exact trivial) (Nat.zero_le _) (Nat.zero_le _) (g_X10_drive_51 hG  hw :)) (fun y hw => by exact hG.2 _ _ _ _ _ _ _ _ _ (by exact trivial) (Nat.zero_le _) (Nat.zero_le _) (g_X10_drive_32 hG  hw :)) hb

set_option maxHeartbeats 4000000 in
set_option maxRecDepth 20000 in
theorem g_X10_drive {k : Option Value → mj_H → Prop} {G : mj_K} (hG : mj_cl2 cX10_drive (TbX10 5 (none) ct_X10_drive) k G) {v1 : Int32} {s : St} (hw : ok (F_X10_drive v1 s) (fun p => k none (mkCs p))) : G 0 [.ref 45, .int v1] [] (mkCs s) 0 0 := by
  unfold F_X10_drive at hw
  refine mj_run hG.1 (fun pc => pc == 8 || pc == 11 || pc == 24 || pc == 32 || pc == 45 || pc == 51) 4000 ?_
  simp only [mj_step, mj_W_s, mj_fin, List.getElem?_cons_zero, List.getElem?_cons_succ, mj_go, Nat.reduceAdd, Nat.reduceSub, Nat.reduceLT, Nat.reduceLeDiff, Nat.zero_add, Nat.reduceEqDiff, Nat.reduceBEq, ↓reduceIte, Bool.false_eq_true, List.append_nil, List.nil_append, List.cons_append, Option.toList, and_true, true_and, true_or, or_true, reduceCtorEq, List.map_nil, bI_eq0, bI_eq1, bool_ft, pk_us, Bool.or_false, Bool.or_true, Bool.false_or, Bool.true_or, mj_kne, eq_self, Int32.reduceLT, Int32.reduceLE, Int32.reduceAdd, Int32.reduceSub, Int32.reduceMul, not_true_eq_false, not_false_eq_true, false_implies, true_implies, D_X10_drive, mj_F_aload_n_k, mj_F_getfield_i, mj_F_goto_off, mj_F_iaload, mj_F_iconst_n, mj_F_if_icmp_ge_off, mj_F_if_icmp_ne_off, mj_F_iinc_k_n, mj_F_iload_k, mj_F_iload_n_k, mj_F_invokevirtual_i, mj_F_istore_k, mj_F_istore_n_k, mj_F_return_, mj_set, mj_set0, mj_unk, mj_c2, mj_kc, FT_X10, L_X10_drive, List.take_succ_cons, List.take_zero, List.drop_succ_cons, List.drop_zero, List.reverse_cons, List.reverse_nil, List.length_cons, List.length_nil, gS_C45, gCf10_0, gCf10_9, gCf10_10, gS_C50, sS_Ca_50, gS_C1, J_X10_drive]
  refine c_X2_isWet_in (ok_imp (ok_bind hw) ?_)
  intro p hw
  simp only [Option.toList, List.nil_append, List.cons_append, Nat.reduceSub]
  refine mj_run hG.1 (fun pc => pc == 8 || pc == 11 || pc == 24 || pc == 32 || pc == 45 || pc == 51) 4000 ?_
  simp only [mj_step, mj_W_s, mj_fin, List.getElem?_cons_zero, List.getElem?_cons_succ, mj_go, Nat.reduceAdd, Nat.reduceSub, Nat.reduceLT, Nat.reduceLeDiff, Nat.zero_add, Nat.reduceEqDiff, Nat.reduceBEq, ↓reduceIte, Bool.false_eq_true, List.append_nil, List.nil_append, List.cons_append, Option.toList, and_true, true_and, true_or, or_true, reduceCtorEq, List.map_nil, bI_eq0, bI_eq1, bool_ft, pk_us, Bool.or_false, Bool.or_true, Bool.false_or, Bool.true_or, mj_kne, eq_self, Int32.reduceLT, Int32.reduceLE, Int32.reduceAdd, Int32.reduceSub, Int32.reduceMul, not_true_eq_false, not_false_eq_true, false_implies, true_implies, D_X10_drive, mj_F_aload_n_k, mj_F_getfield_i, mj_F_goto_off, mj_F_iaload, mj_F_iconst_n, mj_F_if_icmp_ge_off, mj_F_if_icmp_ne_off, mj_F_iinc_k_n, mj_F_iload_k, mj_F_iload_n_k, mj_F_invokevirtual_i, mj_F_istore_k, mj_F_istore_n_k, mj_F_return_, mj_set, mj_set0, mj_unk, mj_c2, mj_kc, FT_X10, L_X10_drive, List.take_succ_cons, List.take_zero, List.drop_succ_cons, List.drop_zero, List.reverse_cons, List.reverse_nil, List.length_cons, List.length_nil, gS_C45, gCf10_0, gCf10_9, gCf10_10, gS_C50, sS_Ca_50, gS_C1, J_X10_drive]
  exact hG.2 _ _ _ _ _ _ _ _ _ (by refine ⟨Or.inr rfl, ?_⟩; refine ⟨Or.inl rfl, ?_⟩; refine ⟨Or.inr rfl, ?_⟩; refine ⟨Or.inr rfl, ?_⟩; exact trivial) (Nat.zero_le _) (Nat.zero_le _) (g_X10_drive_11 hG  hw :)

def c_X10_drive : mj_S := fun as h k => ∃ (v1 : Int32) (s : St), as = [.ref 45, .int v1] ∧ h = mkCs s ∧ ok (F_X10_drive v1 s) (fun p => k none (mkCs p))
theorem c_X10_drive_in {v1 : Int32} {s : St} {k : Option Value → mj_H → Prop} (hw : ok (F_X10_drive v1 s) (fun p => k none (mkCs p))) : c_X10_drive [.ref 45, .int v1] (mkCs s) k := ⟨v1, s, rfl, rfl, hw⟩
theorem m_X10_drive (l : Launch) : mj_Met l yX10_drive cX10_drive 5 (none) 4 0 0 c_X10_drive := by
  refine mj_body2 false (TbX10 5 (none) ct_X10_drive) (by decide) rfl rfl (fun h => nomatch h) (tfX10 _ (List.forall_mem_cons.mpr ⟨cfX10_73 (m_X2_isWet l) (by decide), List.forall_mem_cons.mpr ⟨cfX10_79 (m_X10_lowestToServe l) (by decide), List.forall_mem_cons.mpr ⟨cfX10_83 (m_X10_unload l) (by decide), fun _ h => nomatch h⟩⟩⟩)) ?_
  rintro as h k ⟨v1, s, rfl, rfl, hw⟩
  exact ⟨rfl, fun G hG => g_X10_drive hG hw⟩
def B_X10_lowestNeed_2 (v1 : Int32) (s : St) : Int32 → Option ((Int32) ⊕ ((Unit) ⊕ (Int32)))
  | v2 =>
  if 5 ≤ v2 then
    some (.inr (.inl ()))
  else
    (rd s 1012 100 ((v1 * 5) + v2)).bind fun x1 =>
    if x1 ≤ 0 then
      some (.inl (v2 + 1))
    else
      some (.inr (.inr v2))
def F_X10_lowestNeed_28 (s : St) : Option (Int32) :=
  some (-1)
def F_X10_lowestNeed_20 (v2 : Int32) (s : St) : Option (Int32) :=
  some v2
def F_X10_lowestNeed_2 (v1 : Int32) (v2 : Int32) (s : St) : Option (Int32) :=
  (lp (B_X10_lowestNeed_2 v1 s) FU v2).bind (Sum.elim (fun _ => F_X10_lowestNeed_28 s) (fun y => F_X10_lowestNeed_20 y s))
def F_X10_lowestNeed (v1 : Int32) (s : St) : Option (Int32) :=
  F_X10_lowestNeed_2 v1 0 s
theorem J_X10_lowestNeed : mj_t 4 24 = 28 ∧ mj_t 17 5 = 22 ∧ mj_t 25 (-23) = 2 ∧ (0 ≤ ((4 : Nat) : Int) + 24) = True ∧ (0 ≤ ((17 : Nat) : Int) + 5) = True ∧ (0 ≤ ((25 : Nat) : Int) + (-23)) = True := by and_intros <;> first | rfl | exact eq_true (by decide)
set_option maxHeartbeats 4000000 in
set_option maxRecDepth 20000 in
theorem b_X10_lowestNeed_2 {k : Option Value → mj_H → Prop} {G : mj_K} (hG : mj_cl2 cX10_lowestNeed (TbX10 3 ((some FieldType.int)) []) k G) {v1 : Int32} {s : St} {P : Int32 → Prop} {K : (Unit) ⊕ (Int32) → Prop} (hP : ∀ x, P x → G 2 [.ref 45, .int v1, .int x] [] (mkCs s) 0 0) (hK0 : ∀ y, K (.inl y) → G 28 [] [] (mkCs s) 0 0) (hK1 : ∀ y, K (.inr y) → G 20 [mj_unk, mj_unk, .int y] [] (mkCs s) 0 0) {v2 : Int32} (hw : ok (B_X10_lowestNeed_2 v1 s v2) (Sum.elim P K)) : G 2 [.ref 45, .int v1, .int v2] [] (mkCs s) 0 0 := by
  unfold B_X10_lowestNeed_2 at hw
  refine mj_run hG.1 (fun pc => pc == 2 || pc == 20 || pc == 28) 4000 ?_
  simp only [mj_step, mj_W_s, mj_fin, List.getElem?_cons_zero, List.getElem?_cons_succ, mj_go, Nat.reduceAdd, Nat.reduceSub, Nat.reduceLT, Nat.reduceLeDiff, Nat.zero_add, Nat.reduceEqDiff, Nat.reduceBEq, ↓reduceIte, Bool.false_eq_true, List.append_nil, List.nil_append, List.cons_append, Option.toList, and_true, true_and, true_or, or_true, reduceCtorEq, List.map_nil, bI_eq0, bI_eq1, bool_ft, pk_us, Bool.or_false, Bool.or_true, Bool.false_or, Bool.true_or, mj_kne, eq_self, Int32.reduceLT, Int32.reduceLE, Int32.reduceAdd, Int32.reduceSub, Int32.reduceMul, not_true_eq_false, not_false_eq_true, false_implies, true_implies, D_X10_lowestNeed, mj_F_aload_n_k, mj_F_getfield_i, mj_F_goto_off, mj_F_iadd, mj_F_iaload, mj_F_iconst_n, mj_F_ifCond_le_off, mj_F_if_icmp_ge_off, mj_F_iinc_k_n, mj_F_iload_n_k, mj_F_imul, mj_F_ireturn, mj_F_istore_n_k, mj_set, mj_set0, mj_unk, mj_c2, mj_kc, FT_X10, gS_C45, gCf10_12, gS_C52, sS_Ca_52, J_X10_lowestNeed]
  refine ⟨fun c => ?_, fun c => ?_⟩
  · replace hw := ok_t hw c
    exact hG.2 _ _ _ _ _ _ _ _ _ (by exact trivial) (Nat.zero_le _) (Nat.zero_le _) (hK0 _ (ok_some hw :) :)
  · replace hw := ok_f hw c
    refine ⟨(ok_rd hw).1, ?_⟩
    replace hw := (ok_rd hw).2
    refine ⟨fun c => ?_, fun c => ?_⟩
    · replace hw := ok_t hw c
      exact hG.2 _ _ _ _ _ _ _ _ _ (by refine ⟨Or.inr rfl, ?_⟩; refine ⟨Or.inr rfl, ?_⟩; refine ⟨Or.inr rfl, ?_⟩; exact trivial) (Nat.zero_le _) (Nat.zero_le _) (hP _ (ok_some hw :) :)
    · replace hw := ok_f hw c
      exact hG.2 _ _ _ _ _ _ _ _ _ (by refine ⟨Or.inl rfl, ?_⟩; refine ⟨Or.inl rfl, ?_⟩; refine ⟨Or.inr rfl, ?_⟩; exact trivial) (Nat.zero_le _) (Nat.zero_le _) (hK1 _ (ok_some hw :) :)

set_option maxHeartbeats 4000000 in
set_option maxRecDepth 20000 in
theorem g_X10_lowestNeed_28 {k : Option Value → mj_H → Prop} {G : mj_K} (hG : mj_cl2 cX10_lowestNeed (TbX10 3 ((some FieldType.int)) []) k G)   {s : St} (hw : ok (F_X10_lowestNeed_28 s) (fun p => k (some (.int p)) (mkCs s))) : G 28 [] [] (mkCs s) 0 0 := by
  unfold F_X10_lowestNeed_28 at hw
  refine mj_run hG.1 (fun pc => pc == 2 || pc == 20 || pc == 28) 4000 ?_
  simp only [mj_step, mj_W_s, mj_fin, List.getElem?_cons_zero, List.getElem?_cons_succ, mj_go, Nat.reduceAdd, Nat.reduceSub, Nat.reduceLT, Nat.reduceLeDiff, Nat.zero_add, Nat.reduceEqDiff, Nat.reduceBEq, ↓reduceIte, Bool.false_eq_true, List.append_nil, List.nil_append, List.cons_append, Option.toList, and_true, true_and, true_or, or_true, reduceCtorEq, List.map_nil, bI_eq0, bI_eq1, bool_ft, pk_us, Bool.or_false, Bool.or_true, Bool.false_or, Bool.true_or, mj_kne, eq_self, Int32.reduceLT, Int32.reduceLE, Int32.reduceAdd, Int32.reduceSub, Int32.reduceMul, not_true_eq_false, not_false_eq_true, false_implies, true_implies, D_X10_lowestNeed, mj_F_aload_n_k, mj_F_getfield_i, mj_F_goto_off, mj_F_iadd, mj_F_iaload, mj_F_iconst_n, mj_F_ifCond_le_off, mj_F_if_icmp_ge_off, mj_F_iinc_k_n, mj_F_iload_n_k, mj_F_imul, mj_F_ireturn, mj_F_istore_n_k, mj_set, mj_set0, mj_unk, mj_c2, mj_kc, FT_X10, gS_C45, gCf10_12, gS_C52, sS_Ca_52, J_X10_lowestNeed]
  exact (ok_some hw :)

set_option maxHeartbeats 4000000 in
set_option maxRecDepth 20000 in
theorem g_X10_lowestNeed_20 {k : Option Value → mj_H → Prop} {G : mj_K} (hG : mj_cl2 cX10_lowestNeed (TbX10 3 ((some FieldType.int)) []) k G)   {v2 : Int32} {s : St} (hw : ok (F_X10_lowestNeed_20 v2 s) (fun p => k (some (.int p)) (mkCs s))) : G 20 [mj_unk, mj_unk, .int v2] [] (mkCs s) 0 0 := by
  unfold F_X10_lowestNeed_20 at hw
  refine mj_run hG.1 (fun pc => pc == 2 || pc == 20 || pc == 28) 4000 ?_
  simp only [mj_step, mj_W_s, mj_fin, List.getElem?_cons_zero, List.getElem?_cons_succ, mj_go, Nat.reduceAdd, Nat.reduceSub, Nat.reduceLT, Nat.reduceLeDiff, Nat.zero_add, Nat.reduceEqDiff, Nat.reduceBEq, ↓reduceIte, Bool.false_eq_true, List.append_nil, List.nil_append, List.cons_append, Option.toList, and_true, true_and, true_or, or_true, reduceCtorEq, List.map_nil, bI_eq0, bI_eq1, bool_ft, pk_us, Bool.or_false, Bool.or_true, Bool.false_or, Bool.true_or, mj_kne, eq_self, Int32.reduceLT, Int32.reduceLE, Int32.reduceAdd, Int32.reduceSub, Int32.reduceMul, not_true_eq_false, not_false_eq_true, false_implies, true_implies, D_X10_lowestNeed, mj_F_aload_n_k, mj_F_getfield_i, mj_F_goto_off, mj_F_iadd, mj_F_iaload, mj_F_iconst_n, mj_F_ifCond_le_off, mj_F_if_icmp_ge_off, mj_F_iinc_k_n, mj_F_iload_n_k, mj_F_imul, mj_F_ireturn, mj_F_istore_n_k, mj_set, mj_set0, mj_unk, mj_c2, mj_kc, FT_X10, gS_C45, gCf10_12, gS_C52, sS_Ca_52, J_X10_lowestNeed]
  exact (ok_some hw :)

set_option maxHeartbeats 4000000 in
theorem g_X10_lowestNeed_2 {k : Option Value → mj_H → Prop} {G : mj_K} (hG : mj_cl2 cX10_lowestNeed (TbX10 3 ((some FieldType.int)) []) k G)   {v1 : Int32} {v2 : Int32} {s : St} (hw : ok (F_X10_lowestNeed_2 v1 v2 s) (fun p => k (some (.int p)) (mkCs s))) : G 2 [.ref 45, .int v1, .int v2] [] (mkCs s) 0 0 := by
  unfold F_X10_lowestNeed_2 at hw
  refine lp_ok (B_X10_lowestNeed_2 v1 s) (fun x => G 2 [.ref 45, .int v1, .int x] [] (mkCs s) 0 0) _ ?_ _ _ (ok_bind hw)
  rintro v2 hb
  exact b_X10_lowestNeed_2 hG (fun _ z => z) (fun y hw => by exact hG.2 _ _ _ _ _ _ _ _ _ (by exact trivial) (Nat.zero_le _) (Nat.zero_le _) (g_X10_lowestNeed_28 hG  hw :)) (fun y hw => by exact hG.2 _ _ _ _ _ _ _ _ _ (by refine ⟨Or.inl rfl, ?_⟩; refine ⟨Or.inl rfl, ?_⟩; refine ⟨Or.inr rfl, ?_⟩; exact trivial) (Nat.zero_le _) (Nat.zero_le _) (g_X10_lowestNeed_20 hG  hw :)) hb

set_option maxHeartbeats 4000000 in
set_option maxRecDepth 20000 in
theorem g_X10_lowestNeed {k : Option Value → mj_H → Prop} {G : mj_K} (hG : mj_cl2 cX10_lowestNeed (TbX10 3 ((some FieldType.int)) []) k G) {v1 : Int32} {s : St} (hw : ok (F_X10_lowestNeed v1 s) (fun p => k (some (.int p)) (mkCs s))) : G 0 [.ref 45, .int v1] [] (mkCs s) 0 0 := by
  unfold F_X10_lowestNeed at hw
  refine mj_run hG.1 (fun pc => pc == 2 || pc == 20 || pc == 28) 4000 ?_
  simp only [mj_step, mj_W_s, mj_fin, List.getElem?_cons_zero, List.getElem?_cons_succ, mj_go, Nat.reduceAdd, Nat.reduceSub, Nat.reduceLT, Nat.reduceLeDiff, Nat.zero_add, Nat.reduceEqDiff, Nat.reduceBEq, ↓reduceIte, Bool.false_eq_true, List.append_nil, List.nil_append, List.cons_append, Option.toList, and_true, true_and, true_or, or_true, reduceCtorEq, List.map_nil, bI_eq0, bI_eq1, bool_ft, pk_us, Bool.or_false, Bool.or_true, Bool.false_or, Bool.true_or, mj_kne, eq_self, Int32.reduceLT, Int32.reduceLE, Int32.reduceAdd, Int32.reduceSub, Int32.reduceMul, not_true_eq_false, not_false_eq_true, false_implies, true_implies, D_X10_lowestNeed, mj_F_aload_n_k, mj_F_getfield_i, mj_F_goto_off, mj_F_iadd, mj_F_iaload, mj_F_iconst_n, mj_F_ifCond_le_off, mj_F_if_icmp_ge_off, mj_F_iinc_k_n, mj_F_iload_n_k, mj_F_imul, mj_F_ireturn, mj_F_istore_n_k, mj_set, mj_set0, mj_unk, mj_c2, mj_kc, FT_X10, gS_C45, gCf10_12, gS_C52, sS_Ca_52, J_X10_lowestNeed]
  exact hG.2 _ _ _ _ _ _ _ _ _ (by refine ⟨Or.inr rfl, ?_⟩; refine ⟨Or.inr rfl, ?_⟩; refine ⟨Or.inr rfl, ?_⟩; exact trivial) (Nat.zero_le _) (Nat.zero_le _) (g_X10_lowestNeed_2 hG  hw :)

def c_X10_lowestNeed : mj_S := fun as h k => ∃ (v1 : Int32) (s : St), as = [.ref 45, .int v1] ∧ h = mkCs s ∧ ok (F_X10_lowestNeed v1 s) (fun p => k (some (.int p)) (mkCs s))
theorem c_X10_lowestNeed_in {v1 : Int32} {s : St} {k : Option Value → mj_H → Prop} (hw : ok (F_X10_lowestNeed v1 s) (fun p => k (some (.int p)) (mkCs s))) : c_X10_lowestNeed [.ref 45, .int v1] (mkCs s) k := ⟨v1, s, rfl, rfl, hw⟩
theorem m_X10_lowestNeed (l : Launch) : mj_Met l yX10_lowestNeed cX10_lowestNeed 3 ((some FieldType.int)) 0 0 0 c_X10_lowestNeed := by
  refine mj_body2 false (TbX10 3 ((some FieldType.int)) []) (by decide) rfl rfl (fun h => nomatch h) (tfX10 _ (fun _ h => nomatch h)) ?_
  rintro as h k ⟨v1, s, rfl, rfl, hw⟩
  exact ⟨rfl, fun G hG => g_X10_lowestNeed hG hw⟩
def B_X1_countOf_9 (v1 : Int32) (v2 : Int32) (v3 : Int32) (s : St) : Int32 × Int32 × Int32 → Option ((Int32 × Int32 × Int32) ⊕ ((Int32)))
  | (v4, v5, v6) =>
  if (s.1 107) ≤ v6 then
    some (.inr v4)
  else
    (rd s 108 200 v6).bind fun x1 =>
    if x1 = v1 then
      (rd s 110 200 v6).bind fun x2 =>
      if v3 < x2 then
        some (.inl (v4, v5, (v6 + 1)))
      else
        (rd s 109 200 v6).bind fun x3 =>
        if v2 < x3 then
          some (.inl (v4, v5, (v6 + 1)))
        else
          (rd s 109 200 v6).bind fun x4 =>
          if x4 < v5 then
            some (.inl (v4, v5, (v6 + 1)))
          else
            (rd s 109 200 v6).bind fun x5 =>
            some (.inl (v6, x5, (v6 + 1)))
    else
      some (.inl (v4, v5, (v6 + 1)))
def F_X1_countOf_82 (v4 : Int32) (s : St) : Option (Int32) :=
  some v4
def F_X1_countOf_9 (v1 : Int32) (v2 : Int32) (v3 : Int32) (v4 : Int32) (v5 : Int32) (v6 : Int32) (s : St) : Option (Int32) :=
  (lp (B_X1_countOf_9 v1 v2 v3 s) FU (v4, v5, v6)).bind (fun y => F_X1_countOf_82 y s)
def F_X1_countOf (v1 : Int32) (v2 : Int32) (v3 : Int32) (s : St) : Option (Int32) :=
  F_X1_countOf_9 v1 v2 v3 (-1) 0 0 s
theorem J_X1_countOf : mj_t 15 67 = 82 ∧ mj_t 26 50 = 76 ∧ mj_t 37 39 = 76 ∧ mj_t 48 28 = 76 ∧ mj_t 60 16 = 76 ∧ mj_t 79 (-70) = 9 ∧ (0 ≤ ((15 : Nat) : Int) + 67) = True ∧ (0 ≤ ((26 : Nat) : Int) + 50) = True ∧ (0 ≤ ((37 : Nat) : Int) + 39) = True ∧ (0 ≤ ((48 : Nat) : Int) + 28) = True ∧ (0 ≤ ((60 : Nat) : Int) + 16) = True ∧ (0 ≤ ((79 : Nat) : Int) + (-70)) = True := by and_intros <;> first | rfl | exact eq_true (by decide)
set_option maxHeartbeats 4000000 in
set_option maxRecDepth 20000 in
theorem b_X1_countOf_9 {k : Option Value → mj_H → Prop} {G : mj_K} (hG : mj_cl2 cX1_countOf (TbX1 7 ((some FieldType.int)) []) k G) {v1 : Int32} {v2 : Int32} {v3 : Int32} {s : St} {P : Int32 × Int32 × Int32 → Prop} {K : (Int32) → Prop} (hP : ∀ x, P x → G 9 [.ref 20, .int v1, .int v2, .int v3, .int x.1, .int x.2.1, .int x.2.2] [] (mkCs s) 0 0) (hK0 : ∀ y, K y → G 82 [mj_unk, mj_unk, mj_unk, mj_unk, .int y] [] (mkCs s) 0 0) {v4 : Int32} {v5 : Int32} {v6 : Int32} (hw : ok (B_X1_countOf_9 v1 v2 v3 s (v4, v5, v6)) (Sum.elim P K)) : G 9 [.ref 20, .int v1, .int v2, .int v3, .int v4, .int v5, .int v6] [] (mkCs s) 0 0 := by
  unfold B_X1_countOf_9 at hw
  refine mj_run hG.1 (fun pc => pc == 9 || pc == 82) 4000 ?_
  simp only [mj_step, mj_W_s, mj_fin, List.getElem?_cons_zero, List.getElem?_cons_succ, mj_go, Nat.reduceAdd, Nat.reduceSub, Nat.reduceLT, Nat.reduceLeDiff, Nat.zero_add, Nat.reduceEqDiff, Nat.reduceBEq, ↓reduceIte, Bool.false_eq_true, List.append_nil, List.nil_append, List.cons_append, Option.toList, and_true, true_and, true_or, or_true, reduceCtorEq, List.map_nil, bI_eq0, bI_eq1, bool_ft, pk_us, Bool.or_false, Bool.or_true, Bool.false_or, Bool.true_or, mj_kne, eq_self, Int32.reduceLT, Int32.reduceLE, Int32.reduceAdd, Int32.reduceSub, Int32.reduceMul, not_true_eq_false, not_false_eq_true, false_implies, true_implies, D_X1_countOf, mj_F_aload_n_k, mj_F_getfield_i, mj_F_goto_off, mj_F_iaload, mj_F_iconst_n, mj_F_if_icmp_ge_off, mj_F_if_icmp_gt_off, mj_F_if_icmp_lt_off, mj_F_if_icmp_ne_off, mj_F_iinc_k_n, mj_F_iload_k, mj_F_iload_n_k, mj_F_ireturn, mj_F_istore_k, mj_set, mj_set0, mj_unk, mj_c2, mj_kc, FT_X1, gS_C20, gCf1_7, gCf1_8, gS_C26, sS_Ca_26, gCf1_10, gS_C28, sS_Ca_28, gCf1_9, gS_C27, sS_Ca_27, J_X1_countOf]
  refine ⟨fun c => ?_, fun c => ?_⟩
  · replace hw := ok_t hw c
    exact hG.2 _ _ _ _ _ _ _ _ _ (by refine ⟨Or.inl rfl, ?_⟩; refine ⟨Or.inl rfl, ?_⟩; refine ⟨Or.inl rfl, ?_⟩; refine ⟨Or.inl rfl, ?_⟩; refine ⟨Or.inr rfl, ?_⟩; exact trivial) (Nat.zero_le _) (Nat.zero_le _) (hK0 _ (ok_some hw :) :)
  · replace hw := ok_f hw c
    refine ⟨(ok_rd hw).1, ?_⟩
    replace hw := (ok_rd hw).2
    refine ⟨fun c => ?_, fun c => ?_⟩
    · replace hw := ok_f hw c
      exact hG.2 _ _ _ _ _ _ _ _ _ (by refine ⟨Or.inr rfl, ?_⟩; refine ⟨Or.inr rfl, ?_⟩; refine ⟨Or.inr rfl, ?_⟩; refine ⟨Or.inr rfl, ?_⟩; refine ⟨Or.inr rfl, ?_⟩; refine ⟨Or.inr rfl, ?_⟩; refine ⟨Or.inr rfl, ?_⟩; exact trivial) (Nat.zero_le _) (Nat.zero_le _) (hP _ (ok_some hw :) :)
    · replace hw := ok_t hw c
      refine ⟨(ok_rd hw).1, ?_⟩
      replace hw := (ok_rd hw).2
      refine ⟨fun c => ?_, fun c => ?_⟩
      · replace hw := ok_t hw c
        exact hG.2 _ _ _ _ _ _ _ _ _ (by refine ⟨Or.inr rfl, ?_⟩; refine ⟨Or.inr rfl, ?_⟩; refine ⟨Or.inr rfl, ?_⟩; refine ⟨Or.inr rfl, ?_⟩; refine ⟨Or.inr rfl, ?_⟩; refine ⟨Or.inr rfl, ?_⟩; refine ⟨Or.inr rfl, ?_⟩; exact trivial) (Nat.zero_le _) (Nat.zero_le _) (hP _ (ok_some hw :) :)
      · replace hw := ok_f hw c
        refine ⟨(ok_rd hw).1, ?_⟩
        replace hw := (ok_rd hw).2
        refine ⟨fun c => ?_, fun c => ?_⟩
        · replace hw := ok_t hw c
          exact hG.2 _ _ _ _ _ _ _ _ _ (by refine ⟨Or.inr rfl, ?_⟩; refine ⟨Or.inr rfl, ?_⟩; refine ⟨Or.inr rfl, ?_⟩; refine ⟨Or.inr rfl, ?_⟩; refine ⟨Or.inr rfl, ?_⟩; refine ⟨Or.inr rfl, ?_⟩; refine ⟨Or.inr rfl, ?_⟩; exact trivial) (Nat.zero_le _) (Nat.zero_le _) (hP _ (ok_some hw :) :)
        · replace hw := ok_f hw c
          refine ⟨(ok_rd hw).1, ?_⟩
          replace hw := (ok_rd hw).2
          refine ⟨fun c => ?_, fun c => ?_⟩
          · replace hw := ok_t hw c
            exact hG.2 _ _ _ _ _ _ _ _ _ (by refine ⟨Or.inr rfl, ?_⟩; refine ⟨Or.inr rfl, ?_⟩; refine ⟨Or.inr rfl, ?_⟩; refine ⟨Or.inr rfl, ?_⟩; refine ⟨Or.inr rfl, ?_⟩; refine ⟨Or.inr rfl, ?_⟩; refine ⟨Or.inr rfl, ?_⟩; exact trivial) (Nat.zero_le _) (Nat.zero_le _) (hP _ (ok_some hw :) :)
          · replace hw := ok_f hw c
            refine ⟨(ok_rd hw).1, ?_⟩
            replace hw := (ok_rd hw).2
            exact hG.2 _ _ _ _ _ _ _ _ _ (by refine ⟨Or.inr rfl, ?_⟩; refine ⟨Or.inr rfl, ?_⟩; refine ⟨Or.inr rfl, ?_⟩; refine ⟨Or.inr rfl, ?_⟩; refine ⟨Or.inr rfl, ?_⟩; refine ⟨Or.inr rfl, ?_⟩; refine ⟨Or.inr rfl, ?_⟩; exact trivial) (Nat.zero_le _) (Nat.zero_le _) (hP _ (ok_some hw :) :)

set_option maxHeartbeats 4000000 in
set_option maxRecDepth 20000 in
theorem g_X1_countOf_82 {k : Option Value → mj_H → Prop} {G : mj_K} (hG : mj_cl2 cX1_countOf (TbX1 7 ((some FieldType.int)) []) k G)   {v4 : Int32} {s : St} (hw : ok (F_X1_countOf_82 v4 s) (fun p => k (some (.int p)) (mkCs s))) : G 82 [mj_unk, mj_unk, mj_unk, mj_unk, .int v4] [] (mkCs s) 0 0 := by
  unfold F_X1_countOf_82 at hw
  refine mj_run hG.1 (fun pc => pc == 9 || pc == 82) 4000 ?_
  simp only [mj_step, mj_W_s, mj_fin, List.getElem?_cons_zero, List.getElem?_cons_succ, mj_go, Nat.reduceAdd, Nat.reduceSub, Nat.reduceLT, Nat.reduceLeDiff, Nat.zero_add, Nat.reduceEqDiff, Nat.reduceBEq, ↓reduceIte, Bool.false_eq_true, List.append_nil, List.nil_append, List.cons_append, Option.toList, and_true, true_and, true_or, or_true, reduceCtorEq, List.map_nil, bI_eq0, bI_eq1, bool_ft, pk_us, Bool.or_false, Bool.or_true, Bool.false_or, Bool.true_or, mj_kne, eq_self, Int32.reduceLT, Int32.reduceLE, Int32.reduceAdd, Int32.reduceSub, Int32.reduceMul, not_true_eq_false, not_false_eq_true, false_implies, true_implies, D_X1_countOf, mj_F_aload_n_k, mj_F_getfield_i, mj_F_goto_off, mj_F_iaload, mj_F_iconst_n, mj_F_if_icmp_ge_off, mj_F_if_icmp_gt_off, mj_F_if_icmp_lt_off, mj_F_if_icmp_ne_off, mj_F_iinc_k_n, mj_F_iload_k, mj_F_iload_n_k, mj_F_ireturn, mj_F_istore_k, mj_set, mj_set0, mj_unk, mj_c2, mj_kc, FT_X1, gS_C20, gCf1_7, gCf1_8, gS_C26, sS_Ca_26, gCf1_10, gS_C28, sS_Ca_28, gCf1_9, gS_C27, sS_Ca_27, J_X1_countOf]
  exact (ok_some hw :)

set_option maxHeartbeats 4000000 in
theorem g_X1_countOf_9 {k : Option Value → mj_H → Prop} {G : mj_K} (hG : mj_cl2 cX1_countOf (TbX1 7 ((some FieldType.int)) []) k G)   {v1 : Int32} {v2 : Int32} {v3 : Int32} {v4 : Int32} {v5 : Int32} {v6 : Int32} {s : St} (hw : ok (F_X1_countOf_9 v1 v2 v3 v4 v5 v6 s) (fun p => k (some (.int p)) (mkCs s))) : G 9 [.ref 20, .int v1, .int v2, .int v3, .int v4, .int v5, .int v6] [] (mkCs s) 0 0 := by
  unfold F_X1_countOf_9 at hw
  refine lp_ok (B_X1_countOf_9 v1 v2 v3 s) (fun x => G 9 [.ref 20, .int v1, .int v2, .int v3, .int x.1, .int x.2.1, .int x.2.2] [] (mkCs s) 0 0) _ ?_ _ _ (ok_bind hw)
  rintro ⟨v4, v5, v6⟩ hb
  exact b_X1_countOf_9 hG (fun _ z => z) (fun y hw => by exact hG.2 _ _ _ _ _ _ _ _ _ (by refine ⟨Or.inl rfl, ?_⟩; refine ⟨Or.inl rfl, ?_⟩; refine ⟨Or.inl rfl, ?_⟩; refine ⟨Or.inl rfl, ?_⟩; refine ⟨Or.inr rfl, ?_⟩; exact trivial) (Nat.zero_le _) (Nat.zero_le _) (g_X1_countOf_82 hG  hw :)) hb

set_option maxHeartbeats 4000000 in
set_option maxRecDepth 20000 in
theorem g_X1_countOf {k : Option Value → mj_H → Prop} {G : mj_K} (hG : mj_cl2 cX1_countOf (TbX1 7 ((some FieldType.int)) []) k G) {v1 : Int32} {v2 : Int32} {v3 : Int32} {s : St} (hw : ok (F_X1_countOf v1 v2 v3 s) (fun p => k (some (.int p)) (mkCs s))) : G 0 [.ref 20, .int v1, .int v2, .int v3] [] (mkCs s) 0 0 := by
  unfold F_X1_countOf at hw
  refine mj_run hG.1 (fun pc => pc == 9 || pc == 82) 4000 ?_
  simp only [mj_step, mj_W_s, mj_fin, List.getElem?_cons_zero, List.getElem?_cons_succ, mj_go, Nat.reduceAdd, Nat.reduceSub, Nat.reduceLT, Nat.reduceLeDiff, Nat.zero_add, Nat.reduceEqDiff, Nat.reduceBEq, ↓reduceIte, Bool.false_eq_true, List.append_nil, List.nil_append, List.cons_append, Option.toList, and_true, true_and, true_or, or_true, reduceCtorEq, List.map_nil, bI_eq0, bI_eq1, bool_ft, pk_us, Bool.or_false, Bool.or_true, Bool.false_or, Bool.true_or, mj_kne, eq_self, Int32.reduceLT, Int32.reduceLE, Int32.reduceAdd, Int32.reduceSub, Int32.reduceMul, not_true_eq_false, not_false_eq_true, false_implies, true_implies, D_X1_countOf, mj_F_aload_n_k, mj_F_getfield_i, mj_F_goto_off, mj_F_iaload, mj_F_iconst_n, mj_F_if_icmp_ge_off, mj_F_if_icmp_gt_off, mj_F_if_icmp_lt_off, mj_F_if_icmp_ne_off, mj_F_iinc_k_n, mj_F_iload_k, mj_F_iload_n_k, mj_F_ireturn, mj_F_istore_k, mj_set, mj_set0, mj_unk, mj_c2, mj_kc, FT_X1, gS_C20, gCf1_7, gCf1_8, gS_C26, sS_Ca_26, gCf1_10, gS_C28, sS_Ca_28, gCf1_9, gS_C27, sS_Ca_27, J_X1_countOf]
  exact hG.2 _ _ _ _ _ _ _ _ _ (by refine ⟨Or.inr rfl, ?_⟩; refine ⟨Or.inr rfl, ?_⟩; refine ⟨Or.inr rfl, ?_⟩; refine ⟨Or.inr rfl, ?_⟩; refine ⟨Or.inr rfl, ?_⟩; refine ⟨Or.inr rfl, ?_⟩; refine ⟨Or.inr rfl, ?_⟩; exact trivial) (Nat.zero_le _) (Nat.zero_le _) (g_X1_countOf_9 hG  hw :)

def c_X1_countOf : mj_S := fun as h k => ∃ (v1 : Int32) (v2 : Int32) (v3 : Int32) (s : St), as = [.ref 20, .int v1, .int v2, .int v3] ∧ h = mkCs s ∧ ok (F_X1_countOf v1 v2 v3 s) (fun p => k (some (.int p)) (mkCs s))
theorem c_X1_countOf_in {v1 : Int32} {v2 : Int32} {v3 : Int32} {s : St} {k : Option Value → mj_H → Prop} (hw : ok (F_X1_countOf v1 v2 v3 s) (fun p => k (some (.int p)) (mkCs s))) : c_X1_countOf [.ref 20, .int v1, .int v2, .int v3] (mkCs s) k := ⟨v1, v2, v3, s, rfl, rfl, hw⟩
theorem m_X1_countOf (l : Launch) : mj_Met l yX1_countOf cX1_countOf 7 ((some FieldType.int)) 0 0 0 c_X1_countOf := by
  refine mj_body2 false (TbX1 7 ((some FieldType.int)) []) (by decide) rfl rfl (fun h => nomatch h) (tfX1 _ (fun _ h => nomatch h)) ?_
  rintro as h k ⟨v1, v2, v3, s, rfl, rfl, hw⟩
  exact ⟨rfl, fun G hG => g_X1_countOf hG hw⟩
def F_X1_childrenOf (v1 : Int32) (v2 : Int32) (v3 : Int32) (s : St) : Option (Int32) :=
  (F_X1_countOf v1 v2 v3 s).bind fun r1 =>
  if r1 = (-1) then
    some 0
  else
    (rd s 111 200 r1).bind fun x2 =>
    (rd s 112 200 r1).bind fun x3 =>
    some (x2 + x3)
theorem J_X1_childrenOf : mj_t 12 7 = 19 ∧ mj_t 16 18 = 34 ∧ (0 ≤ ((12 : Nat) : Int) + 7) = True ∧ (0 ≤ ((16 : Nat) : Int) + 18) = True := by and_intros <;> first | rfl | exact eq_true (by decide)
def ct_X1_childrenOf : List (Nat × mj_Cs) := [(74, 0, 4, 1, 0, 0, c_X1_countOf)]
theorem L_X1_childrenOf : mj_lk ct_X1_childrenOf 74 = some (0, 4, 1, 0, 0, c_X1_countOf) := rfl
set_option maxHeartbeats 4000000 in
set_option maxRecDepth 20000 in
theorem g_X1_childrenOf {k : Option Value → mj_H → Prop} {G : mj_K} (hG : mj_cl2 cX1_childrenOf (TbX1 5 ((some FieldType.int)) ct_X1_childrenOf) k G) {v1 : Int32} {v2 : Int32} {v3 : Int32} {s : St} (hw : ok (F_X1_childrenOf v1 v2 v3 s) (fun p => k (some (.int p)) (mkCs s))) : G 0 [.ref 20, .int v1, .int v2, .int v3] [] (mkCs s) 0 0 := by
  unfold F_X1_childrenOf at hw
  refine mj_run hG.1 (fun pc => pc == 7) 4000 ?_
  simp only [mj_step, mj_W_s, mj_fin, List.getElem?_cons_zero, List.getElem?_cons_succ, mj_go, Nat.reduceAdd, Nat.reduceSub, Nat.reduceLT, Nat.reduceLeDiff, Nat.zero_add, Nat.reduceEqDiff, Nat.reduceBEq, ↓reduceIte, Bool.false_eq_true, List.append_nil, List.nil_append, List.cons_append, Option.toList, and_true, true_and, true_or, or_true, reduceCtorEq, List.map_nil, bI_eq0, bI_eq1, bool_ft, pk_us, Bool.or_false, Bool.or_true, Bool.false_or, Bool.true_or, mj_kne, eq_self, Int32.reduceLT, Int32.reduceLE, Int32.reduceAdd, Int32.reduceSub, Int32.reduceMul, not_true_eq_false, not_false_eq_true, false_implies, true_implies, D_X1_childrenOf, mj_F_aload_n_k, mj_F_getfield_i, mj_F_goto_off, mj_F_iadd, mj_F_iaload, mj_F_iconst_n, mj_F_if_icmp_ne_off, mj_F_iload_k, mj_F_iload_n_k, mj_F_invokevirtual_i, mj_F_ireturn, mj_F_istore_k, mj_set, mj_set0, mj_unk, mj_c2, mj_kc, FT_X1, L_X1_childrenOf, List.take_succ_cons, List.take_zero, List.drop_succ_cons, List.drop_zero, List.reverse_cons, List.reverse_nil, List.length_cons, List.length_nil, gS_C20, gCf1_11, gS_C29, sS_Ca_29, gCf1_12, gS_C30, sS_Ca_30, J_X1_childrenOf]
  refine c_X1_countOf_in (ok_imp (ok_bind hw) ?_)
  intro p hw
  simp only [Option.toList, List.nil_append, List.cons_append, Nat.reduceSub]
  refine mj_run hG.1 (fun pc => pc == 7) 4000 ?_
  simp only [mj_step, mj_W_s, mj_fin, List.getElem?_cons_zero, List.getElem?_cons_succ, mj_go, Nat.reduceAdd, Nat.reduceSub, Nat.reduceLT, Nat.reduceLeDiff, Nat.zero_add, Nat.reduceEqDiff, Nat.reduceBEq, ↓reduceIte, Bool.false_eq_true, List.append_nil, List.nil_append, List.cons_append, Option.toList, and_true, true_and, true_or, or_true, reduceCtorEq, List.map_nil, bI_eq0, bI_eq1, bool_ft, pk_us, Bool.or_false, Bool.or_true, Bool.false_or, Bool.true_or, mj_kne, eq_self, Int32.reduceLT, Int32.reduceLE, Int32.reduceAdd, Int32.reduceSub, Int32.reduceMul, not_true_eq_false, not_false_eq_true, false_implies, true_implies, D_X1_childrenOf, mj_F_aload_n_k, mj_F_getfield_i, mj_F_goto_off, mj_F_iadd, mj_F_iaload, mj_F_iconst_n, mj_F_if_icmp_ne_off, mj_F_iload_k, mj_F_iload_n_k, mj_F_invokevirtual_i, mj_F_ireturn, mj_F_istore_k, mj_set, mj_set0, mj_unk, mj_c2, mj_kc, FT_X1, L_X1_childrenOf, List.take_succ_cons, List.take_zero, List.drop_succ_cons, List.drop_zero, List.reverse_cons, List.reverse_nil, List.length_cons, List.length_nil, gS_C20, gCf1_11, gS_C29, sS_Ca_29, gCf1_12, gS_C30, sS_Ca_30, J_X1_childrenOf]
  refine ⟨fun c => ?_, fun c => ?_⟩
  · replace hw := ok_f hw c
    refine ⟨(ok_rd hw).1, ?_⟩
    replace hw := (ok_rd hw).2
    refine ⟨(ok_rd hw).1, ?_⟩
    replace hw := (ok_rd hw).2
    exact (ok_some hw :)
  · replace hw := ok_t hw c
    exact (ok_some hw :)

def c_X1_childrenOf : mj_S := fun as h k => ∃ (v1 : Int32) (v2 : Int32) (v3 : Int32) (s : St), as = [.ref 20, .int v1, .int v2, .int v3] ∧ h = mkCs s ∧ ok (F_X1_childrenOf v1 v2 v3 s) (fun p => k (some (.int p)) (mkCs s))
theorem c_X1_childrenOf_in {v1 : Int32} {v2 : Int32} {v3 : Int32} {s : St} {k : Option Value → mj_H → Prop} (hw : ok (F_X1_childrenOf v1 v2 v3 s) (fun p => k (some (.int p)) (mkCs s))) : c_X1_childrenOf [.ref 20, .int v1, .int v2, .int v3] (mkCs s) k := ⟨v1, v2, v3, s, rfl, rfl, hw⟩
theorem m_X1_childrenOf (l : Launch) : mj_Met l yX1_childrenOf cX1_childrenOf 5 ((some FieldType.int)) 1 0 0 c_X1_childrenOf := by
  refine mj_body2 false (TbX1 5 ((some FieldType.int)) ct_X1_childrenOf) (by decide) rfl rfl (fun h => nomatch h) (tfX1 _ (List.forall_mem_cons.mpr ⟨cfX1_74 (m_X1_countOf l) (by decide), fun _ h => nomatch h⟩)) ?_
  rintro as h k ⟨v1, v2, v3, s, rfl, rfl, hw⟩
  exact ⟨rfl, fun G hG => g_X1_childrenOf hG hw⟩
def F_X0_spell (v1 : Int32) (v2 : Int32) (v3 : Int32) (v4 : Int32) (s : St) : Option (St) :=
  (wr s 7 6 2 v1).bind fun s1 =>
  (wr s1 7 6 3 v2).bind fun s2 =>
  (wr s2 7 6 4 v3).bind fun s3 =>
  (wr s3 7 6 5 v4).bind fun s4 =>
  some s4
set_option maxHeartbeats 4000000 in
set_option maxRecDepth 20000 in
theorem g_X0_spell {k : Option Value → mj_H → Prop} {G : mj_K} (hG : mj_cl2 cX0_spell (TbX0 5 (none) []) k G) {v1 : Int32} {v2 : Int32} {v3 : Int32} {v4 : Int32} {s : St} (hw : ok (F_X0_spell v1 v2 v3 v4 s) (fun p => k none (mkCs p))) : G 0 [.ref 11, .int v1, .int v2, .int v3, .int v4] [] (mkCs s) 0 0 := by
  unfold F_X0_spell at hw
  refine mj_run hG.1 (fun _ => false) 4000 ?_
  simp only [mj_step, mj_W_s, mj_fin, List.getElem?_cons_zero, List.getElem?_cons_succ, mj_go, Nat.reduceAdd, Nat.reduceSub, Nat.reduceLT, Nat.reduceLeDiff, Nat.zero_add, Nat.reduceEqDiff, Nat.reduceBEq, ↓reduceIte, Bool.false_eq_true, List.append_nil, List.nil_append, List.cons_append, Option.toList, and_true, true_and, true_or, or_true, reduceCtorEq, List.map_nil, bI_eq0, bI_eq1, bool_ft, pk_us, Bool.or_false, Bool.or_true, Bool.false_or, Bool.true_or, mj_kne, eq_self, Int32.reduceLT, Int32.reduceLE, Int32.reduceAdd, Int32.reduceSub, Int32.reduceMul, not_true_eq_false, not_false_eq_true, false_implies, true_implies, D_X0_spell, mj_F_aload_n_k, mj_F_getfield_i, mj_F_iastore, mj_F_iconst_n, mj_F_iload_k, mj_F_iload_n_k, mj_F_return_, mj_kc, FT_X0, gS_C11, gCf0_7, gS_C18, sS_Ca_18]
  refine ⟨(ok_wr hw).1, ?_⟩
  replace hw := (ok_wr hw).2
  refine ⟨(ok_wr hw).1, ?_⟩
  replace hw := (ok_wr hw).2
  refine ⟨(ok_wr hw).1, ?_⟩
  replace hw := (ok_wr hw).2
  refine ⟨(ok_wr hw).1, ?_⟩
  replace hw := (ok_wr hw).2
  exact (ok_some hw :)

def c_X0_spell : mj_S := fun as h k => ∃ (v1 : Int32) (v2 : Int32) (v3 : Int32) (v4 : Int32) (s : St), as = [.ref 11, .int v1, .int v2, .int v3, .int v4] ∧ h = mkCs s ∧ ok (F_X0_spell v1 v2 v3 v4 s) (fun p => k none (mkCs p))
theorem c_X0_spell_in {v1 : Int32} {v2 : Int32} {v3 : Int32} {v4 : Int32} {s : St} {k : Option Value → mj_H → Prop} (hw : ok (F_X0_spell v1 v2 v3 v4 s) (fun p => k none (mkCs p))) : c_X0_spell [.ref 11, .int v1, .int v2, .int v3, .int v4] (mkCs s) k := ⟨v1, v2, v3, v4, s, rfl, rfl, hw⟩
theorem m_X0_spell (l : Launch) : mj_Met l yX0_spell cX0_spell 5 (none) 0 0 0 c_X0_spell := by
  refine mj_body2 false (TbX0 5 (none) []) (by decide) rfl rfl (fun h => nomatch h) (tfX0 _ (fun _ h => nomatch h)) ?_
  rintro as h k ⟨v1, v2, v3, v4, s, rfl, rfl, hw⟩
  exact ⟨rfl, fun G hG => g_X0_spell hG hw⟩
def F_X0_binds (v1 : Int32) (v2 : Int32) (v3 : Int32) (s : St) : Option (Int32) :=
  (rd s 1 20 v1).bind fun x1 =>
  if x1 = (-1) then
    if v3 = 2 then
      some 0
    else
      some 1
  else
    (rd s 1 20 v1).bind fun x2 =>
    if x2 = v2 then
      if v3 = 1 then
        some 0
      else
        some 1
    else
      some 0
theorem J_X0_binds : mj_t 7 7 = 14 ∧ mj_t 11 4 = 15 ∧ mj_t 19 16 = 35 ∧ mj_t 24 7 = 31 ∧ mj_t 28 27 = 55 ∧ mj_t 32 23 = 55 ∧ mj_t 42 12 = 54 ∧ mj_t 47 7 = 54 ∧ mj_t 51 4 = 55 ∧ (0 ≤ ((7 : Nat) : Int) + 7) = True ∧ (0 ≤ ((11 : Nat) : Int) + 4) = True ∧ (0 ≤ ((19 : Nat) : Int) + 16) = True ∧ (0 ≤ ((24 : Nat) : Int) + 7) = True ∧ (0 ≤ ((28 : Nat) : Int) + 27) = True ∧ (0 ≤ ((32 : Nat) : Int) + 23) = True ∧ (0 ≤ ((42 : Nat) : Int) + 12) = True ∧ (0 ≤ ((47 : Nat) : Int) + 7) = True ∧ (0 ≤ ((51 : Nat) : Int) + 4) = True := by and_intros <;> first | rfl | exact eq_true (by decide)
set_option maxHeartbeats 4000000 in
set_option maxRecDepth 20000 in
theorem g_X0_binds {k : Option Value → mj_H → Prop} {G : mj_K} (hG : mj_cl2 cX0_binds (TbX0 5 ((some FieldType.boolean)) []) k G) {v1 : Int32} {v2 : Int32} {v3 : Int32} {s : St} (hw : ok (F_X0_binds v1 v2 v3 s) (fun p => k (some (.int p)) (mkCs s))) : G 0 [.ref 11, .int v1, .int v2, .int v3] [] (mkCs s) 0 0 := by
  unfold F_X0_binds at hw
  refine mj_run hG.1 (fun _ => false) 4000 ?_
  simp only [mj_step, mj_W_s, mj_fin, List.getElem?_cons_zero, List.getElem?_cons_succ, mj_go, Nat.reduceAdd, Nat.reduceSub, Nat.reduceLT, Nat.reduceLeDiff, Nat.zero_add, Nat.reduceEqDiff, Nat.reduceBEq, ↓reduceIte, Bool.false_eq_true, List.append_nil, List.nil_append, List.cons_append, Option.toList, and_true, true_and, true_or, or_true, reduceCtorEq, List.map_nil, bI_eq0, bI_eq1, bool_ft, pk_us, Bool.or_false, Bool.or_true, Bool.false_or, Bool.true_or, mj_kne, eq_self, Int32.reduceLT, Int32.reduceLE, Int32.reduceAdd, Int32.reduceSub, Int32.reduceMul, not_true_eq_false, not_false_eq_true, false_implies, true_implies, D_X0_binds, mj_F_aload_n_k, mj_F_getfield_i, mj_F_goto_off, mj_F_iaload, mj_F_iconst_n, mj_F_ifCond_eq_off, mj_F_if_icmp_eq_off, mj_F_if_icmp_ne_off, mj_F_iload_k, mj_F_iload_n_k, mj_F_ireturn, mj_F_istore_k, mj_set, mj_set0, mj_unk, mj_c2, mj_kc, FT_X0, gS_C11, gCf0_1, gS_C12, sS_Ca_12, J_X0_binds]
  refine ⟨(ok_rd hw).1, ?_⟩
  replace hw := (ok_rd hw).2
  refine ⟨fun c => ?_, fun c => ?_⟩
  · replace hw := ok_f hw c
    refine ⟨(ok_rd hw).1, ?_⟩
    replace hw := (ok_rd hw).2
    refine ⟨fun c => ?_, fun c => ?_⟩
    · replace hw := ok_f hw c
      exact (ok_some hw :)
    · replace hw := ok_t hw c
      refine ⟨fun c => ?_, fun c => ?_⟩
      · replace hw := ok_t hw c
        exact (ok_some hw :)
      · replace hw := ok_f hw c
        exact (ok_some hw :)
  · replace hw := ok_t hw c
    refine ⟨fun c => ?_, fun c => ?_⟩
    · replace hw := ok_t hw c
      exact (ok_some hw :)
    · replace hw := ok_f hw c
      exact (ok_some hw :)

def c_X0_binds : mj_S := fun as h k => ∃ (v1 : Int32) (v2 : Int32) (v3 : Int32) (s : St), as = [.ref 11, .int v1, .int v2, .int v3] ∧ h = mkCs s ∧ ok (F_X0_binds v1 v2 v3 s) (fun p => k (some (.int p)) (mkCs s))
theorem c_X0_binds_in {v1 : Int32} {v2 : Int32} {v3 : Int32} {s : St} {k : Option Value → mj_H → Prop} (hw : ok (F_X0_binds v1 v2 v3 s) (fun p => k (some (.int p)) (mkCs s))) : c_X0_binds [.ref 11, .int v1, .int v2, .int v3] (mkCs s) k := ⟨v1, v2, v3, s, rfl, rfl, hw⟩
theorem m_X0_binds (l : Launch) : mj_Met l yX0_binds cX0_binds 5 ((some FieldType.boolean)) 0 0 0 c_X0_binds := by
  refine mj_body2 false (TbX0 5 ((some FieldType.boolean)) []) (by decide) rfl rfl (fun h => nomatch h) (tfX0 _ (fun _ h => nomatch h)) ?_
  rintro as h k ⟨v1, v2, v3, s, rfl, rfl, hw⟩
  exact ⟨rfl, fun G hG => g_X0_binds hG hw⟩
def F_X0_letterAt (v1 : Int32) (s : St) : Option (Int32) :=
  if v1 < 0 then
    some 0
  else
    if 6 ≤ v1 then
      some 0
    else
      (rd s 7 6 v1).bind fun x1 =>
      some x1
theorem J_X0_letterAt : mj_t 1 21 = 22 ∧ mj_t 10 12 = 22 ∧ mj_t 19 4 = 23 ∧ (0 ≤ ((1 : Nat) : Int) + 21) = True ∧ (0 ≤ ((10 : Nat) : Int) + 12) = True ∧ (0 ≤ ((19 : Nat) : Int) + 4) = True := by and_intros <;> first | rfl | exact eq_true (by decide)
set_option maxHeartbeats 4000000 in
set_option maxRecDepth 20000 in
theorem g_X0_letterAt {k : Option Value → mj_H → Prop} {G : mj_K} (hG : mj_cl2 cX0_letterAt (TbX0 2 ((some FieldType.int)) []) k G) {v1 : Int32} {s : St} (hw : ok (F_X0_letterAt v1 s) (fun p => k (some (.int p)) (mkCs s))) : G 0 [.ref 11, .int v1] [] (mkCs s) 0 0 := by
  unfold F_X0_letterAt at hw
  refine mj_run hG.1 (fun _ => false) 4000 ?_
  simp only [mj_step, mj_W_s, mj_fin, List.getElem?_cons_zero, List.getElem?_cons_succ, mj_go, Nat.reduceAdd, Nat.reduceSub, Nat.reduceLT, Nat.reduceLeDiff, Nat.zero_add, Nat.reduceEqDiff, Nat.reduceBEq, ↓reduceIte, Bool.false_eq_true, List.append_nil, List.nil_append, List.cons_append, Option.toList, and_true, true_and, true_or, or_true, reduceCtorEq, List.map_nil, bI_eq0, bI_eq1, bool_ft, pk_us, Bool.or_false, Bool.or_true, Bool.false_or, Bool.true_or, mj_kne, eq_self, Int32.reduceLT, Int32.reduceLE, Int32.reduceAdd, Int32.reduceSub, Int32.reduceMul, not_true_eq_false, not_false_eq_true, false_implies, true_implies, D_X0_letterAt, mj_F_aload_n_k, mj_F_arraylength, mj_F_getfield_i, mj_F_goto_off, mj_F_iaload, mj_F_iconst_n, mj_F_ifCond_lt_off, mj_F_if_icmp_ge_off, mj_F_iload_n_k, mj_F_ireturn, mj_kc, FT_X0, gS_C11, gCf0_7, gS_C18, sS_Ca_18, mj_nk, mj_isA, J_X0_letterAt]
  refine ⟨fun c => ?_, fun c => ?_⟩
  · replace hw := ok_t hw c
    exact (ok_some hw :)
  · replace hw := ok_f hw c
    refine ⟨fun c => ?_, fun c => ?_⟩
    · replace hw := ok_t hw c
      exact (ok_some hw :)
    · replace hw := ok_f hw c
      refine ⟨(ok_rd hw).1, ?_⟩
      replace hw := (ok_rd hw).2
      exact (ok_some hw :)

def c_X0_letterAt : mj_S := fun as h k => ∃ (v1 : Int32) (s : St), as = [.ref 11, .int v1] ∧ h = mkCs s ∧ ok (F_X0_letterAt v1 s) (fun p => k (some (.int p)) (mkCs s))
theorem c_X0_letterAt_in {v1 : Int32} {s : St} {k : Option Value → mj_H → Prop} (hw : ok (F_X0_letterAt v1 s) (fun p => k (some (.int p)) (mkCs s))) : c_X0_letterAt [.ref 11, .int v1] (mkCs s) k := ⟨v1, s, rfl, rfl, hw⟩
theorem m_X0_letterAt (l : Launch) : mj_Met l yX0_letterAt cX0_letterAt 2 ((some FieldType.int)) 0 0 0 c_X0_letterAt := by
  refine mj_body2 false (TbX0 2 ((some FieldType.int)) []) (by decide) rfl rfl (fun h => nomatch h) (tfX0 _ (fun _ h => nomatch h)) ?_
  rintro as h k ⟨v1, s, rfl, rfl, hw⟩
  exact ⟨rfl, fun G hG => g_X0_letterAt hG hw⟩
def F_X0_joined (v0 : Int32) (v1 : Int64) (v3 : Int64) : Option (Int32) :=
  if v0 = 38 then
    if (lg_cmp v1 0) = 0 then
      some 0
    else
      if (lg_cmp v3 0) = 0 then
        some 0
      else
        some 1
  else
  if v0 = 60 then
    if 0 ≤ (lg_cmp v1 v3) then
      some 0
    else
      some 1
  else
  if v0 = 61 then
    if (lg_cmp v1 v3) = 0 then
      some 1
    else
      some 0
  else
  if v0 = 62 then
    if (lg_cmp v1 v3) ≤ 0 then
      some 0
    else
      some 1
  else
  if v0 = 124 then
    if (lg_cmp v1 0) = 0 then
      if (lg_cmp v3 0) = 0 then
        some 0
      else
        some 1
    else
      some 1
  else
  if v0 = 43 then
    if (lg_cmp (v1 + v3) 1000000) ≤ 0 then
      if 0 ≤ (lg_cmp (v1 + v3) (-1000000)) then
        some (Int64.toInt32 (v1 + v3))
      else
        some (-1000000)
    else
      some 1000000
  else
    if v0 = 45 then
      if (lg_cmp (v1 - v3) 1000000) ≤ 0 then
        if 0 ≤ (lg_cmp (v1 - v3) (-1000000)) then
          some (Int64.toInt32 (v1 - v3))
        else
          some (-1000000)
      else
        some 1000000
    else
      if v0 = 42 then
        if (lg_cmp (v1 * v3) 1000000) ≤ 0 then
          if 0 ≤ (lg_cmp (v1 * v3) (-1000000)) then
            some (Int64.toInt32 (v1 * v3))
          else
            some (-1000000)
        else
          some 1000000
      else
        if (lg_cmp v3 0) = 0 then
          if (lg_cmp 0 1000000) ≤ 0 then
            if 0 ≤ (lg_cmp 0 (-1000000)) then
              some (Int64.toInt32 0)
            else
              some (-1000000)
          else
            some 1000000
        else
          (nzl v3).bind fun _ =>
          if (lg_cmp (v1 / v3) 1000000) ≤ 0 then
            if 0 ≤ (lg_cmp (v1 / v3) (-1000000)) then
              some (Int64.toInt32 (v1 / v3))
            else
              some (-1000000)
          else
            some 1000000
theorem J_X0_joined : mj_t 1 51 = 52 ∧ mj_t 1 63 = 64 ∧ mj_t 1 75 = 76 ∧ mj_t 1 87 = 88 ∧ mj_t 1 105 = 106 ∧ mj_t 1 123 = 124 ∧ mj_t 55 7 = 62 ∧ mj_t 59 4 = 63 ∧ mj_t 67 7 = 74 ∧ mj_t 71 4 = 75 ∧ mj_t 79 7 = 86 ∧ mj_t 83 4 = 87 ∧ mj_t 91 13 = 104 ∧ mj_t 97 7 = 104 ∧ mj_t 101 4 = 105 ∧ mj_t 109 9 = 118 ∧ mj_t 115 7 = 122 ∧ mj_t 119 4 = 123 ∧ mj_t 127 9 = 136 ∧ mj_t 133 40 = 173 ∧ mj_t 139 9 = 148 ∧ mj_t 145 28 = 173 ∧ mj_t 151 9 = 160 ∧ mj_t 157 16 = 173 ∧ mj_t 163 7 = 170 ∧ mj_t 167 6 = 173 ∧ mj_t 181 8 = 189 ∧ mj_t 186 20 = 206 ∧ mj_t 195 8 = 203 ∧ mj_t 200 6 = 206 ∧ (0 ≤ ((1 : Nat) : Int) + 51) = True ∧ (0 ≤ ((1 : Nat) : Int) + 63) = True ∧ (0 ≤ ((1 : Nat) : Int) + 75) = True ∧ (0 ≤ ((1 : Nat) : Int) + 87) = True ∧ (0 ≤ ((1 : Nat) : Int) + 105) = True ∧ (0 ≤ ((1 : Nat) : Int) + 123) = True ∧ (0 ≤ ((55 : Nat) : Int) + 7) = True ∧ (0 ≤ ((59 : Nat) : Int) + 4) = True ∧ (0 ≤ ((67 : Nat) : Int) + 7) = True ∧ (0 ≤ ((71 : Nat) : Int) + 4) = True ∧ (0 ≤ ((79 : Nat) : Int) + 7) = True ∧ (0 ≤ ((83 : Nat) : Int) + 4) = True ∧ (0 ≤ ((91 : Nat) : Int) + 13) = True ∧ (0 ≤ ((97 : Nat) : Int) + 7) = True ∧ (0 ≤ ((101 : Nat) : Int) + 4) = True ∧ (0 ≤ ((109 : Nat) : Int) + 9) = True ∧ (0 ≤ ((115 : Nat) : Int) + 7) = True ∧ (0 ≤ ((119 : Nat) : Int) + 4) = True ∧ (0 ≤ ((127 : Nat) : Int) + 9) = True ∧ (0 ≤ ((133 : Nat) : Int) + 40) = True ∧ (0 ≤ ((139 : Nat) : Int) + 9) = True ∧ (0 ≤ ((145 : Nat) : Int) + 28) = True ∧ (0 ≤ ((151 : Nat) : Int) + 9) = True ∧ (0 ≤ ((157 : Nat) : Int) + 16) = True ∧ (0 ≤ ((163 : Nat) : Int) + 7) = True ∧ (0 ≤ ((167 : Nat) : Int) + 6) = True ∧ (0 ≤ ((181 : Nat) : Int) + 8) = True ∧ (0 ≤ ((186 : Nat) : Int) + 20) = True ∧ (0 ≤ ((195 : Nat) : Int) + 8) = True ∧ (0 ≤ ((200 : Nat) : Int) + 6) = True := by and_intros <;> first | rfl | exact eq_true (by decide)
set_option maxHeartbeats 4000000 in
set_option maxRecDepth 20000 in
theorem g_X0_joined {k : Option Value → mj_H → Prop} {G : mj_K} (hG : mj_cl2 cX0_joined (TbX0 7 ((some FieldType.int)) []) k G) {h : mj_H} {v0 : Int32} {v1 : Int64} {v3 : Int64} (hw : ok (F_X0_joined v0 v1 v3) (fun p => k (some (.int p)) h)) : G 0 [.int v0, .long v1, mj_unk, .long v3, mj_unk] [] h 0 0 := by
  unfold F_X0_joined at hw
  refine mj_run hG.1 (fun _ => false) 4000 ?_
  simp only [mj_step, mj_W_s, mj_fin, List.getElem?_cons_zero, List.getElem?_cons_succ, mj_go, Nat.reduceAdd, Nat.reduceSub, Nat.reduceLT, Nat.reduceLeDiff, Nat.zero_add, Nat.reduceEqDiff, Nat.reduceBEq, ↓reduceIte, Bool.false_eq_true, List.append_nil, List.nil_append, List.cons_append, Option.toList, and_true, true_and, true_or, or_true, reduceCtorEq, List.map_nil, bI_eq0, bI_eq1, bool_ft, pk_us, Bool.or_false, Bool.or_true, Bool.false_or, Bool.true_or, mj_kne, eq_self, Int32.reduceLT, Int32.reduceLE, Int32.reduceAdd, Int32.reduceSub, Int32.reduceMul, not_true_eq_false, not_false_eq_true, false_implies, true_implies, D_X0_joined_0, D_X0_joined_1, mj_F_bipush_n, mj_F_goto_off, mj_F_iconst_n, mj_F_ifCond_eq_off, mj_F_ifCond_ge_off, mj_F_ifCond_le_off, mj_F_ifCond_ne_off, mj_F_if_icmp_ne_off, mj_F_iload_n_k, mj_F_ireturn, mj_F_l2i, mj_F_ladd, mj_F_lcmp, mj_F_lconst_n, mj_F_ldc2_w_i, mj_F_ldc_i, mj_F_ldiv, mj_F_lload_k, mj_F_lload_n_k, mj_F_lmul, mj_F_lstore_k, mj_F_lsub, mj_set, mj_set0, mj_unk, mj_c2, mj_kc, KT_X0, J_X0_joined]
  by_cases c1 : v0 = 38
  · replace hw := ok_t hw c1
    have c := c1
    refine mj_lsw 87 (by rw [show v0 = 38 from c]; rfl) rfl (by decide) ?_
    simp only [mj_step, mj_W_s, mj_fin, List.getElem?_cons_zero, List.getElem?_cons_succ, mj_go, Nat.reduceAdd, Nat.reduceSub, Nat.reduceLT, Nat.reduceLeDiff, Nat.zero_add, Nat.reduceEqDiff, Nat.reduceBEq, ↓reduceIte, Bool.false_eq_true, List.append_nil, List.nil_append, List.cons_append, Option.toList, and_true, true_and, true_or, or_true, reduceCtorEq, List.map_nil, bI_eq0, bI_eq1, bool_ft, pk_us, Bool.or_false, Bool.or_true, Bool.false_or, Bool.true_or, mj_kne, eq_self, Int32.reduceLT, Int32.reduceLE, Int32.reduceAdd, Int32.reduceSub, Int32.reduceMul, not_true_eq_false, not_false_eq_true, false_implies, true_implies, D_X0_joined_0, D_X0_joined_1, mj_F_bipush_n, mj_F_goto_off, mj_F_iconst_n, mj_F_ifCond_eq_off, mj_F_ifCond_ge_off, mj_F_ifCond_le_off, mj_F_ifCond_ne_off, mj_F_if_icmp_ne_off, mj_F_iload_n_k, mj_F_ireturn, mj_F_l2i, mj_F_ladd, mj_F_lcmp, mj_F_lconst_n, mj_F_ldc2_w_i, mj_F_ldc_i, mj_F_ldiv, mj_F_lload_k, mj_F_lload_n_k, mj_F_lmul, mj_F_lstore_k, mj_F_lsub, mj_set, mj_set0, mj_unk, mj_c2, mj_kc, KT_X0, J_X0_joined]
    refine ⟨fun c => ?_, fun c => ?_⟩
    · replace hw := ok_t hw c
      exact (ok_some hw :)
    · replace hw := ok_f hw c
      refine ⟨fun c => ?_, fun c => ?_⟩
      · replace hw := ok_t hw c
        exact (ok_some hw :)
      · replace hw := ok_f hw c
        exact (ok_some hw :)
  replace hw := ok_f hw c1
  by_cases c2 : v0 = 60
  · replace hw := ok_t hw c2
    have c := c2
    refine mj_lsw 63 (by rw [show v0 = 60 from c]; rfl) rfl (by decide) ?_
    simp only [mj_step, mj_W_s, mj_fin, List.getElem?_cons_zero, List.getElem?_cons_succ, mj_go, Nat.reduceAdd, Nat.reduceSub, Nat.reduceLT, Nat.reduceLeDiff, Nat.zero_add, Nat.reduceEqDiff, Nat.reduceBEq, ↓reduceIte, Bool.false_eq_true, List.append_nil, List.nil_append, List.cons_append, Option.toList, and_true, true_and, true_or, or_true, reduceCtorEq, List.map_nil, bI_eq0, bI_eq1, bool_ft, pk_us, Bool.or_false, Bool.or_true, Bool.false_or, Bool.true_or, mj_kne, eq_self, Int32.reduceLT, Int32.reduceLE, Int32.reduceAdd, Int32.reduceSub, Int32.reduceMul, not_true_eq_false, not_false_eq_true, false_implies, true_implies, D_X0_joined_0, D_X0_joined_1, mj_F_bipush_n, mj_F_goto_off, mj_F_iconst_n, mj_F_ifCond_eq_off, mj_F_ifCond_ge_off, mj_F_ifCond_le_off, mj_F_ifCond_ne_off, mj_F_if_icmp_ne_off, mj_F_iload_n_k, mj_F_ireturn, mj_F_l2i, mj_F_ladd, mj_F_lcmp, mj_F_lconst_n, mj_F_ldc2_w_i, mj_F_ldc_i, mj_F_ldiv, mj_F_lload_k, mj_F_lload_n_k, mj_F_lmul, mj_F_lstore_k, mj_F_lsub, mj_set, mj_set0, mj_unk, mj_c2, mj_kc, KT_X0, J_X0_joined]
    refine ⟨fun c => ?_, fun c => ?_⟩
    · replace hw := ok_t hw c
      exact (ok_some hw :)
    · replace hw := ok_f hw c
      exact (ok_some hw :)
  replace hw := ok_f hw c2
  by_cases c3 : v0 = 61
  · replace hw := ok_t hw c3
    have c := c3
    refine mj_lsw 51 (by rw [show v0 = 61 from c]; rfl) rfl (by decide) ?_
    simp only [mj_step, mj_W_s, mj_fin, List.getElem?_cons_zero, List.getElem?_cons_succ, mj_go, Nat.reduceAdd, Nat.reduceSub, Nat.reduceLT, Nat.reduceLeDiff, Nat.zero_add, Nat.reduceEqDiff, Nat.reduceBEq, ↓reduceIte, Bool.false_eq_true, List.append_nil, List.nil_append, List.cons_append, Option.toList, and_true, true_and, true_or, or_true, reduceCtorEq, List.map_nil, bI_eq0, bI_eq1, bool_ft, pk_us, Bool.or_false, Bool.or_true, Bool.false_or, Bool.true_or, mj_kne, eq_self, Int32.reduceLT, Int32.reduceLE, Int32.reduceAdd, Int32.reduceSub, Int32.reduceMul, not_true_eq_false, not_false_eq_true, false_implies, true_implies, D_X0_joined_0, D_X0_joined_1, mj_F_bipush_n, mj_F_goto_off, mj_F_iconst_n, mj_F_ifCond_eq_off, mj_F_ifCond_ge_off, mj_F_ifCond_le_off, mj_F_ifCond_ne_off, mj_F_if_icmp_ne_off, mj_F_iload_n_k, mj_F_ireturn, mj_F_l2i, mj_F_ladd, mj_F_lcmp, mj_F_lconst_n, mj_F_ldc2_w_i, mj_F_ldc_i, mj_F_ldiv, mj_F_lload_k, mj_F_lload_n_k, mj_F_lmul, mj_F_lstore_k, mj_F_lsub, mj_set, mj_set0, mj_unk, mj_c2, mj_kc, KT_X0, J_X0_joined]
    refine ⟨fun c => ?_, fun c => ?_⟩
    · replace hw := ok_f hw c
      exact (ok_some hw :)
    · replace hw := ok_t hw c
      exact (ok_some hw :)
  replace hw := ok_f hw c3
  by_cases c4 : v0 = 62
  · replace hw := ok_t hw c4
    have c := c4
    refine mj_lsw 75 (by rw [show v0 = 62 from c]; rfl) rfl (by decide) ?_
    simp only [mj_step, mj_W_s, mj_fin, List.getElem?_cons_zero, List.getElem?_cons_succ, mj_go, Nat.reduceAdd, Nat.reduceSub, Nat.reduceLT, Nat.reduceLeDiff, Nat.zero_add, Nat.reduceEqDiff, Nat.reduceBEq, ↓reduceIte, Bool.false_eq_true, List.append_nil, List.nil_append, List.cons_append, Option.toList, and_true, true_and, true_or, or_true, reduceCtorEq, List.map_nil, bI_eq0, bI_eq1, bool_ft, pk_us, Bool.or_false, Bool.or_true, Bool.false_or, Bool.true_or, mj_kne, eq_self, Int32.reduceLT, Int32.reduceLE, Int32.reduceAdd, Int32.reduceSub, Int32.reduceMul, not_true_eq_false, not_false_eq_true, false_implies, true_implies, D_X0_joined_0, D_X0_joined_1, mj_F_bipush_n, mj_F_goto_off, mj_F_iconst_n, mj_F_ifCond_eq_off, mj_F_ifCond_ge_off, mj_F_ifCond_le_off, mj_F_ifCond_ne_off, mj_F_if_icmp_ne_off, mj_F_iload_n_k, mj_F_ireturn, mj_F_l2i, mj_F_ladd, mj_F_lcmp, mj_F_lconst_n, mj_F_ldc2_w_i, mj_F_ldc_i, mj_F_ldiv, mj_F_lload_k, mj_F_lload_n_k, mj_F_lmul, mj_F_lstore_k, mj_F_lsub, mj_set, mj_set0, mj_unk, mj_c2, mj_kc, KT_X0, J_X0_joined]
    refine ⟨fun c => ?_, fun c => ?_⟩
    · replace hw := ok_t hw c
      exact (ok_some hw :)
    · replace hw := ok_f hw c
      exact (ok_some hw :)
  replace hw := ok_f hw c4
  by_cases c5 : v0 = 124
  · replace hw := ok_t hw c5
    have c := c5
    refine mj_lsw 105 (by rw [show v0 = 124 from c]; rfl) rfl (by decide) ?_
    simp only [mj_step, mj_W_s, mj_fin, List.getElem?_cons_zero, List.getElem?_cons_succ, mj_go, Nat.reduceAdd, Nat.reduceSub, Nat.reduceLT, Nat.reduceLeDiff, Nat.zero_add, Nat.reduceEqDiff, Nat.reduceBEq, ↓reduceIte, Bool.false_eq_true, List.append_nil, List.nil_append, List.cons_append, Option.toList, and_true, true_and, true_or, or_true, reduceCtorEq, List.map_nil, bI_eq0, bI_eq1, bool_ft, pk_us, Bool.or_false, Bool.or_true, Bool.false_or, Bool.true_or, mj_kne, eq_self, Int32.reduceLT, Int32.reduceLE, Int32.reduceAdd, Int32.reduceSub, Int32.reduceMul, not_true_eq_false, not_false_eq_true, false_implies, true_implies, D_X0_joined_0, D_X0_joined_1, mj_F_bipush_n, mj_F_goto_off, mj_F_iconst_n, mj_F_ifCond_eq_off, mj_F_ifCond_ge_off, mj_F_ifCond_le_off, mj_F_ifCond_ne_off, mj_F_if_icmp_ne_off, mj_F_iload_n_k, mj_F_ireturn, mj_F_l2i, mj_F_ladd, mj_F_lcmp, mj_F_lconst_n, mj_F_ldc2_w_i, mj_F_ldc_i, mj_F_ldiv, mj_F_lload_k, mj_F_lload_n_k, mj_F_lmul, mj_F_lstore_k, mj_F_lsub, mj_set, mj_set0, mj_unk, mj_c2, mj_kc, KT_X0, J_X0_joined]
    refine ⟨fun c => ?_, fun c => ?_⟩
    · replace hw := ok_f hw c
      exact (ok_some hw :)
    · replace hw := ok_t hw c
      refine ⟨fun c => ?_, fun c => ?_⟩
      · replace hw := ok_t hw c
        exact (ok_some hw :)
      · replace hw := ok_f hw c
        exact (ok_some hw :)
  replace hw := ok_f hw c5
  refine mj_lsw 123 (mj_lsd (show ∀ k ∈ [(38 : Int), (60 : Int), (61 : Int), (62 : Int), (124 : Int)], _ ≠ k from List.forall_mem_cons.mpr ⟨mj_nt c1 rfl, List.forall_mem_cons.mpr ⟨mj_nt c2 rfl, List.forall_mem_cons.mpr ⟨mj_nt c3 rfl, List.forall_mem_cons.mpr ⟨mj_nt c4 rfl, List.forall_mem_cons.mpr ⟨mj_nt c5 rfl, fun _ h => (nomatch h)⟩⟩⟩⟩⟩)) rfl (by decide) ?_
  simp only [mj_step, mj_W_s, mj_fin, List.getElem?_cons_zero, List.getElem?_cons_succ, mj_go, Nat.reduceAdd, Nat.reduceSub, Nat.reduceLT, Nat.reduceLeDiff, Nat.zero_add, Nat.reduceEqDiff, Nat.reduceBEq, ↓reduceIte, Bool.false_eq_true, List.append_nil, List.nil_append, List.cons_append, Option.toList, and_true, true_and, true_or, or_true, reduceCtorEq, List.map_nil, bI_eq0, bI_eq1, bool_ft, pk_us, Bool.or_false, Bool.or_true, Bool.false_or, Bool.true_or, mj_kne, eq_self, Int32.reduceLT, Int32.reduceLE, Int32.reduceAdd, Int32.reduceSub, Int32.reduceMul, not_true_eq_false, not_false_eq_true, false_implies, true_implies, D_X0_joined_0, D_X0_joined_1, mj_F_bipush_n, mj_F_goto_off, mj_F_iconst_n, mj_F_ifCond_eq_off, mj_F_ifCond_ge_off, mj_F_ifCond_le_off, mj_F_ifCond_ne_off, mj_F_if_icmp_ne_off, mj_F_iload_n_k, mj_F_ireturn, mj_F_l2i, mj_F_ladd, mj_F_lcmp, mj_F_lconst_n, mj_F_ldc2_w_i, mj_F_ldc_i, mj_F_ldiv, mj_F_lload_k, mj_F_lload_n_k, mj_F_lmul, mj_F_lstore_k, mj_F_lsub, mj_set, mj_set0, mj_unk, mj_c2, mj_kc, KT_X0, J_X0_joined]
  refine ⟨fun c => ?_, fun c => ?_⟩
  · replace hw := ok_f hw c
    refine ⟨fun c => ?_, fun c => ?_⟩
    · replace hw := ok_f hw c
      refine ⟨fun c => ?_, fun c => ?_⟩
      · replace hw := ok_f hw c
        refine ⟨fun c => ?_, fun c => ?_⟩
        · replace hw := ok_f hw c
          refine ⟨(ok_nzl hw).1, ?_⟩
          replace hw := (ok_nzl hw).2
          refine ⟨fun c => ?_, fun c => ?_⟩
          · replace hw := ok_t hw c
            refine ⟨fun c => ?_, fun c => ?_⟩
            · replace hw := ok_t hw c
              exact (ok_some hw :)
            · replace hw := ok_f hw c
              exact (ok_some hw :)
          · replace hw := ok_f hw c
            exact (ok_some hw :)
        · replace hw := ok_t hw c
          refine ⟨fun c => ?_, fun c => ?_⟩
          · replace hw := ok_t hw c
            refine ⟨fun c => ?_, fun c => ?_⟩
            · replace hw := ok_t hw c
              exact (ok_some hw :)
            · replace hw := ok_f hw c
              exact (ok_some hw :)
          · replace hw := ok_f hw c
            exact (ok_some hw :)
      · replace hw := ok_t hw c
        refine ⟨fun c => ?_, fun c => ?_⟩
        · replace hw := ok_t hw c
          refine ⟨fun c => ?_, fun c => ?_⟩
          · replace hw := ok_t hw c
            exact (ok_some hw :)
          · replace hw := ok_f hw c
            exact (ok_some hw :)
        · replace hw := ok_f hw c
          exact (ok_some hw :)
    · replace hw := ok_t hw c
      refine ⟨fun c => ?_, fun c => ?_⟩
      · replace hw := ok_t hw c
        refine ⟨fun c => ?_, fun c => ?_⟩
        · replace hw := ok_t hw c
          exact (ok_some hw :)
        · replace hw := ok_f hw c
          exact (ok_some hw :)
      · replace hw := ok_f hw c
        exact (ok_some hw :)
  · replace hw := ok_t hw c
    refine ⟨fun c => ?_, fun c => ?_⟩
    · replace hw := ok_t hw c
      refine ⟨fun c => ?_, fun c => ?_⟩
      · replace hw := ok_t hw c
        exact (ok_some hw :)
      · replace hw := ok_f hw c
        exact (ok_some hw :)
    · replace hw := ok_f hw c
      exact (ok_some hw :)

def c_X0_joined : mj_S := fun as h k => ∃ (v0 : Int32) (v1 : Int64) (v3 : Int64), as = [.int v0, .long v1, .long v3] ∧ ok (F_X0_joined v0 v1 v3) (fun p => k (some (.int p)) h)
theorem c_X0_joined_in {v0 : Int32} {v1 : Int64} {v3 : Int64} {h : mj_H} {k : Option Value → mj_H → Prop} (hw : ok (F_X0_joined v0 v1 v3) (fun p => k (some (.int p)) h)) : c_X0_joined [.int v0, .long v1, .long v3] h k := ⟨v0, v1, v3, rfl, hw⟩
theorem m_X0_joined (l : Launch) : mj_Met l yX0_joined cX0_joined 7 ((some FieldType.int)) 0 0 0 c_X0_joined := by
  refine mj_body2 false (TbX0 7 ((some FieldType.int)) []) (by decide) rfl rfl (fun h => nomatch h) (tfX0 _ (fun _ h => nomatch h)) ?_
  rintro as h k ⟨v0, v1, v3, rfl, hw⟩
  exact ⟨rfl, fun G hG => g_X0_joined hG hw⟩
def B_X0_run_16 (v1 : Nat) (v3 : Int32) : Int32 × Int32 × St → Option ((Int32 × Int32 × St) ⊕ ((St)))
  | (v4, v5, s) =>
  if v3 ≤ v5 then
    some (.inr s)
  else
    (la s v1).bind fun n1 =>
    if n1 ≤ v5 then
      some (.inr s)
    else
      (ra s v1 v5).bind fun x2 =>
      if 20000 ≤ x2 then
        if x2 = 20033 then
          if v4 ≤ 0 then
            some (.inl (v4, (v5 + 1), s))
          else
            (rd s 8 64 (v4 - 1)).bind fun x7 =>
            if x7 = 0 then
              (wr s 8 64 (v4 - 1) 1).bind fun s9 =>
              some (.inl (v4, (v5 + 1), s9))
            else
              (wr s 8 64 (v4 - 1) 0).bind fun s8 =>
              some (.inl (v4, (v5 + 1), s8))
        else
          if v4 ≤ 1 then
            some (.inl (v4, (v5 + 1), s))
          else
            (rd s 8 64 ((v4 + (-1)) - 1)).bind fun x3 =>
            (rd s 8 64 (v4 + (-1))).bind fun x4 =>
            (F_X0_joined (x2 - 20000) (Int32.toInt64 x3) (Int32.toInt64 x4)).bind fun r5 =>
            (wr s 8 64 ((v4 + (-1)) - 1) r5).bind fun s6 =>
            some (.inl ((v4 + (-1)), (v5 + 1), s6))
      else
        if 64 ≤ v4 then
          some (.inl (v4, (v5 + 1), s))
        else
          if 10000 ≤ x2 then
            (F_X0_letterAt (x2 - 10000) s).bind fun r10 =>
            (wr s 8 64 v4 r10).bind fun s11 =>
            some (.inl ((v4 + 1), (v5 + 1), s11))
          else
            (wr s 8 64 v4 x2).bind fun s12 =>
            some (.inl ((v4 + 1), (v5 + 1), s12))
def F_X0_run_182 (s : St) : Option (Int32 × St) :=
  (rd s 8 64 0).bind fun x15 =>
  some (x15, s)
def F_X0_run_16 (v1 : Nat) (v3 : Int32) (v4 : Int32) (v5 : Int32) (s : St) : Option (Int32 × St) :=
  (lp (B_X0_run_16 v1 v3) FU (v4, v5, s)).bind (fun y => F_X0_run_182 y)
def F_X0_run (v1 : Nat) (v2 : Int32) (v3 : Int32) (s : St) : Option (Int32 × St) :=
  if 0 ≤ v2 then
    F_X0_run_16 v1 v3 0 v2 s
  else
    some (0, s)
theorem J_X0_run : mj_t 1 7 = 8 ∧ mj_t 5 5 = 10 ∧ mj_t 19 163 = 182 ∧ mj_t 26 156 = 182 ∧ mj_t 40 49 = 89 ∧ mj_t 50 126 = 176 ∧ mj_t 64 8 = 72 ∧ mj_t 69 13 = 82 ∧ mj_t 86 90 = 176 ∧ mj_t 94 37 = 131 ∧ mj_t 99 77 = 176 ∧ mj_t 119 7 = 126 ∧ mj_t 123 4 = 127 ∧ mj_t 128 48 = 176 ∧ mj_t 134 42 = 176 ∧ mj_t 179 (-163) = 16 ∧ (0 ≤ ((1 : Nat) : Int) + 7) = True ∧ (0 ≤ ((5 : Nat) : Int) + 5) = True ∧ (0 ≤ ((19 : Nat) : Int) + 163) = True ∧ (0 ≤ ((26 : Nat) : Int) + 156) = True ∧ (0 ≤ ((40 : Nat) : Int) + 49) = True ∧ (0 ≤ ((50 : Nat) : Int) + 126) = True ∧ (0 ≤ ((64 : Nat) : Int) + 8) = True ∧ (0 ≤ ((69 : Nat) : Int) + 13) = True ∧ (0 ≤ ((86 : Nat) : Int) + 90) = True ∧ (0 ≤ ((94 : Nat) : Int) + 37) = True ∧ (0 ≤ ((99 : Nat) : Int) + 77) = True ∧ (0 ≤ ((119 : Nat) : Int) + 7) = True ∧ (0 ≤ ((123 : Nat) : Int) + 4) = True ∧ (0 ≤ ((128 : Nat) : Int) + 48) = True ∧ (0 ≤ ((134 : Nat) : Int) + 42) = True ∧ (0 ≤ ((179 : Nat) : Int) + (-163)) = True := by and_intros <;> first | rfl | exact eq_true (by decide)
def ct_X0_run : List (Nat × mj_Cs) := [(93, 0, 2, 0, 0, 0, c_X0_letterAt), (97, 2, 3, 0, 0, 0, c_X0_joined)]
theorem L_X0_run : mj_lk ct_X0_run 93 = some (0, 2, 0, 0, 0, c_X0_letterAt) ∧ mj_lk ct_X0_run 97 = some (2, 3, 0, 0, 0, c_X0_joined) := ⟨rfl, rfl⟩
set_option maxHeartbeats 4000000 in
set_option maxRecDepth 20000 in
theorem b_X0_run_16 {k : Option Value → mj_H → Prop} {G : mj_K} (hG : mj_cl2 cX0_run (TbX0 7 ((some FieldType.int)) ct_X0_run) k G) {v1 : Nat} {v3 : Int32} {P : Int32 × Int32 × St → Prop} {K : (St) → Prop} (hP : ∀ x, P x → G 16 [.ref 11, .ref v1, mj_unk, .int v3, .int x.1, .int x.2.1] [] (mkCs x.2.2) 0 0) (hK0 : ∀ y, K y → G 182 [.ref 11] [] (mkCs y) 0 0) {v4 : Int32} {v5 : Int32} {s : St} (hw : ok (B_X0_run_16 v1 v3 (v4, v5, s)) (Sum.elim P K)) : G 16 [.ref 11, .ref v1, mj_unk, .int v3, .int v4, .int v5] [] (mkCs s) 0 0 := by
  unfold B_X0_run_16 at hw
  refine mj_run hG.1 (fun pc => pc == 16 || pc == 25 || pc == 32 || pc == 82 || pc == 175 || pc == 182) 4000 ?_
  simp only [mj_step, mj_W_s, mj_fin, List.getElem?_cons_zero, List.getElem?_cons_succ, mj_go, Nat.reduceAdd, Nat.reduceSub, Nat.reduceLT, Nat.reduceLeDiff, Nat.zero_add, Nat.reduceEqDiff, Nat.reduceBEq, ↓reduceIte, Bool.false_eq_true, List.append_nil, List.nil_append, List.cons_append, Option.toList, and_true, true_and, true_or, or_true, reduceCtorEq, List.map_nil, bI_eq0, bI_eq1, bool_ft, pk_us, Bool.or_false, Bool.or_true, Bool.false_or, Bool.true_or, mj_kne, eq_self, Int32.reduceLT, Int32.reduceLE, Int32.reduceAdd, Int32.reduceSub, Int32.reduceMul, not_true_eq_false, not_false_eq_true, false_implies, true_implies, D_X0_run_0, D_X0_run_1, mj_F_aload_n_k, mj_F_arraylength, mj_F_getfield_i, mj_F_goto_off, mj_F_i2l, mj_F_iaload, mj_F_iastore, mj_F_iconst_n, mj_F_ifCond_ge_off, mj_F_ifCond_le_off, mj_F_ifCond_ne_off, mj_F_if_icmp_ge_off, mj_F_if_icmp_le_off, mj_F_if_icmp_ne_off, mj_F_ifnull_off, mj_F_iinc_k_n, mj_F_iload_k, mj_F_iload_n_k, mj_F_invokestatic_i, mj_F_invokevirtual_i, mj_F_ireturn, mj_F_istore_k, mj_F_isub, mj_F_sipush_n, mj_set, mj_set0, mj_unk, mj_c2, mj_kc, FT_X0, L_X0_run, List.take_succ_cons, List.take_zero, List.drop_succ_cons, List.drop_zero, List.reverse_cons, List.reverse_nil, List.length_cons, List.length_nil, gS_C11, gCf0_8, gS_C19, sS_Ca_19, mj_nk, mj_isA, J_X0_run]
  refine ⟨fun c => ?_, fun c => ?_⟩
  · replace hw := ok_t hw c
    exact hG.2 _ _ _ _ _ _ _ _ _ (by refine ⟨Or.inr rfl, ?_⟩; exact trivial) (Nat.zero_le _) (Nat.zero_le _) (hK0 _ (ok_some hw :) :)
  · replace hw := ok_f hw c
    obtain ⟨_, _, e13, hw⟩ := ok_la hw
    refine mj_run hG.1 (fun pc => pc == 16 || pc == 25 || pc == 32 || pc == 82 || pc == 175 || pc == 182) 4000 ?_
    simp only [e13, mj_isA, mj_step, mj_W_s, mj_fin, List.getElem?_cons_zero, List.getElem?_cons_succ, mj_go, Nat.reduceAdd, Nat.reduceSub, Nat.reduceLT, Nat.reduceLeDiff, Nat.zero_add, Nat.reduceEqDiff, Nat.reduceBEq, ↓reduceIte, Bool.false_eq_true, List.append_nil, List.nil_append, List.cons_append, Option.toList, and_true, true_and, true_or, or_true, reduceCtorEq, List.map_nil, bI_eq0, bI_eq1, bool_ft, pk_us, Bool.or_false, Bool.or_true, Bool.false_or, Bool.true_or, mj_kne, eq_self, Int32.reduceLT, Int32.reduceLE, Int32.reduceAdd, Int32.reduceSub, Int32.reduceMul, not_true_eq_false, not_false_eq_true, false_implies, true_implies, D_X0_run_0, D_X0_run_1, mj_F_aload_n_k, mj_F_arraylength, mj_F_getfield_i, mj_F_goto_off, mj_F_i2l, mj_F_iaload, mj_F_iastore, mj_F_iconst_n, mj_F_ifCond_ge_off, mj_F_ifCond_le_off, mj_F_ifCond_ne_off, mj_F_if_icmp_ge_off, mj_F_if_icmp_le_off, mj_F_if_icmp_ne_off, mj_F_ifnull_off, mj_F_iinc_k_n, mj_F_iload_k, mj_F_iload_n_k, mj_F_invokestatic_i, mj_F_invokevirtual_i, mj_F_ireturn, mj_F_istore_k, mj_F_isub, mj_F_sipush_n, mj_set, mj_set0, mj_unk, mj_c2, mj_kc, FT_X0, L_X0_run, List.take_succ_cons, List.take_zero, List.drop_succ_cons, List.drop_zero, List.reverse_cons, List.reverse_nil, List.length_cons, List.length_nil, gS_C11, gCf0_8, gS_C19, sS_Ca_19, mj_nk, mj_isA, J_X0_run]
    refine ⟨fun c => ?_, fun c => ?_⟩
    · replace hw := ok_t hw c
      exact hG.2 _ _ _ _ _ _ _ _ _ (by refine ⟨Or.inr rfl, ?_⟩; exact trivial) (Nat.zero_le _) (Nat.zero_le _) (hK0 _ (ok_some hw :) :)
    · replace hw := ok_f hw c
      obtain ⟨_, _, e14, z, hw⟩ := ok_ra hw
      refine mj_run hG.1 (fun pc => pc == 16 || pc == 25 || pc == 32 || pc == 82 || pc == 175 || pc == 182) 4000 ?_
      simp only [e14, mj_step, mj_W_s, mj_fin, List.getElem?_cons_zero, List.getElem?_cons_succ, mj_go, Nat.reduceAdd, Nat.reduceSub, Nat.reduceLT, Nat.reduceLeDiff, Nat.zero_add, Nat.reduceEqDiff, Nat.reduceBEq, ↓reduceIte, Bool.false_eq_true, List.append_nil, List.nil_append, List.cons_append, Option.toList, and_true, true_and, true_or, or_true, reduceCtorEq, List.map_nil, bI_eq0, bI_eq1, bool_ft, pk_us, Bool.or_false, Bool.or_true, Bool.false_or, Bool.true_or, mj_kne, eq_self, Int32.reduceLT, Int32.reduceLE, Int32.reduceAdd, Int32.reduceSub, Int32.reduceMul, not_true_eq_false, not_false_eq_true, false_implies, true_implies, D_X0_run_0, D_X0_run_1, mj_F_aload_n_k, mj_F_arraylength, mj_F_getfield_i, mj_F_goto_off, mj_F_i2l, mj_F_iaload, mj_F_iastore, mj_F_iconst_n, mj_F_ifCond_ge_off, mj_F_ifCond_le_off, mj_F_ifCond_ne_off, mj_F_if_icmp_ge_off, mj_F_if_icmp_le_off, mj_F_if_icmp_ne_off, mj_F_ifnull_off, mj_F_iinc_k_n, mj_F_iload_k, mj_F_iload_n_k, mj_F_invokestatic_i, mj_F_invokevirtual_i, mj_F_ireturn, mj_F_istore_k, mj_F_isub, mj_F_sipush_n, mj_set, mj_set0, mj_unk, mj_c2, mj_kc, FT_X0, L_X0_run, List.take_succ_cons, List.take_zero, List.drop_succ_cons, List.drop_zero, List.reverse_cons, List.reverse_nil, List.length_cons, List.length_nil, gS_C11, gCf0_8, gS_C19, sS_Ca_19, mj_nk, mj_isA, J_X0_run]
      refine ⟨z, ?_⟩
      refine ⟨fun c => ?_, fun c => ?_⟩
      · replace hw := ok_t hw c
        refine ⟨fun c => ?_, fun c => ?_⟩
        · replace hw := ok_f hw c
          refine ⟨fun c => ?_, fun c => ?_⟩
          · replace hw := ok_t hw c
            exact hG.2 _ _ _ _ _ _ _ _ _ (by refine ⟨Or.inr rfl, ?_⟩; refine ⟨Or.inr rfl, ?_⟩; refine ⟨Or.inl rfl, ?_⟩; refine ⟨Or.inr rfl, ?_⟩; refine ⟨Or.inr rfl, ?_⟩; refine ⟨Or.inr rfl, ?_⟩; exact trivial) (Nat.zero_le _) (Nat.zero_le _) (hP _ (ok_some hw :) :)
          · replace hw := ok_f hw c
            refine ⟨(ok_rd hw).1, ?_⟩
            replace hw := (ok_rd hw).2
            refine ⟨(ok_rd hw).1, ?_⟩
            replace hw := (ok_rd hw).2
            refine c_X0_joined_in (ok_imp (ok_bind hw) ?_)
            intro p hw
            simp only [Option.toList, List.nil_append, List.cons_append, Nat.reduceSub]
            refine mj_run hG.1 (fun pc => pc == 16 || pc == 25 || pc == 32 || pc == 82 || pc == 175 || pc == 182) 4000 ?_
            simp only [mj_step, mj_W_s, mj_fin, List.getElem?_cons_zero, List.getElem?_cons_succ, mj_go, Nat.reduceAdd, Nat.reduceSub, Nat.reduceLT, Nat.reduceLeDiff, Nat.zero_add, Nat.reduceEqDiff, Nat.reduceBEq, ↓reduceIte, Bool.false_eq_true, List.append_nil, List.nil_append, List.cons_append, Option.toList, and_true, true_and, true_or, or_true, reduceCtorEq, List.map_nil, bI_eq0, bI_eq1, bool_ft, pk_us, Bool.or_false, Bool.or_true, Bool.false_or, Bool.true_or, mj_kne, eq_self, Int32.reduceLT, Int32.reduceLE, Int32.reduceAdd, Int32.reduceSub, Int32.reduceMul, not_true_eq_false, not_false_eq_true, false_implies, true_implies, D_X0_run_0, D_X0_run_1, mj_F_aload_n_k, mj_F_arraylength, mj_F_getfield_i, mj_F_goto_off, mj_F_i2l, mj_F_iaload, mj_F_iastore, mj_F_iconst_n, mj_F_ifCond_ge_off, mj_F_ifCond_le_off, mj_F_ifCond_ne_off, mj_F_if_icmp_ge_off, mj_F_if_icmp_le_off, mj_F_if_icmp_ne_off, mj_F_ifnull_off, mj_F_iinc_k_n, mj_F_iload_k, mj_F_iload_n_k, mj_F_invokestatic_i, mj_F_invokevirtual_i, mj_F_ireturn, mj_F_istore_k, mj_F_isub, mj_F_sipush_n, mj_set, mj_set0, mj_unk, mj_c2, mj_kc, FT_X0, L_X0_run, List.take_succ_cons, List.take_zero, List.drop_succ_cons, List.drop_zero, List.reverse_cons, List.reverse_nil, List.length_cons, List.length_nil, gS_C11, gCf0_8, gS_C19, sS_Ca_19, mj_nk, mj_isA, J_X0_run]
            refine ⟨(ok_wr hw).1, ?_⟩
            replace hw := (ok_wr hw).2
            exact hG.2 _ _ _ _ _ _ _ _ _ (by refine ⟨Or.inr rfl, ?_⟩; refine ⟨Or.inr rfl, ?_⟩; refine ⟨Or.inl rfl, ?_⟩; refine ⟨Or.inr rfl, ?_⟩; refine ⟨Or.inr rfl, ?_⟩; refine ⟨Or.inr rfl, ?_⟩; exact trivial) (Nat.zero_le _) (Nat.zero_le _) (hP _ (ok_some hw :) :)
        · replace hw := ok_t hw c
          refine ⟨fun c => ?_, fun c => ?_⟩
          · replace hw := ok_t hw c
            exact hG.2 _ _ _ _ _ _ _ _ _ (by refine ⟨Or.inr rfl, ?_⟩; refine ⟨Or.inr rfl, ?_⟩; refine ⟨Or.inl rfl, ?_⟩; refine ⟨Or.inr rfl, ?_⟩; refine ⟨Or.inr rfl, ?_⟩; refine ⟨Or.inr rfl, ?_⟩; exact trivial) (Nat.zero_le _) (Nat.zero_le _) (hP _ (ok_some hw :) :)
          · replace hw := ok_f hw c
            refine ⟨(ok_rd hw).1, ?_⟩
            replace hw := (ok_rd hw).2
            refine ⟨fun c => ?_, fun c => ?_⟩
            · replace hw := ok_f hw c
              refine ⟨(ok_wr hw).1, ?_⟩
              replace hw := (ok_wr hw).2
              exact hG.2 _ _ _ _ _ _ _ _ _ (by refine ⟨Or.inr rfl, ?_⟩; refine ⟨Or.inr rfl, ?_⟩; refine ⟨Or.inl rfl, ?_⟩; refine ⟨Or.inr rfl, ?_⟩; refine ⟨Or.inr rfl, ?_⟩; refine ⟨Or.inr rfl, ?_⟩; exact trivial) (Nat.zero_le _) (Nat.zero_le _) (hP _ (ok_some hw :) :)
            · replace hw := ok_t hw c
              refine ⟨(ok_wr hw).1, ?_⟩
              replace hw := (ok_wr hw).2
              exact hG.2 _ _ _ _ _ _ _ _ _ (by refine ⟨Or.inr rfl, ?_⟩; refine ⟨Or.inr rfl, ?_⟩; refine ⟨Or.inl rfl, ?_⟩; refine ⟨Or.inr rfl, ?_⟩; refine ⟨Or.inr rfl, ?_⟩; refine ⟨Or.inr rfl, ?_⟩; exact trivial) (Nat.zero_le _) (Nat.zero_le _) (hP _ (ok_some hw :) :)
      · replace hw := ok_f hw c
        refine ⟨fun c => ?_, fun c => ?_⟩
        · replace hw := ok_t hw c
          exact hG.2 _ _ _ _ _ _ _ _ _ (by refine ⟨Or.inr rfl, ?_⟩; refine ⟨Or.inr rfl, ?_⟩; refine ⟨Or.inl rfl, ?_⟩; refine ⟨Or.inr rfl, ?_⟩; refine ⟨Or.inr rfl, ?_⟩; refine ⟨Or.inr rfl, ?_⟩; exact trivial) (Nat.zero_le _) (Nat.zero_le _) (hP _ (ok_some hw :) :)
        · replace hw := ok_f hw c
          refine ⟨fun c => ?_, fun c => ?_⟩
          · replace hw := ok_t hw c
            refine c_X0_letterAt_in (ok_imp (ok_bind hw) ?_)
            intro p hw
            simp only [Option.toList, List.nil_append, List.cons_append, Nat.reduceSub]
            refine mj_run hG.1 (fun pc => pc == 16 || pc == 25 || pc == 32 || pc == 82 || pc == 175 || pc == 182) 4000 ?_
            simp only [mj_step, mj_W_s, mj_fin, List.getElem?_cons_zero, List.getElem?_cons_succ, mj_go, Nat.reduceAdd, Nat.reduceSub, Nat.reduceLT, Nat.reduceLeDiff, Nat.zero_add, Nat.reduceEqDiff, Nat.reduceBEq, ↓reduceIte, Bool.false_eq_true, List.append_nil, List.nil_append, List.cons_append, Option.toList, and_true, true_and, true_or, or_true, reduceCtorEq, List.map_nil, bI_eq0, bI_eq1, bool_ft, pk_us, Bool.or_false, Bool.or_true, Bool.false_or, Bool.true_or, mj_kne, eq_self, Int32.reduceLT, Int32.reduceLE, Int32.reduceAdd, Int32.reduceSub, Int32.reduceMul, not_true_eq_false, not_false_eq_true, false_implies, true_implies, D_X0_run_0, D_X0_run_1, mj_F_aload_n_k, mj_F_arraylength, mj_F_getfield_i, mj_F_goto_off, mj_F_i2l, mj_F_iaload, mj_F_iastore, mj_F_iconst_n, mj_F_ifCond_ge_off, mj_F_ifCond_le_off, mj_F_ifCond_ne_off, mj_F_if_icmp_ge_off, mj_F_if_icmp_le_off, mj_F_if_icmp_ne_off, mj_F_ifnull_off, mj_F_iinc_k_n, mj_F_iload_k, mj_F_iload_n_k, mj_F_invokestatic_i, mj_F_invokevirtual_i, mj_F_ireturn, mj_F_istore_k, mj_F_isub, mj_F_sipush_n, mj_set, mj_set0, mj_unk, mj_c2, mj_kc, FT_X0, L_X0_run, List.take_succ_cons, List.take_zero, List.drop_succ_cons, List.drop_zero, List.reverse_cons, List.reverse_nil, List.length_cons, List.length_nil, gS_C11, gCf0_8, gS_C19, sS_Ca_19, mj_nk, mj_isA, J_X0_run]
            refine ⟨(ok_wr hw).1, ?_⟩
            replace hw := (ok_wr hw).2
            exact hG.2 _ _ _ _ _ _ _ _ _ (by refine ⟨Or.inr rfl, ?_⟩; refine ⟨Or.inr rfl, ?_⟩; refine ⟨Or.inl rfl, ?_⟩; refine ⟨Or.inr rfl, ?_⟩; refine ⟨Or.inr rfl, ?_⟩; refine ⟨Or.inr rfl, ?_⟩; exact trivial) (Nat.zero_le _) (Nat.zero_le _) (hP _ (ok_some hw :) :)
          · replace hw := ok_f hw c
            refine mj_run hG.1 (fun pc => pc == 16 || pc == 25 || pc == 32 || pc == 82 || pc == 175 || pc == 182) 4000 ?_
            simp only [mj_step, mj_W_s, mj_fin, List.getElem?_cons_zero, List.getElem?_cons_succ, mj_go, Nat.reduceAdd, Nat.reduceSub, Nat.reduceLT, Nat.reduceLeDiff, Nat.zero_add, Nat.reduceEqDiff, Nat.reduceBEq, ↓reduceIte, Bool.false_eq_true, List.append_nil, List.nil_append, List.cons_append, Option.toList, and_true, true_and, true_or, or_true, reduceCtorEq, List.map_nil, bI_eq0, bI_eq1, bool_ft, pk_us, Bool.or_false, Bool.or_true, Bool.false_or, Bool.true_or, mj_kne, eq_self, Int32.reduceLT, Int32.reduceLE, Int32.reduceAdd, Int32.reduceSub, Int32.reduceMul, not_true_eq_false, not_false_eq_true, false_implies, true_implies, D_X0_run_0, D_X0_run_1, mj_F_aload_n_k, mj_F_arraylength, mj_F_getfield_i, mj_F_goto_off, mj_F_i2l, mj_F_iaload, mj_F_iastore, mj_F_iconst_n, mj_F_ifCond_ge_off, mj_F_ifCond_le_off, mj_F_ifCond_ne_off, mj_F_if_icmp_ge_off, mj_F_if_icmp_le_off, mj_F_if_icmp_ne_off, mj_F_ifnull_off, mj_F_iinc_k_n, mj_F_iload_k, mj_F_iload_n_k, mj_F_invokestatic_i, mj_F_invokevirtual_i, mj_F_ireturn, mj_F_istore_k, mj_F_isub, mj_F_sipush_n, mj_set, mj_set0, mj_unk, mj_c2, mj_kc, FT_X0, L_X0_run, List.take_succ_cons, List.take_zero, List.drop_succ_cons, List.drop_zero, List.reverse_cons, List.reverse_nil, List.length_cons, List.length_nil, gS_C11, gCf0_8, gS_C19, sS_Ca_19, mj_nk, mj_isA, J_X0_run]
            refine ⟨(ok_wr hw).1, ?_⟩
            replace hw := (ok_wr hw).2
            exact hG.2 _ _ _ _ _ _ _ _ _ (by refine ⟨Or.inr rfl, ?_⟩; refine ⟨Or.inr rfl, ?_⟩; refine ⟨Or.inl rfl, ?_⟩; refine ⟨Or.inr rfl, ?_⟩; refine ⟨Or.inr rfl, ?_⟩; refine ⟨Or.inr rfl, ?_⟩; exact trivial) (Nat.zero_le _) (Nat.zero_le _) (hP _ (ok_some hw :) :)

set_option maxHeartbeats 4000000 in
set_option maxRecDepth 20000 in
theorem g_X0_run_182 {k : Option Value → mj_H → Prop} {G : mj_K} (hG : mj_cl2 cX0_run (TbX0 7 ((some FieldType.int)) ct_X0_run) k G)   {s : St} (hw : ok (F_X0_run_182 s) (fun p => k (some (.int p.1)) (mkCs p.2))) : G 182 [.ref 11] [] (mkCs s) 0 0 := by
  unfold F_X0_run_182 at hw
  refine mj_run hG.1 (fun pc => pc == 16 || pc == 25 || pc == 32 || pc == 82 || pc == 175 || pc == 182) 4000 ?_
  simp only [mj_step, mj_W_s, mj_fin, List.getElem?_cons_zero, List.getElem?_cons_succ, mj_go, Nat.reduceAdd, Nat.reduceSub, Nat.reduceLT, Nat.reduceLeDiff, Nat.zero_add, Nat.reduceEqDiff, Nat.reduceBEq, ↓reduceIte, Bool.false_eq_true, List.append_nil, List.nil_append, List.cons_append, Option.toList, and_true, true_and, true_or, or_true, reduceCtorEq, List.map_nil, bI_eq0, bI_eq1, bool_ft, pk_us, Bool.or_false, Bool.or_true, Bool.false_or, Bool.true_or, mj_kne, eq_self, Int32.reduceLT, Int32.reduceLE, Int32.reduceAdd, Int32.reduceSub, Int32.reduceMul, not_true_eq_false, not_false_eq_true, false_implies, true_implies, D_X0_run_0, D_X0_run_1, mj_F_aload_n_k, mj_F_arraylength, mj_F_getfield_i, mj_F_goto_off, mj_F_i2l, mj_F_iaload, mj_F_iastore, mj_F_iconst_n, mj_F_ifCond_ge_off, mj_F_ifCond_le_off, mj_F_ifCond_ne_off, mj_F_if_icmp_ge_off, mj_F_if_icmp_le_off, mj_F_if_icmp_ne_off, mj_F_ifnull_off, mj_F_iinc_k_n, mj_F_iload_k, mj_F_iload_n_k, mj_F_invokestatic_i, mj_F_invokevirtual_i, mj_F_ireturn, mj_F_istore_k, mj_F_isub, mj_F_sipush_n, mj_set, mj_set0, mj_unk, mj_c2, mj_kc, FT_X0, L_X0_run, List.take_succ_cons, List.take_zero, List.drop_succ_cons, List.drop_zero, List.reverse_cons, List.reverse_nil, List.length_cons, List.length_nil, gS_C11, gCf0_8, gS_C19, sS_Ca_19, mj_nk, mj_isA, J_X0_run]
  refine ⟨(ok_rd hw).1, ?_⟩
  replace hw := (ok_rd hw).2
  exact (ok_some hw :)

set_option maxHeartbeats 4000000 in
theorem g_X0_run_16 {k : Option Value → mj_H → Prop} {G : mj_K} (hG : mj_cl2 cX0_run (TbX0 7 ((some FieldType.int)) ct_X0_run) k G)   {v1 : Nat} {v3 : Int32} {v4 : Int32} {v5 : Int32} {s : St} (hw : ok (F_X0_run_16 v1 v3 v4 v5 s) (fun p => k (some (.int p.1)) (mkCs p.2))) : G 16 [.ref 11, .ref v1, mj_unk, .int v3, .int v4, .int v5] [] (mkCs s) 0 0 := by
  unfold F_X0_run_16 at hw
  refine lp_ok (B_X0_run_16 v1 v3) (fun x => G 16 [.ref 11, .ref v1, mj_unk, .int v3, .int x.1, .int x.2.1] [] (mkCs x.2.2) 0 0) _ ?_ _ _ (ok_bind hw)
  rintro ⟨v4, v5, s⟩ hb
  exact b_X0_run_16 hG (fun _ z => z) (fun y hw => by exact hG.2 _ _ _ _ _ _ _ _ _ (by refine ⟨Or.inr rfl, ?_⟩; exact trivial) (Nat.zero_le _) (Nat.zero_le _) (g_X0_run_182 hG  hw :)) hb

set_option maxHeartbeats 4000000 in
set_option maxRecDepth 20000 in
theorem g_X0_run {k : Option Value → mj_H → Prop} {G : mj_K} (hG : mj_cl2 cX0_run (TbX0 7 ((some FieldType.int)) ct_X0_run) k G) {v1 : Nat} {v2 : Int32} {v3 : Int32} {s : St} (hw : ok (F_X0_run v1 v2 v3 s) (fun p => k (some (.int p.1)) (mkCs p.2))) : G 0 [.ref 11, .ref v1, .int v2, .int v3] [] (mkCs s) 0 0 := by
  unfold F_X0_run at hw
  refine mj_run hG.1 (fun pc => pc == 16 || pc == 25 || pc == 32 || pc == 82 || pc == 175 || pc == 182) 4000 ?_
  simp only [mj_step, mj_W_s, mj_fin, List.getElem?_cons_zero, List.getElem?_cons_succ, mj_go, Nat.reduceAdd, Nat.reduceSub, Nat.reduceLT, Nat.reduceLeDiff, Nat.zero_add, Nat.reduceEqDiff, Nat.reduceBEq, ↓reduceIte, Bool.false_eq_true, List.append_nil, List.nil_append, List.cons_append, Option.toList, and_true, true_and, true_or, or_true, reduceCtorEq, List.map_nil, bI_eq0, bI_eq1, bool_ft, pk_us, Bool.or_false, Bool.or_true, Bool.false_or, Bool.true_or, mj_kne, eq_self, Int32.reduceLT, Int32.reduceLE, Int32.reduceAdd, Int32.reduceSub, Int32.reduceMul, not_true_eq_false, not_false_eq_true, false_implies, true_implies, D_X0_run_0, D_X0_run_1, mj_F_aload_n_k, mj_F_arraylength, mj_F_getfield_i, mj_F_goto_off, mj_F_i2l, mj_F_iaload, mj_F_iastore, mj_F_iconst_n, mj_F_ifCond_ge_off, mj_F_ifCond_le_off, mj_F_ifCond_ne_off, mj_F_if_icmp_ge_off, mj_F_if_icmp_le_off, mj_F_if_icmp_ne_off, mj_F_ifnull_off, mj_F_iinc_k_n, mj_F_iload_k, mj_F_iload_n_k, mj_F_invokestatic_i, mj_F_invokevirtual_i, mj_F_ireturn, mj_F_istore_k, mj_F_isub, mj_F_sipush_n, mj_set, mj_set0, mj_unk, mj_c2, mj_kc, FT_X0, L_X0_run, List.take_succ_cons, List.take_zero, List.drop_succ_cons, List.drop_zero, List.reverse_cons, List.reverse_nil, List.length_cons, List.length_nil, gS_C11, gCf0_8, gS_C19, sS_Ca_19, mj_nk, mj_isA, J_X0_run]
  refine ⟨fun c => ?_, fun c => ?_⟩
  · replace hw := ok_t hw c
    exact hG.2 _ _ _ _ _ _ _ _ _ (by refine ⟨Or.inr rfl, ?_⟩; refine ⟨Or.inr rfl, ?_⟩; refine ⟨Or.inl rfl, ?_⟩; refine ⟨Or.inr rfl, ?_⟩; refine ⟨Or.inr rfl, ?_⟩; refine ⟨Or.inr rfl, ?_⟩; exact trivial) (Nat.zero_le _) (Nat.zero_le _) (g_X0_run_16 hG  hw :)
  · replace hw := ok_f hw c
    exact (ok_some hw :)

def c_X0_run : mj_S := fun as h k => ∃ (v1 : Nat) (v2 : Int32) (v3 : Int32) (s : St), as = [.ref 11, .ref v1, .int v2, .int v3] ∧ h = mkCs s ∧ ok (F_X0_run v1 v2 v3 s) (fun p => k (some (.int p.1)) (mkCs p.2))
theorem c_X0_run_in {v1 : Nat} {v2 : Int32} {v3 : Int32} {s : St} {k : Option Value → mj_H → Prop} (hw : ok (F_X0_run v1 v2 v3 s) (fun p => k (some (.int p.1)) (mkCs p.2))) : c_X0_run [.ref 11, .ref v1, .int v2, .int v3] (mkCs s) k := ⟨v1, v2, v3, s, rfl, rfl, hw⟩
theorem m_X0_run (l : Launch) : mj_Met l yX0_run cX0_run 7 ((some FieldType.int)) 1 0 0 c_X0_run := by
  refine mj_body2 false (TbX0 7 ((some FieldType.int)) ct_X0_run) (by decide) rfl rfl (fun h => nomatch h) (tfX0 _ (List.forall_mem_cons.mpr ⟨cfX0_93 (m_X0_letterAt l) (by decide), List.forall_mem_cons.mpr ⟨cfX0_97 (m_X0_joined l) (by decide), fun _ h => nomatch h⟩⟩)) ?_
  rintro as h k ⟨v1, v2, v3, s, rfl, rfl, hw⟩
  exact ⟨rfl, fun G hG => g_X0_run hG hw⟩
def B_X0_clauseThatHolds_16 (v1 : Int32) (v2 : Int32) (v3 : Nat) : Int32 × St → Option ((Int32 × St) ⊕ ((St) ⊕ (Int32 × St)))
  | (v4, s) =>
  (la s v3).bind fun n2 =>
  if n2 ≤ (v4 + 3) then
    some (.inr (.inl s))
  else
    (ra s v3 (v4 + 1)).bind fun x3 =>
    (ra s v3 (v4 + 2)).bind fun x4 =>
    if x3 = x4 then
      (ra s v3 v4).bind fun x12 =>
      if x12 = v2 then
        some (.inr (.inr (v4, s)))
      else
        some (.inl ((v4 + 4), s))
    else
      (ra s v3 v4).bind fun x5 =>
      if x5 = v2 then
        rr s 5 20 v1 (
          (ra s v3 (v4 + 1)).bind fun x7 =>
          (ra s v3 (v4 + 2)).bind fun x8 =>
          none) fun a6 =>
        (ra s v3 (v4 + 1)).bind fun x9 =>
        (ra s v3 (v4 + 2)).bind fun x10 =>
        (F_X0_run a6 x9 x10 s).bind fun r11 =>
        if r11.1 = 0 then
          some (.inl ((v4 + 4), r11.2))
        else
          some (.inr (.inr (v4, r11.2)))
      else
        some (.inl ((v4 + 4), s))
def F_X0_clauseThatHolds_94 (s : St) : Option (Int32 × St) :=
  some ((-1), s)
def F_X0_clauseThatHolds_85 (v4 : Int32) (s : St) : Option (Int32 × St) :=
  some (v4, s)
def F_X0_clauseThatHolds_16 (v1 : Int32) (v2 : Int32) (v3 : Nat) (v4 : Int32) (s : St) : Option (Int32 × St) :=
  (lp (B_X0_clauseThatHolds_16 v1 v2 v3) FU (v4, s)).bind (Sum.elim (fun y => F_X0_clauseThatHolds_94 y) (fun y => F_X0_clauseThatHolds_85 y.1 y.2))
def F_X0_clauseThatHolds (v1 : Int32) (v2 : Int32) (s : St) : Option (Int32 × St) :=
  rr s 6 20 v1 (
    some ((-1), s)) fun a1 =>
  F_X0_clauseThatHolds_16 v1 v2 a1 0 s
theorem J_X0_clauseThatHolds : mj_t 8 5 = 13 ∧ mj_t 22 72 = 94 ∧ mj_t 37 7 = 44 ∧ mj_t 41 4 = 45 ∧ mj_t 52 36 = 88 ∧ mj_t 57 28 = 85 ∧ mj_t 82 6 = 88 ∧ mj_t 91 (-75) = 16 ∧ (0 ≤ ((8 : Nat) : Int) + 5) = True ∧ (0 ≤ ((22 : Nat) : Int) + 72) = True ∧ (0 ≤ ((37 : Nat) : Int) + 7) = True ∧ (0 ≤ ((41 : Nat) : Int) + 4) = True ∧ (0 ≤ ((52 : Nat) : Int) + 36) = True ∧ (0 ≤ ((57 : Nat) : Int) + 28) = True ∧ (0 ≤ ((82 : Nat) : Int) + 6) = True ∧ (0 ≤ ((91 : Nat) : Int) + (-75)) = True := by and_intros <;> first | rfl | exact eq_true (by decide)
def ct_X0_clauseThatHolds : List (Nat × mj_Cs) := [(81, 0, 4, 0, 0, 0, c_X0_run)]
theorem L_X0_clauseThatHolds : mj_lk ct_X0_clauseThatHolds 81 = some (0, 4, 0, 0, 0, c_X0_run) := rfl
set_option maxHeartbeats 4000000 in
set_option maxRecDepth 20000 in
theorem b_X0_clauseThatHolds_16 {k : Option Value → mj_H → Prop} {G : mj_K} (hG : mj_cl2 cX0_clauseThatHolds (TbX0 6 ((some FieldType.int)) ct_X0_clauseThatHolds) k G) {v1 : Int32} {v2 : Int32} {v3 : Nat} {P : Int32 × St → Prop} {K : (St) ⊕ (Int32 × St) → Prop} (hP : ∀ x, P x → G 16 [.ref 11, .int v1, .int v2, .ref v3, .int x.1] [] (mkCs x.2) 0 0) (hK0 : ∀ y, K (.inl y) → G 94 [] [] (mkCs y) 0 0) (hK1 : ∀ y, K (.inr y) → G 85 [mj_unk, mj_unk, mj_unk, mj_unk, .int y.1] [] (mkCs y.2) 0 0) {v4 : Int32} {s : St} (hw : ok (B_X0_clauseThatHolds_16 v1 v2 v3 (v4, s)) (Sum.elim P K)) : G 16 [.ref 11, .int v1, .int v2, .ref v3, .int v4] [] (mkCs s) 0 0 := by
  unfold B_X0_clauseThatHolds_16 at hw
  refine mj_run hG.1 (fun pc => pc == 6 || pc == 16 || pc == 21 || pc == 30 || pc == 36 || pc == 50 || pc == 67 || pc == 72 || pc == 78 || pc == 82 || pc == 85 || pc == 94) 4000 ?_
  simp only [mj_step, mj_W_s, mj_fin, List.getElem?_cons_zero, List.getElem?_cons_succ, mj_go, Nat.reduceAdd, Nat.reduceSub, Nat.reduceLT, Nat.reduceLeDiff, Nat.zero_add, Nat.reduceEqDiff, Nat.reduceBEq, ↓reduceIte, Bool.false_eq_true, List.append_nil, List.nil_append, List.cons_append, Option.toList, and_true, true_and, true_or, or_true, reduceCtorEq, List.map_nil, bI_eq0, bI_eq1, bool_ft, pk_us, Bool.or_false, Bool.or_true, Bool.false_or, Bool.true_or, mj_kne, eq_self, Int32.reduceLT, Int32.reduceLE, Int32.reduceAdd, Int32.reduceSub, Int32.reduceMul, not_true_eq_false, not_false_eq_true, false_implies, true_implies, D_X0_clauseThatHolds_0, D_X0_clauseThatHolds_1, mj_F_aaload, mj_F_aload_n_k, mj_F_arraylength, mj_F_astore_n_k, mj_F_getfield_i, mj_F_goto_off, mj_F_iadd, mj_F_iaload, mj_F_iconst_n, mj_F_ifCond_eq_off, mj_F_ifCond_ne_off, mj_F_if_icmp_ge_off, mj_F_if_icmp_ne_off, mj_F_ifnonnull_off, mj_F_iinc_k_n, mj_F_iload_k, mj_F_iload_n_k, mj_F_invokevirtual_i, mj_F_ireturn, mj_F_istore_k, mj_set, mj_set0, mj_unk, mj_c2, mj_kc, FT_X0, L_X0_clauseThatHolds, List.take_succ_cons, List.take_zero, List.drop_succ_cons, List.drop_zero, List.reverse_cons, List.reverse_nil, List.length_cons, List.length_nil, gS_C11, gCf0_6, gS_C17, sS_Cr_17, gCf0_5, gS_C16, sS_Cr_16, mj_nk, mj_isA, J_X0_clauseThatHolds]
  obtain ⟨_, _, e13, hw⟩ := ok_la hw
  refine mj_run hG.1 (fun pc => pc == 6 || pc == 16 || pc == 21 || pc == 30 || pc == 36 || pc == 50 || pc == 67 || pc == 72 || pc == 78 || pc == 82 || pc == 85 || pc == 94) 4000 ?_
  simp only [e13, mj_isA, mj_step, mj_W_s, mj_fin, List.getElem?_cons_zero, List.getElem?_cons_succ, mj_go, Nat.reduceAdd, Nat.reduceSub, Nat.reduceLT, Nat.reduceLeDiff, Nat.zero_add, Nat.reduceEqDiff, Nat.reduceBEq, ↓reduceIte, Bool.false_eq_true, List.append_nil, List.nil_append, List.cons_append, Option.toList, and_true, true_and, true_or, or_true, reduceCtorEq, List.map_nil, bI_eq0, bI_eq1, bool_ft, pk_us, Bool.or_false, Bool.or_true, Bool.false_or, Bool.true_or, mj_kne, eq_self, Int32.reduceLT, Int32.reduceLE, Int32.reduceAdd, Int32.reduceSub, Int32.reduceMul, not_true_eq_false, not_false_eq_true, false_implies, true_implies, D_X0_clauseThatHolds_0, D_X0_clauseThatHolds_1, mj_F_aaload, mj_F_aload_n_k, mj_F_arraylength, mj_F_astore_n_k, mj_F_getfield_i, mj_F_goto_off, mj_F_iadd, mj_F_iaload, mj_F_iconst_n, mj_F_ifCond_eq_off, mj_F_ifCond_ne_off, mj_F_if_icmp_ge_off, mj_F_if_icmp_ne_off, mj_F_ifnonnull_off, mj_F_iinc_k_n, mj_F_iload_k, mj_F_iload_n_k, mj_F_invokevirtual_i, mj_F_ireturn, mj_F_istore_k, mj_set, mj_set0, mj_unk, mj_c2, mj_kc, FT_X0, L_X0_clauseThatHolds, List.take_succ_cons, List.take_zero, List.drop_succ_cons, List.drop_zero, List.reverse_cons, List.reverse_nil, List.length_cons, List.length_nil, gS_C11, gCf0_6, gS_C17, sS_Cr_17, gCf0_5, gS_C16, sS_Cr_16, mj_nk, mj_isA, J_X0_clauseThatHolds]
  refine ⟨fun c => ?_, fun c => ?_⟩
  · replace hw := ok_t hw c
    exact hG.2 _ _ _ _ _ _ _ _ _ (by exact trivial) (Nat.zero_le _) (Nat.zero_le _) (hK0 _ (ok_some hw :) :)
  · replace hw := ok_f hw c
    obtain ⟨_, _, e14, z, hw⟩ := ok_ra hw
    refine mj_run hG.1 (fun pc => pc == 6 || pc == 16 || pc == 21 || pc == 30 || pc == 36 || pc == 50 || pc == 67 || pc == 72 || pc == 78 || pc == 82 || pc == 85 || pc == 94) 4000 ?_
    simp only [e14, mj_step, mj_W_s, mj_fin, List.getElem?_cons_zero, List.getElem?_cons_succ, mj_go, Nat.reduceAdd, Nat.reduceSub, Nat.reduceLT, Nat.reduceLeDiff, Nat.zero_add, Nat.reduceEqDiff, Nat.reduceBEq, ↓reduceIte, Bool.false_eq_true, List.append_nil, List.nil_append, List.cons_append, Option.toList, and_true, true_and, true_or, or_true, reduceCtorEq, List.map_nil, bI_eq0, bI_eq1, bool_ft, pk_us, Bool.or_false, Bool.or_true, Bool.false_or, Bool.true_or, mj_kne, eq_self, Int32.reduceLT, Int32.reduceLE, Int32.reduceAdd, Int32.reduceSub, Int32.reduceMul, not_true_eq_false, not_false_eq_true, false_implies, true_implies, D_X0_clauseThatHolds_0, D_X0_clauseThatHolds_1, mj_F_aaload, mj_F_aload_n_k, mj_F_arraylength, mj_F_astore_n_k, mj_F_getfield_i, mj_F_goto_off, mj_F_iadd, mj_F_iaload, mj_F_iconst_n, mj_F_ifCond_eq_off, mj_F_ifCond_ne_off, mj_F_if_icmp_ge_off, mj_F_if_icmp_ne_off, mj_F_ifnonnull_off, mj_F_iinc_k_n, mj_F_iload_k, mj_F_iload_n_k, mj_F_invokevirtual_i, mj_F_ireturn, mj_F_istore_k, mj_set, mj_set0, mj_unk, mj_c2, mj_kc, FT_X0, L_X0_clauseThatHolds, List.take_succ_cons, List.take_zero, List.drop_succ_cons, List.drop_zero, List.reverse_cons, List.reverse_nil, List.length_cons, List.length_nil, gS_C11, gCf0_6, gS_C17, sS_Cr_17, gCf0_5, gS_C16, sS_Cr_16, mj_nk, mj_isA, J_X0_clauseThatHolds]
    refine ⟨z, ?_⟩
    obtain ⟨_, _, e15, z, hw⟩ := ok_ra hw
    refine mj_run hG.1 (fun pc => pc == 6 || pc == 16 || pc == 21 || pc == 30 || pc == 36 || pc == 50 || pc == 67 || pc == 72 || pc == 78 || pc == 82 || pc == 85 || pc == 94) 4000 ?_
    simp only [e15, mj_step, mj_W_s, mj_fin, List.getElem?_cons_zero, List.getElem?_cons_succ, mj_go, Nat.reduceAdd, Nat.reduceSub, Nat.reduceLT, Nat.reduceLeDiff, Nat.zero_add, Nat.reduceEqDiff, Nat.reduceBEq, ↓reduceIte, Bool.false_eq_true, List.append_nil, List.nil_append, List.cons_append, Option.toList, and_true, true_and, true_or, or_true, reduceCtorEq, List.map_nil, bI_eq0, bI_eq1, bool_ft, pk_us, Bool.or_false, Bool.or_true, Bool.false_or, Bool.true_or, mj_kne, eq_self, Int32.reduceLT, Int32.reduceLE, Int32.reduceAdd, Int32.reduceSub, Int32.reduceMul, not_true_eq_false, not_false_eq_true, false_implies, true_implies, D_X0_clauseThatHolds_0, D_X0_clauseThatHolds_1, mj_F_aaload, mj_F_aload_n_k, mj_F_arraylength, mj_F_astore_n_k, mj_F_getfield_i, mj_F_goto_off, mj_F_iadd, mj_F_iaload, mj_F_iconst_n, mj_F_ifCond_eq_off, mj_F_ifCond_ne_off, mj_F_if_icmp_ge_off, mj_F_if_icmp_ne_off, mj_F_ifnonnull_off, mj_F_iinc_k_n, mj_F_iload_k, mj_F_iload_n_k, mj_F_invokevirtual_i, mj_F_ireturn, mj_F_istore_k, mj_set, mj_set0, mj_unk, mj_c2, mj_kc, FT_X0, L_X0_clauseThatHolds, List.take_succ_cons, List.take_zero, List.drop_succ_cons, List.drop_zero, List.reverse_cons, List.reverse_nil, List.length_cons, List.length_nil, gS_C11, gCf0_6, gS_C17, sS_Cr_17, gCf0_5, gS_C16, sS_Cr_16, mj_nk, mj_isA, J_X0_clauseThatHolds]
    refine ⟨z, ?_⟩
    refine ⟨fun c => ?_, fun c => ?_⟩
    · replace hw := ok_f hw c
      obtain ⟨_, _, e17, z, hw⟩ := ok_ra hw
      refine mj_run hG.1 (fun pc => pc == 6 || pc == 16 || pc == 21 || pc == 30 || pc == 36 || pc == 50 || pc == 67 || pc == 72 || pc == 78 || pc == 82 || pc == 85 || pc == 94) 4000 ?_
      simp only [e17, mj_step, mj_W_s, mj_fin, List.getElem?_cons_zero, List.getElem?_cons_succ, mj_go, Nat.reduceAdd, Nat.reduceSub, Nat.reduceLT, Nat.reduceLeDiff, Nat.zero_add, Nat.reduceEqDiff, Nat.reduceBEq, ↓reduceIte, Bool.false_eq_true, List.append_nil, List.nil_append, List.cons_append, Option.toList, and_true, true_and, true_or, or_true, reduceCtorEq, List.map_nil, bI_eq0, bI_eq1, bool_ft, pk_us, Bool.or_false, Bool.or_true, Bool.false_or, Bool.true_or, mj_kne, eq_self, Int32.reduceLT, Int32.reduceLE, Int32.reduceAdd, Int32.reduceSub, Int32.reduceMul, not_true_eq_false, not_false_eq_true, false_implies, true_implies, D_X0_clauseThatHolds_0, D_X0_clauseThatHolds_1, mj_F_aaload, mj_F_aload_n_k, mj_F_arraylength, mj_F_astore_n_k, mj_F_getfield_i, mj_F_goto_off, mj_F_iadd, mj_F_iaload, mj_F_iconst_n, mj_F_ifCond_eq_off, mj_F_ifCond_ne_off, mj_F_if_icmp_ge_off, mj_F_if_icmp_ne_off, mj_F_ifnonnull_off, mj_F_iinc_k_n, mj_F_iload_k, mj_F_iload_n_k, mj_F_invokevirtual_i, mj_F_ireturn, mj_F_istore_k, mj_set, mj_set0, mj_unk, mj_c2, mj_kc, FT_X0, L_X0_clauseThatHolds, List.take_succ_cons, List.take_zero, List.drop_succ_cons, List.drop_zero, List.reverse_cons, List.reverse_nil, List.length_cons, List.length_nil, gS_C11, gCf0_6, gS_C17, sS_Cr_17, gCf0_5, gS_C16, sS_Cr_16, mj_nk, mj_isA, J_X0_clauseThatHolds]
      refine ⟨z, ?_⟩
      refine ⟨fun c => ?_, fun c => ?_⟩
      · replace hw := ok_f hw c
        exact hG.2 _ _ _ _ _ _ _ _ _ (by refine ⟨Or.inr rfl, ?_⟩; refine ⟨Or.inr rfl, ?_⟩; refine ⟨Or.inr rfl, ?_⟩; refine ⟨Or.inr rfl, ?_⟩; refine ⟨Or.inr rfl, ?_⟩; exact trivial) (Nat.zero_le _) (Nat.zero_le _) (hP _ (ok_some hw :) :)
      · replace hw := ok_t hw c
        refine ⟨(ok_rr hw).1, ?_⟩
        rcases (ok_rr hw).2 with ⟨e18, hw⟩ | ⟨_, e18, hw⟩
        · simp only [e18, va_rf]
          refine mj_run hG.1 (fun pc => pc == 6 || pc == 16 || pc == 21 || pc == 30 || pc == 36 || pc == 50 || pc == 67 || pc == 72 || pc == 78 || pc == 82 || pc == 85 || pc == 94) 4000 ?_
          simp only [mj_step, mj_W_s, mj_fin, List.getElem?_cons_zero, List.getElem?_cons_succ, mj_go, Nat.reduceAdd, Nat.reduceSub, Nat.reduceLT, Nat.reduceLeDiff, Nat.zero_add, Nat.reduceEqDiff, Nat.reduceBEq, ↓reduceIte, Bool.false_eq_true, List.append_nil, List.nil_append, List.cons_append, Option.toList, and_true, true_and, true_or, or_true, reduceCtorEq, List.map_nil, bI_eq0, bI_eq1, bool_ft, pk_us, Bool.or_false, Bool.or_true, Bool.false_or, Bool.true_or, mj_kne, eq_self, Int32.reduceLT, Int32.reduceLE, Int32.reduceAdd, Int32.reduceSub, Int32.reduceMul, not_true_eq_false, not_false_eq_true, false_implies, true_implies, D_X0_clauseThatHolds_0, D_X0_clauseThatHolds_1, mj_F_aaload, mj_F_aload_n_k, mj_F_arraylength, mj_F_astore_n_k, mj_F_getfield_i, mj_F_goto_off, mj_F_iadd, mj_F_iaload, mj_F_iconst_n, mj_F_ifCond_eq_off, mj_F_ifCond_ne_off, mj_F_if_icmp_ge_off, mj_F_if_icmp_ne_off, mj_F_ifnonnull_off, mj_F_iinc_k_n, mj_F_iload_k, mj_F_iload_n_k, mj_F_invokevirtual_i, mj_F_ireturn, mj_F_istore_k, mj_set, mj_set0, mj_unk, mj_c2, mj_kc, FT_X0, L_X0_clauseThatHolds, List.take_succ_cons, List.take_zero, List.drop_succ_cons, List.drop_zero, List.reverse_cons, List.reverse_nil, List.length_cons, List.length_nil, gS_C11, gCf0_6, gS_C17, sS_Cr_17, gCf0_5, gS_C16, sS_Cr_16, mj_nk, mj_isA, J_X0_clauseThatHolds]
          obtain ⟨_, _, e19, z, hw⟩ := ok_ra hw
          refine mj_run hG.1 (fun pc => pc == 6 || pc == 16 || pc == 21 || pc == 30 || pc == 36 || pc == 50 || pc == 67 || pc == 72 || pc == 78 || pc == 82 || pc == 85 || pc == 94) 4000 ?_
          simp only [e19, mj_step, mj_W_s, mj_fin, List.getElem?_cons_zero, List.getElem?_cons_succ, mj_go, Nat.reduceAdd, Nat.reduceSub, Nat.reduceLT, Nat.reduceLeDiff, Nat.zero_add, Nat.reduceEqDiff, Nat.reduceBEq, ↓reduceIte, Bool.false_eq_true, List.append_nil, List.nil_append, List.cons_append, Option.toList, and_true, true_and, true_or, or_true, reduceCtorEq, List.map_nil, bI_eq0, bI_eq1, bool_ft, pk_us, Bool.or_false, Bool.or_true, Bool.false_or, Bool.true_or, mj_kne, eq_self, Int32.reduceLT, Int32.reduceLE, Int32.reduceAdd, Int32.reduceSub, Int32.reduceMul, not_true_eq_false, not_false_eq_true, false_implies, true_implies, D_X0_clauseThatHolds_0, D_X0_clauseThatHolds_1, mj_F_aaload, mj_F_aload_n_k, mj_F_arraylength, mj_F_astore_n_k, mj_F_getfield_i, mj_F_goto_off, mj_F_iadd, mj_F_iaload, mj_F_iconst_n, mj_F_ifCond_eq_off, mj_F_ifCond_ne_off, mj_F_if_icmp_ge_off, mj_F_if_icmp_ne_off, mj_F_ifnonnull_off, mj_F_iinc_k_n, mj_F_iload_k, mj_F_iload_n_k, mj_F_invokevirtual_i, mj_F_ireturn, mj_F_istore_k, mj_set, mj_set0, mj_unk, mj_c2, mj_kc, FT_X0, L_X0_clauseThatHolds, List.take_succ_cons, List.take_zero, List.drop_succ_cons, List.drop_zero, List.reverse_cons, List.reverse_nil, List.length_cons, List.length_nil, gS_C11, gCf0_6, gS_C17, sS_Cr_17, gCf0_5, gS_C16, sS_Cr_16, mj_nk, mj_isA, J_X0_clauseThatHolds]
          refine ⟨z, ?_⟩
          obtain ⟨_, _, e20, z, hw⟩ := ok_ra hw
          refine mj_run hG.1 (fun pc => pc == 6 || pc == 16 || pc == 21 || pc == 30 || pc == 36 || pc == 50 || pc == 67 || pc == 72 || pc == 78 || pc == 82 || pc == 85 || pc == 94) 4000 ?_
          simp only [e20, mj_step, mj_W_s, mj_fin, List.getElem?_cons_zero, List.getElem?_cons_succ, mj_go, Nat.reduceAdd, Nat.reduceSub, Nat.reduceLT, Nat.reduceLeDiff, Nat.zero_add, Nat.reduceEqDiff, Nat.reduceBEq, ↓reduceIte, Bool.false_eq_true, List.append_nil, List.nil_append, List.cons_append, Option.toList, and_true, true_and, true_or, or_true, reduceCtorEq, List.map_nil, bI_eq0, bI_eq1, bool_ft, pk_us, Bool.or_false, Bool.or_true, Bool.false_or, Bool.true_or, mj_kne, eq_self, Int32.reduceLT, Int32.reduceLE, Int32.reduceAdd, Int32.reduceSub, Int32.reduceMul, not_true_eq_false, not_false_eq_true, false_implies, true_implies, D_X0_clauseThatHolds_0, D_X0_clauseThatHolds_1, mj_F_aaload, mj_F_aload_n_k, mj_F_arraylength, mj_F_astore_n_k, mj_F_getfield_i, mj_F_goto_off, mj_F_iadd, mj_F_iaload, mj_F_iconst_n, mj_F_ifCond_eq_off, mj_F_ifCond_ne_off, mj_F_if_icmp_ge_off, mj_F_if_icmp_ne_off, mj_F_ifnonnull_off, mj_F_iinc_k_n, mj_F_iload_k, mj_F_iload_n_k, mj_F_invokevirtual_i, mj_F_ireturn, mj_F_istore_k, mj_set, mj_set0, mj_unk, mj_c2, mj_kc, FT_X0, L_X0_clauseThatHolds, List.take_succ_cons, List.take_zero, List.drop_succ_cons, List.drop_zero, List.reverse_cons, List.reverse_nil, List.length_cons, List.length_nil, gS_C11, gCf0_6, gS_C17, sS_Cr_17, gCf0_5, gS_C16, sS_Cr_16, mj_nk, mj_isA, J_X0_clauseThatHolds]
          refine ⟨z, ?_⟩
          exact absurd hw ok_none
        · simp only [e18, va_rf]
          refine mj_run hG.1 (fun pc => pc == 6 || pc == 16 || pc == 21 || pc == 30 || pc == 36 || pc == 50 || pc == 67 || pc == 72 || pc == 78 || pc == 82 || pc == 85 || pc == 94) 4000 ?_
          simp only [mj_step, mj_W_s, mj_fin, List.getElem?_cons_zero, List.getElem?_cons_succ, mj_go, Nat.reduceAdd, Nat.reduceSub, Nat.reduceLT, Nat.reduceLeDiff, Nat.zero_add, Nat.reduceEqDiff, Nat.reduceBEq, ↓reduceIte, Bool.false_eq_true, List.append_nil, List.nil_append, List.cons_append, Option.toList, and_true, true_and, true_or, or_true, reduceCtorEq, List.map_nil, bI_eq0, bI_eq1, bool_ft, pk_us, Bool.or_false, Bool.or_true, Bool.false_or, Bool.true_or, mj_kne, eq_self, Int32.reduceLT, Int32.reduceLE, Int32.reduceAdd, Int32.reduceSub, Int32.reduceMul, not_true_eq_false, not_false_eq_true, false_implies, true_implies, D_X0_clauseThatHolds_0, D_X0_clauseThatHolds_1, mj_F_aaload, mj_F_aload_n_k, mj_F_arraylength, mj_F_astore_n_k, mj_F_getfield_i, mj_F_goto_off, mj_F_iadd, mj_F_iaload, mj_F_iconst_n, mj_F_ifCond_eq_off, mj_F_ifCond_ne_off, mj_F_if_icmp_ge_off, mj_F_if_icmp_ne_off, mj_F_ifnonnull_off, mj_F_iinc_k_n, mj_F_iload_k, mj_F_iload_n_k, mj_F_invokevirtual_i, mj_F_ireturn, mj_F_istore_k, mj_set, mj_set0, mj_unk, mj_c2, mj_kc, FT_X0, L_X0_clauseThatHolds, List.take_succ_cons, List.take_zero, List.drop_succ_cons, List.drop_zero, List.reverse_cons, List.reverse_nil, List.length_cons, List.length_nil, gS_C11, gCf0_6, gS_C17, sS_Cr_17, gCf0_5, gS_C16, sS_Cr_16, mj_nk, mj_isA, J_X0_clauseThatHolds]
          obtain ⟨_, _, e21, z, hw⟩ := ok_ra hw
          refine mj_run hG.1 (fun pc => pc == 6 || pc == 16 || pc == 21 || pc == 30 || pc == 36 || pc == 50 || pc == 67 || pc == 72 || pc == 78 || pc == 82 || pc == 85 || pc == 94) 4000 ?_
          simp only [e21, mj_step, mj_W_s, mj_fin, List.getElem?_cons_zero, List.getElem?_cons_succ, mj_go, Nat.reduceAdd, Nat.reduceSub, Nat.reduceLT, Nat.reduceLeDiff, Nat.zero_add, Nat.reduceEqDiff, Nat.reduceBEq, ↓reduceIte, Bool.false_eq_true, List.append_nil, List.nil_append, List.cons_append, Option.toList, and_true, true_and, true_or, or_true, reduceCtorEq, List.map_nil, bI_eq0, bI_eq1, bool_ft, pk_us, Bool.or_false, Bool.or_true, Bool.false_or, Bool.true_or, mj_kne, eq_self, Int32.reduceLT, Int32.reduceLE, Int32.reduceAdd, Int32.reduceSub, Int32.reduceMul, not_true_eq_false, not_false_eq_true, false_implies, true_implies, D_X0_clauseThatHolds_0, D_X0_clauseThatHolds_1, mj_F_aaload, mj_F_aload_n_k, mj_F_arraylength, mj_F_astore_n_k, mj_F_getfield_i, mj_F_goto_off, mj_F_iadd, mj_F_iaload, mj_F_iconst_n, mj_F_ifCond_eq_off, mj_F_ifCond_ne_off, mj_F_if_icmp_ge_off, mj_F_if_icmp_ne_off, mj_F_ifnonnull_off, mj_F_iinc_k_n, mj_F_iload_k, mj_F_iload_n_k, mj_F_invokevirtual_i, mj_F_ireturn, mj_F_istore_k, mj_set, mj_set0, mj_unk, mj_c2, mj_kc, FT_X0, L_X0_clauseThatHolds, List.take_succ_cons, List.take_zero, List.drop_succ_cons, List.drop_zero, List.reverse_cons, List.reverse_nil, List.length_cons, List.length_nil, gS_C11, gCf0_6, gS_C17, sS_Cr_17, gCf0_5, gS_C16, sS_Cr_16, mj_nk, mj_isA, J_X0_clauseThatHolds]
          refine ⟨z, ?_⟩
          obtain ⟨_, _, e22, z, hw⟩ := ok_ra hw
          refine mj_run hG.1 (fun pc => pc == 6 || pc == 16 || pc == 21 || pc == 30 || pc == 36 || pc == 50 || pc == 67 || pc == 72 || pc == 78 || pc == 82 || pc == 85 || pc == 94) 4000 ?_
          simp only [e22, mj_step, mj_W_s, mj_fin, List.getElem?_cons_zero, List.getElem?_cons_succ, mj_go, Nat.reduceAdd, Nat.reduceSub, Nat.reduceLT, Nat.reduceLeDiff, Nat.zero_add, Nat.reduceEqDiff, Nat.reduceBEq, ↓reduceIte, Bool.false_eq_true, List.append_nil, List.nil_append, List.cons_append, Option.toList, and_true, true_and, true_or, or_true, reduceCtorEq, List.map_nil, bI_eq0, bI_eq1, bool_ft, pk_us, Bool.or_false, Bool.or_true, Bool.false_or, Bool.true_or, mj_kne, eq_self, Int32.reduceLT, Int32.reduceLE, Int32.reduceAdd, Int32.reduceSub, Int32.reduceMul, not_true_eq_false, not_false_eq_true, false_implies, true_implies, D_X0_clauseThatHolds_0, D_X0_clauseThatHolds_1, mj_F_aaload, mj_F_aload_n_k, mj_F_arraylength, mj_F_astore_n_k, mj_F_getfield_i, mj_F_goto_off, mj_F_iadd, mj_F_iaload, mj_F_iconst_n, mj_F_ifCond_eq_off, mj_F_ifCond_ne_off, mj_F_if_icmp_ge_off, mj_F_if_icmp_ne_off, mj_F_ifnonnull_off, mj_F_iinc_k_n, mj_F_iload_k, mj_F_iload_n_k, mj_F_invokevirtual_i, mj_F_ireturn, mj_F_istore_k, mj_set, mj_set0, mj_unk, mj_c2, mj_kc, FT_X0, L_X0_clauseThatHolds, List.take_succ_cons, List.take_zero, List.drop_succ_cons, List.drop_zero, List.reverse_cons, List.reverse_nil, List.length_cons, List.length_nil, gS_C11, gCf0_6, gS_C17, sS_Cr_17, gCf0_5, gS_C16, sS_Cr_16, mj_nk, mj_isA, J_X0_clauseThatHolds]
          refine ⟨z, ?_⟩
          refine c_X0_run_in (ok_imp (ok_bind hw) ?_)
          intro p hw
          simp only [Option.toList, List.nil_append, List.cons_append, Nat.reduceSub]
          refine mj_run hG.1 (fun pc => pc == 6 || pc == 16 || pc == 21 || pc == 30 || pc == 36 || pc == 50 || pc == 67 || pc == 72 || pc == 78 || pc == 82 || pc == 85 || pc == 94) 4000 ?_
          simp only [mj_step, mj_W_s, mj_fin, List.getElem?_cons_zero, List.getElem?_cons_succ, mj_go, Nat.reduceAdd, Nat.reduceSub, Nat.reduceLT, Nat.reduceLeDiff, Nat.zero_add, Nat.reduceEqDiff, Nat.reduceBEq, ↓reduceIte, Bool.false_eq_true, List.append_nil, List.nil_append, List.cons_append, Option.toList, and_true, true_and, true_or, or_true, reduceCtorEq, List.map_nil, bI_eq0, bI_eq1, bool_ft, pk_us, Bool.or_false, Bool.or_true, Bool.false_or, Bool.true_or, mj_kne, eq_self, Int32.reduceLT, Int32.reduceLE, Int32.reduceAdd, Int32.reduceSub, Int32.reduceMul, not_true_eq_false, not_false_eq_true, false_implies, true_implies, D_X0_clauseThatHolds_0, D_X0_clauseThatHolds_1, mj_F_aaload, mj_F_aload_n_k, mj_F_arraylength, mj_F_astore_n_k, mj_F_getfield_i, mj_F_goto_off, mj_F_iadd, mj_F_iaload, mj_F_iconst_n, mj_F_ifCond_eq_off, mj_F_ifCond_ne_off, mj_F_if_icmp_ge_off, mj_F_if_icmp_ne_off, mj_F_ifnonnull_off, mj_F_iinc_k_n, mj_F_iload_k, mj_F_iload_n_k, mj_F_invokevirtual_i, mj_F_ireturn, mj_F_istore_k, mj_set, mj_set0, mj_unk, mj_c2, mj_kc, FT_X0, L_X0_clauseThatHolds, List.take_succ_cons, List.take_zero, List.drop_succ_cons, List.drop_zero, List.reverse_cons, List.reverse_nil, List.length_cons, List.length_nil, gS_C11, gCf0_6, gS_C17, sS_Cr_17, gCf0_5, gS_C16, sS_Cr_16, mj_nk, mj_isA, J_X0_clauseThatHolds]
          refine ⟨fun c => ?_, fun c => ?_⟩
          · replace hw := ok_t hw c
            exact hG.2 _ _ _ _ _ _ _ _ _ (by refine ⟨Or.inr rfl, ?_⟩; refine ⟨Or.inr rfl, ?_⟩; refine ⟨Or.inr rfl, ?_⟩; refine ⟨Or.inr rfl, ?_⟩; refine ⟨Or.inr rfl, ?_⟩; exact trivial) (Nat.zero_le _) (Nat.zero_le _) (hP _ (ok_some hw :) :)
          · replace hw := ok_f hw c
            exact hG.2 _ _ _ _ _ _ _ _ _ (by refine ⟨Or.inl rfl, ?_⟩; refine ⟨Or.inl rfl, ?_⟩; refine ⟨Or.inl rfl, ?_⟩; refine ⟨Or.inl rfl, ?_⟩; refine ⟨Or.inr rfl, ?_⟩; exact trivial) (Nat.zero_le _) (Nat.zero_le _) (hK1 _ (ok_some hw :) :)
    · replace hw := ok_t hw c
      obtain ⟨_, _, e16, z, hw⟩ := ok_ra hw
      refine mj_run hG.1 (fun pc => pc == 6 || pc == 16 || pc == 21 || pc == 30 || pc == 36 || pc == 50 || pc == 67 || pc == 72 || pc == 78 || pc == 82 || pc == 85 || pc == 94) 4000 ?_
      simp only [e16, mj_step, mj_W_s, mj_fin, List.getElem?_cons_zero, List.getElem?_cons_succ, mj_go, Nat.reduceAdd, Nat.reduceSub, Nat.reduceLT, Nat.reduceLeDiff, Nat.zero_add, Nat.reduceEqDiff, Nat.reduceBEq, ↓reduceIte, Bool.false_eq_true, List.append_nil, List.nil_append, List.cons_append, Option.toList, and_true, true_and, true_or, or_true, reduceCtorEq, List.map_nil, bI_eq0, bI_eq1, bool_ft, pk_us, Bool.or_false, Bool.or_true, Bool.false_or, Bool.true_or, mj_kne, eq_self, Int32.reduceLT, Int32.reduceLE, Int32.reduceAdd, Int32.reduceSub, Int32.reduceMul, not_true_eq_false, not_false_eq_true, false_implies, true_implies, D_X0_clauseThatHolds_0, D_X0_clauseThatHolds_1, mj_F_aaload, mj_F_aload_n_k, mj_F_arraylength, mj_F_astore_n_k, mj_F_getfield_i, mj_F_goto_off, mj_F_iadd, mj_F_iaload, mj_F_iconst_n, mj_F_ifCond_eq_off, mj_F_ifCond_ne_off, mj_F_if_icmp_ge_off, mj_F_if_icmp_ne_off, mj_F_ifnonnull_off, mj_F_iinc_k_n, mj_F_iload_k, mj_F_iload_n_k, mj_F_invokevirtual_i, mj_F_ireturn, mj_F_istore_k, mj_set, mj_set0, mj_unk, mj_c2, mj_kc, FT_X0, L_X0_clauseThatHolds, List.take_succ_cons, List.take_zero, List.drop_succ_cons, List.drop_zero, List.reverse_cons, List.reverse_nil, List.length_cons, List.length_nil, gS_C11, gCf0_6, gS_C17, sS_Cr_17, gCf0_5, gS_C16, sS_Cr_16, mj_nk, mj_isA, J_X0_clauseThatHolds]
      refine ⟨z, ?_⟩
      refine ⟨fun c => ?_, fun c => ?_⟩
      · replace hw := ok_f hw c
        exact hG.2 _ _ _ _ _ _ _ _ _ (by refine ⟨Or.inr rfl, ?_⟩; refine ⟨Or.inr rfl, ?_⟩; refine ⟨Or.inr rfl, ?_⟩; refine ⟨Or.inr rfl, ?_⟩; refine ⟨Or.inr rfl, ?_⟩; exact trivial) (Nat.zero_le _) (Nat.zero_le _) (hP _ (ok_some hw :) :)
      · replace hw := ok_t hw c
        exact hG.2 _ _ _ _ _ _ _ _ _ (by refine ⟨Or.inl rfl, ?_⟩; refine ⟨Or.inl rfl, ?_⟩; refine ⟨Or.inl rfl, ?_⟩; refine ⟨Or.inl rfl, ?_⟩; refine ⟨Or.inr rfl, ?_⟩; exact trivial) (Nat.zero_le _) (Nat.zero_le _) (hK1 _ (ok_some hw :) :)

set_option maxHeartbeats 4000000 in
set_option maxRecDepth 20000 in
theorem g_X0_clauseThatHolds_94 {k : Option Value → mj_H → Prop} {G : mj_K} (hG : mj_cl2 cX0_clauseThatHolds (TbX0 6 ((some FieldType.int)) ct_X0_clauseThatHolds) k G)   {s : St} (hw : ok (F_X0_clauseThatHolds_94 s) (fun p => k (some (.int p.1)) (mkCs p.2))) : G 94 [] [] (mkCs s) 0 0 := by
  unfold F_X0_clauseThatHolds_94 at hw
  refine mj_run hG.1 (fun pc => pc == 6 || pc == 16 || pc == 21 || pc == 30 || pc == 36 || pc == 50 || pc == 67 || pc == 72 || pc == 78 || pc == 82 || pc == 85 || pc == 94) 4000 ?_
  simp only [mj_step, mj_W_s, mj_fin, List.getElem?_cons_zero, List.getElem?_cons_succ, mj_go, Nat.reduceAdd, Nat.reduceSub, Nat.reduceLT, Nat.reduceLeDiff, Nat.zero_add, Nat.reduceEqDiff, Nat.reduceBEq, ↓reduceIte, Bool.false_eq_true, List.append_nil, List.nil_append, List.cons_append, Option.toList, and_true, true_and, true_or, or_true, reduceCtorEq, List.map_nil, bI_eq0, bI_eq1, bool_ft, pk_us, Bool.or_false, Bool.or_true, Bool.false_or, Bool.true_or, mj_kne, eq_self, Int32.reduceLT, Int32.reduceLE, Int32.reduceAdd, Int32.reduceSub, Int32.reduceMul, not_true_eq_false, not_false_eq_true, false_implies, true_implies, D_X0_clauseThatHolds_0, D_X0_clauseThatHolds_1, mj_F_aaload, mj_F_aload_n_k, mj_F_arraylength, mj_F_astore_n_k, mj_F_getfield_i, mj_F_goto_off, mj_F_iadd, mj_F_iaload, mj_F_iconst_n, mj_F_ifCond_eq_off, mj_F_ifCond_ne_off, mj_F_if_icmp_ge_off, mj_F_if_icmp_ne_off, mj_F_ifnonnull_off, mj_F_iinc_k_n, mj_F_iload_k, mj_F_iload_n_k, mj_F_invokevirtual_i, mj_F_ireturn, mj_F_istore_k, mj_set, mj_set0, mj_unk, mj_c2, mj_kc, FT_X0, L_X0_clauseThatHolds, List.take_succ_cons, List.take_zero, List.drop_succ_cons, List.drop_zero, List.reverse_cons, List.reverse_nil, List.length_cons, List.length_nil, gS_C11, gCf0_6, gS_C17, sS_Cr_17, gCf0_5, gS_C16, sS_Cr_16, mj_nk, mj_isA, J_X0_clauseThatHolds]
  exact (ok_some hw :)

set_option maxHeartbeats 4000000 in
set_option maxRecDepth 20000 in
theorem g_X0_clauseThatHolds_85 {k : Option Value → mj_H → Prop} {G : mj_K} (hG : mj_cl2 cX0_clauseThatHolds (TbX0 6 ((some FieldType.int)) ct_X0_clauseThatHolds) k G)   {v4 : Int32} {s : St} (hw : ok (F_X0_clauseThatHolds_85 v4 s) (fun p => k (some (.int p.1)) (mkCs p.2))) : G 85 [mj_unk, mj_unk, mj_unk, mj_unk, .int v4] [] (mkCs s) 0 0 := by
  unfold F_X0_clauseThatHolds_85 at hw
  refine mj_run hG.1 (fun pc => pc == 6 || pc == 16 || pc == 21 || pc == 30 || pc == 36 || pc == 50 || pc == 67 || pc == 72 || pc == 78 || pc == 82 || pc == 85 || pc == 94) 4000 ?_
  simp only [mj_step, mj_W_s, mj_fin, List.getElem?_cons_zero, List.getElem?_cons_succ, mj_go, Nat.reduceAdd, Nat.reduceSub, Nat.reduceLT, Nat.reduceLeDiff, Nat.zero_add, Nat.reduceEqDiff, Nat.reduceBEq, ↓reduceIte, Bool.false_eq_true, List.append_nil, List.nil_append, List.cons_append, Option.toList, and_true, true_and, true_or, or_true, reduceCtorEq, List.map_nil, bI_eq0, bI_eq1, bool_ft, pk_us, Bool.or_false, Bool.or_true, Bool.false_or, Bool.true_or, mj_kne, eq_self, Int32.reduceLT, Int32.reduceLE, Int32.reduceAdd, Int32.reduceSub, Int32.reduceMul, not_true_eq_false, not_false_eq_true, false_implies, true_implies, D_X0_clauseThatHolds_0, D_X0_clauseThatHolds_1, mj_F_aaload, mj_F_aload_n_k, mj_F_arraylength, mj_F_astore_n_k, mj_F_getfield_i, mj_F_goto_off, mj_F_iadd, mj_F_iaload, mj_F_iconst_n, mj_F_ifCond_eq_off, mj_F_ifCond_ne_off, mj_F_if_icmp_ge_off, mj_F_if_icmp_ne_off, mj_F_ifnonnull_off, mj_F_iinc_k_n, mj_F_iload_k, mj_F_iload_n_k, mj_F_invokevirtual_i, mj_F_ireturn, mj_F_istore_k, mj_set, mj_set0, mj_unk, mj_c2, mj_kc, FT_X0, L_X0_clauseThatHolds, List.take_succ_cons, List.take_zero, List.drop_succ_cons, List.drop_zero, List.reverse_cons, List.reverse_nil, List.length_cons, List.length_nil, gS_C11, gCf0_6, gS_C17, sS_Cr_17, gCf0_5, gS_C16, sS_Cr_16, mj_nk, mj_isA, J_X0_clauseThatHolds]
  exact (ok_some hw :)

set_option maxHeartbeats 4000000 in
theorem g_X0_clauseThatHolds_16 {k : Option Value → mj_H → Prop} {G : mj_K} (hG : mj_cl2 cX0_clauseThatHolds (TbX0 6 ((some FieldType.int)) ct_X0_clauseThatHolds) k G)   {v1 : Int32} {v2 : Int32} {v3 : Nat} {v4 : Int32} {s : St} (hw : ok (F_X0_clauseThatHolds_16 v1 v2 v3 v4 s) (fun p => k (some (.int p.1)) (mkCs p.2))) : G 16 [.ref 11, .int v1, .int v2, .ref v3, .int v4] [] (mkCs s) 0 0 := by
  unfold F_X0_clauseThatHolds_16 at hw
  refine lp_ok (B_X0_clauseThatHolds_16 v1 v2 v3) (fun x => G 16 [.ref 11, .int v1, .int v2, .ref v3, .int x.1] [] (mkCs x.2) 0 0) _ ?_ _ _ (ok_bind hw)
  rintro ⟨v4, s⟩ hb
  exact b_X0_clauseThatHolds_16 hG (fun _ z => z) (fun y hw => by exact hG.2 _ _ _ _ _ _ _ _ _ (by exact trivial) (Nat.zero_le _) (Nat.zero_le _) (g_X0_clauseThatHolds_94 hG  hw :)) (fun y hw => by exact hG.2 _ _ _ _ _ _ _ _ _ (by refine ⟨Or.inl rfl, ?_⟩; refine ⟨Or.inl rfl, ?_⟩; refine ⟨Or.inl rfl, ?_⟩; refine ⟨Or.inl rfl, ?_⟩; refine ⟨Or.inr rfl, ?_⟩; exact trivial) (Nat.zero_le _) (Nat.zero_le _) (g_X0_clauseThatHolds_85 hG  hw :)) hb

set_option maxHeartbeats 4000000 in
set_option maxRecDepth 20000 in
theorem g_X0_clauseThatHolds {k : Option Value → mj_H → Prop} {G : mj_K} (hG : mj_cl2 cX0_clauseThatHolds (TbX0 6 ((some FieldType.int)) ct_X0_clauseThatHolds) k G) {v1 : Int32} {v2 : Int32} {s : St} (hw : ok (F_X0_clauseThatHolds v1 v2 s) (fun p => k (some (.int p.1)) (mkCs p.2))) : G 0 [.ref 11, .int v1, .int v2] [] (mkCs s) 0 0 := by
  unfold F_X0_clauseThatHolds at hw
  refine mj_run hG.1 (fun pc => pc == 6 || pc == 16 || pc == 21 || pc == 30 || pc == 36 || pc == 50 || pc == 67 || pc == 72 || pc == 78 || pc == 82 || pc == 85 || pc == 94) 4000 ?_
  simp only [mj_step, mj_W_s, mj_fin, List.getElem?_cons_zero, List.getElem?_cons_succ, mj_go, Nat.reduceAdd, Nat.reduceSub, Nat.reduceLT, Nat.reduceLeDiff, Nat.zero_add, Nat.reduceEqDiff, Nat.reduceBEq, ↓reduceIte, Bool.false_eq_true, List.append_nil, List.nil_append, List.cons_append, Option.toList, and_true, true_and, true_or, or_true, reduceCtorEq, List.map_nil, bI_eq0, bI_eq1, bool_ft, pk_us, Bool.or_false, Bool.or_true, Bool.false_or, Bool.true_or, mj_kne, eq_self, Int32.reduceLT, Int32.reduceLE, Int32.reduceAdd, Int32.reduceSub, Int32.reduceMul, not_true_eq_false, not_false_eq_true, false_implies, true_implies, D_X0_clauseThatHolds_0, D_X0_clauseThatHolds_1, mj_F_aaload, mj_F_aload_n_k, mj_F_arraylength, mj_F_astore_n_k, mj_F_getfield_i, mj_F_goto_off, mj_F_iadd, mj_F_iaload, mj_F_iconst_n, mj_F_ifCond_eq_off, mj_F_ifCond_ne_off, mj_F_if_icmp_ge_off, mj_F_if_icmp_ne_off, mj_F_ifnonnull_off, mj_F_iinc_k_n, mj_F_iload_k, mj_F_iload_n_k, mj_F_invokevirtual_i, mj_F_ireturn, mj_F_istore_k, mj_set, mj_set0, mj_unk, mj_c2, mj_kc, FT_X0, L_X0_clauseThatHolds, List.take_succ_cons, List.take_zero, List.drop_succ_cons, List.drop_zero, List.reverse_cons, List.reverse_nil, List.length_cons, List.length_nil, gS_C11, gCf0_6, gS_C17, sS_Cr_17, gCf0_5, gS_C16, sS_Cr_16, mj_nk, mj_isA, J_X0_clauseThatHolds]
  refine ⟨(ok_rr hw).1, ?_⟩
  rcases (ok_rr hw).2 with ⟨e23, hw⟩ | ⟨_, e23, hw⟩
  · simp only [e23, va_rf]
    refine mj_run hG.1 (fun pc => pc == 6 || pc == 16 || pc == 21 || pc == 30 || pc == 36 || pc == 50 || pc == 67 || pc == 72 || pc == 78 || pc == 82 || pc == 85 || pc == 94) 4000 ?_
    simp only [mj_step, mj_W_s, mj_fin, List.getElem?_cons_zero, List.getElem?_cons_succ, mj_go, Nat.reduceAdd, Nat.reduceSub, Nat.reduceLT, Nat.reduceLeDiff, Nat.zero_add, Nat.reduceEqDiff, Nat.reduceBEq, ↓reduceIte, Bool.false_eq_true, List.append_nil, List.nil_append, List.cons_append, Option.toList, and_true, true_and, true_or, or_true, reduceCtorEq, List.map_nil, bI_eq0, bI_eq1, bool_ft, pk_us, Bool.or_false, Bool.or_true, Bool.false_or, Bool.true_or, mj_kne, eq_self, Int32.reduceLT, Int32.reduceLE, Int32.reduceAdd, Int32.reduceSub, Int32.reduceMul, not_true_eq_false, not_false_eq_true, false_implies, true_implies, D_X0_clauseThatHolds_0, D_X0_clauseThatHolds_1, mj_F_aaload, mj_F_aload_n_k, mj_F_arraylength, mj_F_astore_n_k, mj_F_getfield_i, mj_F_goto_off, mj_F_iadd, mj_F_iaload, mj_F_iconst_n, mj_F_ifCond_eq_off, mj_F_ifCond_ne_off, mj_F_if_icmp_ge_off, mj_F_if_icmp_ne_off, mj_F_ifnonnull_off, mj_F_iinc_k_n, mj_F_iload_k, mj_F_iload_n_k, mj_F_invokevirtual_i, mj_F_ireturn, mj_F_istore_k, mj_set, mj_set0, mj_unk, mj_c2, mj_kc, FT_X0, L_X0_clauseThatHolds, List.take_succ_cons, List.take_zero, List.drop_succ_cons, List.drop_zero, List.reverse_cons, List.reverse_nil, List.length_cons, List.length_nil, gS_C11, gCf0_6, gS_C17, sS_Cr_17, gCf0_5, gS_C16, sS_Cr_16, mj_nk, mj_isA, J_X0_clauseThatHolds]
    exact (ok_some hw :)
  · simp only [e23, va_rf]
    refine mj_run hG.1 (fun pc => pc == 6 || pc == 16 || pc == 21 || pc == 30 || pc == 36 || pc == 50 || pc == 67 || pc == 72 || pc == 78 || pc == 82 || pc == 85 || pc == 94) 4000 ?_
    simp only [mj_step, mj_W_s, mj_fin, List.getElem?_cons_zero, List.getElem?_cons_succ, mj_go, Nat.reduceAdd, Nat.reduceSub, Nat.reduceLT, Nat.reduceLeDiff, Nat.zero_add, Nat.reduceEqDiff, Nat.reduceBEq, ↓reduceIte, Bool.false_eq_true, List.append_nil, List.nil_append, List.cons_append, Option.toList, and_true, true_and, true_or, or_true, reduceCtorEq, List.map_nil, bI_eq0, bI_eq1, bool_ft, pk_us, Bool.or_false, Bool.or_true, Bool.false_or, Bool.true_or, mj_kne, eq_self, Int32.reduceLT, Int32.reduceLE, Int32.reduceAdd, Int32.reduceSub, Int32.reduceMul, not_true_eq_false, not_false_eq_true, false_implies, true_implies, D_X0_clauseThatHolds_0, D_X0_clauseThatHolds_1, mj_F_aaload, mj_F_aload_n_k, mj_F_arraylength, mj_F_astore_n_k, mj_F_getfield_i, mj_F_goto_off, mj_F_iadd, mj_F_iaload, mj_F_iconst_n, mj_F_ifCond_eq_off, mj_F_ifCond_ne_off, mj_F_if_icmp_ge_off, mj_F_if_icmp_ne_off, mj_F_ifnonnull_off, mj_F_iinc_k_n, mj_F_iload_k, mj_F_iload_n_k, mj_F_invokevirtual_i, mj_F_ireturn, mj_F_istore_k, mj_set, mj_set0, mj_unk, mj_c2, mj_kc, FT_X0, L_X0_clauseThatHolds, List.take_succ_cons, List.take_zero, List.drop_succ_cons, List.drop_zero, List.reverse_cons, List.reverse_nil, List.length_cons, List.length_nil, gS_C11, gCf0_6, gS_C17, sS_Cr_17, gCf0_5, gS_C16, sS_Cr_16, mj_nk, mj_isA, J_X0_clauseThatHolds]
    exact hG.2 _ _ _ _ _ _ _ _ _ (by refine ⟨Or.inr rfl, ?_⟩; refine ⟨Or.inr rfl, ?_⟩; refine ⟨Or.inr rfl, ?_⟩; refine ⟨Or.inr rfl, ?_⟩; refine ⟨Or.inr rfl, ?_⟩; exact trivial) (Nat.zero_le _) (Nat.zero_le _) (g_X0_clauseThatHolds_16 hG  hw :)

def c_X0_clauseThatHolds : mj_S := fun as h k => ∃ (v1 : Int32) (v2 : Int32) (s : St), as = [.ref 11, .int v1, .int v2] ∧ h = mkCs s ∧ ok (F_X0_clauseThatHolds v1 v2 s) (fun p => k (some (.int p.1)) (mkCs p.2))
theorem c_X0_clauseThatHolds_in {v1 : Int32} {v2 : Int32} {s : St} {k : Option Value → mj_H → Prop} (hw : ok (F_X0_clauseThatHolds v1 v2 s) (fun p => k (some (.int p.1)) (mkCs p.2))) : c_X0_clauseThatHolds [.ref 11, .int v1, .int v2] (mkCs s) k := ⟨v1, v2, s, rfl, rfl, hw⟩
theorem m_X0_clauseThatHolds (l : Launch) : mj_Met l yX0_clauseThatHolds cX0_clauseThatHolds 6 ((some FieldType.int)) 2 0 0 c_X0_clauseThatHolds := by
  refine mj_body2 false (TbX0 6 ((some FieldType.int)) ct_X0_clauseThatHolds) (by decide) rfl rfl (fun h => nomatch h) (tfX0 _ (List.forall_mem_cons.mpr ⟨cfX0_81 (m_X0_run l) (by decide), fun _ h => nomatch h⟩)) ?_
  rintro as h k ⟨v1, v2, s, rfl, rfl, hw⟩
  exact ⟨rfl, fun G hG => g_X0_clauseThatHolds hG hw⟩
def B_X0_worthOf_28 (v1 : Int32) (v2 : Int32) (v3 : Int32) (v4 : Int32) (v5 : Int32) : Int32 × Int32 × Int32 × St → Option ((Int32 × Int32 × Int32 × St) ⊕ ((Int32 × St)))
  | (v6, v7, v8, s) =>
  if (s.1 0) ≤ v8 then
    some (.inr (v6, s))
  else
    (rd s 3 20 v8).bind fun x4 =>
    if v4 < x4 then
      some (.inl (v6, v7, (v8 + 1), s))
    else
      (rd s 4 20 v8).bind fun x5 =>
      if ((x5 >>> (v1 &&& 31)) &&& 1) = 1 then
        (F_X0_binds v8 v2 v5 s).bind fun r6 =>
        if r6 = 0 then
          some (.inl (v6, v7, (v8 + 1), s))
        else
          (rd s 2 20 v8).bind fun x7 =>
          if v3 < x7 then
            some (.inl (v6, v7, (v8 + 1), s))
          else
            (rd s 2 20 v8).bind fun x8 =>
            if v7 ≤ x8 then
              (F_X0_clauseThatHolds v8 v1 s).bind fun r9 =>
              if r9.1 = (-1) then
                some (.inl (v6, v7, (v8 + 1), r9.2))
              else
                (wI r9.2 9 v8).bind fun s10 =>
                (rd s10 2 20 v8).bind fun x11 =>
                some (.inl (r9.1, x11, (v8 + 1), s10))
            else
              some (.inl (v6, v7, (v8 + 1), s))
      else
        some (.inl (v6, v7, (v8 + 1), s))
def F_X0_worthOf_154 (v1 : Int32) (v6 : Int32) (s : St) : Option (Int32 × St) :=
  if (s.1 9) = (-1) then
    if inb v1 0 6 = false then
      some (0, s)
    else
      (rs 1 7 v1).bind fun x22 =>
      some (x22, s)
  else
    rr s 6 20 (s.1 9) (
      if inb v1 0 6 = false then
        some (0, s)
      else
        (rs 1 7 v1).bind fun x13 =>
        some (x13, s)) fun a12 =>
    (la s a12).bind fun n14 =>
    if inb v6 0 (n14 - 4) = false then
      if inb v1 0 6 = false then
        some (0, s)
      else
        (rs 1 7 v1).bind fun x21 =>
        some (x21, s)
    else
      rr s 5 20 (s.1 9) (
        (ra s a12 (v6 + 2)).bind fun x16 =>
        (ra s a12 (v6 + 3)).bind fun x17 =>
        none) fun a15 =>
      (ra s a12 (v6 + 2)).bind fun x18 =>
      (ra s a12 (v6 + 3)).bind fun x19 =>
      (F_X0_run a15 x18 x19 s).bind fun r20 =>
      some (r20.1, r20.2)
def F_X0_worthOf_28 (v1 : Int32) (v2 : Int32) (v3 : Int32) (v4 : Int32) (v5 : Int32) (v6 : Int32) (v7 : Int32) (v8 : Int32) (s : St) : Option (Int32 × St) :=
  (lp (B_X0_worthOf_28 v1 v2 v3 v4 v5) FU (v6, v7, v8, s)).bind (fun y => F_X0_worthOf_154 v1 y.1 y.2)
def F_X0_worthOf (v1 : Int32) (v2 : Int32) (v3 : Int32) (v4 : Int32) (v5 : Int32) (s : St) : Option (Int32 × St) :=
  (wr s 7 6 0 v3).bind fun s1 =>
  (wr s1 7 6 1 v2).bind fun s2 =>
  (wI s2 9 (-1)).bind fun s3 =>
  F_X0_worthOf_28 v1 v2 v3 v4 v5 (-1) 0 0 s3
theorem J_X0_worthOf : mj_t 34 120 = 154 ∧ mj_t 46 34 = 80 ∧ mj_t 61 19 = 80 ∧ mj_t 73 7 = 80 ∧ mj_t 77 4 = 81 ∧ mj_t 85 63 = 148 ∧ mj_t 96 52 = 148 ∧ mj_t 108 6 = 114 ∧ mj_t 111 37 = 148 ∧ mj_t 126 22 = 148 ∧ mj_t 151 (-123) = 28 ∧ mj_t 159 7 = 166 ∧ mj_t 163 12 = 175 ∧ mj_t 179 17 = 196 ∧ mj_t 193 27 = 220 ∧ mj_t 207 11 = 218 ∧ mj_t 215 4 = 219 ∧ (0 ≤ ((34 : Nat) : Int) + 120) = True ∧ (0 ≤ ((46 : Nat) : Int) + 34) = True ∧ (0 ≤ ((61 : Nat) : Int) + 19) = True ∧ (0 ≤ ((73 : Nat) : Int) + 7) = True ∧ (0 ≤ ((77 : Nat) : Int) + 4) = True ∧ (0 ≤ ((85 : Nat) : Int) + 63) = True ∧ (0 ≤ ((96 : Nat) : Int) + 52) = True ∧ (0 ≤ ((108 : Nat) : Int) + 6) = True ∧ (0 ≤ ((111 : Nat) : Int) + 37) = True ∧ (0 ≤ ((126 : Nat) : Int) + 22) = True ∧ (0 ≤ ((151 : Nat) : Int) + (-123)) = True ∧ (0 ≤ ((159 : Nat) : Int) + 7) = True ∧ (0 ≤ ((163 : Nat) : Int) + 12) = True ∧ (0 ≤ ((179 : Nat) : Int) + 17) = True ∧ (0 ≤ ((193 : Nat) : Int) + 27) = True ∧ (0 ≤ ((207 : Nat) : Int) + 11) = True ∧ (0 ≤ ((215 : Nat) : Int) + 4) = True := by and_intros <;> first | rfl | exact eq_true (by decide)
def ct_X0_worthOf : List (Nat × mj_Cs) := [(67, 0, 4, 0, 0, 0, c_X0_binds), (71, 0, 3, 0, 0, 0, c_X0_clauseThatHolds), (75, 3, 3, 11, 0, 0, c_in), (81, 0, 4, 0, 0, 0, c_X0_run)]
theorem L_X0_worthOf : mj_lk ct_X0_worthOf 67 = some (0, 4, 0, 0, 0, c_X0_binds) ∧ mj_lk ct_X0_worthOf 71 = some (0, 3, 0, 0, 0, c_X0_clauseThatHolds) ∧ mj_lk ct_X0_worthOf 75 = some (3, 3, 11, 0, 0, c_in) ∧ mj_lk ct_X0_worthOf 81 = some (0, 4, 0, 0, 0, c_X0_run) := ⟨rfl, rfl, rfl, rfl⟩
set_option maxHeartbeats 4000000 in
set_option maxRecDepth 20000 in
theorem b_X0_worthOf_28 {k : Option Value → mj_H → Prop} {G : mj_K} (hG : mj_cl2 cX0_worthOf (TbX0 11 ((some FieldType.int)) ct_X0_worthOf) k G) {v1 : Int32} {v2 : Int32} {v3 : Int32} {v4 : Int32} {v5 : Int32} {P : Int32 × Int32 × Int32 × St → Prop} {K : (Int32 × St) → Prop} (hP : ∀ x, P x → G 28 [.ref 11, .int v1, .int v2, .int v3, .int v4, .int v5, .int x.1, .int x.2.1, .int x.2.2.1] [] (mkCs x.2.2.2) 0 0) (hK0 : ∀ y, K y → G 154 [.ref 11, .int v1, mj_unk, mj_unk, mj_unk, mj_unk, .int y.1] [] (mkCs y.2) 0 0) {v6 : Int32} {v7 : Int32} {v8 : Int32} {s : St} (hw : ok (B_X0_worthOf_28 v1 v2 v3 v4 v5 (v6, v7, v8, s)) (Sum.elim P K)) : G 28 [.ref 11, .int v1, .int v2, .int v3, .int v4, .int v5, .int v6, .int v7, .int v8] [] (mkCs s) 0 0 := by
  unfold B_X0_worthOf_28 at hw
  refine mj_run hG.1 (fun pc => pc == 28 || pc == 73 || pc == 121 || pc == 154 || pc == 175 || pc == 187 || pc == 230 || pc == 236 || pc == 243 || pc == 247) 4000 ?_
  simp only [mj_step, mj_W_s, mj_fin, List.getElem?_cons_zero, List.getElem?_cons_succ, mj_go, Nat.reduceAdd, Nat.reduceSub, Nat.reduceLT, Nat.reduceLeDiff, Nat.zero_add, Nat.reduceEqDiff, Nat.reduceBEq, ↓reduceIte, Bool.false_eq_true, List.append_nil, List.nil_append, List.cons_append, Option.toList, and_true, true_and, true_or, or_true, reduceCtorEq, List.map_nil, bI_eq0, bI_eq1, bool_ft, pk_us, Bool.or_false, Bool.or_true, Bool.false_or, Bool.true_or, mj_kne, eq_self, Int32.reduceLT, Int32.reduceLE, Int32.reduceAdd, Int32.reduceSub, Int32.reduceMul, not_true_eq_false, not_false_eq_true, false_implies, true_implies, D_X0_worthOf_0, D_X0_worthOf_1, D_X0_worthOf_2, mj_F_aaload, mj_F_aconst_null, mj_F_aload_k, mj_F_aload_n_k, mj_F_arraylength, mj_F_astore_k, mj_F_getfield_i, mj_F_getstatic_i, mj_F_goto_off, mj_F_iadd, mj_F_iaload, mj_F_iand, mj_F_iastore, mj_F_iconst_n, mj_F_ifCond_eq_off, mj_F_ifCond_ne_off, mj_F_if_icmp_eq_off, mj_F_if_icmp_ge_off, mj_F_if_icmp_gt_off, mj_F_if_icmp_ne_off, mj_F_ifnull_off, mj_F_iinc_k_n, mj_F_iload_k, mj_F_iload_n_k, mj_F_invokestatic_i, mj_F_invokevirtual_i, mj_F_ireturn, mj_F_ishr, mj_F_istore_k, mj_F_isub, mj_F_putfield_i, mj_set, mj_set0, mj_unk, mj_c2, mj_kc, FT_X0, PT_X0, glX0, mj_st0, mj_st1, mj_st2, L_X0_worthOf, mj_lk_hit, mj_lk_miss, List.take_succ_cons, List.take_zero, List.drop_succ_cons, List.drop_zero, List.reverse_cons, List.reverse_nil, List.length_cons, List.length_nil, gS_C11, gCf0_7, gS_C18, sS_Ca_18, gCf0_9, sS_Cf_0_9, gCf0len, gCf0_0, gCf0_3, gS_C14, sS_Ca_14, gCf0_4, gS_C15, sS_Ca_15, gCf0_2, gS_C13, sS_Ca_13, gCf0_6, gS_C17, sS_Cr_17, gCf0_5, gS_C16, sS_Cr_16, c_in_eq, mj_nk, mj_isA, J_X0_worthOf]
  refine ⟨fun c => ?_, fun c => ?_⟩
  · replace hw := ok_t hw c
    exact hG.2 _ _ _ _ _ _ _ _ _ (by refine ⟨Or.inr rfl, ?_⟩; refine ⟨Or.inr rfl, ?_⟩; refine ⟨Or.inl rfl, ?_⟩; refine ⟨Or.inl rfl, ?_⟩; refine ⟨Or.inl rfl, ?_⟩; refine ⟨Or.inl rfl, ?_⟩; refine ⟨Or.inr rfl, ?_⟩; exact trivial) (Nat.zero_le _) (Nat.zero_le _) (hK0 _ (ok_some hw :) :)
  · replace hw := ok_f hw c
    refine ⟨(ok_rd hw).1, ?_⟩
    replace hw := (ok_rd hw).2
    refine ⟨fun c => ?_, fun c => ?_⟩
    · replace hw := ok_t hw c
      exact hG.2 _ _ _ _ _ _ _ _ _ (by refine ⟨Or.inr rfl, ?_⟩; refine ⟨Or.inr rfl, ?_⟩; refine ⟨Or.inr rfl, ?_⟩; refine ⟨Or.inr rfl, ?_⟩; refine ⟨Or.inr rfl, ?_⟩; refine ⟨Or.inr rfl, ?_⟩; refine ⟨Or.inr rfl, ?_⟩; refine ⟨Or.inr rfl, ?_⟩; refine ⟨Or.inr rfl, ?_⟩; exact trivial) (Nat.zero_le _) (Nat.zero_le _) (hP _ (ok_some hw :) :)
    · replace hw := ok_f hw c
      refine ⟨(ok_rd hw).1, ?_⟩
      replace hw := (ok_rd hw).2
      refine ⟨fun c => ?_, fun c => ?_⟩
      · replace hw := ok_f hw c
        exact hG.2 _ _ _ _ _ _ _ _ _ (by refine ⟨Or.inr rfl, ?_⟩; refine ⟨Or.inr rfl, ?_⟩; refine ⟨Or.inr rfl, ?_⟩; refine ⟨Or.inr rfl, ?_⟩; refine ⟨Or.inr rfl, ?_⟩; refine ⟨Or.inr rfl, ?_⟩; refine ⟨Or.inr rfl, ?_⟩; refine ⟨Or.inr rfl, ?_⟩; refine ⟨Or.inr rfl, ?_⟩; exact trivial) (Nat.zero_le _) (Nat.zero_le _) (hP _ (ok_some hw :) :)
      · replace hw := ok_t hw c
        refine c_X0_binds_in (ok_imp (ok_bind hw) ?_)
        intro p hw
        simp only [Option.toList, List.nil_append, List.cons_append, Nat.reduceSub]
        refine mj_run hG.1 (fun pc => pc == 28 || pc == 73 || pc == 121 || pc == 154 || pc == 175 || pc == 187 || pc == 230 || pc == 236 || pc == 243 || pc == 247) 4000 ?_
        simp only [mj_step, mj_W_s, mj_fin, List.getElem?_cons_zero, List.getElem?_cons_succ, mj_go, Nat.reduceAdd, Nat.reduceSub, Nat.reduceLT, Nat.reduceLeDiff, Nat.zero_add, Nat.reduceEqDiff, Nat.reduceBEq, ↓reduceIte, Bool.false_eq_true, List.append_nil, List.nil_append, List.cons_append, Option.toList, and_true, true_and, true_or, or_true, reduceCtorEq, List.map_nil, bI_eq0, bI_eq1, bool_ft, pk_us, Bool.or_false, Bool.or_true, Bool.false_or, Bool.true_or, mj_kne, eq_self, Int32.reduceLT, Int32.reduceLE, Int32.reduceAdd, Int32.reduceSub, Int32.reduceMul, not_true_eq_false, not_false_eq_true, false_implies, true_implies, D_X0_worthOf_0, D_X0_worthOf_1, D_X0_worthOf_2, mj_F_aaload, mj_F_aconst_null, mj_F_aload_k, mj_F_aload_n_k, mj_F_arraylength, mj_F_astore_k, mj_F_getfield_i, mj_F_getstatic_i, mj_F_goto_off, mj_F_iadd, mj_F_iaload, mj_F_iand, mj_F_iastore, mj_F_iconst_n, mj_F_ifCond_eq_off, mj_F_ifCond_ne_off, mj_F_if_icmp_eq_off, mj_F_if_icmp_ge_off, mj_F_if_icmp_gt_off, mj_F_if_icmp_ne_off, mj_F_ifnull_off, mj_F_iinc_k_n, mj_F_iload_k, mj_F_iload_n_k, mj_F_invokestatic_i, mj_F_invokevirtual_i, mj_F_ireturn, mj_F_ishr, mj_F_istore_k, mj_F_isub, mj_F_putfield_i, mj_set, mj_set0, mj_unk, mj_c2, mj_kc, FT_X0, PT_X0, glX0, mj_st0, mj_st1, mj_st2, L_X0_worthOf, mj_lk_hit, mj_lk_miss, List.take_succ_cons, List.take_zero, List.drop_succ_cons, List.drop_zero, List.reverse_cons, List.reverse_nil, List.length_cons, List.length_nil, gS_C11, gCf0_7, gS_C18, sS_Ca_18, gCf0_9, sS_Cf_0_9, gCf0len, gCf0_0, gCf0_3, gS_C14, sS_Ca_14, gCf0_4, gS_C15, sS_Ca_15, gCf0_2, gS_C13, sS_Ca_13, gCf0_6, gS_C17, sS_Cr_17, gCf0_5, gS_C16, sS_Cr_16, c_in_eq, mj_nk, mj_isA, J_X0_worthOf]
        refine ⟨fun c => ?_, fun c => ?_⟩
        · replace hw := ok_t hw c
          exact hG.2 _ _ _ _ _ _ _ _ _ (by refine ⟨Or.inr rfl, ?_⟩; refine ⟨Or.inr rfl, ?_⟩; refine ⟨Or.inr rfl, ?_⟩; refine ⟨Or.inr rfl, ?_⟩; refine ⟨Or.inr rfl, ?_⟩; refine ⟨Or.inr rfl, ?_⟩; refine ⟨Or.inr rfl, ?_⟩; refine ⟨Or.inr rfl, ?_⟩; refine ⟨Or.inr rfl, ?_⟩; exact trivial) (Nat.zero_le _) (Nat.zero_le _) (hP _ (ok_some hw :) :)
        · replace hw := ok_f hw c
          refine ⟨(ok_rd hw).1, ?_⟩
          replace hw := (ok_rd hw).2
          refine ⟨fun c => ?_, fun c => ?_⟩
          · replace hw := ok_t hw c
            exact hG.2 _ _ _ _ _ _ _ _ _ (by refine ⟨Or.inr rfl, ?_⟩; refine ⟨Or.inr rfl, ?_⟩; refine ⟨Or.inr rfl, ?_⟩; refine ⟨Or.inr rfl, ?_⟩; refine ⟨Or.inr rfl, ?_⟩; refine ⟨Or.inr rfl, ?_⟩; refine ⟨Or.inr rfl, ?_⟩; refine ⟨Or.inr rfl, ?_⟩; refine ⟨Or.inr rfl, ?_⟩; exact trivial) (Nat.zero_le _) (Nat.zero_le _) (hP _ (ok_some hw :) :)
          · replace hw := ok_f hw c
            refine ⟨(ok_rd hw).1, ?_⟩
            replace hw := (ok_rd hw).2
            refine ⟨fun c => ?_, fun c => ?_⟩
            · replace hw := ok_t hw c
              refine c_X0_clauseThatHolds_in (ok_imp (ok_bind hw) ?_)
              intro p hw
              simp only [Option.toList, List.nil_append, List.cons_append, Nat.reduceSub]
              refine mj_run hG.1 (fun pc => pc == 28 || pc == 73 || pc == 121 || pc == 154 || pc == 175 || pc == 187 || pc == 230 || pc == 236 || pc == 243 || pc == 247) 4000 ?_
              simp only [mj_step, mj_W_s, mj_fin, List.getElem?_cons_zero, List.getElem?_cons_succ, mj_go, Nat.reduceAdd, Nat.reduceSub, Nat.reduceLT, Nat.reduceLeDiff, Nat.zero_add, Nat.reduceEqDiff, Nat.reduceBEq, ↓reduceIte, Bool.false_eq_true, List.append_nil, List.nil_append, List.cons_append, Option.toList, and_true, true_and, true_or, or_true, reduceCtorEq, List.map_nil, bI_eq0, bI_eq1, bool_ft, pk_us, Bool.or_false, Bool.or_true, Bool.false_or, Bool.true_or, mj_kne, eq_self, Int32.reduceLT, Int32.reduceLE, Int32.reduceAdd, Int32.reduceSub, Int32.reduceMul, not_true_eq_false, not_false_eq_true, false_implies, true_implies, D_X0_worthOf_0, D_X0_worthOf_1, D_X0_worthOf_2, mj_F_aaload, mj_F_aconst_null, mj_F_aload_k, mj_F_aload_n_k, mj_F_arraylength, mj_F_astore_k, mj_F_getfield_i, mj_F_getstatic_i, mj_F_goto_off, mj_F_iadd, mj_F_iaload, mj_F_iand, mj_F_iastore, mj_F_iconst_n, mj_F_ifCond_eq_off, mj_F_ifCond_ne_off, mj_F_if_icmp_eq_off, mj_F_if_icmp_ge_off, mj_F_if_icmp_gt_off, mj_F_if_icmp_ne_off, mj_F_ifnull_off, mj_F_iinc_k_n, mj_F_iload_k, mj_F_iload_n_k, mj_F_invokestatic_i, mj_F_invokevirtual_i, mj_F_ireturn, mj_F_ishr, mj_F_istore_k, mj_F_isub, mj_F_putfield_i, mj_set, mj_set0, mj_unk, mj_c2, mj_kc, FT_X0, PT_X0, glX0, mj_st0, mj_st1, mj_st2, L_X0_worthOf, mj_lk_hit, mj_lk_miss, List.take_succ_cons, List.take_zero, List.drop_succ_cons, List.drop_zero, List.reverse_cons, List.reverse_nil, List.length_cons, List.length_nil, gS_C11, gCf0_7, gS_C18, sS_Ca_18, gCf0_9, sS_Cf_0_9, gCf0len, gCf0_0, gCf0_3, gS_C14, sS_Ca_14, gCf0_4, gS_C15, sS_Ca_15, gCf0_2, gS_C13, sS_Ca_13, gCf0_6, gS_C17, sS_Cr_17, gCf0_5, gS_C16, sS_Cr_16, c_in_eq, mj_nk, mj_isA, J_X0_worthOf]
              refine ⟨fun c => ?_, fun c => ?_⟩
              · replace hw := ok_t hw c
                exact hG.2 _ _ _ _ _ _ _ _ _ (by refine ⟨Or.inr rfl, ?_⟩; refine ⟨Or.inr rfl, ?_⟩; refine ⟨Or.inr rfl, ?_⟩; refine ⟨Or.inr rfl, ?_⟩; refine ⟨Or.inr rfl, ?_⟩; refine ⟨Or.inr rfl, ?_⟩; refine ⟨Or.inr rfl, ?_⟩; refine ⟨Or.inr rfl, ?_⟩; refine ⟨Or.inr rfl, ?_⟩; exact trivial) (Nat.zero_le _) (Nat.zero_le _) (hP _ (ok_some hw :) :)
              · replace hw := ok_f hw c
                replace hw := ok_wI hw
                refine ⟨(ok_rd hw).1, ?_⟩
                replace hw := (ok_rd hw).2
                exact hG.2 _ _ _ _ _ _ _ _ _ (by refine ⟨Or.inr rfl, ?_⟩; refine ⟨Or.inr rfl, ?_⟩; refine ⟨Or.inr rfl, ?_⟩; refine ⟨Or.inr rfl, ?_⟩; refine ⟨Or.inr rfl, ?_⟩; refine ⟨Or.inr rfl, ?_⟩; refine ⟨Or.inr rfl, ?_⟩; refine ⟨Or.inr rfl, ?_⟩; refine ⟨Or.inr rfl, ?_⟩; exact trivial) (Nat.zero_le _) (Nat.zero_le _) (hP _ (ok_some hw :) :)
            · replace hw := ok_f hw c
              exact hG.2 _ _ _ _ _ _ _ _ _ (by refine ⟨Or.inr rfl, ?_⟩; refine ⟨Or.inr rfl, ?_⟩; refine ⟨Or.inr rfl, ?_⟩; refine ⟨Or.inr rfl, ?_⟩; refine ⟨Or.inr rfl, ?_⟩; refine ⟨Or.inr rfl, ?_⟩; refine ⟨Or.inr rfl, ?_⟩; refine ⟨Or.inr rfl, ?_⟩; refine ⟨Or.inr rfl, ?_⟩; exact trivial) (Nat.zero_le _) (Nat.zero_le _) (hP _ (ok_some hw :) :)

set_option maxHeartbeats 4000000 in
set_option maxRecDepth 20000 in
theorem g_X0_worthOf_154 {k : Option Value → mj_H → Prop} {G : mj_K} (hG : mj_cl2 cX0_worthOf (TbX0 11 ((some FieldType.int)) ct_X0_worthOf) k G)   {v1 : Int32} {v6 : Int32} {s : St} (hw : ok (F_X0_worthOf_154 v1 v6 s) (fun p => k (some (.int p.1)) (mkCs p.2))) : G 154 [.ref 11, .int v1, mj_unk, mj_unk, mj_unk, mj_unk, .int v6] [] (mkCs s) 0 0 := by
  unfold F_X0_worthOf_154 at hw
  refine mj_run hG.1 (fun pc => pc == 28 || pc == 73 || pc == 121 || pc == 154 || pc == 175 || pc == 187 || pc == 230 || pc == 236 || pc == 243 || pc == 247) 4000 ?_
  simp only [mj_step, mj_W_s, mj_fin, List.getElem?_cons_zero, List.getElem?_cons_succ, mj_go, Nat.reduceAdd, Nat.reduceSub, Nat.reduceLT, Nat.reduceLeDiff, Nat.zero_add, Nat.reduceEqDiff, Nat.reduceBEq, ↓reduceIte, Bool.false_eq_true, List.append_nil, List.nil_append, List.cons_append, Option.toList, and_true, true_and, true_or, or_true, reduceCtorEq, List.map_nil, bI_eq0, bI_eq1, bool_ft, pk_us, Bool.or_false, Bool.or_true, Bool.false_or, Bool.true_or, mj_kne, eq_self, Int32.reduceLT, Int32.reduceLE, Int32.reduceAdd, Int32.reduceSub, Int32.reduceMul, not_true_eq_false, not_false_eq_true, false_implies, true_implies, D_X0_worthOf_0, D_X0_worthOf_1, D_X0_worthOf_2, mj_F_aaload, mj_F_aconst_null, mj_F_aload_k, mj_F_aload_n_k, mj_F_arraylength, mj_F_astore_k, mj_F_getfield_i, mj_F_getstatic_i, mj_F_goto_off, mj_F_iadd, mj_F_iaload, mj_F_iand, mj_F_iastore, mj_F_iconst_n, mj_F_ifCond_eq_off, mj_F_ifCond_ne_off, mj_F_if_icmp_eq_off, mj_F_if_icmp_ge_off, mj_F_if_icmp_gt_off, mj_F_if_icmp_ne_off, mj_F_ifnull_off, mj_F_iinc_k_n, mj_F_iload_k, mj_F_iload_n_k, mj_F_invokestatic_i, mj_F_invokevirtual_i, mj_F_ireturn, mj_F_ishr, mj_F_istore_k, mj_F_isub, mj_F_putfield_i, mj_set, mj_set0, mj_unk, mj_c2, mj_kc, FT_X0, PT_X0, glX0, mj_st0, mj_st1, mj_st2, L_X0_worthOf, mj_lk_hit, mj_lk_miss, List.take_succ_cons, List.take_zero, List.drop_succ_cons, List.drop_zero, List.reverse_cons, List.reverse_nil, List.length_cons, List.length_nil, gS_C11, gCf0_7, gS_C18, sS_Ca_18, gCf0_9, sS_Cf_0_9, gCf0len, gCf0_0, gCf0_3, gS_C14, sS_Ca_14, gCf0_4, gS_C15, sS_Ca_15, gCf0_2, gS_C13, sS_Ca_13, gCf0_6, gS_C17, sS_Cr_17, gCf0_5, gS_C16, sS_Cr_16, c_in_eq, mj_nk, mj_isA, J_X0_worthOf]
  refine ⟨fun c => ?_, fun c => ?_⟩
  · replace hw := ok_f hw c
    refine ⟨(ok_rr hw).1, ?_⟩
    rcases (ok_rr hw).2 with ⟨e23, hw⟩ | ⟨_, e23, hw⟩
    · simp only [e23, va_rf]
      refine mj_run hG.1 (fun pc => pc == 28 || pc == 73 || pc == 121 || pc == 154 || pc == 175 || pc == 187 || pc == 230 || pc == 236 || pc == 243 || pc == 247) 4000 ?_
      simp only [mj_step, mj_W_s, mj_fin, List.getElem?_cons_zero, List.getElem?_cons_succ, mj_go, Nat.reduceAdd, Nat.reduceSub, Nat.reduceLT, Nat.reduceLeDiff, Nat.zero_add, Nat.reduceEqDiff, Nat.reduceBEq, ↓reduceIte, Bool.false_eq_true, List.append_nil, List.nil_append, List.cons_append, Option.toList, and_true, true_and, true_or, or_true, reduceCtorEq, List.map_nil, bI_eq0, bI_eq1, bool_ft, pk_us, Bool.or_false, Bool.or_true, Bool.false_or, Bool.true_or, mj_kne, eq_self, Int32.reduceLT, Int32.reduceLE, Int32.reduceAdd, Int32.reduceSub, Int32.reduceMul, not_true_eq_false, not_false_eq_true, false_implies, true_implies, D_X0_worthOf_0, D_X0_worthOf_1, D_X0_worthOf_2, mj_F_aaload, mj_F_aconst_null, mj_F_aload_k, mj_F_aload_n_k, mj_F_arraylength, mj_F_astore_k, mj_F_getfield_i, mj_F_getstatic_i, mj_F_goto_off, mj_F_iadd, mj_F_iaload, mj_F_iand, mj_F_iastore, mj_F_iconst_n, mj_F_ifCond_eq_off, mj_F_ifCond_ne_off, mj_F_if_icmp_eq_off, mj_F_if_icmp_ge_off, mj_F_if_icmp_gt_off, mj_F_if_icmp_ne_off, mj_F_ifnull_off, mj_F_iinc_k_n, mj_F_iload_k, mj_F_iload_n_k, mj_F_invokestatic_i, mj_F_invokevirtual_i, mj_F_ireturn, mj_F_ishr, mj_F_istore_k, mj_F_isub, mj_F_putfield_i, mj_set, mj_set0, mj_unk, mj_c2, mj_kc, FT_X0, PT_X0, glX0, mj_st0, mj_st1, mj_st2, L_X0_worthOf, mj_lk_hit, mj_lk_miss, List.take_succ_cons, List.take_zero, List.drop_succ_cons, List.drop_zero, List.reverse_cons, List.reverse_nil, List.length_cons, List.length_nil, gS_C11, gCf0_7, gS_C18, sS_Ca_18, gCf0_9, sS_Cf_0_9, gCf0len, gCf0_0, gCf0_3, gS_C14, sS_Ca_14, gCf0_4, gS_C15, sS_Ca_15, gCf0_2, gS_C13, sS_Ca_13, gCf0_6, gS_C17, sS_Cr_17, gCf0_5, gS_C16, sS_Cr_16, c_in_eq, mj_nk, mj_isA, J_X0_worthOf]
      refine ⟨fun c => ?_, fun c => ?_⟩
      · replace hw := ok_t hw c
        exact (ok_some hw :)
      · replace hw := ok_f hw c
        refine ⟨(ok_rs hw).1, ?_⟩
        replace hw := (ok_rs hw).2
        exact (ok_some hw :)
    · simp only [e23, va_rf]
      refine mj_run hG.1 (fun pc => pc == 28 || pc == 73 || pc == 121 || pc == 154 || pc == 175 || pc == 187 || pc == 230 || pc == 236 || pc == 243 || pc == 247) 4000 ?_
      simp only [mj_step, mj_W_s, mj_fin, List.getElem?_cons_zero, List.getElem?_cons_succ, mj_go, Nat.reduceAdd, Nat.reduceSub, Nat.reduceLT, Nat.reduceLeDiff, Nat.zero_add, Nat.reduceEqDiff, Nat.reduceBEq, ↓reduceIte, Bool.false_eq_true, List.append_nil, List.nil_append, List.cons_append, Option.toList, and_true, true_and, true_or, or_true, reduceCtorEq, List.map_nil, bI_eq0, bI_eq1, bool_ft, pk_us, Bool.or_false, Bool.or_true, Bool.false_or, Bool.true_or, mj_kne, eq_self, Int32.reduceLT, Int32.reduceLE, Int32.reduceAdd, Int32.reduceSub, Int32.reduceMul, not_true_eq_false, not_false_eq_true, false_implies, true_implies, D_X0_worthOf_0, D_X0_worthOf_1, D_X0_worthOf_2, mj_F_aaload, mj_F_aconst_null, mj_F_aload_k, mj_F_aload_n_k, mj_F_arraylength, mj_F_astore_k, mj_F_getfield_i, mj_F_getstatic_i, mj_F_goto_off, mj_F_iadd, mj_F_iaload, mj_F_iand, mj_F_iastore, mj_F_iconst_n, mj_F_ifCond_eq_off, mj_F_ifCond_ne_off, mj_F_if_icmp_eq_off, mj_F_if_icmp_ge_off, mj_F_if_icmp_gt_off, mj_F_if_icmp_ne_off, mj_F_ifnull_off, mj_F_iinc_k_n, mj_F_iload_k, mj_F_iload_n_k, mj_F_invokestatic_i, mj_F_invokevirtual_i, mj_F_ireturn, mj_F_ishr, mj_F_istore_k, mj_F_isub, mj_F_putfield_i, mj_set, mj_set0, mj_unk, mj_c2, mj_kc, FT_X0, PT_X0, glX0, mj_st0, mj_st1, mj_st2, L_X0_worthOf, mj_lk_hit, mj_lk_miss, List.take_succ_cons, List.take_zero, List.drop_succ_cons, List.drop_zero, List.reverse_cons, List.reverse_nil, List.length_cons, List.length_nil, gS_C11, gCf0_7, gS_C18, sS_Ca_18, gCf0_9, sS_Cf_0_9, gCf0len, gCf0_0, gCf0_3, gS_C14, sS_Ca_14, gCf0_4, gS_C15, sS_Ca_15, gCf0_2, gS_C13, sS_Ca_13, gCf0_6, gS_C17, sS_Cr_17, gCf0_5, gS_C16, sS_Cr_16, c_in_eq, mj_nk, mj_isA, J_X0_worthOf]
      obtain ⟨_, _, e24, hw⟩ := ok_la hw
      refine mj_run hG.1 (fun pc => pc == 28 || pc == 73 || pc == 121 || pc == 154 || pc == 175 || pc == 187 || pc == 230 || pc == 236 || pc == 243 || pc == 247) 4000 ?_
      simp only [e24, mj_isA, mj_step, mj_W_s, mj_fin, List.getElem?_cons_zero, List.getElem?_cons_succ, mj_go, Nat.reduceAdd, Nat.reduceSub, Nat.reduceLT, Nat.reduceLeDiff, Nat.zero_add, Nat.reduceEqDiff, Nat.reduceBEq, ↓reduceIte, Bool.false_eq_true, List.append_nil, List.nil_append, List.cons_append, Option.toList, and_true, true_and, true_or, or_true, reduceCtorEq, List.map_nil, bI_eq0, bI_eq1, bool_ft, pk_us, Bool.or_false, Bool.or_true, Bool.false_or, Bool.true_or, mj_kne, eq_self, Int32.reduceLT, Int32.reduceLE, Int32.reduceAdd, Int32.reduceSub, Int32.reduceMul, not_true_eq_false, not_false_eq_true, false_implies, true_implies, D_X0_worthOf_0, D_X0_worthOf_1, D_X0_worthOf_2, mj_F_aaload, mj_F_aconst_null, mj_F_aload_k, mj_F_aload_n_k, mj_F_arraylength, mj_F_astore_k, mj_F_getfield_i, mj_F_getstatic_i, mj_F_goto_off, mj_F_iadd, mj_F_iaload, mj_F_iand, mj_F_iastore, mj_F_iconst_n, mj_F_ifCond_eq_off, mj_F_ifCond_ne_off, mj_F_if_icmp_eq_off, mj_F_if_icmp_ge_off, mj_F_if_icmp_gt_off, mj_F_if_icmp_ne_off, mj_F_ifnull_off, mj_F_iinc_k_n, mj_F_iload_k, mj_F_iload_n_k, mj_F_invokestatic_i, mj_F_invokevirtual_i, mj_F_ireturn, mj_F_ishr, mj_F_istore_k, mj_F_isub, mj_F_putfield_i, mj_set, mj_set0, mj_unk, mj_c2, mj_kc, FT_X0, PT_X0, glX0, mj_st0, mj_st1, mj_st2, L_X0_worthOf, mj_lk_hit, mj_lk_miss, List.take_succ_cons, List.take_zero, List.drop_succ_cons, List.drop_zero, List.reverse_cons, List.reverse_nil, List.length_cons, List.length_nil, gS_C11, gCf0_7, gS_C18, sS_Ca_18, gCf0_9, sS_Cf_0_9, gCf0len, gCf0_0, gCf0_3, gS_C14, sS_Ca_14, gCf0_4, gS_C15, sS_Ca_15, gCf0_2, gS_C13, sS_Ca_13, gCf0_6, gS_C17, sS_Cr_17, gCf0_5, gS_C16, sS_Cr_16, c_in_eq, mj_nk, mj_isA, J_X0_worthOf]
      refine ⟨fun c => ?_, fun c => ?_⟩
      · replace hw := ok_f hw c
        refine ⟨(ok_rr hw).1, ?_⟩
        rcases (ok_rr hw).2 with ⟨e25, hw⟩ | ⟨_, e25, hw⟩
        · simp only [e25, va_rf]
          refine mj_run hG.1 (fun pc => pc == 28 || pc == 73 || pc == 121 || pc == 154 || pc == 175 || pc == 187 || pc == 230 || pc == 236 || pc == 243 || pc == 247) 4000 ?_
          simp only [mj_step, mj_W_s, mj_fin, List.getElem?_cons_zero, List.getElem?_cons_succ, mj_go, Nat.reduceAdd, Nat.reduceSub, Nat.reduceLT, Nat.reduceLeDiff, Nat.zero_add, Nat.reduceEqDiff, Nat.reduceBEq, ↓reduceIte, Bool.false_eq_true, List.append_nil, List.nil_append, List.cons_append, Option.toList, and_true, true_and, true_or, or_true, reduceCtorEq, List.map_nil, bI_eq0, bI_eq1, bool_ft, pk_us, Bool.or_false, Bool.or_true, Bool.false_or, Bool.true_or, mj_kne, eq_self, Int32.reduceLT, Int32.reduceLE, Int32.reduceAdd, Int32.reduceSub, Int32.reduceMul, not_true_eq_false, not_false_eq_true, false_implies, true_implies, D_X0_worthOf_0, D_X0_worthOf_1, D_X0_worthOf_2, mj_F_aaload, mj_F_aconst_null, mj_F_aload_k, mj_F_aload_n_k, mj_F_arraylength, mj_F_astore_k, mj_F_getfield_i, mj_F_getstatic_i, mj_F_goto_off, mj_F_iadd, mj_F_iaload, mj_F_iand, mj_F_iastore, mj_F_iconst_n, mj_F_ifCond_eq_off, mj_F_ifCond_ne_off, mj_F_if_icmp_eq_off, mj_F_if_icmp_ge_off, mj_F_if_icmp_gt_off, mj_F_if_icmp_ne_off, mj_F_ifnull_off, mj_F_iinc_k_n, mj_F_iload_k, mj_F_iload_n_k, mj_F_invokestatic_i, mj_F_invokevirtual_i, mj_F_ireturn, mj_F_ishr, mj_F_istore_k, mj_F_isub, mj_F_putfield_i, mj_set, mj_set0, mj_unk, mj_c2, mj_kc, FT_X0, PT_X0, glX0, mj_st0, mj_st1, mj_st2, L_X0_worthOf, mj_lk_hit, mj_lk_miss, List.take_succ_cons, List.take_zero, List.drop_succ_cons, List.drop_zero, List.reverse_cons, List.reverse_nil, List.length_cons, List.length_nil, gS_C11, gCf0_7, gS_C18, sS_Ca_18, gCf0_9, sS_Cf_0_9, gCf0len, gCf0_0, gCf0_3, gS_C14, sS_Ca_14, gCf0_4, gS_C15, sS_Ca_15, gCf0_2, gS_C13, sS_Ca_13, gCf0_6, gS_C17, sS_Cr_17, gCf0_5, gS_C16, sS_Cr_16, c_in_eq, mj_nk, mj_isA, J_X0_worthOf]
          obtain ⟨_, _, e26, z, hw⟩ := ok_ra hw
          refine mj_run hG.1 (fun pc => pc == 28 || pc == 73 || pc == 121 || pc == 154 || pc == 175 || pc == 187 || pc == 230 || pc == 236 || pc == 243 || pc == 247) 4000 ?_
          simp only [e26, mj_step, mj_W_s, mj_fin, List.getElem?_cons_zero, List.getElem?_cons_succ, mj_go, Nat.reduceAdd, Nat.reduceSub, Nat.reduceLT, Nat.reduceLeDiff, Nat.zero_add, Nat.reduceEqDiff, Nat.reduceBEq, ↓reduceIte, Bool.false_eq_true, List.append_nil, List.nil_append, List.cons_append, Option.toList, and_true, true_and, true_or, or_true, reduceCtorEq, List.map_nil, bI_eq0, bI_eq1, bool_ft, pk_us, Bool.or_false, Bool.or_true, Bool.false_or, Bool.true_or, mj_kne, eq_self, Int32.reduceLT, Int32.reduceLE, Int32.reduceAdd, Int32.reduceSub, Int32.reduceMul, not_true_eq_false, not_false_eq_true, false_implies, true_implies, D_X0_worthOf_0, D_X0_worthOf_1, D_X0_worthOf_2, mj_F_aaload, mj_F_aconst_null, mj_F_aload_k, mj_F_aload_n_k, mj_F_arraylength, mj_F_astore_k, mj_F_getfield_i, mj_F_getstatic_i, mj_F_goto_off, mj_F_iadd, mj_F_iaload, mj_F_iand, mj_F_iastore, mj_F_iconst_n, mj_F_ifCond_eq_off, mj_F_ifCond_ne_off, mj_F_if_icmp_eq_off, mj_F_if_icmp_ge_off, mj_F_if_icmp_gt_off, mj_F_if_icmp_ne_off, mj_F_ifnull_off, mj_F_iinc_k_n, mj_F_iload_k, mj_F_iload_n_k, mj_F_invokestatic_i, mj_F_invokevirtual_i, mj_F_ireturn, mj_F_ishr, mj_F_istore_k, mj_F_isub, mj_F_putfield_i, mj_set, mj_set0, mj_unk, mj_c2, mj_kc, FT_X0, PT_X0, glX0, mj_st0, mj_st1, mj_st2, L_X0_worthOf, mj_lk_hit, mj_lk_miss, List.take_succ_cons, List.take_zero, List.drop_succ_cons, List.drop_zero, List.reverse_cons, List.reverse_nil, List.length_cons, List.length_nil, gS_C11, gCf0_7, gS_C18, sS_Ca_18, gCf0_9, sS_Cf_0_9, gCf0len, gCf0_0, gCf0_3, gS_C14, sS_Ca_14, gCf0_4, gS_C15, sS_Ca_15, gCf0_2, gS_C13, sS_Ca_13, gCf0_6, gS_C17, sS_Cr_17, gCf0_5, gS_C16, sS_Cr_16, c_in_eq, mj_nk, mj_isA, J_X0_worthOf]
          refine ⟨z, ?_⟩
          obtain ⟨_, _, e27, z, hw⟩ := ok_ra hw
          refine mj_run hG.1 (fun pc => pc == 28 || pc == 73 || pc == 121 || pc == 154 || pc == 175 || pc == 187 || pc == 230 || pc == 236 || pc == 243 || pc == 247) 4000 ?_
          simp only [e27, mj_step, mj_W_s, mj_fin, List.getElem?_cons_zero, List.getElem?_cons_succ, mj_go, Nat.reduceAdd, Nat.reduceSub, Nat.reduceLT, Nat.reduceLeDiff, Nat.zero_add, Nat.reduceEqDiff, Nat.reduceBEq, ↓reduceIte, Bool.false_eq_true, List.append_nil, List.nil_append, List.cons_append, Option.toList, and_true, true_and, true_or, or_true, reduceCtorEq, List.map_nil, bI_eq0, bI_eq1, bool_ft, pk_us, Bool.or_false, Bool.or_true, Bool.false_or, Bool.true_or, mj_kne, eq_self, Int32.reduceLT, Int32.reduceLE, Int32.reduceAdd, Int32.reduceSub, Int32.reduceMul, not_true_eq_false, not_false_eq_true, false_implies, true_implies, D_X0_worthOf_0, D_X0_worthOf_1, D_X0_worthOf_2, mj_F_aaload, mj_F_aconst_null, mj_F_aload_k, mj_F_aload_n_k, mj_F_arraylength, mj_F_astore_k, mj_F_getfield_i, mj_F_getstatic_i, mj_F_goto_off, mj_F_iadd, mj_F_iaload, mj_F_iand, mj_F_iastore, mj_F_iconst_n, mj_F_ifCond_eq_off, mj_F_ifCond_ne_off, mj_F_if_icmp_eq_off, mj_F_if_icmp_ge_off, mj_F_if_icmp_gt_off, mj_F_if_icmp_ne_off, mj_F_ifnull_off, mj_F_iinc_k_n, mj_F_iload_k, mj_F_iload_n_k, mj_F_invokestatic_i, mj_F_invokevirtual_i, mj_F_ireturn, mj_F_ishr, mj_F_istore_k, mj_F_isub, mj_F_putfield_i, mj_set, mj_set0, mj_unk, mj_c2, mj_kc, FT_X0, PT_X0, glX0, mj_st0, mj_st1, mj_st2, L_X0_worthOf, mj_lk_hit, mj_lk_miss, List.take_succ_cons, List.take_zero, List.drop_succ_cons, List.drop_zero, List.reverse_cons, List.reverse_nil, List.length_cons, List.length_nil, gS_C11, gCf0_7, gS_C18, sS_Ca_18, gCf0_9, sS_Cf_0_9, gCf0len, gCf0_0, gCf0_3, gS_C14, sS_Ca_14, gCf0_4, gS_C15, sS_Ca_15, gCf0_2, gS_C13, sS_Ca_13, gCf0_6, gS_C17, sS_Cr_17, gCf0_5, gS_C16, sS_Cr_16, c_in_eq, mj_nk, mj_isA, J_X0_worthOf]
          refine ⟨z, ?_⟩
          exact absurd hw ok_none
        · simp only [e25, va_rf]
          refine mj_run hG.1 (fun pc => pc == 28 || pc == 73 || pc == 121 || pc == 154 || pc == 175 || pc == 187 || pc == 230 || pc == 236 || pc == 243 || pc == 247) 4000 ?_
          simp only [mj_step, mj_W_s, mj_fin, List.getElem?_cons_zero, List.getElem?_cons_succ, mj_go, Nat.reduceAdd, Nat.reduceSub, Nat.reduceLT, Nat.reduceLeDiff, Nat.zero_add, Nat.reduceEqDiff, Nat.reduceBEq, ↓reduceIte, Bool.false_eq_true, List.append_nil, List.nil_append, List.cons_append, Option.toList, and_true, true_and, true_or, or_true, reduceCtorEq, List.map_nil, bI_eq0, bI_eq1, bool_ft, pk_us, Bool.or_false, Bool.or_true, Bool.false_or, Bool.true_or, mj_kne, eq_self, Int32.reduceLT, Int32.reduceLE, Int32.reduceAdd, Int32.reduceSub, Int32.reduceMul, not_true_eq_false, not_false_eq_true, false_implies, true_implies, D_X0_worthOf_0, D_X0_worthOf_1, D_X0_worthOf_2, mj_F_aaload, mj_F_aconst_null, mj_F_aload_k, mj_F_aload_n_k, mj_F_arraylength, mj_F_astore_k, mj_F_getfield_i, mj_F_getstatic_i, mj_F_goto_off, mj_F_iadd, mj_F_iaload, mj_F_iand, mj_F_iastore, mj_F_iconst_n, mj_F_ifCond_eq_off, mj_F_ifCond_ne_off, mj_F_if_icmp_eq_off, mj_F_if_icmp_ge_off, mj_F_if_icmp_gt_off, mj_F_if_icmp_ne_off, mj_F_ifnull_off, mj_F_iinc_k_n, mj_F_iload_k, mj_F_iload_n_k, mj_F_invokestatic_i, mj_F_invokevirtual_i, mj_F_ireturn, mj_F_ishr, mj_F_istore_k, mj_F_isub, mj_F_putfield_i, mj_set, mj_set0, mj_unk, mj_c2, mj_kc, FT_X0, PT_X0, glX0, mj_st0, mj_st1, mj_st2, L_X0_worthOf, mj_lk_hit, mj_lk_miss, List.take_succ_cons, List.take_zero, List.drop_succ_cons, List.drop_zero, List.reverse_cons, List.reverse_nil, List.length_cons, List.length_nil, gS_C11, gCf0_7, gS_C18, sS_Ca_18, gCf0_9, sS_Cf_0_9, gCf0len, gCf0_0, gCf0_3, gS_C14, sS_Ca_14, gCf0_4, gS_C15, sS_Ca_15, gCf0_2, gS_C13, sS_Ca_13, gCf0_6, gS_C17, sS_Cr_17, gCf0_5, gS_C16, sS_Cr_16, c_in_eq, mj_nk, mj_isA, J_X0_worthOf]
          obtain ⟨_, _, e28, z, hw⟩ := ok_ra hw
          refine mj_run hG.1 (fun pc => pc == 28 || pc == 73 || pc == 121 || pc == 154 || pc == 175 || pc == 187 || pc == 230 || pc == 236 || pc == 243 || pc == 247) 4000 ?_
          simp only [e28, mj_step, mj_W_s, mj_fin, List.getElem?_cons_zero, List.getElem?_cons_succ, mj_go, Nat.reduceAdd, Nat.reduceSub, Nat.reduceLT, Nat.reduceLeDiff, Nat.zero_add, Nat.reduceEqDiff, Nat.reduceBEq, ↓reduceIte, Bool.false_eq_true, List.append_nil, List.nil_append, List.cons_append, Option.toList, and_true, true_and, true_or, or_true, reduceCtorEq, List.map_nil, bI_eq0, bI_eq1, bool_ft, pk_us, Bool.or_false, Bool.or_true, Bool.false_or, Bool.true_or, mj_kne, eq_self, Int32.reduceLT, Int32.reduceLE, Int32.reduceAdd, Int32.reduceSub, Int32.reduceMul, not_true_eq_false, not_false_eq_true, false_implies, true_implies, D_X0_worthOf_0, D_X0_worthOf_1, D_X0_worthOf_2, mj_F_aaload, mj_F_aconst_null, mj_F_aload_k, mj_F_aload_n_k, mj_F_arraylength, mj_F_astore_k, mj_F_getfield_i, mj_F_getstatic_i, mj_F_goto_off, mj_F_iadd, mj_F_iaload, mj_F_iand, mj_F_iastore, mj_F_iconst_n, mj_F_ifCond_eq_off, mj_F_ifCond_ne_off, mj_F_if_icmp_eq_off, mj_F_if_icmp_ge_off, mj_F_if_icmp_gt_off, mj_F_if_icmp_ne_off, mj_F_ifnull_off, mj_F_iinc_k_n, mj_F_iload_k, mj_F_iload_n_k, mj_F_invokestatic_i, mj_F_invokevirtual_i, mj_F_ireturn, mj_F_ishr, mj_F_istore_k, mj_F_isub, mj_F_putfield_i, mj_set, mj_set0, mj_unk, mj_c2, mj_kc, FT_X0, PT_X0, glX0, mj_st0, mj_st1, mj_st2, L_X0_worthOf, mj_lk_hit, mj_lk_miss, List.take_succ_cons, List.take_zero, List.drop_succ_cons, List.drop_zero, List.reverse_cons, List.reverse_nil, List.length_cons, List.length_nil, gS_C11, gCf0_7, gS_C18, sS_Ca_18, gCf0_9, sS_Cf_0_9, gCf0len, gCf0_0, gCf0_3, gS_C14, sS_Ca_14, gCf0_4, gS_C15, sS_Ca_15, gCf0_2, gS_C13, sS_Ca_13, gCf0_6, gS_C17, sS_Cr_17, gCf0_5, gS_C16, sS_Cr_16, c_in_eq, mj_nk, mj_isA, J_X0_worthOf]
          refine ⟨z, ?_⟩
          obtain ⟨_, _, e29, z, hw⟩ := ok_ra hw
          refine mj_run hG.1 (fun pc => pc == 28 || pc == 73 || pc == 121 || pc == 154 || pc == 175 || pc == 187 || pc == 230 || pc == 236 || pc == 243 || pc == 247) 4000 ?_
          simp only [e29, mj_step, mj_W_s, mj_fin, List.getElem?_cons_zero, List.getElem?_cons_succ, mj_go, Nat.reduceAdd, Nat.reduceSub, Nat.reduceLT, Nat.reduceLeDiff, Nat.zero_add, Nat.reduceEqDiff, Nat.reduceBEq, ↓reduceIte, Bool.false_eq_true, List.append_nil, List.nil_append, List.cons_append, Option.toList, and_true, true_and, true_or, or_true, reduceCtorEq, List.map_nil, bI_eq0, bI_eq1, bool_ft, pk_us, Bool.or_false, Bool.or_true, Bool.false_or, Bool.true_or, mj_kne, eq_self, Int32.reduceLT, Int32.reduceLE, Int32.reduceAdd, Int32.reduceSub, Int32.reduceMul, not_true_eq_false, not_false_eq_true, false_implies, true_implies, D_X0_worthOf_0, D_X0_worthOf_1, D_X0_worthOf_2, mj_F_aaload, mj_F_aconst_null, mj_F_aload_k, mj_F_aload_n_k, mj_F_arraylength, mj_F_astore_k, mj_F_getfield_i, mj_F_getstatic_i, mj_F_goto_off, mj_F_iadd, mj_F_iaload, mj_F_iand, mj_F_iastore, mj_F_iconst_n, mj_F_ifCond_eq_off, mj_F_ifCond_ne_off, mj_F_if_icmp_eq_off, mj_F_if_icmp_ge_off, mj_F_if_icmp_gt_off, mj_F_if_icmp_ne_off, mj_F_ifnull_off, mj_F_iinc_k_n, mj_F_iload_k, mj_F_iload_n_k, mj_F_invokestatic_i, mj_F_invokevirtual_i, mj_F_ireturn, mj_F_ishr, mj_F_istore_k, mj_F_isub, mj_F_putfield_i, mj_set, mj_set0, mj_unk, mj_c2, mj_kc, FT_X0, PT_X0, glX0, mj_st0, mj_st1, mj_st2, L_X0_worthOf, mj_lk_hit, mj_lk_miss, List.take_succ_cons, List.take_zero, List.drop_succ_cons, List.drop_zero, List.reverse_cons, List.reverse_nil, List.length_cons, List.length_nil, gS_C11, gCf0_7, gS_C18, sS_Ca_18, gCf0_9, sS_Cf_0_9, gCf0len, gCf0_0, gCf0_3, gS_C14, sS_Ca_14, gCf0_4, gS_C15, sS_Ca_15, gCf0_2, gS_C13, sS_Ca_13, gCf0_6, gS_C17, sS_Cr_17, gCf0_5, gS_C16, sS_Cr_16, c_in_eq, mj_nk, mj_isA, J_X0_worthOf]
          refine ⟨z, ?_⟩
          refine c_X0_run_in (ok_imp (ok_bind hw) ?_)
          intro p hw
          simp only [Option.toList, List.nil_append, List.cons_append, Nat.reduceSub]
          refine mj_run hG.1 (fun pc => pc == 28 || pc == 73 || pc == 121 || pc == 154 || pc == 175 || pc == 187 || pc == 230 || pc == 236 || pc == 243 || pc == 247) 4000 ?_
          simp only [mj_step, mj_W_s, mj_fin, List.getElem?_cons_zero, List.getElem?_cons_succ, mj_go, Nat.reduceAdd, Nat.reduceSub, Nat.reduceLT, Nat.reduceLeDiff, Nat.zero_add, Nat.reduceEqDiff, Nat.reduceBEq, ↓reduceIte, Bool.false_eq_true, List.append_nil, List.nil_append, List.cons_append, Option.toList, and_true, true_and, true_or, or_true, reduceCtorEq, List.map_nil, bI_eq0, bI_eq1, bool_ft, pk_us, Bool.or_false, Bool.or_true, Bool.false_or, Bool.true_or, mj_kne, eq_self, Int32.reduceLT, Int32.reduceLE, Int32.reduceAdd, Int32.reduceSub, Int32.reduceMul, not_true_eq_false, not_false_eq_true, false_implies, true_implies, D_X0_worthOf_0, D_X0_worthOf_1, D_X0_worthOf_2, mj_F_aaload, mj_F_aconst_null, mj_F_aload_k, mj_F_aload_n_k, mj_F_arraylength, mj_F_astore_k, mj_F_getfield_i, mj_F_getstatic_i, mj_F_goto_off, mj_F_iadd, mj_F_iaload, mj_F_iand, mj_F_iastore, mj_F_iconst_n, mj_F_ifCond_eq_off, mj_F_ifCond_ne_off, mj_F_if_icmp_eq_off, mj_F_if_icmp_ge_off, mj_F_if_icmp_gt_off, mj_F_if_icmp_ne_off, mj_F_ifnull_off, mj_F_iinc_k_n, mj_F_iload_k, mj_F_iload_n_k, mj_F_invokestatic_i, mj_F_invokevirtual_i, mj_F_ireturn, mj_F_ishr, mj_F_istore_k, mj_F_isub, mj_F_putfield_i, mj_set, mj_set0, mj_unk, mj_c2, mj_kc, FT_X0, PT_X0, glX0, mj_st0, mj_st1, mj_st2, L_X0_worthOf, mj_lk_hit, mj_lk_miss, List.take_succ_cons, List.take_zero, List.drop_succ_cons, List.drop_zero, List.reverse_cons, List.reverse_nil, List.length_cons, List.length_nil, gS_C11, gCf0_7, gS_C18, sS_Ca_18, gCf0_9, sS_Cf_0_9, gCf0len, gCf0_0, gCf0_3, gS_C14, sS_Ca_14, gCf0_4, gS_C15, sS_Ca_15, gCf0_2, gS_C13, sS_Ca_13, gCf0_6, gS_C17, sS_Cr_17, gCf0_5, gS_C16, sS_Cr_16, c_in_eq, mj_nk, mj_isA, J_X0_worthOf]
          exact (ok_some hw :)
      · replace hw := ok_t hw c
        refine ⟨fun c => ?_, fun c => ?_⟩
        · replace hw := ok_t hw c
          exact (ok_some hw :)
        · replace hw := ok_f hw c
          refine ⟨(ok_rs hw).1, ?_⟩
          replace hw := (ok_rs hw).2
          exact (ok_some hw :)
  · replace hw := ok_t hw c
    refine mj_run hG.1 (fun pc => pc == 28 || pc == 73 || pc == 121 || pc == 154 || pc == 175 || pc == 187 || pc == 230 || pc == 236 || pc == 243 || pc == 247) 4000 ?_
    simp only [mj_step, mj_W_s, mj_fin, List.getElem?_cons_zero, List.getElem?_cons_succ, mj_go, Nat.reduceAdd, Nat.reduceSub, Nat.reduceLT, Nat.reduceLeDiff, Nat.zero_add, Nat.reduceEqDiff, Nat.reduceBEq, ↓reduceIte, Bool.false_eq_true, List.append_nil, List.nil_append, List.cons_append, Option.toList, and_true, true_and, true_or, or_true, reduceCtorEq, List.map_nil, bI_eq0, bI_eq1, bool_ft, pk_us, Bool.or_false, Bool.or_true, Bool.false_or, Bool.true_or, mj_kne, eq_self, Int32.reduceLT, Int32.reduceLE, Int32.reduceAdd, Int32.reduceSub, Int32.reduceMul, not_true_eq_false, not_false_eq_true, false_implies, true_implies, D_X0_worthOf_0, D_X0_worthOf_1, D_X0_worthOf_2, mj_F_aaload, mj_F_aconst_null, mj_F_aload_k, mj_F_aload_n_k, mj_F_arraylength, mj_F_astore_k, mj_F_getfield_i, mj_F_getstatic_i, mj_F_goto_off, mj_F_iadd, mj_F_iaload, mj_F_iand, mj_F_iastore, mj_F_iconst_n, mj_F_ifCond_eq_off, mj_F_ifCond_ne_off, mj_F_if_icmp_eq_off, mj_F_if_icmp_ge_off, mj_F_if_icmp_gt_off, mj_F_if_icmp_ne_off, mj_F_ifnull_off, mj_F_iinc_k_n, mj_F_iload_k, mj_F_iload_n_k, mj_F_invokestatic_i, mj_F_invokevirtual_i, mj_F_ireturn, mj_F_ishr, mj_F_istore_k, mj_F_isub, mj_F_putfield_i, mj_set, mj_set0, mj_unk, mj_c2, mj_kc, FT_X0, PT_X0, glX0, mj_st0, mj_st1, mj_st2, L_X0_worthOf, mj_lk_hit, mj_lk_miss, List.take_succ_cons, List.take_zero, List.drop_succ_cons, List.drop_zero, List.reverse_cons, List.reverse_nil, List.length_cons, List.length_nil, gS_C11, gCf0_7, gS_C18, sS_Ca_18, gCf0_9, sS_Cf_0_9, gCf0len, gCf0_0, gCf0_3, gS_C14, sS_Ca_14, gCf0_4, gS_C15, sS_Ca_15, gCf0_2, gS_C13, sS_Ca_13, gCf0_6, gS_C17, sS_Cr_17, gCf0_5, gS_C16, sS_Cr_16, c_in_eq, mj_nk, mj_isA, J_X0_worthOf]
    refine ⟨fun c => ?_, fun c => ?_⟩
    · replace hw := ok_t hw c
      exact (ok_some hw :)
    · replace hw := ok_f hw c
      refine ⟨(ok_rs hw).1, ?_⟩
      replace hw := (ok_rs hw).2
      exact (ok_some hw :)

set_option maxHeartbeats 4000000 in
theorem g_X0_worthOf_28 {k : Option Value → mj_H → Prop} {G : mj_K} (hG : mj_cl2 cX0_worthOf (TbX0 11 ((some FieldType.int)) ct_X0_worthOf) k G)   {v1 : Int32} {v2 : Int32} {v3 : Int32} {v4 : Int32} {v5 : Int32} {v6 : Int32} {v7 : Int32} {v8 : Int32} {s : St} (hw : ok (F_X0_worthOf_28 v1 v2 v3 v4 v5 v6 v7 v8 s) (fun p => k (some (.int p.1)) (mkCs p.2))) : G 28 [.ref 11, .int v1, .int v2, .int v3, .int v4, .int v5, .int v6, .int v7, .int v8] [] (mkCs s) 0 0 := by
  unfold F_X0_worthOf_28 at hw
  refine lp_ok (B_X0_worthOf_28 v1 v2 v3 v4 v5) (fun x => G 28 [.ref 11, .int v1, .int v2, .int v3, .int v4, .int v5, .int x.1, .int x.2.1, .int x.2.2.1] [] (mkCs x.2.2.2) 0 0) _ ?_ _ _ (ok_bind hw)
  rintro ⟨v6, v7, v8, s⟩ hb
  exact b_X0_worthOf_28 hG (fun _ z => z) (fun y hw => by exact hG.2 _ _ _ _ _ _ _ _ _ (by refine ⟨Or.inr rfl, ?_⟩; refine ⟨Or.inr rfl, ?_⟩; refine ⟨Or.inl rfl, ?_⟩; refine ⟨Or.inl rfl, ?_⟩; refine ⟨Or.inl rfl, ?_⟩; refine ⟨Or.inl rfl, ?_⟩; refine ⟨Or.inr rfl, ?_⟩; exact trivial) (Nat.zero_le _) (Nat.zero_le _) (g_X0_worthOf_154 hG  hw :)) hb

set_option maxHeartbeats 4000000 in
set_option maxRecDepth 20000 in
theorem g_X0_worthOf {k : Option Value → mj_H → Prop} {G : mj_K} (hG : mj_cl2 cX0_worthOf (TbX0 11 ((some FieldType.int)) ct_X0_worthOf) k G) {v1 : Int32} {v2 : Int32} {v3 : Int32} {v4 : Int32} {v5 : Int32} {s : St} (hw : ok (F_X0_worthOf v1 v2 v3 v4 v5 s) (fun p => k (some (.int p.1)) (mkCs p.2))) : G 0 [.ref 11, .int v1, .int v2, .int v3, .int v4, .int v5] [] (mkCs s) 0 0 := by
  unfold F_X0_worthOf at hw
  refine mj_run hG.1 (fun pc => pc == 28 || pc == 73 || pc == 121 || pc == 154 || pc == 175 || pc == 187 || pc == 230 || pc == 236 || pc == 243 || pc == 247) 4000 ?_
  simp only [mj_step, mj_W_s, mj_fin, List.getElem?_cons_zero, List.getElem?_cons_succ, mj_go, Nat.reduceAdd, Nat.reduceSub, Nat.reduceLT, Nat.reduceLeDiff, Nat.zero_add, Nat.reduceEqDiff, Nat.reduceBEq, ↓reduceIte, Bool.false_eq_true, List.append_nil, List.nil_append, List.cons_append, Option.toList, and_true, true_and, true_or, or_true, reduceCtorEq, List.map_nil, bI_eq0, bI_eq1, bool_ft, pk_us, Bool.or_false, Bool.or_true, Bool.false_or, Bool.true_or, mj_kne, eq_self, Int32.reduceLT, Int32.reduceLE, Int32.reduceAdd, Int32.reduceSub, Int32.reduceMul, not_true_eq_false, not_false_eq_true, false_implies, true_implies, D_X0_worthOf_0, D_X0_worthOf_1, D_X0_worthOf_2, mj_F_aaload, mj_F_aconst_null, mj_F_aload_k, mj_F_aload_n_k, mj_F_arraylength, mj_F_astore_k, mj_F_getfield_i, mj_F_getstatic_i, mj_F_goto_off, mj_F_iadd, mj_F_iaload, mj_F_iand, mj_F_iastore, mj_F_iconst_n, mj_F_ifCond_eq_off, mj_F_ifCond_ne_off, mj_F_if_icmp_eq_off, mj_F_if_icmp_ge_off, mj_F_if_icmp_gt_off, mj_F_if_icmp_ne_off, mj_F_ifnull_off, mj_F_iinc_k_n, mj_F_iload_k, mj_F_iload_n_k, mj_F_invokestatic_i, mj_F_invokevirtual_i, mj_F_ireturn, mj_F_ishr, mj_F_istore_k, mj_F_isub, mj_F_putfield_i, mj_set, mj_set0, mj_unk, mj_c2, mj_kc, FT_X0, PT_X0, glX0, mj_st0, mj_st1, mj_st2, L_X0_worthOf, mj_lk_hit, mj_lk_miss, List.take_succ_cons, List.take_zero, List.drop_succ_cons, List.drop_zero, List.reverse_cons, List.reverse_nil, List.length_cons, List.length_nil, gS_C11, gCf0_7, gS_C18, sS_Ca_18, gCf0_9, sS_Cf_0_9, gCf0len, gCf0_0, gCf0_3, gS_C14, sS_Ca_14, gCf0_4, gS_C15, sS_Ca_15, gCf0_2, gS_C13, sS_Ca_13, gCf0_6, gS_C17, sS_Cr_17, gCf0_5, gS_C16, sS_Cr_16, c_in_eq, mj_nk, mj_isA, J_X0_worthOf]
  refine ⟨(ok_wr hw).1, ?_⟩
  replace hw := (ok_wr hw).2
  refine ⟨(ok_wr hw).1, ?_⟩
  replace hw := (ok_wr hw).2
  replace hw := ok_wI hw
  exact hG.2 _ _ _ _ _ _ _ _ _ (by refine ⟨Or.inr rfl, ?_⟩; refine ⟨Or.inr rfl, ?_⟩; refine ⟨Or.inr rfl, ?_⟩; refine ⟨Or.inr rfl, ?_⟩; refine ⟨Or.inr rfl, ?_⟩; refine ⟨Or.inr rfl, ?_⟩; refine ⟨Or.inr rfl, ?_⟩; refine ⟨Or.inr rfl, ?_⟩; refine ⟨Or.inr rfl, ?_⟩; exact trivial) (Nat.zero_le _) (Nat.zero_le _) (g_X0_worthOf_28 hG  hw :)

def c_X0_worthOf : mj_S := fun as h k => ∃ (v1 : Int32) (v2 : Int32) (v3 : Int32) (v4 : Int32) (v5 : Int32) (s : St), as = [.ref 11, .int v1, .int v2, .int v3, .int v4, .int v5] ∧ h = mkCs s ∧ ok (F_X0_worthOf v1 v2 v3 v4 v5 s) (fun p => k (some (.int p.1)) (mkCs p.2))
theorem c_X0_worthOf_in {v1 : Int32} {v2 : Int32} {v3 : Int32} {v4 : Int32} {v5 : Int32} {s : St} {k : Option Value → mj_H → Prop} (hw : ok (F_X0_worthOf v1 v2 v3 v4 v5 s) (fun p => k (some (.int p.1)) (mkCs p.2))) : c_X0_worthOf [.ref 11, .int v1, .int v2, .int v3, .int v4, .int v5] (mkCs s) k := ⟨v1, v2, v3, v4, v5, s, rfl, rfl, hw⟩
theorem m_X0_worthOf (l : Launch) : mj_Met l yX0_worthOf cX0_worthOf 11 ((some FieldType.int)) 3 0 0 c_X0_worthOf := by
  refine mj_body2 false (TbX0 11 ((some FieldType.int)) ct_X0_worthOf) (by decide) rfl rfl (fun h => nomatch h) (tfX0 _ (List.forall_mem_cons.mpr ⟨cfX0_67 (m_X0_binds l) (by decide), List.forall_mem_cons.mpr ⟨cfX0_71 (m_X0_clauseThatHolds l) (by decide), List.forall_mem_cons.mpr ⟨cfX0_75 (m_X11_within l) (by decide), List.forall_mem_cons.mpr ⟨cfX0_81 (m_X0_run l) (by decide), fun _ h => nomatch h⟩⟩⟩⟩)) ?_
  rintro as h k ⟨v1, v2, v3, v4, v5, s, rfl, rfl, hw⟩
  exact ⟨rfl, fun G hG => g_X0_worthOf hG hw⟩
def B_X10_gaveEnough_8 (v1 : Int32) (v2 : Int32) (v3 : Int32) : Int32 × St → Option ((Int32 × St) ⊕ ((St) ⊕ (St)))
  | (v4, s) =>
  if (s.1 101) ≤ v4 then
    some (.inr (.inl s))
  else
    (rd s 1014 480 ((v4 * 20) + v1)).bind fun x1 =>
    if x1 = 0 then
      some (.inl ((v4 + 1), s))
    else
      (F_X1_childrenOf v4 v3 v2 s).bind fun r2 =>
      (rd s 104 24 v4).bind fun x3 =>
      (F_X0_spell r2 x3 0 0 s).bind fun s4 =>
      (rd s4 103 24 v4).bind fun x5 =>
      (F_X0_worthOf 4 x5 v3 v2 0 s4).bind fun r6 =>
      (rd r6.2 1015 480 ((v4 * 20) + v1)).bind fun x7 =>
      if r6.1 ≤ x7 then
        some (.inl ((v4 + 1), r6.2))
      else
        some (.inr (.inr r6.2))
def F_X10_gaveEnough_116 (s : St) : Option (Int32 × St) :=
  some (1, s)
def F_X10_gaveEnough_108 (s : St) : Option (Int32 × St) :=
  some (0, s)
def F_X10_gaveEnough_8 (v1 : Int32) (v2 : Int32) (v3 : Int32) (v4 : Int32) (s : St) : Option (Int32 × St) :=
  (lp (B_X10_gaveEnough_8 v1 v2 v3) FU (v4, s)).bind (Sum.elim (fun y => F_X10_gaveEnough_116 y) (fun y => F_X10_gaveEnough_108 y))
def F_X10_gaveEnough (v1 : Int32) (v2 : Int32) (s : St) : Option (Int32 × St) :=
  F_X10_gaveEnough_8 v1 v2 (v2 / 52) 0 s
theorem J_X10_gaveEnough : mj_t 17 99 = 116 ∧ mj_t 32 6 = 38 ∧ mj_t 35 75 = 110 ∧ mj_t 105 5 = 110 ∧ mj_t 113 (-105) = 8 ∧ (0 ≤ ((17 : Nat) : Int) + 99) = True ∧ (0 ≤ ((32 : Nat) : Int) + 6) = True ∧ (0 ≤ ((35 : Nat) : Int) + 75) = True ∧ (0 ≤ ((105 : Nat) : Int) + 5) = True ∧ (0 ≤ ((113 : Nat) : Int) + (-105)) = True := by and_intros <;> first | rfl | exact eq_true (by decide)
def ct_X10_gaveEnough : List (Nat × mj_Cs) := [(124, 0, 4, 1, 0, 0, c_X1_childrenOf), (131, 0, 5, 0, 0, 0, c_X0_spell), (140, 0, 6, 0, 0, 0, c_X0_worthOf)]
theorem L_X10_gaveEnough : mj_lk ct_X10_gaveEnough 124 = some (0, 4, 1, 0, 0, c_X1_childrenOf) ∧ mj_lk ct_X10_gaveEnough 131 = some (0, 5, 0, 0, 0, c_X0_spell) ∧ mj_lk ct_X10_gaveEnough 140 = some (0, 6, 0, 0, 0, c_X0_worthOf) := ⟨rfl, rfl, rfl⟩
set_option maxHeartbeats 4000000 in
set_option maxRecDepth 20000 in
theorem b_X10_gaveEnough_8 {k : Option Value → mj_H → Prop} {G : mj_K} (hG : mj_cl2 cX10_gaveEnough (TbX10 6 ((some FieldType.boolean)) ct_X10_gaveEnough) k G) {v1 : Int32} {v2 : Int32} {v3 : Int32} {P : Int32 × St → Prop} {K : (St) ⊕ (St) → Prop} (hP : ∀ x, P x → G 8 [.ref 45, .int v1, .int v2, .int v3, .int x.1] [] (mkCs x.2) 0 0) (hK0 : ∀ y, K (.inl y) → G 116 [] [] (mkCs y) 0 0) (hK1 : ∀ y, K (.inr y) → G 108 [] [] (mkCs y) 0 0) {v4 : Int32} {s : St} (hw : ok (B_X10_gaveEnough_8 v1 v2 v3 (v4, s)) (Sum.elim P K)) : G 8 [.ref 45, .int v1, .int v2, .int v3, .int v4] [] (mkCs s) 0 0 := by
  unfold B_X10_gaveEnough_8 at hw
  refine mj_run hG.1 (fun pc => pc == 8 || pc == 53 || pc == 68 || pc == 89 || pc == 108 || pc == 116) 4000 ?_
  simp only [mj_step, mj_W_s, mj_fin, List.getElem?_cons_zero, List.getElem?_cons_succ, mj_go, Nat.reduceAdd, Nat.reduceSub, Nat.reduceLT, Nat.reduceLeDiff, Nat.zero_add, Nat.reduceEqDiff, Nat.reduceBEq, ↓reduceIte, Bool.false_eq_true, List.append_nil, List.nil_append, List.cons_append, Option.toList, and_true, true_and, true_or, or_true, reduceCtorEq, List.map_nil, bI_eq0, bI_eq1, bool_ft, pk_us, Bool.or_false, Bool.or_true, Bool.false_or, Bool.true_or, mj_kne, eq_self, Int32.reduceLT, Int32.reduceLE, Int32.reduceAdd, Int32.reduceSub, Int32.reduceMul, not_true_eq_false, not_false_eq_true, false_implies, true_implies, D_X10_gaveEnough_0, D_X10_gaveEnough_1, mj_F_aload_n_k, mj_F_baload, mj_F_bipush_n, mj_F_getfield_i, mj_F_goto_off, mj_F_iadd, mj_F_iaload, mj_F_iconst_n, mj_F_idiv, mj_F_ifCond_ne_off, mj_F_if_icmp_ge_off, mj_F_iinc_k_n, mj_F_iload_k, mj_F_iload_n_k, mj_F_imul, mj_F_invokevirtual_i, mj_F_ireturn, mj_F_istore_k, mj_F_istore_n_k, mj_set, mj_set0, mj_unk, mj_c2, mj_kc, FT_X10, L_X10_gaveEnough, List.take_succ_cons, List.take_zero, List.drop_succ_cons, List.drop_zero, List.reverse_cons, List.reverse_nil, List.length_cons, List.length_nil, gS_C45, gCf10_2, gS_C20, gCf1_1, gCf10_14, gS_C53, sS_Ca_53, gCf10_1, gCf1_4, gS_C23, sS_Ca_23, gCf1_3, gS_C22, sS_Ca_22, gCf10_15, gS_C54, sS_Ca_54, gS_C11, J_X10_gaveEnough]
  refine ⟨fun c => ?_, fun c => ?_⟩
  · replace hw := ok_t hw c
    exact hG.2 _ _ _ _ _ _ _ _ _ (by exact trivial) (Nat.zero_le _) (Nat.zero_le _) (hK0 _ (ok_some hw :) :)
  · replace hw := ok_f hw c
    refine ⟨(ok_rd hw).1, ?_⟩
    replace hw := (ok_rd hw).2
    refine ⟨fun c => ?_, fun c => ?_⟩
    · replace hw := ok_f hw c
      refine c_X1_childrenOf_in (ok_imp (ok_bind hw) ?_)
      intro p hw
      simp only [Option.toList, List.nil_append, List.cons_append, Nat.reduceSub]
      refine mj_run hG.1 (fun pc => pc == 8 || pc == 53 || pc == 68 || pc == 89 || pc == 108 || pc == 116) 4000 ?_
      simp only [mj_step, mj_W_s, mj_fin, List.getElem?_cons_zero, List.getElem?_cons_succ, mj_go, Nat.reduceAdd, Nat.reduceSub, Nat.reduceLT, Nat.reduceLeDiff, Nat.zero_add, Nat.reduceEqDiff, Nat.reduceBEq, ↓reduceIte, Bool.false_eq_true, List.append_nil, List.nil_append, List.cons_append, Option.toList, and_true, true_and, true_or, or_true, reduceCtorEq, List.map_nil, bI_eq0, bI_eq1, bool_ft, pk_us, Bool.or_false, Bool.or_true, Bool.false_or, Bool.true_or, mj_kne, eq_self, Int32.reduceLT, Int32.reduceLE, Int32.reduceAdd, Int32.reduceSub, Int32.reduceMul, not_true_eq_false, not_false_eq_true, false_implies, true_implies, D_X10_gaveEnough_0, D_X10_gaveEnough_1, mj_F_aload_n_k, mj_F_baload, mj_F_bipush_n, mj_F_getfield_i, mj_F_goto_off, mj_F_iadd, mj_F_iaload, mj_F_iconst_n, mj_F_idiv, mj_F_ifCond_ne_off, mj_F_if_icmp_ge_off, mj_F_iinc_k_n, mj_F_iload_k, mj_F_iload_n_k, mj_F_imul, mj_F_invokevirtual_i, mj_F_ireturn, mj_F_istore_k, mj_F_istore_n_k, mj_set, mj_set0, mj_unk, mj_c2, mj_kc, FT_X10, L_X10_gaveEnough, List.take_succ_cons, List.take_zero, List.drop_succ_cons, List.drop_zero, List.reverse_cons, List.reverse_nil, List.length_cons, List.length_nil, gS_C45, gCf10_2, gS_C20, gCf1_1, gCf10_14, gS_C53, sS_Ca_53, gCf10_1, gCf1_4, gS_C23, sS_Ca_23, gCf1_3, gS_C22, sS_Ca_22, gCf10_15, gS_C54, sS_Ca_54, gS_C11, J_X10_gaveEnough]
      refine ⟨(ok_rd hw).1, ?_⟩
      replace hw := (ok_rd hw).2
      refine c_X0_spell_in (ok_imp (ok_bind hw) ?_)
      intro p hw
      simp only [Option.toList, List.nil_append, List.cons_append, Nat.reduceSub]
      refine mj_run hG.1 (fun pc => pc == 8 || pc == 53 || pc == 68 || pc == 89 || pc == 108 || pc == 116) 4000 ?_
      simp only [mj_step, mj_W_s, mj_fin, List.getElem?_cons_zero, List.getElem?_cons_succ, mj_go, Nat.reduceAdd, Nat.reduceSub, Nat.reduceLT, Nat.reduceLeDiff, Nat.zero_add, Nat.reduceEqDiff, Nat.reduceBEq, ↓reduceIte, Bool.false_eq_true, List.append_nil, List.nil_append, List.cons_append, Option.toList, and_true, true_and, true_or, or_true, reduceCtorEq, List.map_nil, bI_eq0, bI_eq1, bool_ft, pk_us, Bool.or_false, Bool.or_true, Bool.false_or, Bool.true_or, mj_kne, eq_self, Int32.reduceLT, Int32.reduceLE, Int32.reduceAdd, Int32.reduceSub, Int32.reduceMul, not_true_eq_false, not_false_eq_true, false_implies, true_implies, D_X10_gaveEnough_0, D_X10_gaveEnough_1, mj_F_aload_n_k, mj_F_baload, mj_F_bipush_n, mj_F_getfield_i, mj_F_goto_off, mj_F_iadd, mj_F_iaload, mj_F_iconst_n, mj_F_idiv, mj_F_ifCond_ne_off, mj_F_if_icmp_ge_off, mj_F_iinc_k_n, mj_F_iload_k, mj_F_iload_n_k, mj_F_imul, mj_F_invokevirtual_i, mj_F_ireturn, mj_F_istore_k, mj_F_istore_n_k, mj_set, mj_set0, mj_unk, mj_c2, mj_kc, FT_X10, L_X10_gaveEnough, List.take_succ_cons, List.take_zero, List.drop_succ_cons, List.drop_zero, List.reverse_cons, List.reverse_nil, List.length_cons, List.length_nil, gS_C45, gCf10_2, gS_C20, gCf1_1, gCf10_14, gS_C53, sS_Ca_53, gCf10_1, gCf1_4, gS_C23, sS_Ca_23, gCf1_3, gS_C22, sS_Ca_22, gCf10_15, gS_C54, sS_Ca_54, gS_C11, J_X10_gaveEnough]
      refine ⟨(ok_rd hw).1, ?_⟩
      replace hw := (ok_rd hw).2
      refine c_X0_worthOf_in (ok_imp (ok_bind hw) ?_)
      intro p hw
      simp only [Option.toList, List.nil_append, List.cons_append, Nat.reduceSub]
      refine mj_run hG.1 (fun pc => pc == 8 || pc == 53 || pc == 68 || pc == 89 || pc == 108 || pc == 116) 4000 ?_
      simp only [mj_step, mj_W_s, mj_fin, List.getElem?_cons_zero, List.getElem?_cons_succ, mj_go, Nat.reduceAdd, Nat.reduceSub, Nat.reduceLT, Nat.reduceLeDiff, Nat.zero_add, Nat.reduceEqDiff, Nat.reduceBEq, ↓reduceIte, Bool.false_eq_true, List.append_nil, List.nil_append, List.cons_append, Option.toList, and_true, true_and, true_or, or_true, reduceCtorEq, List.map_nil, bI_eq0, bI_eq1, bool_ft, pk_us, Bool.or_false, Bool.or_true, Bool.false_or, Bool.true_or, mj_kne, eq_self, Int32.reduceLT, Int32.reduceLE, Int32.reduceAdd, Int32.reduceSub, Int32.reduceMul, not_true_eq_false, not_false_eq_true, false_implies, true_implies, D_X10_gaveEnough_0, D_X10_gaveEnough_1, mj_F_aload_n_k, mj_F_baload, mj_F_bipush_n, mj_F_getfield_i, mj_F_goto_off, mj_F_iadd, mj_F_iaload, mj_F_iconst_n, mj_F_idiv, mj_F_ifCond_ne_off, mj_F_if_icmp_ge_off, mj_F_iinc_k_n, mj_F_iload_k, mj_F_iload_n_k, mj_F_imul, mj_F_invokevirtual_i, mj_F_ireturn, mj_F_istore_k, mj_F_istore_n_k, mj_set, mj_set0, mj_unk, mj_c2, mj_kc, FT_X10, L_X10_gaveEnough, List.take_succ_cons, List.take_zero, List.drop_succ_cons, List.drop_zero, List.reverse_cons, List.reverse_nil, List.length_cons, List.length_nil, gS_C45, gCf10_2, gS_C20, gCf1_1, gCf10_14, gS_C53, sS_Ca_53, gCf10_1, gCf1_4, gS_C23, sS_Ca_23, gCf1_3, gS_C22, sS_Ca_22, gCf10_15, gS_C54, sS_Ca_54, gS_C11, J_X10_gaveEnough]
      refine ⟨(ok_rd hw).1, ?_⟩
      replace hw := (ok_rd hw).2
      refine ⟨fun c => ?_, fun c => ?_⟩
      · replace hw := ok_t hw c
        exact hG.2 _ _ _ _ _ _ _ _ _ (by refine ⟨Or.inr rfl, ?_⟩; refine ⟨Or.inr rfl, ?_⟩; refine ⟨Or.inr rfl, ?_⟩; refine ⟨Or.inr rfl, ?_⟩; refine ⟨Or.inr rfl, ?_⟩; exact trivial) (Nat.zero_le _) (Nat.zero_le _) (hP _ (ok_some hw :) :)
      · replace hw := ok_f hw c
        exact hG.2 _ _ _ _ _ _ _ _ _ (by exact trivial) (Nat.zero_le _) (Nat.zero_le _) (hK1 _ (ok_some hw :) :)
    · replace hw := ok_t hw c
      exact hG.2 _ _ _ _ _ _ _ _ _ (by refine ⟨Or.inr rfl, ?_⟩; refine ⟨Or.inr rfl, ?_⟩; refine ⟨Or.inr rfl, ?_⟩; refine ⟨Or.inr rfl, ?_⟩; refine ⟨Or.inr rfl, ?_⟩; exact trivial) (Nat.zero_le _) (Nat.zero_le _) (hP _ (ok_some hw :) :)

set_option maxHeartbeats 4000000 in
set_option maxRecDepth 20000 in
theorem g_X10_gaveEnough_116 {k : Option Value → mj_H → Prop} {G : mj_K} (hG : mj_cl2 cX10_gaveEnough (TbX10 6 ((some FieldType.boolean)) ct_X10_gaveEnough) k G)   {s : St} (hw : ok (F_X10_gaveEnough_116 s) (fun p => k (some (.int p.1)) (mkCs p.2))) : G 116 [] [] (mkCs s) 0 0 := by
  unfold F_X10_gaveEnough_116 at hw
  refine mj_run hG.1 (fun pc => pc == 8 || pc == 53 || pc == 68 || pc == 89 || pc == 108 || pc == 116) 4000 ?_
  simp only [mj_step, mj_W_s, mj_fin, List.getElem?_cons_zero, List.getElem?_cons_succ, mj_go, Nat.reduceAdd, Nat.reduceSub, Nat.reduceLT, Nat.reduceLeDiff, Nat.zero_add, Nat.reduceEqDiff, Nat.reduceBEq, ↓reduceIte, Bool.false_eq_true, List.append_nil, List.nil_append, List.cons_append, Option.toList, and_true, true_and, true_or, or_true, reduceCtorEq, List.map_nil, bI_eq0, bI_eq1, bool_ft, pk_us, Bool.or_false, Bool.or_true, Bool.false_or, Bool.true_or, mj_kne, eq_self, Int32.reduceLT, Int32.reduceLE, Int32.reduceAdd, Int32.reduceSub, Int32.reduceMul, not_true_eq_false, not_false_eq_true, false_implies, true_implies, D_X10_gaveEnough_0, D_X10_gaveEnough_1, mj_F_aload_n_k, mj_F_baload, mj_F_bipush_n, mj_F_getfield_i, mj_F_goto_off, mj_F_iadd, mj_F_iaload, mj_F_iconst_n, mj_F_idiv, mj_F_ifCond_ne_off, mj_F_if_icmp_ge_off, mj_F_iinc_k_n, mj_F_iload_k, mj_F_iload_n_k, mj_F_imul, mj_F_invokevirtual_i, mj_F_ireturn, mj_F_istore_k, mj_F_istore_n_k, mj_set, mj_set0, mj_unk, mj_c2, mj_kc, FT_X10, L_X10_gaveEnough, List.take_succ_cons, List.take_zero, List.drop_succ_cons, List.drop_zero, List.reverse_cons, List.reverse_nil, List.length_cons, List.length_nil, gS_C45, gCf10_2, gS_C20, gCf1_1, gCf10_14, gS_C53, sS_Ca_53, gCf10_1, gCf1_4, gS_C23, sS_Ca_23, gCf1_3, gS_C22, sS_Ca_22, gCf10_15, gS_C54, sS_Ca_54, gS_C11, J_X10_gaveEnough]
  exact (ok_some hw :)

set_option maxHeartbeats 4000000 in
set_option maxRecDepth 20000 in
theorem g_X10_gaveEnough_108 {k : Option Value → mj_H → Prop} {G : mj_K} (hG : mj_cl2 cX10_gaveEnough (TbX10 6 ((some FieldType.boolean)) ct_X10_gaveEnough) k G)   {s : St} (hw : ok (F_X10_gaveEnough_108 s) (fun p => k (some (.int p.1)) (mkCs p.2))) : G 108 [] [] (mkCs s) 0 0 := by
  unfold F_X10_gaveEnough_108 at hw
  refine mj_run hG.1 (fun pc => pc == 8 || pc == 53 || pc == 68 || pc == 89 || pc == 108 || pc == 116) 4000 ?_
  simp only [mj_step, mj_W_s, mj_fin, List.getElem?_cons_zero, List.getElem?_cons_succ, mj_go, Nat.reduceAdd, Nat.reduceSub, Nat.reduceLT, Nat.reduceLeDiff, Nat.zero_add, Nat.reduceEqDiff, Nat.reduceBEq, ↓reduceIte, Bool.false_eq_true, List.append_nil, List.nil_append, List.cons_append, Option.toList, and_true, true_and, true_or, or_true, reduceCtorEq, List.map_nil, bI_eq0, bI_eq1, bool_ft, pk_us, Bool.or_false, Bool.or_true, Bool.false_or, Bool.true_or, mj_kne, eq_self, Int32.reduceLT, Int32.reduceLE, Int32.reduceAdd, Int32.reduceSub, Int32.reduceMul, not_true_eq_false, not_false_eq_true, false_implies, true_implies, D_X10_gaveEnough_0, D_X10_gaveEnough_1, mj_F_aload_n_k, mj_F_baload, mj_F_bipush_n, mj_F_getfield_i, mj_F_goto_off, mj_F_iadd, mj_F_iaload, mj_F_iconst_n, mj_F_idiv, mj_F_ifCond_ne_off, mj_F_if_icmp_ge_off, mj_F_iinc_k_n, mj_F_iload_k, mj_F_iload_n_k, mj_F_imul, mj_F_invokevirtual_i, mj_F_ireturn, mj_F_istore_k, mj_F_istore_n_k, mj_set, mj_set0, mj_unk, mj_c2, mj_kc, FT_X10, L_X10_gaveEnough, List.take_succ_cons, List.take_zero, List.drop_succ_cons, List.drop_zero, List.reverse_cons, List.reverse_nil, List.length_cons, List.length_nil, gS_C45, gCf10_2, gS_C20, gCf1_1, gCf10_14, gS_C53, sS_Ca_53, gCf10_1, gCf1_4, gS_C23, sS_Ca_23, gCf1_3, gS_C22, sS_Ca_22, gCf10_15, gS_C54, sS_Ca_54, gS_C11, J_X10_gaveEnough]
  exact (ok_some hw :)

set_option maxHeartbeats 4000000 in
theorem g_X10_gaveEnough_8 {k : Option Value → mj_H → Prop} {G : mj_K} (hG : mj_cl2 cX10_gaveEnough (TbX10 6 ((some FieldType.boolean)) ct_X10_gaveEnough) k G)   {v1 : Int32} {v2 : Int32} {v3 : Int32} {v4 : Int32} {s : St} (hw : ok (F_X10_gaveEnough_8 v1 v2 v3 v4 s) (fun p => k (some (.int p.1)) (mkCs p.2))) : G 8 [.ref 45, .int v1, .int v2, .int v3, .int v4] [] (mkCs s) 0 0 := by
  unfold F_X10_gaveEnough_8 at hw
  refine lp_ok (B_X10_gaveEnough_8 v1 v2 v3) (fun x => G 8 [.ref 45, .int v1, .int v2, .int v3, .int x.1] [] (mkCs x.2) 0 0) _ ?_ _ _ (ok_bind hw)
  rintro ⟨v4, s⟩ hb
  exact b_X10_gaveEnough_8 hG (fun _ z => z) (fun y hw => by exact hG.2 _ _ _ _ _ _ _ _ _ (by exact trivial) (Nat.zero_le _) (Nat.zero_le _) (g_X10_gaveEnough_116 hG  hw :)) (fun y hw => by exact hG.2 _ _ _ _ _ _ _ _ _ (by exact trivial) (Nat.zero_le _) (Nat.zero_le _) (g_X10_gaveEnough_108 hG  hw :)) hb

set_option maxHeartbeats 4000000 in
set_option maxRecDepth 20000 in
theorem g_X10_gaveEnough {k : Option Value → mj_H → Prop} {G : mj_K} (hG : mj_cl2 cX10_gaveEnough (TbX10 6 ((some FieldType.boolean)) ct_X10_gaveEnough) k G) {v1 : Int32} {v2 : Int32} {s : St} (hw : ok (F_X10_gaveEnough v1 v2 s) (fun p => k (some (.int p.1)) (mkCs p.2))) : G 0 [.ref 45, .int v1, .int v2] [] (mkCs s) 0 0 := by
  unfold F_X10_gaveEnough at hw
  refine mj_run hG.1 (fun pc => pc == 8 || pc == 53 || pc == 68 || pc == 89 || pc == 108 || pc == 116) 4000 ?_
  simp only [mj_step, mj_W_s, mj_fin, List.getElem?_cons_zero, List.getElem?_cons_succ, mj_go, Nat.reduceAdd, Nat.reduceSub, Nat.reduceLT, Nat.reduceLeDiff, Nat.zero_add, Nat.reduceEqDiff, Nat.reduceBEq, ↓reduceIte, Bool.false_eq_true, List.append_nil, List.nil_append, List.cons_append, Option.toList, and_true, true_and, true_or, or_true, reduceCtorEq, List.map_nil, bI_eq0, bI_eq1, bool_ft, pk_us, Bool.or_false, Bool.or_true, Bool.false_or, Bool.true_or, mj_kne, eq_self, Int32.reduceLT, Int32.reduceLE, Int32.reduceAdd, Int32.reduceSub, Int32.reduceMul, not_true_eq_false, not_false_eq_true, false_implies, true_implies, D_X10_gaveEnough_0, D_X10_gaveEnough_1, mj_F_aload_n_k, mj_F_baload, mj_F_bipush_n, mj_F_getfield_i, mj_F_goto_off, mj_F_iadd, mj_F_iaload, mj_F_iconst_n, mj_F_idiv, mj_F_ifCond_ne_off, mj_F_if_icmp_ge_off, mj_F_iinc_k_n, mj_F_iload_k, mj_F_iload_n_k, mj_F_imul, mj_F_invokevirtual_i, mj_F_ireturn, mj_F_istore_k, mj_F_istore_n_k, mj_set, mj_set0, mj_unk, mj_c2, mj_kc, FT_X10, L_X10_gaveEnough, List.take_succ_cons, List.take_zero, List.drop_succ_cons, List.drop_zero, List.reverse_cons, List.reverse_nil, List.length_cons, List.length_nil, gS_C45, gCf10_2, gS_C20, gCf1_1, gCf10_14, gS_C53, sS_Ca_53, gCf10_1, gCf1_4, gS_C23, sS_Ca_23, gCf1_3, gS_C22, sS_Ca_22, gCf10_15, gS_C54, sS_Ca_54, gS_C11, J_X10_gaveEnough]
  exact hG.2 _ _ _ _ _ _ _ _ _ (by refine ⟨Or.inr rfl, ?_⟩; refine ⟨Or.inr rfl, ?_⟩; refine ⟨Or.inr rfl, ?_⟩; refine ⟨Or.inr rfl, ?_⟩; refine ⟨Or.inr rfl, ?_⟩; exact trivial) (Nat.zero_le _) (Nat.zero_le _) (g_X10_gaveEnough_8 hG  hw :)

def c_X10_gaveEnough : mj_S := fun as h k => ∃ (v1 : Int32) (v2 : Int32) (s : St), as = [.ref 45, .int v1, .int v2] ∧ h = mkCs s ∧ ok (F_X10_gaveEnough v1 v2 s) (fun p => k (some (.int p.1)) (mkCs p.2))
theorem c_X10_gaveEnough_in {v1 : Int32} {v2 : Int32} {s : St} {k : Option Value → mj_H → Prop} (hw : ok (F_X10_gaveEnough v1 v2 s) (fun p => k (some (.int p.1)) (mkCs p.2))) : c_X10_gaveEnough [.ref 45, .int v1, .int v2] (mkCs s) k := ⟨v1, v2, s, rfl, rfl, hw⟩
theorem m_X10_gaveEnough (l : Launch) : mj_Met l yX10_gaveEnough cX10_gaveEnough 6 ((some FieldType.boolean)) 4 0 0 c_X10_gaveEnough := by
  refine mj_body2 false (TbX10 6 ((some FieldType.boolean)) ct_X10_gaveEnough) (by decide) rfl rfl (fun h => nomatch h) (tfX10 _ (List.forall_mem_cons.mpr ⟨cfX10_124 (m_X1_childrenOf l) (by decide), List.forall_mem_cons.mpr ⟨cfX10_131 (m_X0_spell l) (by decide), List.forall_mem_cons.mpr ⟨cfX10_140 (m_X0_worthOf l) (by decide), fun _ h => nomatch h⟩⟩⟩)) ?_
  rintro as h k ⟨v1, v2, s, rfl, rfl, hw⟩
  exact ⟨rfl, fun G hG => g_X10_gaveEnough hG hw⟩
def B_X10_raise_2 (v1 : Int32) : Int32 × St → Option ((Int32 × St) ⊕ ((St)))
  | (v2, s) =>
  if (s.1 501) ≤ v2 then
    some (.inr s)
  else
    (rd s 508 20 v2).bind fun x1 =>
    if x1 = (-1) then
      (F_X10_lowestNeed v2 s).bind fun r2 =>
      if r2 = (-1) then
        (F_X10_gaveEnough v2 v1 s).bind fun r3 =>
        if r3.1 = 0 then
          some (.inl ((v2 + 1), r3.2))
        else
          (wr r3.2 508 20 v2 v1).bind fun s4 =>
          some (.inl ((v2 + 1), s4))
      else
        some (.inl ((v2 + 1), s))
    else
      some (.inl ((v2 + 1), s))
def F_X10_raise_60 (s : St) : Option (St) :=
  some s
def F_X10_raise_2 (v1 : Int32) (v2 : Int32) (s : St) : Option (St) :=
  (lp (B_X10_raise_2 v1) FU (v2, s)).bind (fun y => F_X10_raise_60 y)
def F_X10_raise (v1 : Int32) (s : St) : Option (St) :=
  F_X10_raise_2 v1 0 s
theorem J_X10_raise : mj_t 10 50 = 60 ∧ mj_t 23 31 = 54 ∧ mj_t 32 22 = 54 ∧ mj_t 41 13 = 54 ∧ mj_t 57 (-55) = 2 ∧ (0 ≤ ((10 : Nat) : Int) + 50) = True ∧ (0 ≤ ((23 : Nat) : Int) + 31) = True ∧ (0 ≤ ((32 : Nat) : Int) + 22) = True ∧ (0 ≤ ((41 : Nat) : Int) + 13) = True ∧ (0 ≤ ((57 : Nat) : Int) + (-55)) = True := by and_intros <;> first | rfl | exact eq_true (by decide)
def ct_X10_raise : List (Nat × mj_Cs) := [(95, 0, 2, 10, 0, 0, c_X10_lowestNeed), (99, 0, 3, 10, 0, 0, c_X10_gaveEnough)]
theorem L_X10_raise : mj_lk ct_X10_raise 95 = some (0, 2, 10, 0, 0, c_X10_lowestNeed) ∧ mj_lk ct_X10_raise 99 = some (0, 3, 10, 0, 0, c_X10_gaveEnough) := ⟨rfl, rfl⟩
set_option maxHeartbeats 4000000 in
set_option maxRecDepth 20000 in
theorem b_X10_raise_2 {k : Option Value → mj_H → Prop} {G : mj_K} (hG : mj_cl2 cX10_raise (TbX10 3 (none) ct_X10_raise) k G) {v1 : Int32} {P : Int32 × St → Prop} {K : (St) → Prop} (hP : ∀ x, P x → G 2 [.ref 45, .int v1, .int x.1] [] (mkCs x.2) 0 0) (hK0 : ∀ y, K y → G 60 [] [] (mkCs y) 0 0) {v2 : Int32} {s : St} (hw : ok (B_X10_raise_2 v1 (v2, s)) (Sum.elim P K)) : G 2 [.ref 45, .int v1, .int v2] [] (mkCs s) 0 0 := by
  unfold B_X10_raise_2 at hw
  refine mj_run hG.1 (fun pc => pc == 2 || pc == 31 || pc == 41 || pc == 60) 4000 ?_
  simp only [mj_step, mj_W_s, mj_fin, List.getElem?_cons_zero, List.getElem?_cons_succ, mj_go, Nat.reduceAdd, Nat.reduceSub, Nat.reduceLT, Nat.reduceLeDiff, Nat.zero_add, Nat.reduceEqDiff, Nat.reduceBEq, ↓reduceIte, Bool.false_eq_true, List.append_nil, List.nil_append, List.cons_append, Option.toList, and_true, true_and, true_or, or_true, reduceCtorEq, List.map_nil, bI_eq0, bI_eq1, bool_ft, pk_us, Bool.or_false, Bool.or_true, Bool.false_or, Bool.true_or, mj_kne, eq_self, Int32.reduceLT, Int32.reduceLE, Int32.reduceAdd, Int32.reduceSub, Int32.reduceMul, not_true_eq_false, not_false_eq_true, false_implies, true_implies, D_X10_raise, mj_F_aload_n_k, mj_F_getfield_i, mj_F_goto_off, mj_F_iaload, mj_F_iastore, mj_F_iconst_n, mj_F_ifCond_eq_off, mj_F_if_icmp_ge_off, mj_F_if_icmp_ne_off, mj_F_iinc_k_n, mj_F_iload_n_k, mj_F_invokevirtual_i, mj_F_istore_n_k, mj_F_return_, mj_set, mj_set0, mj_unk, mj_c2, mj_kc, FT_X10, L_X10_raise, List.take_succ_cons, List.take_zero, List.drop_succ_cons, List.drop_zero, List.reverse_cons, List.reverse_nil, List.length_cons, List.length_nil, gS_C45, gCf10_3, gS_C35, gCf5_1, gCf5_8, gS_C42, sS_Ca_42, J_X10_raise]
  refine ⟨fun c => ?_, fun c => ?_⟩
  · replace hw := ok_t hw c
    exact hG.2 _ _ _ _ _ _ _ _ _ (by exact trivial) (Nat.zero_le _) (Nat.zero_le _) (hK0 _ (ok_some hw :) :)
  · replace hw := ok_f hw c
    refine ⟨(ok_rd hw).1, ?_⟩
    replace hw := (ok_rd hw).2
    refine ⟨fun c => ?_, fun c => ?_⟩
    · replace hw := ok_f hw c
      exact hG.2 _ _ _ _ _ _ _ _ _ (by refine ⟨Or.inr rfl, ?_⟩; refine ⟨Or.inr rfl, ?_⟩; refine ⟨Or.inr rfl, ?_⟩; exact trivial) (Nat.zero_le _) (Nat.zero_le _) (hP _ (ok_some hw :) :)
    · replace hw := ok_t hw c
      refine c_X10_lowestNeed_in (ok_imp (ok_bind hw) ?_)
      intro p hw
      simp only [Option.toList, List.nil_append, List.cons_append, Nat.reduceSub]
      refine mj_run hG.1 (fun pc => pc == 2 || pc == 31 || pc == 41 || pc == 60) 4000 ?_
      simp only [mj_step, mj_W_s, mj_fin, List.getElem?_cons_zero, List.getElem?_cons_succ, mj_go, Nat.reduceAdd, Nat.reduceSub, Nat.reduceLT, Nat.reduceLeDiff, Nat.zero_add, Nat.reduceEqDiff, Nat.reduceBEq, ↓reduceIte, Bool.false_eq_true, List.append_nil, List.nil_append, List.cons_append, Option.toList, and_true, true_and, true_or, or_true, reduceCtorEq, List.map_nil, bI_eq0, bI_eq1, bool_ft, pk_us, Bool.or_false, Bool.or_true, Bool.false_or, Bool.true_or, mj_kne, eq_self, Int32.reduceLT, Int32.reduceLE, Int32.reduceAdd, Int32.reduceSub, Int32.reduceMul, not_true_eq_false, not_false_eq_true, false_implies, true_implies, D_X10_raise, mj_F_aload_n_k, mj_F_getfield_i, mj_F_goto_off, mj_F_iaload, mj_F_iastore, mj_F_iconst_n, mj_F_ifCond_eq_off, mj_F_if_icmp_ge_off, mj_F_if_icmp_ne_off, mj_F_iinc_k_n, mj_F_iload_n_k, mj_F_invokevirtual_i, mj_F_istore_n_k, mj_F_return_, mj_set, mj_set0, mj_unk, mj_c2, mj_kc, FT_X10, L_X10_raise, List.take_succ_cons, List.take_zero, List.drop_succ_cons, List.drop_zero, List.reverse_cons, List.reverse_nil, List.length_cons, List.length_nil, gS_C45, gCf10_3, gS_C35, gCf5_1, gCf5_8, gS_C42, sS_Ca_42, J_X10_raise]
      refine ⟨fun c => ?_, fun c => ?_⟩
      · replace hw := ok_f hw c
        exact hG.2 _ _ _ _ _ _ _ _ _ (by refine ⟨Or.inr rfl, ?_⟩; refine ⟨Or.inr rfl, ?_⟩; refine ⟨Or.inr rfl, ?_⟩; exact trivial) (Nat.zero_le _) (Nat.zero_le _) (hP _ (ok_some hw :) :)
      · replace hw := ok_t hw c
        refine c_X10_gaveEnough_in (ok_imp (ok_bind hw) ?_)
        intro p hw
        simp only [Option.toList, List.nil_append, List.cons_append, Nat.reduceSub]
        refine mj_run hG.1 (fun pc => pc == 2 || pc == 31 || pc == 41 || pc == 60) 4000 ?_
        simp only [mj_step, mj_W_s, mj_fin, List.getElem?_cons_zero, List.getElem?_cons_succ, mj_go, Nat.reduceAdd, Nat.reduceSub, Nat.reduceLT, Nat.reduceLeDiff, Nat.zero_add, Nat.reduceEqDiff, Nat.reduceBEq, ↓reduceIte, Bool.false_eq_true, List.append_nil, List.nil_append, List.cons_append, Option.toList, and_true, true_and, true_or, or_true, reduceCtorEq, List.map_nil, bI_eq0, bI_eq1, bool_ft, pk_us, Bool.or_false, Bool.or_true, Bool.false_or, Bool.true_or, mj_kne, eq_self, Int32.reduceLT, Int32.reduceLE, Int32.reduceAdd, Int32.reduceSub, Int32.reduceMul, not_true_eq_false, not_false_eq_true, false_implies, true_implies, D_X10_raise, mj_F_aload_n_k, mj_F_getfield_i, mj_F_goto_off, mj_F_iaload, mj_F_iastore, mj_F_iconst_n, mj_F_ifCond_eq_off, mj_F_if_icmp_ge_off, mj_F_if_icmp_ne_off, mj_F_iinc_k_n, mj_F_iload_n_k, mj_F_invokevirtual_i, mj_F_istore_n_k, mj_F_return_, mj_set, mj_set0, mj_unk, mj_c2, mj_kc, FT_X10, L_X10_raise, List.take_succ_cons, List.take_zero, List.drop_succ_cons, List.drop_zero, List.reverse_cons, List.reverse_nil, List.length_cons, List.length_nil, gS_C45, gCf10_3, gS_C35, gCf5_1, gCf5_8, gS_C42, sS_Ca_42, J_X10_raise]
        refine ⟨fun c => ?_, fun c => ?_⟩
        · replace hw := ok_t hw c
          exact hG.2 _ _ _ _ _ _ _ _ _ (by refine ⟨Or.inr rfl, ?_⟩; refine ⟨Or.inr rfl, ?_⟩; refine ⟨Or.inr rfl, ?_⟩; exact trivial) (Nat.zero_le _) (Nat.zero_le _) (hP _ (ok_some hw :) :)
        · replace hw := ok_f hw c
          refine ⟨(ok_wr hw).1, ?_⟩
          replace hw := (ok_wr hw).2
          exact hG.2 _ _ _ _ _ _ _ _ _ (by refine ⟨Or.inr rfl, ?_⟩; refine ⟨Or.inr rfl, ?_⟩; refine ⟨Or.inr rfl, ?_⟩; exact trivial) (Nat.zero_le _) (Nat.zero_le _) (hP _ (ok_some hw :) :)

set_option maxHeartbeats 4000000 in
set_option maxRecDepth 20000 in
theorem g_X10_raise_60 {k : Option Value → mj_H → Prop} {G : mj_K} (hG : mj_cl2 cX10_raise (TbX10 3 (none) ct_X10_raise) k G)   {s : St} (hw : ok (F_X10_raise_60 s) (fun p => k none (mkCs p))) : G 60 [] [] (mkCs s) 0 0 := by
  unfold F_X10_raise_60 at hw
  refine mj_run hG.1 (fun pc => pc == 2 || pc == 31 || pc == 41 || pc == 60) 4000 ?_
  simp only [mj_step, mj_W_s, mj_fin, List.getElem?_cons_zero, List.getElem?_cons_succ, mj_go, Nat.reduceAdd, Nat.reduceSub, Nat.reduceLT, Nat.reduceLeDiff, Nat.zero_add, Nat.reduceEqDiff, Nat.reduceBEq, ↓reduceIte, Bool.false_eq_true, List.append_nil, List.nil_append, List.cons_append, Option.toList, and_true, true_and, true_or, or_true, reduceCtorEq, List.map_nil, bI_eq0, bI_eq1, bool_ft, pk_us, Bool.or_false, Bool.or_true, Bool.false_or, Bool.true_or, mj_kne, eq_self, Int32.reduceLT, Int32.reduceLE, Int32.reduceAdd, Int32.reduceSub, Int32.reduceMul, not_true_eq_false, not_false_eq_true, false_implies, true_implies, D_X10_raise, mj_F_aload_n_k, mj_F_getfield_i, mj_F_goto_off, mj_F_iaload, mj_F_iastore, mj_F_iconst_n, mj_F_ifCond_eq_off, mj_F_if_icmp_ge_off, mj_F_if_icmp_ne_off, mj_F_iinc_k_n, mj_F_iload_n_k, mj_F_invokevirtual_i, mj_F_istore_n_k, mj_F_return_, mj_set, mj_set0, mj_unk, mj_c2, mj_kc, FT_X10, L_X10_raise, List.take_succ_cons, List.take_zero, List.drop_succ_cons, List.drop_zero, List.reverse_cons, List.reverse_nil, List.length_cons, List.length_nil, gS_C45, gCf10_3, gS_C35, gCf5_1, gCf5_8, gS_C42, sS_Ca_42, J_X10_raise]
  exact (ok_some hw :)

set_option maxHeartbeats 4000000 in
theorem g_X10_raise_2 {k : Option Value → mj_H → Prop} {G : mj_K} (hG : mj_cl2 cX10_raise (TbX10 3 (none) ct_X10_raise) k G)   {v1 : Int32} {v2 : Int32} {s : St} (hw : ok (F_X10_raise_2 v1 v2 s) (fun p => k none (mkCs p))) : G 2 [.ref 45, .int v1, .int v2] [] (mkCs s) 0 0 := by
  unfold F_X10_raise_2 at hw
  refine lp_ok (B_X10_raise_2 v1) (fun x => G 2 [.ref 45, .int v1, .int x.1] [] (mkCs x.2) 0 0) _ ?_ _ _ (ok_bind hw)
  rintro ⟨v2, s⟩ hb
  exact b_X10_raise_2 hG (fun _ z => z) (fun y hw => by exact hG.2 _ _ _ _ _ _ _ _ _ (by exact trivial) (Nat.zero_le _) (Nat.zero_le _) (g_X10_raise_60 hG  hw :)) hb

set_option maxHeartbeats 4000000 in
set_option maxRecDepth 20000 in
theorem g_X10_raise {k : Option Value → mj_H → Prop} {G : mj_K} (hG : mj_cl2 cX10_raise (TbX10 3 (none) ct_X10_raise) k G) {v1 : Int32} {s : St} (hw : ok (F_X10_raise v1 s) (fun p => k none (mkCs p))) : G 0 [.ref 45, .int v1] [] (mkCs s) 0 0 := by
  unfold F_X10_raise at hw
  refine mj_run hG.1 (fun pc => pc == 2 || pc == 31 || pc == 41 || pc == 60) 4000 ?_
  simp only [mj_step, mj_W_s, mj_fin, List.getElem?_cons_zero, List.getElem?_cons_succ, mj_go, Nat.reduceAdd, Nat.reduceSub, Nat.reduceLT, Nat.reduceLeDiff, Nat.zero_add, Nat.reduceEqDiff, Nat.reduceBEq, ↓reduceIte, Bool.false_eq_true, List.append_nil, List.nil_append, List.cons_append, Option.toList, and_true, true_and, true_or, or_true, reduceCtorEq, List.map_nil, bI_eq0, bI_eq1, bool_ft, pk_us, Bool.or_false, Bool.or_true, Bool.false_or, Bool.true_or, mj_kne, eq_self, Int32.reduceLT, Int32.reduceLE, Int32.reduceAdd, Int32.reduceSub, Int32.reduceMul, not_true_eq_false, not_false_eq_true, false_implies, true_implies, D_X10_raise, mj_F_aload_n_k, mj_F_getfield_i, mj_F_goto_off, mj_F_iaload, mj_F_iastore, mj_F_iconst_n, mj_F_ifCond_eq_off, mj_F_if_icmp_ge_off, mj_F_if_icmp_ne_off, mj_F_iinc_k_n, mj_F_iload_n_k, mj_F_invokevirtual_i, mj_F_istore_n_k, mj_F_return_, mj_set, mj_set0, mj_unk, mj_c2, mj_kc, FT_X10, L_X10_raise, List.take_succ_cons, List.take_zero, List.drop_succ_cons, List.drop_zero, List.reverse_cons, List.reverse_nil, List.length_cons, List.length_nil, gS_C45, gCf10_3, gS_C35, gCf5_1, gCf5_8, gS_C42, sS_Ca_42, J_X10_raise]
  exact hG.2 _ _ _ _ _ _ _ _ _ (by refine ⟨Or.inr rfl, ?_⟩; refine ⟨Or.inr rfl, ?_⟩; refine ⟨Or.inr rfl, ?_⟩; exact trivial) (Nat.zero_le _) (Nat.zero_le _) (g_X10_raise_2 hG  hw :)

def c_X10_raise : mj_S := fun as h k => ∃ (v1 : Int32) (s : St), as = [.ref 45, .int v1] ∧ h = mkCs s ∧ ok (F_X10_raise v1 s) (fun p => k none (mkCs p))
theorem c_X10_raise_in {v1 : Int32} {s : St} {k : Option Value → mj_H → Prop} (hw : ok (F_X10_raise v1 s) (fun p => k none (mkCs p))) : c_X10_raise [.ref 45, .int v1] (mkCs s) k := ⟨v1, s, rfl, rfl, hw⟩
theorem m_X10_raise (l : Launch) : mj_Met l yX10_raise cX10_raise 3 (none) 5 0 0 c_X10_raise := by
  refine mj_body2 false (TbX10 3 (none) ct_X10_raise) (by decide) rfl rfl (fun h => nomatch h) (tfX10 _ (List.forall_mem_cons.mpr ⟨cfX10_95 (m_X10_lowestNeed l) (by decide), List.forall_mem_cons.mpr ⟨cfX10_99 (m_X10_gaveEnough l) (by decide), fun _ h => nomatch h⟩⟩)) ?_
  rintro as h k ⟨v1, s, rfl, rfl, hw⟩
  exact ⟨rfl, fun G hG => g_X10_raise hG hw⟩
def B_X11_weeks_26 (v1 : Int32) : Int32 × St → Option ((Int32 × St) ⊕ ((St)))
  | (v2, s) =>
  if v1 ≤ v2 then
    some (.inr s)
  else
    (wI s 1100 ((s.1 1100) + 1)).bind fun s1 =>
    (F_X10_bring (s1.1 1100) s1).bind fun s2 =>
    (F_X10_drive (s2.1 1100) s2).bind fun s3 =>
    (F_X10_raise (s3.1 1100) s3).bind fun s4 =>
    some (.inl ((v2 + 1), s4))
def F_X11_weeks_80 (s : St) : Option (Int32 × St) :=
  some ((s.1 1100), s)
def F_X11_weeks_26 (v1 : Int32) (v2 : Int32) (s : St) : Option (Int32 × St) :=
  (lp (B_X11_weeks_26 v1) FU (v2, s)).bind (fun y => F_X11_weeks_80 y)
def F_X11_weeks (v1 : Int32) (s : St) : Option (Int32 × St) :=
  if inb v1 0 104 = false then
    some ((-1), s)
  else
    if v1 ≤ (600 - (s.1 1100)) then
      F_X11_weeks_26 v1 0 s
    else
      some ((-1), s)
theorem J_X11_weeks : mj_t 7 15 = 22 ∧ mj_t 19 5 = 24 ∧ mj_t 28 52 = 80 ∧ mj_t 77 (-51) = 26 ∧ (0 ≤ ((7 : Nat) : Int) + 15) = True ∧ (0 ≤ ((19 : Nat) : Int) + 5) = True ∧ (0 ≤ ((28 : Nat) : Int) + 52) = True ∧ (0 ≤ ((77 : Nat) : Int) + (-51)) = True := by and_intros <;> first | rfl | exact eq_true (by decide)
def ct_X11_weeks : List (Nat × mj_Cs) := [(96, 2, 3, 11, 0, 0, c_in), (104, 0, 2, 10, 0, 0, c_X10_bring), (108, 0, 2, 10, 0, 0, c_X10_drive), (111, 0, 2, 10, 0, 0, c_X10_raise)]
theorem L_X11_weeks : mj_lk ct_X11_weeks 96 = some (2, 3, 11, 0, 0, c_in) ∧ mj_lk ct_X11_weeks 104 = some (0, 2, 10, 0, 0, c_X10_bring) ∧ mj_lk ct_X11_weeks 108 = some (0, 2, 10, 0, 0, c_X10_drive) ∧ mj_lk ct_X11_weeks 111 = some (0, 2, 10, 0, 0, c_X10_raise) := ⟨rfl, rfl, rfl, rfl⟩
set_option maxHeartbeats 4000000 in
set_option maxRecDepth 20000 in
theorem b_X11_weeks_26 {k : Option Value → mj_H → Prop} {G : mj_K} (hG : mj_cl2 cX11_weeks (TbX11 3 ((some FieldType.int)) ct_X11_weeks) k G) {v1 : Int32} {P : Int32 × St → Prop} {K : (St) → Prop} (hP : ∀ x, P x → G 26 [.ref 0, .int v1, .int x.1] [] (mkCs x.2) 0 0) (hK0 : ∀ y, K y → G 80 [.ref 0] [] (mkCs y) 0 0) {v2 : Int32} {s : St} (hw : ok (B_X11_weeks_26 v1 (v2, s)) (Sum.elim P K)) : G 26 [.ref 0, .int v1, .int v2] [] (mkCs s) 0 0 := by
  unfold B_X11_weeks_26 at hw
  refine mj_run hG.1 (fun pc => pc == 26 || pc == 52 || pc == 63 || pc == 74 || pc == 80) 4000 ?_
  simp only [mj_step, mj_W_s, mj_fin, List.getElem?_cons_zero, List.getElem?_cons_succ, mj_go, Nat.reduceAdd, Nat.reduceSub, Nat.reduceLT, Nat.reduceLeDiff, Nat.zero_add, Nat.reduceEqDiff, Nat.reduceBEq, ↓reduceIte, Bool.false_eq_true, List.append_nil, List.nil_append, List.cons_append, Option.toList, and_true, true_and, true_or, or_true, reduceCtorEq, List.map_nil, bI_eq0, bI_eq1, bool_ft, pk_us, Bool.or_false, Bool.or_true, Bool.false_or, Bool.true_or, mj_kne, eq_self, Int32.reduceLT, Int32.reduceLE, Int32.reduceAdd, Int32.reduceSub, Int32.reduceMul, not_true_eq_false, not_false_eq_true, false_implies, true_implies, D_X11_weeks, mj_F_aload_n_k, mj_F_bipush_n, mj_F_dup, mj_F_getfield_i, mj_F_goto_off, mj_F_iadd, mj_F_iconst_n, mj_F_ifCond_eq_off, mj_F_if_icmp_ge_off, mj_F_if_icmp_le_off, mj_F_iinc_k_n, mj_F_iload_n_k, mj_F_invokestatic_i, mj_F_invokevirtual_i, mj_F_ireturn, mj_F_istore_n_k, mj_F_isub, mj_F_putfield_i, mj_F_sipush_n, mj_set, mj_set0, mj_unk, mj_c2, mj_kc, FT_X11, PT_X11, L_X11_weeks, List.take_succ_cons, List.take_zero, List.drop_succ_cons, List.drop_zero, List.reverse_cons, List.reverse_nil, List.length_cons, List.length_nil, gS_C0, gCf11_0, sS_Cf_11_0, gCf11len, gCf11_6, c_in_eq, gS_C45, J_X11_weeks]
  refine ⟨fun c => ?_, fun c => ?_⟩
  · replace hw := ok_t hw c
    exact hG.2 _ _ _ _ _ _ _ _ _ (by refine ⟨Or.inr rfl, ?_⟩; exact trivial) (Nat.zero_le _) (Nat.zero_le _) (hK0 _ (ok_some hw :) :)
  · replace hw := ok_f hw c
    replace hw := ok_wI hw
    refine c_X10_bring_in (ok_imp (ok_bind hw) ?_)
    intro p hw
    simp only [Option.toList, List.nil_append, List.cons_append, Nat.reduceSub]
    refine mj_run hG.1 (fun pc => pc == 26 || pc == 52 || pc == 63 || pc == 74 || pc == 80) 4000 ?_
    simp only [mj_step, mj_W_s, mj_fin, List.getElem?_cons_zero, List.getElem?_cons_succ, mj_go, Nat.reduceAdd, Nat.reduceSub, Nat.reduceLT, Nat.reduceLeDiff, Nat.zero_add, Nat.reduceEqDiff, Nat.reduceBEq, ↓reduceIte, Bool.false_eq_true, List.append_nil, List.nil_append, List.cons_append, Option.toList, and_true, true_and, true_or, or_true, reduceCtorEq, List.map_nil, bI_eq0, bI_eq1, bool_ft, pk_us, Bool.or_false, Bool.or_true, Bool.false_or, Bool.true_or, mj_kne, eq_self, Int32.reduceLT, Int32.reduceLE, Int32.reduceAdd, Int32.reduceSub, Int32.reduceMul, not_true_eq_false, not_false_eq_true, false_implies, true_implies, D_X11_weeks, mj_F_aload_n_k, mj_F_bipush_n, mj_F_dup, mj_F_getfield_i, mj_F_goto_off, mj_F_iadd, mj_F_iconst_n, mj_F_ifCond_eq_off, mj_F_if_icmp_ge_off, mj_F_if_icmp_le_off, mj_F_iinc_k_n, mj_F_iload_n_k, mj_F_invokestatic_i, mj_F_invokevirtual_i, mj_F_ireturn, mj_F_istore_n_k, mj_F_isub, mj_F_putfield_i, mj_F_sipush_n, mj_set, mj_set0, mj_unk, mj_c2, mj_kc, FT_X11, PT_X11, L_X11_weeks, List.take_succ_cons, List.take_zero, List.drop_succ_cons, List.drop_zero, List.reverse_cons, List.reverse_nil, List.length_cons, List.length_nil, gS_C0, gCf11_0, sS_Cf_11_0, gCf11len, gCf11_6, c_in_eq, gS_C45, J_X11_weeks]
    refine c_X10_drive_in (ok_imp (ok_bind hw) ?_)
    intro p hw
    simp only [Option.toList, List.nil_append, List.cons_append, Nat.reduceSub]
    refine mj_run hG.1 (fun pc => pc == 26 || pc == 52 || pc == 63 || pc == 74 || pc == 80) 4000 ?_
    simp only [mj_step, mj_W_s, mj_fin, List.getElem?_cons_zero, List.getElem?_cons_succ, mj_go, Nat.reduceAdd, Nat.reduceSub, Nat.reduceLT, Nat.reduceLeDiff, Nat.zero_add, Nat.reduceEqDiff, Nat.reduceBEq, ↓reduceIte, Bool.false_eq_true, List.append_nil, List.nil_append, List.cons_append, Option.toList, and_true, true_and, true_or, or_true, reduceCtorEq, List.map_nil, bI_eq0, bI_eq1, bool_ft, pk_us, Bool.or_false, Bool.or_true, Bool.false_or, Bool.true_or, mj_kne, eq_self, Int32.reduceLT, Int32.reduceLE, Int32.reduceAdd, Int32.reduceSub, Int32.reduceMul, not_true_eq_false, not_false_eq_true, false_implies, true_implies, D_X11_weeks, mj_F_aload_n_k, mj_F_bipush_n, mj_F_dup, mj_F_getfield_i, mj_F_goto_off, mj_F_iadd, mj_F_iconst_n, mj_F_ifCond_eq_off, mj_F_if_icmp_ge_off, mj_F_if_icmp_le_off, mj_F_iinc_k_n, mj_F_iload_n_k, mj_F_invokestatic_i, mj_F_invokevirtual_i, mj_F_ireturn, mj_F_istore_n_k, mj_F_isub, mj_F_putfield_i, mj_F_sipush_n, mj_set, mj_set0, mj_unk, mj_c2, mj_kc, FT_X11, PT_X11, L_X11_weeks, List.take_succ_cons, List.take_zero, List.drop_succ_cons, List.drop_zero, List.reverse_cons, List.reverse_nil, List.length_cons, List.length_nil, gS_C0, gCf11_0, sS_Cf_11_0, gCf11len, gCf11_6, c_in_eq, gS_C45, J_X11_weeks]
    refine c_X10_raise_in (ok_imp (ok_bind hw) ?_)
    intro p hw
    simp only [Option.toList, List.nil_append, List.cons_append, Nat.reduceSub]
    refine mj_run hG.1 (fun pc => pc == 26 || pc == 52 || pc == 63 || pc == 74 || pc == 80) 4000 ?_
    simp only [mj_step, mj_W_s, mj_fin, List.getElem?_cons_zero, List.getElem?_cons_succ, mj_go, Nat.reduceAdd, Nat.reduceSub, Nat.reduceLT, Nat.reduceLeDiff, Nat.zero_add, Nat.reduceEqDiff, Nat.reduceBEq, ↓reduceIte, Bool.false_eq_true, List.append_nil, List.nil_append, List.cons_append, Option.toList, and_true, true_and, true_or, or_true, reduceCtorEq, List.map_nil, bI_eq0, bI_eq1, bool_ft, pk_us, Bool.or_false, Bool.or_true, Bool.false_or, Bool.true_or, mj_kne, eq_self, Int32.reduceLT, Int32.reduceLE, Int32.reduceAdd, Int32.reduceSub, Int32.reduceMul, not_true_eq_false, not_false_eq_true, false_implies, true_implies, D_X11_weeks, mj_F_aload_n_k, mj_F_bipush_n, mj_F_dup, mj_F_getfield_i, mj_F_goto_off, mj_F_iadd, mj_F_iconst_n, mj_F_ifCond_eq_off, mj_F_if_icmp_ge_off, mj_F_if_icmp_le_off, mj_F_iinc_k_n, mj_F_iload_n_k, mj_F_invokestatic_i, mj_F_invokevirtual_i, mj_F_ireturn, mj_F_istore_n_k, mj_F_isub, mj_F_putfield_i, mj_F_sipush_n, mj_set, mj_set0, mj_unk, mj_c2, mj_kc, FT_X11, PT_X11, L_X11_weeks, List.take_succ_cons, List.take_zero, List.drop_succ_cons, List.drop_zero, List.reverse_cons, List.reverse_nil, List.length_cons, List.length_nil, gS_C0, gCf11_0, sS_Cf_11_0, gCf11len, gCf11_6, c_in_eq, gS_C45, J_X11_weeks]
    exact hG.2 _ _ _ _ _ _ _ _ _ (by refine ⟨Or.inr rfl, ?_⟩; refine ⟨Or.inr rfl, ?_⟩; refine ⟨Or.inr rfl, ?_⟩; exact trivial) (Nat.zero_le _) (Nat.zero_le _) (hP _ (ok_some hw :) :)

set_option maxHeartbeats 4000000 in
set_option maxRecDepth 20000 in
theorem g_X11_weeks_80 {k : Option Value → mj_H → Prop} {G : mj_K} (hG : mj_cl2 cX11_weeks (TbX11 3 ((some FieldType.int)) ct_X11_weeks) k G)   {s : St} (hw : ok (F_X11_weeks_80 s) (fun p => k (some (.int p.1)) (mkCs p.2))) : G 80 [.ref 0] [] (mkCs s) 0 0 := by
  unfold F_X11_weeks_80 at hw
  refine mj_run hG.1 (fun pc => pc == 26 || pc == 52 || pc == 63 || pc == 74 || pc == 80) 4000 ?_
  simp only [mj_step, mj_W_s, mj_fin, List.getElem?_cons_zero, List.getElem?_cons_succ, mj_go, Nat.reduceAdd, Nat.reduceSub, Nat.reduceLT, Nat.reduceLeDiff, Nat.zero_add, Nat.reduceEqDiff, Nat.reduceBEq, ↓reduceIte, Bool.false_eq_true, List.append_nil, List.nil_append, List.cons_append, Option.toList, and_true, true_and, true_or, or_true, reduceCtorEq, List.map_nil, bI_eq0, bI_eq1, bool_ft, pk_us, Bool.or_false, Bool.or_true, Bool.false_or, Bool.true_or, mj_kne, eq_self, Int32.reduceLT, Int32.reduceLE, Int32.reduceAdd, Int32.reduceSub, Int32.reduceMul, not_true_eq_false, not_false_eq_true, false_implies, true_implies, D_X11_weeks, mj_F_aload_n_k, mj_F_bipush_n, mj_F_dup, mj_F_getfield_i, mj_F_goto_off, mj_F_iadd, mj_F_iconst_n, mj_F_ifCond_eq_off, mj_F_if_icmp_ge_off, mj_F_if_icmp_le_off, mj_F_iinc_k_n, mj_F_iload_n_k, mj_F_invokestatic_i, mj_F_invokevirtual_i, mj_F_ireturn, mj_F_istore_n_k, mj_F_isub, mj_F_putfield_i, mj_F_sipush_n, mj_set, mj_set0, mj_unk, mj_c2, mj_kc, FT_X11, PT_X11, L_X11_weeks, List.take_succ_cons, List.take_zero, List.drop_succ_cons, List.drop_zero, List.reverse_cons, List.reverse_nil, List.length_cons, List.length_nil, gS_C0, gCf11_0, sS_Cf_11_0, gCf11len, gCf11_6, c_in_eq, gS_C45, J_X11_weeks]
  exact (ok_some hw :)

set_option maxHeartbeats 4000000 in
theorem g_X11_weeks_26 {k : Option Value → mj_H → Prop} {G : mj_K} (hG : mj_cl2 cX11_weeks (TbX11 3 ((some FieldType.int)) ct_X11_weeks) k G)   {v1 : Int32} {v2 : Int32} {s : St} (hw : ok (F_X11_weeks_26 v1 v2 s) (fun p => k (some (.int p.1)) (mkCs p.2))) : G 26 [.ref 0, .int v1, .int v2] [] (mkCs s) 0 0 := by
  unfold F_X11_weeks_26 at hw
  refine lp_ok (B_X11_weeks_26 v1) (fun x => G 26 [.ref 0, .int v1, .int x.1] [] (mkCs x.2) 0 0) _ ?_ _ _ (ok_bind hw)
  rintro ⟨v2, s⟩ hb
  exact b_X11_weeks_26 hG (fun _ z => z) (fun y hw => by exact hG.2 _ _ _ _ _ _ _ _ _ (by refine ⟨Or.inr rfl, ?_⟩; exact trivial) (Nat.zero_le _) (Nat.zero_le _) (g_X11_weeks_80 hG  hw :)) hb

set_option maxHeartbeats 4000000 in
set_option maxRecDepth 20000 in
theorem g_X11_weeks {k : Option Value → mj_H → Prop} {G : mj_K} (hG : mj_cl2 cX11_weeks (TbX11 3 ((some FieldType.int)) ct_X11_weeks) k G) {v1 : Int32} {s : St} (hw : ok (F_X11_weeks v1 s) (fun p => k (some (.int p.1)) (mkCs p.2))) : G 0 [.ref 0, .int v1] [] (mkCs s) 0 0 := by
  unfold F_X11_weeks at hw
  refine mj_run hG.1 (fun pc => pc == 26 || pc == 52 || pc == 63 || pc == 74 || pc == 80) 4000 ?_
  simp only [mj_step, mj_W_s, mj_fin, List.getElem?_cons_zero, List.getElem?_cons_succ, mj_go, Nat.reduceAdd, Nat.reduceSub, Nat.reduceLT, Nat.reduceLeDiff, Nat.zero_add, Nat.reduceEqDiff, Nat.reduceBEq, ↓reduceIte, Bool.false_eq_true, List.append_nil, List.nil_append, List.cons_append, Option.toList, and_true, true_and, true_or, or_true, reduceCtorEq, List.map_nil, bI_eq0, bI_eq1, bool_ft, pk_us, Bool.or_false, Bool.or_true, Bool.false_or, Bool.true_or, mj_kne, eq_self, Int32.reduceLT, Int32.reduceLE, Int32.reduceAdd, Int32.reduceSub, Int32.reduceMul, not_true_eq_false, not_false_eq_true, false_implies, true_implies, D_X11_weeks, mj_F_aload_n_k, mj_F_bipush_n, mj_F_dup, mj_F_getfield_i, mj_F_goto_off, mj_F_iadd, mj_F_iconst_n, mj_F_ifCond_eq_off, mj_F_if_icmp_ge_off, mj_F_if_icmp_le_off, mj_F_iinc_k_n, mj_F_iload_n_k, mj_F_invokestatic_i, mj_F_invokevirtual_i, mj_F_ireturn, mj_F_istore_n_k, mj_F_isub, mj_F_putfield_i, mj_F_sipush_n, mj_set, mj_set0, mj_unk, mj_c2, mj_kc, FT_X11, PT_X11, L_X11_weeks, List.take_succ_cons, List.take_zero, List.drop_succ_cons, List.drop_zero, List.reverse_cons, List.reverse_nil, List.length_cons, List.length_nil, gS_C0, gCf11_0, sS_Cf_11_0, gCf11len, gCf11_6, c_in_eq, gS_C45, J_X11_weeks]
  refine ⟨fun c => ?_, fun c => ?_⟩
  · replace hw := ok_t hw c
    exact (ok_some hw :)
  · replace hw := ok_f hw c
    refine ⟨fun c => ?_, fun c => ?_⟩
    · replace hw := ok_t hw c
      exact hG.2 _ _ _ _ _ _ _ _ _ (by refine ⟨Or.inr rfl, ?_⟩; refine ⟨Or.inr rfl, ?_⟩; refine ⟨Or.inr rfl, ?_⟩; exact trivial) (Nat.zero_le _) (Nat.zero_le _) (g_X11_weeks_26 hG  hw :)
    · replace hw := ok_f hw c
      exact (ok_some hw :)

def c_X11_weeks : mj_S := fun as h k => ∃ (v1 : Int32) (s : St), as = [.ref 0, .int v1] ∧ h = mkCs s ∧ ok (F_X11_weeks v1 s) (fun p => k (some (.int p.1)) (mkCs p.2))
theorem c_X11_weeks_in {v1 : Int32} {s : St} {k : Option Value → mj_H → Prop} (hw : ok (F_X11_weeks v1 s) (fun p => k (some (.int p.1)) (mkCs p.2))) : c_X11_weeks [.ref 0, .int v1] (mkCs s) k := ⟨v1, s, rfl, rfl, hw⟩
theorem m_X11_weeks (l : Launch) : mj_Met l yX11_weeks cX11_weeks 3 ((some FieldType.int)) 6 0 0 c_X11_weeks := by
  refine mj_body2 false (TbX11 3 ((some FieldType.int)) ct_X11_weeks) (by decide) rfl rfl (fun h => nomatch h) (tfX11 _ (List.forall_mem_cons.mpr ⟨cfX11_96 (m_X11_within l) (by decide), List.forall_mem_cons.mpr ⟨cfX11_104 (m_X10_bring l) (by decide), List.forall_mem_cons.mpr ⟨cfX11_108 (m_X10_drive l) (by decide), List.forall_mem_cons.mpr ⟨cfX11_111 (m_X10_raise l) (by decide), fun _ h => nomatch h⟩⟩⟩⟩)) ?_
  rintro as h k ⟨v1, s, rfl, rfl, hw⟩
  exact ⟨rfl, fun G hG => g_X11_weeks hG hw⟩
def B_X2_paint_7 (v2 : Int32) (v3 : Int32) (v4 : Int32) : Int32 × St → Option ((Int32 × St) ⊕ ((St)))
  | (v5, s) =>
  if v2 < v5 then
    some (.inr s)
  else
    if 120 ≤ v5 then
      some (.inr s)
    else
      (wr s 200 120 v5 v3).bind fun s1 =>
      (wr s1 201 120 v5 v4).bind fun s2 =>
      some (.inl ((v5 + 1), s2))
def B_X2_paint_46  : Int32 × St → Option ((Int32 × St) ⊕ ((St)))
  | (v5, s) =>
  if 240 ≤ v5 then
    some (.inr s)
  else
    (wr s 204 240 v5 0).bind fun s3 =>
    some (.inl ((v5 + 1), s3))
def F_X2_paint_70 (s : St) : Option (St) :=
  some s
def F_X2_paint_46 (v5 : Int32) (s : St) : Option (St) :=
  (lp (B_X2_paint_46 ) FU (v5, s)).bind (fun y => F_X2_paint_70 y)
def F_X2_paint_43 (s : St) : Option (St) :=
  F_X2_paint_46 0 s
def F_X2_paint_7 (v2 : Int32) (v3 : Int32) (v4 : Int32) (v5 : Int32) (s : St) : Option (St) :=
  (lp (B_X2_paint_7 v2 v3 v4) FU (v5, s)).bind (fun y => F_X2_paint_43 y)
def F_X2_paint (v1 : Int32) (v2 : Int32) (v3 : Int32) (v4 : Int32) (s : St) : Option (St) :=
  F_X2_paint_7 v2 v3 v4 (zmx v1 0) s
theorem J_X2_paint : mj_t 10 33 = 43 ∧ mj_t 17 26 = 43 ∧ mj_t 40 (-33) = 7 ∧ mj_t 53 17 = 70 ∧ mj_t 67 (-21) = 46 ∧ (0 ≤ ((10 : Nat) : Int) + 33) = True ∧ (0 ≤ ((17 : Nat) : Int) + 26) = True ∧ (0 ≤ ((40 : Nat) : Int) + (-33)) = True ∧ (0 ≤ ((53 : Nat) : Int) + 17) = True ∧ (0 ≤ ((67 : Nat) : Int) + (-21)) = True := by and_intros <;> first | rfl | exact eq_true (by decide)
set_option maxHeartbeats 4000000 in
set_option maxRecDepth 20000 in
theorem b_X2_paint_7 {k : Option Value → mj_H → Prop} {G : mj_K} (hG : mj_cl2 cX2_paint (TbX2 6 (none) []) k G) (hM : mj_ml cX2_paint yX2_paint.cls G) {v2 : Int32} {v3 : Int32} {v4 : Int32} {P : Int32 × St → Prop} {K : (St) → Prop} (hP : ∀ x, P x → G 7 [.ref 1, mj_unk, .int v2, .int v3, .int v4, .int x.1] [] (mkCs x.2) 0 0) (hK0 : ∀ y, K y → G 43 [.ref 1] [] (mkCs y) 0 0) {v5 : Int32} {s : St} (hw : ok (B_X2_paint_7 v2 v3 v4 (v5, s)) (Sum.elim P K)) : G 7 [.ref 1, mj_unk, .int v2, .int v3, .int v4, .int v5] [] (mkCs s) 0 0 := by
  unfold B_X2_paint_7 at hw
  refine mj_run hG.1 (fun pc => pc == 2 || pc == 7 || pc == 43 || pc == 46 || pc == 70) 4000 ?_
  simp only [mj_step, mj_W_s, mj_fin, List.getElem?_cons_zero, List.getElem?_cons_succ, mj_go, Nat.reduceAdd, Nat.reduceSub, Nat.reduceLT, Nat.reduceLeDiff, Nat.zero_add, Nat.reduceEqDiff, Nat.reduceBEq, ↓reduceIte, Bool.false_eq_true, List.append_nil, List.nil_append, List.cons_append, Option.toList, and_true, true_and, true_or, or_true, reduceCtorEq, List.map_nil, bI_eq0, bI_eq1, bool_ft, pk_us, Bool.or_false, Bool.or_true, Bool.false_or, Bool.true_or, mj_kne, eq_self, Int32.reduceLT, Int32.reduceLE, Int32.reduceAdd, Int32.reduceSub, Int32.reduceMul, not_true_eq_false, not_false_eq_true, false_implies, true_implies, D_X2_paint, mj_F_aload_n_k, mj_F_arraylength, mj_F_bastore, mj_F_bipush_n, mj_F_getfield_i, mj_F_goto_off, mj_F_iastore, mj_F_iconst_n, mj_F_if_icmp_ge_off, mj_F_if_icmp_gt_off, mj_F_iinc_k_n, mj_F_iload_k, mj_F_iload_n_k, mj_F_invokestatic_i, mj_F_istore_k, mj_F_return_, mj_set, mj_set0, mj_unk, mj_c2, mj_kc, FT_X2, List.take_succ_cons, List.take_zero, List.drop_succ_cons, List.drop_zero, List.reverse_cons, List.reverse_nil, List.length_cons, List.length_nil, gS_C1, gCf2_0, gS_C2, sS_Ca_2, gCf2_1, gS_C3, sS_Ca_3, gCf2_4, gS_C6, sS_Ca_6, mj_nk, mj_isA, J_X2_paint]
  refine ⟨fun c => ?_, fun c => ?_⟩
  · replace hw := ok_t hw c
    exact hG.2 _ _ _ _ _ _ _ _ _ (by refine ⟨Or.inr rfl, ?_⟩; exact trivial) (Nat.zero_le _) (Nat.zero_le _) (hK0 _ (ok_some hw :) :)
  · replace hw := ok_f hw c
    refine ⟨fun c => ?_, fun c => ?_⟩
    · replace hw := ok_t hw c
      exact hG.2 _ _ _ _ _ _ _ _ _ (by refine ⟨Or.inr rfl, ?_⟩; exact trivial) (Nat.zero_le _) (Nat.zero_le _) (hK0 _ (ok_some hw :) :)
    · replace hw := ok_f hw c
      refine ⟨(ok_wr hw).1, ?_⟩
      replace hw := (ok_wr hw).2
      refine ⟨(ok_wr hw).1, ?_⟩
      replace hw := (ok_wr hw).2
      exact hG.2 _ _ _ _ _ _ _ _ _ (by refine ⟨Or.inr rfl, ?_⟩; refine ⟨Or.inl rfl, ?_⟩; refine ⟨Or.inr rfl, ?_⟩; refine ⟨Or.inr rfl, ?_⟩; refine ⟨Or.inr rfl, ?_⟩; refine ⟨Or.inr rfl, ?_⟩; exact trivial) (Nat.zero_le _) (Nat.zero_le _) (hP _ (ok_some hw :) :)

set_option maxHeartbeats 4000000 in
set_option maxRecDepth 20000 in
theorem b_X2_paint_46 {k : Option Value → mj_H → Prop} {G : mj_K} (hG : mj_cl2 cX2_paint (TbX2 6 (none) []) k G) (hM : mj_ml cX2_paint yX2_paint.cls G)  {P : Int32 × St → Prop} {K : (St) → Prop} (hP : ∀ x, P x → G 46 [.ref 1, mj_unk, mj_unk, mj_unk, mj_unk, .int x.1] [] (mkCs x.2) 0 0) (hK0 : ∀ y, K y → G 70 [] [] (mkCs y) 0 0) {v5 : Int32} {s : St} (hw : ok (B_X2_paint_46  (v5, s)) (Sum.elim P K)) : G 46 [.ref 1, mj_unk, mj_unk, mj_unk, mj_unk, .int v5] [] (mkCs s) 0 0 := by
  unfold B_X2_paint_46 at hw
  refine mj_run hG.1 (fun pc => pc == 2 || pc == 7 || pc == 43 || pc == 46 || pc == 70) 4000 ?_
  simp only [mj_step, mj_W_s, mj_fin, List.getElem?_cons_zero, List.getElem?_cons_succ, mj_go, Nat.reduceAdd, Nat.reduceSub, Nat.reduceLT, Nat.reduceLeDiff, Nat.zero_add, Nat.reduceEqDiff, Nat.reduceBEq, ↓reduceIte, Bool.false_eq_true, List.append_nil, List.nil_append, List.cons_append, Option.toList, and_true, true_and, true_or, or_true, reduceCtorEq, List.map_nil, bI_eq0, bI_eq1, bool_ft, pk_us, Bool.or_false, Bool.or_true, Bool.false_or, Bool.true_or, mj_kne, eq_self, Int32.reduceLT, Int32.reduceLE, Int32.reduceAdd, Int32.reduceSub, Int32.reduceMul, not_true_eq_false, not_false_eq_true, false_implies, true_implies, D_X2_paint, mj_F_aload_n_k, mj_F_arraylength, mj_F_bastore, mj_F_bipush_n, mj_F_getfield_i, mj_F_goto_off, mj_F_iastore, mj_F_iconst_n, mj_F_if_icmp_ge_off, mj_F_if_icmp_gt_off, mj_F_iinc_k_n, mj_F_iload_k, mj_F_iload_n_k, mj_F_invokestatic_i, mj_F_istore_k, mj_F_return_, mj_set, mj_set0, mj_unk, mj_c2, mj_kc, FT_X2, List.take_succ_cons, List.take_zero, List.drop_succ_cons, List.drop_zero, List.reverse_cons, List.reverse_nil, List.length_cons, List.length_nil, gS_C1, gCf2_0, gS_C2, sS_Ca_2, gCf2_1, gS_C3, sS_Ca_3, gCf2_4, gS_C6, sS_Ca_6, mj_nk, mj_isA, J_X2_paint]
  refine ⟨fun c => ?_, fun c => ?_⟩
  · replace hw := ok_t hw c
    exact hG.2 _ _ _ _ _ _ _ _ _ (by exact trivial) (Nat.zero_le _) (Nat.zero_le _) (hK0 _ (ok_some hw :) :)
  · replace hw := ok_f hw c
    refine ⟨(ok_wr hw).1, ?_⟩
    replace hw := (ok_wr hw).2
    exact hG.2 _ _ _ _ _ _ _ _ _ (by refine ⟨Or.inr rfl, ?_⟩; refine ⟨Or.inl rfl, ?_⟩; refine ⟨Or.inl rfl, ?_⟩; refine ⟨Or.inl rfl, ?_⟩; refine ⟨Or.inl rfl, ?_⟩; refine ⟨Or.inr rfl, ?_⟩; exact trivial) (Nat.zero_le _) (Nat.zero_le _) (hP _ (ok_some hw :) :)

set_option maxHeartbeats 4000000 in
set_option maxRecDepth 20000 in
theorem g_X2_paint_70 {k : Option Value → mj_H → Prop} {G : mj_K} (hG : mj_cl2 cX2_paint (TbX2 6 (none) []) k G) (hM : mj_ml cX2_paint yX2_paint.cls G)   {s : St} (hw : ok (F_X2_paint_70 s) (fun p => k none (mkCs p))) : G 70 [] [] (mkCs s) 0 0 := by
  unfold F_X2_paint_70 at hw
  refine mj_run hG.1 (fun pc => pc == 2 || pc == 7 || pc == 43 || pc == 46 || pc == 70) 4000 ?_
  simp only [mj_step, mj_W_s, mj_fin, List.getElem?_cons_zero, List.getElem?_cons_succ, mj_go, Nat.reduceAdd, Nat.reduceSub, Nat.reduceLT, Nat.reduceLeDiff, Nat.zero_add, Nat.reduceEqDiff, Nat.reduceBEq, ↓reduceIte, Bool.false_eq_true, List.append_nil, List.nil_append, List.cons_append, Option.toList, and_true, true_and, true_or, or_true, reduceCtorEq, List.map_nil, bI_eq0, bI_eq1, bool_ft, pk_us, Bool.or_false, Bool.or_true, Bool.false_or, Bool.true_or, mj_kne, eq_self, Int32.reduceLT, Int32.reduceLE, Int32.reduceAdd, Int32.reduceSub, Int32.reduceMul, not_true_eq_false, not_false_eq_true, false_implies, true_implies, D_X2_paint, mj_F_aload_n_k, mj_F_arraylength, mj_F_bastore, mj_F_bipush_n, mj_F_getfield_i, mj_F_goto_off, mj_F_iastore, mj_F_iconst_n, mj_F_if_icmp_ge_off, mj_F_if_icmp_gt_off, mj_F_iinc_k_n, mj_F_iload_k, mj_F_iload_n_k, mj_F_invokestatic_i, mj_F_istore_k, mj_F_return_, mj_set, mj_set0, mj_unk, mj_c2, mj_kc, FT_X2, List.take_succ_cons, List.take_zero, List.drop_succ_cons, List.drop_zero, List.reverse_cons, List.reverse_nil, List.length_cons, List.length_nil, gS_C1, gCf2_0, gS_C2, sS_Ca_2, gCf2_1, gS_C3, sS_Ca_3, gCf2_4, gS_C6, sS_Ca_6, mj_nk, mj_isA, J_X2_paint]
  exact (ok_some hw :)

set_option maxHeartbeats 4000000 in
theorem g_X2_paint_46 {k : Option Value → mj_H → Prop} {G : mj_K} (hG : mj_cl2 cX2_paint (TbX2 6 (none) []) k G) (hM : mj_ml cX2_paint yX2_paint.cls G)   {v5 : Int32} {s : St} (hw : ok (F_X2_paint_46 v5 s) (fun p => k none (mkCs p))) : G 46 [.ref 1, mj_unk, mj_unk, mj_unk, mj_unk, .int v5] [] (mkCs s) 0 0 := by
  unfold F_X2_paint_46 at hw
  refine lp_ok (B_X2_paint_46 ) (fun x => G 46 [.ref 1, mj_unk, mj_unk, mj_unk, mj_unk, .int x.1] [] (mkCs x.2) 0 0) _ ?_ _ _ (ok_bind hw)
  rintro ⟨v5, s⟩ hb
  exact b_X2_paint_46 hG hM (fun _ z => z) (fun y hw => by exact hG.2 _ _ _ _ _ _ _ _ _ (by exact trivial) (Nat.zero_le _) (Nat.zero_le _) (g_X2_paint_70 hG hM  hw :)) hb

set_option maxHeartbeats 4000000 in
set_option maxRecDepth 20000 in
theorem g_X2_paint_43 {k : Option Value → mj_H → Prop} {G : mj_K} (hG : mj_cl2 cX2_paint (TbX2 6 (none) []) k G) (hM : mj_ml cX2_paint yX2_paint.cls G)   {s : St} (hw : ok (F_X2_paint_43 s) (fun p => k none (mkCs p))) : G 43 [.ref 1] [] (mkCs s) 0 0 := by
  unfold F_X2_paint_43 at hw
  refine mj_run hG.1 (fun pc => pc == 2 || pc == 7 || pc == 43 || pc == 46 || pc == 70) 4000 ?_
  simp only [mj_step, mj_W_s, mj_fin, List.getElem?_cons_zero, List.getElem?_cons_succ, mj_go, Nat.reduceAdd, Nat.reduceSub, Nat.reduceLT, Nat.reduceLeDiff, Nat.zero_add, Nat.reduceEqDiff, Nat.reduceBEq, ↓reduceIte, Bool.false_eq_true, List.append_nil, List.nil_append, List.cons_append, Option.toList, and_true, true_and, true_or, or_true, reduceCtorEq, List.map_nil, bI_eq0, bI_eq1, bool_ft, pk_us, Bool.or_false, Bool.or_true, Bool.false_or, Bool.true_or, mj_kne, eq_self, Int32.reduceLT, Int32.reduceLE, Int32.reduceAdd, Int32.reduceSub, Int32.reduceMul, not_true_eq_false, not_false_eq_true, false_implies, true_implies, D_X2_paint, mj_F_aload_n_k, mj_F_arraylength, mj_F_bastore, mj_F_bipush_n, mj_F_getfield_i, mj_F_goto_off, mj_F_iastore, mj_F_iconst_n, mj_F_if_icmp_ge_off, mj_F_if_icmp_gt_off, mj_F_iinc_k_n, mj_F_iload_k, mj_F_iload_n_k, mj_F_invokestatic_i, mj_F_istore_k, mj_F_return_, mj_set, mj_set0, mj_unk, mj_c2, mj_kc, FT_X2, List.take_succ_cons, List.take_zero, List.drop_succ_cons, List.drop_zero, List.reverse_cons, List.reverse_nil, List.length_cons, List.length_nil, gS_C1, gCf2_0, gS_C2, sS_Ca_2, gCf2_1, gS_C3, sS_Ca_3, gCf2_4, gS_C6, sS_Ca_6, mj_nk, mj_isA, J_X2_paint]
  exact hG.2 _ _ _ _ _ _ _ _ _ (by refine ⟨Or.inr rfl, ?_⟩; refine ⟨Or.inl rfl, ?_⟩; refine ⟨Or.inl rfl, ?_⟩; refine ⟨Or.inl rfl, ?_⟩; refine ⟨Or.inl rfl, ?_⟩; refine ⟨Or.inr rfl, ?_⟩; exact trivial) (Nat.zero_le _) (Nat.zero_le _) (g_X2_paint_46 hG hM  hw :)

set_option maxHeartbeats 4000000 in
theorem g_X2_paint_7 {k : Option Value → mj_H → Prop} {G : mj_K} (hG : mj_cl2 cX2_paint (TbX2 6 (none) []) k G) (hM : mj_ml cX2_paint yX2_paint.cls G)   {v2 : Int32} {v3 : Int32} {v4 : Int32} {v5 : Int32} {s : St} (hw : ok (F_X2_paint_7 v2 v3 v4 v5 s) (fun p => k none (mkCs p))) : G 7 [.ref 1, mj_unk, .int v2, .int v3, .int v4, .int v5] [] (mkCs s) 0 0 := by
  unfold F_X2_paint_7 at hw
  refine lp_ok (B_X2_paint_7 v2 v3 v4) (fun x => G 7 [.ref 1, mj_unk, .int v2, .int v3, .int v4, .int x.1] [] (mkCs x.2) 0 0) _ ?_ _ _ (ok_bind hw)
  rintro ⟨v5, s⟩ hb
  exact b_X2_paint_7 hG hM (fun _ z => z) (fun y hw => by exact hG.2 _ _ _ _ _ _ _ _ _ (by refine ⟨Or.inr rfl, ?_⟩; exact trivial) (Nat.zero_le _) (Nat.zero_le _) (g_X2_paint_43 hG hM  hw :)) hb

set_option maxHeartbeats 4000000 in
set_option maxRecDepth 20000 in
theorem g_X2_paint {k : Option Value → mj_H → Prop} {G : mj_K} (hG : mj_cl2 cX2_paint (TbX2 6 (none) []) k G) (hM : mj_ml cX2_paint yX2_paint.cls G) {v1 : Int32} {v2 : Int32} {v3 : Int32} {v4 : Int32} {s : St} (hw : ok (F_X2_paint v1 v2 v3 v4 s) (fun p => k none (mkCs p))) : G 0 [.ref 1, .int v1, .int v2, .int v3, .int v4] [] (mkCs s) 0 0 := by
  unfold F_X2_paint at hw
  refine mj_run hG.1 (fun pc => pc == 2 || pc == 7 || pc == 43 || pc == 46 || pc == 70) 4000 ?_
  simp only [mj_step, mj_W_s, mj_fin, List.getElem?_cons_zero, List.getElem?_cons_succ, mj_go, Nat.reduceAdd, Nat.reduceSub, Nat.reduceLT, Nat.reduceLeDiff, Nat.zero_add, Nat.reduceEqDiff, Nat.reduceBEq, ↓reduceIte, Bool.false_eq_true, List.append_nil, List.nil_append, List.cons_append, Option.toList, and_true, true_and, true_or, or_true, reduceCtorEq, List.map_nil, bI_eq0, bI_eq1, bool_ft, pk_us, Bool.or_false, Bool.or_true, Bool.false_or, Bool.true_or, mj_kne, eq_self, Int32.reduceLT, Int32.reduceLE, Int32.reduceAdd, Int32.reduceSub, Int32.reduceMul, not_true_eq_false, not_false_eq_true, false_implies, true_implies, D_X2_paint, mj_F_aload_n_k, mj_F_arraylength, mj_F_bastore, mj_F_bipush_n, mj_F_getfield_i, mj_F_goto_off, mj_F_iastore, mj_F_iconst_n, mj_F_if_icmp_ge_off, mj_F_if_icmp_gt_off, mj_F_iinc_k_n, mj_F_iload_k, mj_F_iload_n_k, mj_F_invokestatic_i, mj_F_istore_k, mj_F_return_, mj_set, mj_set0, mj_unk, mj_c2, mj_kc, FT_X2, List.take_succ_cons, List.take_zero, List.drop_succ_cons, List.drop_zero, List.reverse_cons, List.reverse_nil, List.length_cons, List.length_nil, gS_C1, gCf2_0, gS_C2, sS_Ca_2, gCf2_1, gS_C3, sS_Ca_3, gCf2_4, gS_C6, sS_Ca_6, mj_nk, mj_isA, J_X2_paint]
  refine hM 2 36 1 _ _ _ _ _ _ _ _ (by simp only [D_X2_paint]) (lkX2_36) rfl (Nat.le_of_ble_eq_true rfl) ?_
  refine mj_run hG.1 (fun pc => pc == 2 || pc == 7 || pc == 43 || pc == 46 || pc == 70) 4000 ?_
  simp only [mj_step, mj_W_s, mj_fin, List.getElem?_cons_zero, List.getElem?_cons_succ, mj_go, Nat.reduceAdd, Nat.reduceSub, Nat.reduceLT, Nat.reduceLeDiff, Nat.zero_add, Nat.reduceEqDiff, Nat.reduceBEq, ↓reduceIte, Bool.false_eq_true, List.append_nil, List.nil_append, List.cons_append, Option.toList, and_true, true_and, true_or, or_true, reduceCtorEq, List.map_nil, bI_eq0, bI_eq1, bool_ft, pk_us, Bool.or_false, Bool.or_true, Bool.false_or, Bool.true_or, mj_kne, eq_self, Int32.reduceLT, Int32.reduceLE, Int32.reduceAdd, Int32.reduceSub, Int32.reduceMul, not_true_eq_false, not_false_eq_true, false_implies, true_implies, D_X2_paint, mj_F_aload_n_k, mj_F_arraylength, mj_F_bastore, mj_F_bipush_n, mj_F_getfield_i, mj_F_goto_off, mj_F_iastore, mj_F_iconst_n, mj_F_if_icmp_ge_off, mj_F_if_icmp_gt_off, mj_F_iinc_k_n, mj_F_iload_k, mj_F_iload_n_k, mj_F_invokestatic_i, mj_F_istore_k, mj_F_return_, mj_set, mj_set0, mj_unk, mj_c2, mj_kc, FT_X2, List.take_succ_cons, List.take_zero, List.drop_succ_cons, List.drop_zero, List.reverse_cons, List.reverse_nil, List.length_cons, List.length_nil, gS_C1, gCf2_0, gS_C2, sS_Ca_2, gCf2_1, gS_C3, sS_Ca_3, gCf2_4, gS_C6, sS_Ca_6, mj_nk, mj_isA, J_X2_paint]
  exact hG.2 _ _ _ _ _ _ _ _ _ (by refine ⟨Or.inr rfl, ?_⟩; refine ⟨Or.inl rfl, ?_⟩; refine ⟨Or.inr rfl, ?_⟩; refine ⟨Or.inr rfl, ?_⟩; refine ⟨Or.inr rfl, ?_⟩; refine ⟨Or.inr rfl, ?_⟩; exact trivial) (Nat.zero_le _) (Nat.zero_le _) (g_X2_paint_7 hG hM  hw :)

def c_X2_paint : mj_S := fun as h k => ∃ (v1 : Int32) (v2 : Int32) (v3 : Int32) (v4 : Int32) (s : St), as = [.ref 1, .int v1, .int v2, .int v3, .int v4] ∧ h = mkCs s ∧ ok (F_X2_paint v1 v2 v3 v4 s) (fun p => k none (mkCs p))
theorem c_X2_paint_in {v1 : Int32} {v2 : Int32} {v3 : Int32} {v4 : Int32} {s : St} {k : Option Value → mj_H → Prop} (hw : ok (F_X2_paint v1 v2 v3 v4 s) (fun p => k none (mkCs p))) : c_X2_paint [.ref 1, .int v1, .int v2, .int v3, .int v4] (mkCs s) k := ⟨v1, v2, v3, v4, s, rfl, rfl, hw⟩
theorem m_X2_paint (l : Launch) : mj_Met l yX2_paint cX2_paint 6 (none) 1 0 0 c_X2_paint := by
  refine mj_body3 false (TbX2 6 (none) []) (by decide) (by decide) rfl rfl (fun h => nomatch h) (tfX2 _ (fun _ h => nomatch h)) ?_
  rintro as h k ⟨v1, v2, v3, v4, s, rfl, rfl, hw⟩
  exact ⟨rfl, fun G hG hM => g_X2_paint hG hM hw⟩
def B_X11_draw_84 (v1 : Int32) (v2 : Int32) (v3 : Int32) (v4 : Int32) (v5 : Int32) (v6 : Int32) : Int32 × St → Option ((Int32 × St) ⊕ ((St)))
  | (v8, s) =>
  if (v2 + v4) ≤ v8 then
    some (.inr s)
  else
    (F_X2_paint ((v8 * 12) + v1) ((((v8 * 12) + v1) + v3) - 1) v5 v6 s).bind fun s1 =>
    some (.inl ((v8 + 1), s1))
def F_X11_draw_128 (s : St) : Option (Int32 × St) :=
  some (1, s)
def F_X11_draw_84 (v1 : Int32) (v2 : Int32) (v3 : Int32) (v4 : Int32) (v5 : Int32) (v6 : Int32) (v8 : Int32) (s : St) : Option (Int32 × St) :=
  (lp (B_X11_draw_84 v1 v2 v3 v4 v5 v6) FU (v8, s)).bind (fun y => F_X11_draw_128 y)
def F_X11_draw (v1 : Int32) (v2 : Int32) (v3 : Int32) (v4 : Int32) (v5 : Int32) (v6 : Int32) (s : St) : Option (Int32 × St) :=
  if inb v1 0 11 = false then
    some (0, s)
  else
    if inb v2 0 9 = false then
      some (0, s)
    else
      if inb v3 1 (12 - v1) = false then
        some (0, s)
      else
        if inb v4 1 (10 - v2) = false then
          some (0, s)
        else
          if inb v5 1 99 = false then
            some (0, s)
          else
            if inb v6 0 99 = false then
              some (0, s)
            else
              F_X11_draw_84 v1 v2 v3 v4 v5 v6 v2 s
theorem J_X11_draw : mj_t 7 42 = 49 ∧ mj_t 17 32 = 49 ∧ mj_t 29 20 = 49 ∧ mj_t 42 7 = 49 ∧ mj_t 46 4 = 50 ∧ mj_t 54 25 = 79 ∧ mj_t 65 14 = 79 ∧ mj_t 76 5 = 81 ∧ mj_t 90 38 = 128 ∧ mj_t 125 (-41) = 84 ∧ (0 ≤ ((7 : Nat) : Int) + 42) = True ∧ (0 ≤ ((17 : Nat) : Int) + 32) = True ∧ (0 ≤ ((29 : Nat) : Int) + 20) = True ∧ (0 ≤ ((42 : Nat) : Int) + 7) = True ∧ (0 ≤ ((46 : Nat) : Int) + 4) = True ∧ (0 ≤ ((54 : Nat) : Int) + 25) = True ∧ (0 ≤ ((65 : Nat) : Int) + 14) = True ∧ (0 ≤ ((76 : Nat) : Int) + 5) = True ∧ (0 ≤ ((90 : Nat) : Int) + 38) = True ∧ (0 ≤ ((125 : Nat) : Int) + (-41)) = True := by and_intros <;> first | rfl | exact eq_true (by decide)
def ct_X11_draw : List (Nat × mj_Cs) := [(96, 2, 3, 11, 0, 0, c_in), (114, 0, 5, 2, 0, 0, c_X2_paint)]
theorem L_X11_draw : mj_lk ct_X11_draw 96 = some (2, 3, 11, 0, 0, c_in) ∧ mj_lk ct_X11_draw 114 = some (0, 5, 2, 0, 0, c_X2_paint) := ⟨rfl, rfl⟩
set_option maxHeartbeats 4000000 in
set_option maxRecDepth 20000 in
theorem b_X11_draw_84 {k : Option Value → mj_H → Prop} {G : mj_K} (hG : mj_cl2 cX11_draw (TbX11 9 ((some FieldType.boolean)) ct_X11_draw) k G) {v1 : Int32} {v2 : Int32} {v3 : Int32} {v4 : Int32} {v5 : Int32} {v6 : Int32} {P : Int32 × St → Prop} {K : (St) → Prop} (hP : ∀ x, P x → G 84 [.ref 0, .int v1, .int v2, .int v3, .int v4, .int v5, .int v6, mj_unk, .int x.1] [] (mkCs x.2) 0 0) (hK0 : ∀ y, K y → G 128 [] [] (mkCs y) 0 0) {v8 : Int32} {s : St} (hw : ok (B_X11_draw_84 v1 v2 v3 v4 v5 v6 (v8, s)) (Sum.elim P K)) : G 84 [.ref 0, .int v1, .int v2, .int v3, .int v4, .int v5, .int v6, mj_unk, .int v8] [] (mkCs s) 0 0 := by
  unfold B_X11_draw_84 at hw
  refine mj_run hG.1 (fun pc => pc == 84 || pc == 122 || pc == 128) 4000 ?_
  simp only [mj_step, mj_W_s, mj_fin, List.getElem?_cons_zero, List.getElem?_cons_succ, mj_go, Nat.reduceAdd, Nat.reduceSub, Nat.reduceLT, Nat.reduceLeDiff, Nat.zero_add, Nat.reduceEqDiff, Nat.reduceBEq, ↓reduceIte, Bool.false_eq_true, List.append_nil, List.nil_append, List.cons_append, Option.toList, and_true, true_and, true_or, or_true, reduceCtorEq, List.map_nil, bI_eq0, bI_eq1, bool_ft, pk_us, Bool.or_false, Bool.or_true, Bool.false_or, Bool.true_or, mj_kne, eq_self, Int32.reduceLT, Int32.reduceLE, Int32.reduceAdd, Int32.reduceSub, Int32.reduceMul, not_true_eq_false, not_false_eq_true, false_implies, true_implies, D_X11_draw_0, D_X11_draw_1, mj_F_aload_n_k, mj_F_bipush_n, mj_F_getfield_i, mj_F_goto_off, mj_F_iadd, mj_F_iconst_n, mj_F_ifCond_eq_off, mj_F_ifCond_ne_off, mj_F_if_icmp_ge_off, mj_F_iinc_k_n, mj_F_iload_k, mj_F_iload_n_k, mj_F_imul, mj_F_invokestatic_i, mj_F_invokevirtual_i, mj_F_ireturn, mj_F_istore_k, mj_F_isub, mj_set, mj_set0, mj_unk, mj_c2, mj_kc, FT_X11, L_X11_draw, List.take_succ_cons, List.take_zero, List.drop_succ_cons, List.drop_zero, List.reverse_cons, List.reverse_nil, List.length_cons, List.length_nil, gS_C0, gCf11_1, c_in_eq, gS_C1, J_X11_draw]
  refine ⟨fun c => ?_, fun c => ?_⟩
  · replace hw := ok_t hw c
    exact hG.2 _ _ _ _ _ _ _ _ _ (by exact trivial) (Nat.zero_le _) (Nat.zero_le _) (hK0 _ (ok_some hw :) :)
  · replace hw := ok_f hw c
    refine c_X2_paint_in (ok_imp (ok_bind hw) ?_)
    intro p hw
    simp only [Option.toList, List.nil_append, List.cons_append, Nat.reduceSub]
    refine mj_run hG.1 (fun pc => pc == 84 || pc == 122 || pc == 128) 4000 ?_
    simp only [mj_step, mj_W_s, mj_fin, List.getElem?_cons_zero, List.getElem?_cons_succ, mj_go, Nat.reduceAdd, Nat.reduceSub, Nat.reduceLT, Nat.reduceLeDiff, Nat.zero_add, Nat.reduceEqDiff, Nat.reduceBEq, ↓reduceIte, Bool.false_eq_true, List.append_nil, List.nil_append, List.cons_append, Option.toList, and_true, true_and, true_or, or_true, reduceCtorEq, List.map_nil, bI_eq0, bI_eq1, bool_ft, pk_us, Bool.or_false, Bool.or_true, Bool.false_or, Bool.true_or, mj_kne, eq_self, Int32.reduceLT, Int32.reduceLE, Int32.reduceAdd, Int32.reduceSub, Int32.reduceMul, not_true_eq_false, not_false_eq_true, false_implies, true_implies, D_X11_draw_0, D_X11_draw_1, mj_F_aload_n_k, mj_F_bipush_n, mj_F_getfield_i, mj_F_goto_off, mj_F_iadd, mj_F_iconst_n, mj_F_ifCond_eq_off, mj_F_ifCond_ne_off, mj_F_if_icmp_ge_off, mj_F_iinc_k_n, mj_F_iload_k, mj_F_iload_n_k, mj_F_imul, mj_F_invokestatic_i, mj_F_invokevirtual_i, mj_F_ireturn, mj_F_istore_k, mj_F_isub, mj_set, mj_set0, mj_unk, mj_c2, mj_kc, FT_X11, L_X11_draw, List.take_succ_cons, List.take_zero, List.drop_succ_cons, List.drop_zero, List.reverse_cons, List.reverse_nil, List.length_cons, List.length_nil, gS_C0, gCf11_1, c_in_eq, gS_C1, J_X11_draw]
    exact hG.2 _ _ _ _ _ _ _ _ _ (by refine ⟨Or.inr rfl, ?_⟩; refine ⟨Or.inr rfl, ?_⟩; refine ⟨Or.inr rfl, ?_⟩; refine ⟨Or.inr rfl, ?_⟩; refine ⟨Or.inr rfl, ?_⟩; refine ⟨Or.inr rfl, ?_⟩; refine ⟨Or.inr rfl, ?_⟩; refine ⟨Or.inl rfl, ?_⟩; refine ⟨Or.inr rfl, ?_⟩; exact trivial) (Nat.zero_le _) (Nat.zero_le _) (hP _ (ok_some hw :) :)

set_option maxHeartbeats 4000000 in
set_option maxRecDepth 20000 in
theorem g_X11_draw_128 {k : Option Value → mj_H → Prop} {G : mj_K} (hG : mj_cl2 cX11_draw (TbX11 9 ((some FieldType.boolean)) ct_X11_draw) k G)   {s : St} (hw : ok (F_X11_draw_128 s) (fun p => k (some (.int p.1)) (mkCs p.2))) : G 128 [] [] (mkCs s) 0 0 := by
  unfold F_X11_draw_128 at hw
  refine mj_run hG.1 (fun pc => pc == 84 || pc == 122 || pc == 128) 4000 ?_
  simp only [mj_step, mj_W_s, mj_fin, List.getElem?_cons_zero, List.getElem?_cons_succ, mj_go, Nat.reduceAdd, Nat.reduceSub, Nat.reduceLT, Nat.reduceLeDiff, Nat.zero_add, Nat.reduceEqDiff, Nat.reduceBEq, ↓reduceIte, Bool.false_eq_true, List.append_nil, List.nil_append, List.cons_append, Option.toList, and_true, true_and, true_or, or_true, reduceCtorEq, List.map_nil, bI_eq0, bI_eq1, bool_ft, pk_us, Bool.or_false, Bool.or_true, Bool.false_or, Bool.true_or, mj_kne, eq_self, Int32.reduceLT, Int32.reduceLE, Int32.reduceAdd, Int32.reduceSub, Int32.reduceMul, not_true_eq_false, not_false_eq_true, false_implies, true_implies, D_X11_draw_0, D_X11_draw_1, mj_F_aload_n_k, mj_F_bipush_n, mj_F_getfield_i, mj_F_goto_off, mj_F_iadd, mj_F_iconst_n, mj_F_ifCond_eq_off, mj_F_ifCond_ne_off, mj_F_if_icmp_ge_off, mj_F_iinc_k_n, mj_F_iload_k, mj_F_iload_n_k, mj_F_imul, mj_F_invokestatic_i, mj_F_invokevirtual_i, mj_F_ireturn, mj_F_istore_k, mj_F_isub, mj_set, mj_set0, mj_unk, mj_c2, mj_kc, FT_X11, L_X11_draw, List.take_succ_cons, List.take_zero, List.drop_succ_cons, List.drop_zero, List.reverse_cons, List.reverse_nil, List.length_cons, List.length_nil, gS_C0, gCf11_1, c_in_eq, gS_C1, J_X11_draw]
  exact (ok_some hw :)

set_option maxHeartbeats 4000000 in
theorem g_X11_draw_84 {k : Option Value → mj_H → Prop} {G : mj_K} (hG : mj_cl2 cX11_draw (TbX11 9 ((some FieldType.boolean)) ct_X11_draw) k G)   {v1 : Int32} {v2 : Int32} {v3 : Int32} {v4 : Int32} {v5 : Int32} {v6 : Int32} {v8 : Int32} {s : St} (hw : ok (F_X11_draw_84 v1 v2 v3 v4 v5 v6 v8 s) (fun p => k (some (.int p.1)) (mkCs p.2))) : G 84 [.ref 0, .int v1, .int v2, .int v3, .int v4, .int v5, .int v6, mj_unk, .int v8] [] (mkCs s) 0 0 := by
  unfold F_X11_draw_84 at hw
  refine lp_ok (B_X11_draw_84 v1 v2 v3 v4 v5 v6) (fun x => G 84 [.ref 0, .int v1, .int v2, .int v3, .int v4, .int v5, .int v6, mj_unk, .int x.1] [] (mkCs x.2) 0 0) _ ?_ _ _ (ok_bind hw)
  rintro ⟨v8, s⟩ hb
  exact b_X11_draw_84 hG (fun _ z => z) (fun y hw => by exact hG.2 _ _ _ _ _ _ _ _ _ (by exact trivial) (Nat.zero_le _) (Nat.zero_le _) (g_X11_draw_128 hG  hw :)) hb

set_option maxHeartbeats 4000000 in
set_option maxRecDepth 20000 in
theorem g_X11_draw {k : Option Value → mj_H → Prop} {G : mj_K} (hG : mj_cl2 cX11_draw (TbX11 9 ((some FieldType.boolean)) ct_X11_draw) k G) {v1 : Int32} {v2 : Int32} {v3 : Int32} {v4 : Int32} {v5 : Int32} {v6 : Int32} {s : St} (hw : ok (F_X11_draw v1 v2 v3 v4 v5 v6 s) (fun p => k (some (.int p.1)) (mkCs p.2))) : G 0 [.ref 0, .int v1, .int v2, .int v3, .int v4, .int v5, .int v6] [] (mkCs s) 0 0 := by
  unfold F_X11_draw at hw
  refine mj_run hG.1 (fun pc => pc == 84 || pc == 122 || pc == 128) 4000 ?_
  simp only [mj_step, mj_W_s, mj_fin, List.getElem?_cons_zero, List.getElem?_cons_succ, mj_go, Nat.reduceAdd, Nat.reduceSub, Nat.reduceLT, Nat.reduceLeDiff, Nat.zero_add, Nat.reduceEqDiff, Nat.reduceBEq, ↓reduceIte, Bool.false_eq_true, List.append_nil, List.nil_append, List.cons_append, Option.toList, and_true, true_and, true_or, or_true, reduceCtorEq, List.map_nil, bI_eq0, bI_eq1, bool_ft, pk_us, Bool.or_false, Bool.or_true, Bool.false_or, Bool.true_or, mj_kne, eq_self, Int32.reduceLT, Int32.reduceLE, Int32.reduceAdd, Int32.reduceSub, Int32.reduceMul, not_true_eq_false, not_false_eq_true, false_implies, true_implies, D_X11_draw_0, D_X11_draw_1, mj_F_aload_n_k, mj_F_bipush_n, mj_F_getfield_i, mj_F_goto_off, mj_F_iadd, mj_F_iconst_n, mj_F_ifCond_eq_off, mj_F_ifCond_ne_off, mj_F_if_icmp_ge_off, mj_F_iinc_k_n, mj_F_iload_k, mj_F_iload_n_k, mj_F_imul, mj_F_invokestatic_i, mj_F_invokevirtual_i, mj_F_ireturn, mj_F_istore_k, mj_F_isub, mj_set, mj_set0, mj_unk, mj_c2, mj_kc, FT_X11, L_X11_draw, List.take_succ_cons, List.take_zero, List.drop_succ_cons, List.drop_zero, List.reverse_cons, List.reverse_nil, List.length_cons, List.length_nil, gS_C0, gCf11_1, c_in_eq, gS_C1, J_X11_draw]
  refine ⟨fun c => ?_, fun c => ?_⟩
  · replace hw := ok_t hw c
    exact (ok_some hw :)
  · replace hw := ok_f hw c
    refine ⟨fun c => ?_, fun c => ?_⟩
    · replace hw := ok_t hw c
      exact (ok_some hw :)
    · replace hw := ok_f hw c
      refine ⟨fun c => ?_, fun c => ?_⟩
      · replace hw := ok_t hw c
        exact (ok_some hw :)
      · replace hw := ok_f hw c
        refine ⟨fun c => ?_, fun c => ?_⟩
        · replace hw := ok_t hw c
          exact (ok_some hw :)
        · replace hw := ok_f hw c
          refine ⟨fun c => ?_, fun c => ?_⟩
          · replace hw := ok_t hw c
            exact (ok_some hw :)
          · replace hw := ok_f hw c
            refine ⟨fun c => ?_, fun c => ?_⟩
            · replace hw := ok_f hw c
              exact hG.2 _ _ _ _ _ _ _ _ _ (by refine ⟨Or.inr rfl, ?_⟩; refine ⟨Or.inr rfl, ?_⟩; refine ⟨Or.inr rfl, ?_⟩; refine ⟨Or.inr rfl, ?_⟩; refine ⟨Or.inr rfl, ?_⟩; refine ⟨Or.inr rfl, ?_⟩; refine ⟨Or.inr rfl, ?_⟩; refine ⟨Or.inl rfl, ?_⟩; refine ⟨Or.inr rfl, ?_⟩; exact trivial) (Nat.zero_le _) (Nat.zero_le _) (g_X11_draw_84 hG  hw :)
            · replace hw := ok_t hw c
              exact (ok_some hw :)

def c_X11_draw : mj_S := fun as h k => ∃ (v1 : Int32) (v2 : Int32) (v3 : Int32) (v4 : Int32) (v5 : Int32) (v6 : Int32) (s : St), as = [.ref 0, .int v1, .int v2, .int v3, .int v4, .int v5, .int v6] ∧ h = mkCs s ∧ ok (F_X11_draw v1 v2 v3 v4 v5 v6 s) (fun p => k (some (.int p.1)) (mkCs p.2))
theorem c_X11_draw_in {v1 : Int32} {v2 : Int32} {v3 : Int32} {v4 : Int32} {v5 : Int32} {v6 : Int32} {s : St} {k : Option Value → mj_H → Prop} (hw : ok (F_X11_draw v1 v2 v3 v4 v5 v6 s) (fun p => k (some (.int p.1)) (mkCs p.2))) : c_X11_draw [.ref 0, .int v1, .int v2, .int v3, .int v4, .int v5, .int v6] (mkCs s) k := ⟨v1, v2, v3, v4, v5, v6, s, rfl, rfl, hw⟩
theorem m_X11_draw (l : Launch) : mj_Met l yX11_draw cX11_draw 9 ((some FieldType.boolean)) 2 0 0 c_X11_draw := by
  refine mj_body2 false (TbX11 9 ((some FieldType.boolean)) ct_X11_draw) (by decide) rfl rfl (fun h => nomatch h) (tfX11 _ (List.forall_mem_cons.mpr ⟨cfX11_96 (m_X11_within l) (by decide), List.forall_mem_cons.mpr ⟨cfX11_114 (m_X2_paint l) (by decide), fun _ h => nomatch h⟩⟩)) ?_
  rintro as h k ⟨v1, v2, v3, v4, v5, v6, s, rfl, rfl, hw⟩
  exact ⟨rfl, fun G hG => g_X11_draw hG hw⟩
def F_X2_ease (v0 : Int32) (v1 : Nat) (v2 : Nat) (s : St) : Option (Int32 × St) :=
  (ra s v1 v0).bind fun x1 =>
  if x1 = 0 then
    some (0, s)
  else
    if (v0 - v0 / 12 * 12) ≤ 0 then
      if 11 ≤ (v0 - v0 / 12 * 12) then
        if v0 < 12 then
          if 108 ≤ v0 then
            (ra s v1 v0).bind fun x2 =>
            (ra s v2 v0).bind fun x3 =>
            if (100000000 + x2) < x3 then
              (ra s v1 v0).bind fun x4 =>
              (wa s v2 v0 (100000000 + x4)).bind fun s5 =>
              some (1, s5)
            else
              some (0, s)
          else
            (ra s v2 (v0 + 12)).bind fun x6 =>
            (ra s v1 v0).bind fun x7 =>
            (ra s v2 v0).bind fun x8 =>
            if ((zmn 100000000 x6) + x7) < x8 then
              (ra s v1 v0).bind fun x9 =>
              (wa s v2 v0 ((zmn 100000000 x6) + x9)).bind fun s10 =>
              some (1, s10)
            else
              some (0, s)
        else
          (ra s v2 (v0 - 12)).bind fun x11 =>
          if 108 ≤ v0 then
            (ra s v1 v0).bind fun x12 =>
            (ra s v2 v0).bind fun x13 =>
            if ((zmn 100000000 x11) + x12) < x13 then
              (ra s v1 v0).bind fun x14 =>
              (wa s v2 v0 ((zmn 100000000 x11) + x14)).bind fun s15 =>
              some (1, s15)
            else
              some (0, s)
          else
            (ra s v2 (v0 + 12)).bind fun x16 =>
            (ra s v1 v0).bind fun x17 =>
            (ra s v2 v0).bind fun x18 =>
            if ((zmn (zmn 100000000 x11) x16) + x17) < x18 then
              (ra s v1 v0).bind fun x19 =>
              (wa s v2 v0 ((zmn (zmn 100000000 x11) x16) + x19)).bind fun s20 =>
              some (1, s20)
            else
              some (0, s)
      else
        (ra s v2 (v0 + 1)).bind fun x21 =>
        if v0 < 12 then
          if 108 ≤ v0 then
            (ra s v1 v0).bind fun x22 =>
            (ra s v2 v0).bind fun x23 =>
            if ((zmn 100000000 x21) + x22) < x23 then
              (ra s v1 v0).bind fun x24 =>
              (wa s v2 v0 ((zmn 100000000 x21) + x24)).bind fun s25 =>
              some (1, s25)
            else
              some (0, s)
          else
            (ra s v2 (v0 + 12)).bind fun x26 =>
            (ra s v1 v0).bind fun x27 =>
            (ra s v2 v0).bind fun x28 =>
            if ((zmn (zmn 100000000 x21) x26) + x27) < x28 then
              (ra s v1 v0).bind fun x29 =>
              (wa s v2 v0 ((zmn (zmn 100000000 x21) x26) + x29)).bind fun s30 =>
              some (1, s30)
            else
              some (0, s)
        else
          (ra s v2 (v0 - 12)).bind fun x31 =>
          if 108 ≤ v0 then
            (ra s v1 v0).bind fun x32 =>
            (ra s v2 v0).bind fun x33 =>
            if ((zmn (zmn 100000000 x21) x31) + x32) < x33 then
              (ra s v1 v0).bind fun x34 =>
              (wa s v2 v0 ((zmn (zmn 100000000 x21) x31) + x34)).bind fun s35 =>
              some (1, s35)
            else
              some (0, s)
          else
            (ra s v2 (v0 + 12)).bind fun x36 =>
            (ra s v1 v0).bind fun x37 =>
            (ra s v2 v0).bind fun x38 =>
            if ((zmn (zmn (zmn 100000000 x21) x31) x36) + x37) < x38 then
              (ra s v1 v0).bind fun x39 =>
              (wa s v2 v0 ((zmn (zmn (zmn 100000000 x21) x31) x36) + x39)).bind fun s40 =>
              some (1, s40)
            else
              some (0, s)
    else
      (ra s v2 (v0 - 1)).bind fun x41 =>
      if 11 ≤ (v0 - v0 / 12 * 12) then
        if v0 < 12 then
          if 108 ≤ v0 then
            (ra s v1 v0).bind fun x42 =>
            (ra s v2 v0).bind fun x43 =>
            if ((zmn 100000000 x41) + x42) < x43 then
              (ra s v1 v0).bind fun x44 =>
              (wa s v2 v0 ((zmn 100000000 x41) + x44)).bind fun s45 =>
              some (1, s45)
            else
              some (0, s)
          else
            (ra s v2 (v0 + 12)).bind fun x46 =>
            (ra s v1 v0).bind fun x47 =>
            (ra s v2 v0).bind fun x48 =>
            if ((zmn (zmn 100000000 x41) x46) + x47) < x48 then
              (ra s v1 v0).bind fun x49 =>
              (wa s v2 v0 ((zmn (zmn 100000000 x41) x46) + x49)).bind fun s50 =>
              some (1, s50)
            else
              some (0, s)
        else
          (ra s v2 (v0 - 12)).bind fun x51 =>
          if 108 ≤ v0 then
            (ra s v1 v0).bind fun x52 =>
            (ra s v2 v0).bind fun x53 =>
            if ((zmn (zmn 100000000 x41) x51) + x52) < x53 then
              (ra s v1 v0).bind fun x54 =>
              (wa s v2 v0 ((zmn (zmn 100000000 x41) x51) + x54)).bind fun s55 =>
              some (1, s55)
            else
              some (0, s)
          else
            (ra s v2 (v0 + 12)).bind fun x56 =>
            (ra s v1 v0).bind fun x57 =>
            (ra s v2 v0).bind fun x58 =>
            if ((zmn (zmn (zmn 100000000 x41) x51) x56) + x57) < x58 then
              (ra s v1 v0).bind fun x59 =>
              (wa s v2 v0 ((zmn (zmn (zmn 100000000 x41) x51) x56) + x59)).bind fun s60 =>
              some (1, s60)
            else
              some (0, s)
      else
        (ra s v2 (v0 + 1)).bind fun x61 =>
        if v0 < 12 then
          if 108 ≤ v0 then
            (ra s v1 v0).bind fun x62 =>
            (ra s v2 v0).bind fun x63 =>
            if ((zmn (zmn 100000000 x41) x61) + x62) < x63 then
              (ra s v1 v0).bind fun x64 =>
              (wa s v2 v0 ((zmn (zmn 100000000 x41) x61) + x64)).bind fun s65 =>
              some (1, s65)
            else
              some (0, s)
          else
            (ra s v2 (v0 + 12)).bind fun x66 =>
            (ra s v1 v0).bind fun x67 =>
            (ra s v2 v0).bind fun x68 =>
            if ((zmn (zmn (zmn 100000000 x41) x61) x66) + x67) < x68 then
              (ra s v1 v0).bind fun x69 =>
              (wa s v2 v0 ((zmn (zmn (zmn 100000000 x41) x61) x66) + x69)).bind fun s70 =>
              some (1, s70)
            else
              some (0, s)
        else
          (ra s v2 (v0 - 12)).bind fun x71 =>
          if 108 ≤ v0 then
            (ra s v1 v0).bind fun x72 =>
            (ra s v2 v0).bind fun x73 =>
            if ((zmn (zmn (zmn 100000000 x41) x61) x71) + x72) < x73 then
              (ra s v1 v0).bind fun x74 =>
              (wa s v2 v0 ((zmn (zmn (zmn 100000000 x41) x61) x71) + x74)).bind fun s75 =>
              some (1, s75)
            else
              some (0, s)
          else
            (ra s v2 (v0 + 12)).bind fun x76 =>
            (ra s v1 v0).bind fun x77 =>
            (ra s v2 v0).bind fun x78 =>
            if ((zmn (zmn (zmn (zmn 100000000 x41) x61) x71) x76) + x77) < x78 then
              (ra s v1 v0).bind fun x79 =>
              (wa s v2 v0 ((zmn (zmn (zmn (zmn 100000000 x41) x61) x71) x76) + x79)).bind fun s80 =>
              some (1, s80)
            else
              some (0, s)
theorem J_X2_ease : mj_t 3 5 = 8 ∧ mj_t 15 13 = 28 ∧ mj_t 34 13 = 47 ∧ mj_t 50 14 = 64 ∧ mj_t 67 14 = 81 ∧ mj_t 89 5 = 94 ∧ (0 ≤ ((3 : Nat) : Int) + 5) = True ∧ (0 ≤ ((15 : Nat) : Int) + 13) = True ∧ (0 ≤ ((34 : Nat) : Int) + 13) = True ∧ (0 ≤ ((50 : Nat) : Int) + 14) = True ∧ (0 ≤ ((67 : Nat) : Int) + 14) = True ∧ (0 ≤ ((89 : Nat) : Int) + 5) = True := by and_intros <;> first | rfl | exact eq_true (by decide)
set_option maxHeartbeats 4000000 in
set_option maxRecDepth 20000 in
theorem g_X2_ease {k : Option Value → mj_H → Prop} {G : mj_K} (hG : mj_cl2 cX2_ease (TbX2 4 ((some FieldType.boolean)) []) k G) (hM : mj_ml cX2_ease yX2_ease.cls G) {v0 : Int32} {v1 : Nat} {v2 : Nat} {s : St} (hw : ok (F_X2_ease v0 v1 v2 s) (fun p => k (some (.int p.1)) (mkCs p.2))) : G 0 [.int v0, .ref v1, .ref v2] [] (mkCs s) 0 0 := by
  unfold F_X2_ease at hw
  refine mj_run hG.1 (fun pc => pc == 2 || pc == 23 || pc == 24 || pc == 42 || pc == 43 || pc == 59 || pc == 60 || pc == 76 || pc == 77 || pc == 84 || pc == 88 || pc == 99 || pc == 101) 4000 ?_
  simp only [mj_step, mj_W_s, mj_fin, List.getElem?_cons_zero, List.getElem?_cons_succ, mj_go, Nat.reduceAdd, Nat.reduceSub, Nat.reduceLT, Nat.reduceLeDiff, Nat.zero_add, Nat.reduceEqDiff, Nat.reduceBEq, ↓reduceIte, Bool.false_eq_true, List.append_nil, List.nil_append, List.cons_append, Option.toList, and_true, true_and, true_or, or_true, reduceCtorEq, List.map_nil, bI_eq0, bI_eq1, bool_ft, pk_us, Bool.or_false, Bool.or_true, Bool.false_or, Bool.true_or, mj_kne, eq_self, Int32.reduceLT, Int32.reduceLE, Int32.reduceAdd, Int32.reduceSub, Int32.reduceMul, not_true_eq_false, not_false_eq_true, false_implies, true_implies, D_X2_ease_0, D_X2_ease_1, mj_F_aload_n_k, mj_F_bipush_n, mj_F_iadd, mj_F_iaload, mj_F_iastore, mj_F_iconst_n, mj_F_ifCond_le_off, mj_F_ifCond_ne_off, mj_F_if_icmp_ge_off, mj_F_if_icmp_lt_off, mj_F_iload_n_k, mj_F_invokestatic_i, mj_F_irem, mj_F_ireturn, mj_F_istore_n_k, mj_F_isub, mj_F_ldc_i, mj_set, mj_set0, mj_unk, mj_c2, mj_kc, KT_X2, List.take_succ_cons, List.take_zero, List.drop_succ_cons, List.drop_zero, List.reverse_cons, List.reverse_nil, List.length_cons, List.length_nil, J_X2_ease]
  obtain ⟨_, _, e81, z, hw⟩ := ok_ra hw
  refine mj_run hG.1 (fun pc => pc == 2 || pc == 23 || pc == 24 || pc == 42 || pc == 43 || pc == 59 || pc == 60 || pc == 76 || pc == 77 || pc == 84 || pc == 88 || pc == 99 || pc == 101) 4000 ?_
  simp only [e81, mj_step, mj_W_s, mj_fin, List.getElem?_cons_zero, List.getElem?_cons_succ, mj_go, Nat.reduceAdd, Nat.reduceSub, Nat.reduceLT, Nat.reduceLeDiff, Nat.zero_add, Nat.reduceEqDiff, Nat.reduceBEq, ↓reduceIte, Bool.false_eq_true, List.append_nil, List.nil_append, List.cons_append, Option.toList, and_true, true_and, true_or, or_true, reduceCtorEq, List.map_nil, bI_eq0, bI_eq1, bool_ft, pk_us, Bool.or_false, Bool.or_true, Bool.false_or, Bool.true_or, mj_kne, eq_self, Int32.reduceLT, Int32.reduceLE, Int32.reduceAdd, Int32.reduceSub, Int32.reduceMul, not_true_eq_false, not_false_eq_true, false_implies, true_implies, D_X2_ease_0, D_X2_ease_1, mj_F_aload_n_k, mj_F_bipush_n, mj_F_iadd, mj_F_iaload, mj_F_iastore, mj_F_iconst_n, mj_F_ifCond_le_off, mj_F_ifCond_ne_off, mj_F_if_icmp_ge_off, mj_F_if_icmp_lt_off, mj_F_iload_n_k, mj_F_invokestatic_i, mj_F_irem, mj_F_ireturn, mj_F_istore_n_k, mj_F_isub, mj_F_ldc_i, mj_set, mj_set0, mj_unk, mj_c2, mj_kc, KT_X2, List.take_succ_cons, List.take_zero, List.drop_succ_cons, List.drop_zero, List.reverse_cons, List.reverse_nil, List.length_cons, List.length_nil, J_X2_ease]
  refine ⟨z, ?_⟩
  refine ⟨fun c => ?_, fun c => ?_⟩
  · replace hw := ok_f hw c
    refine ⟨fun c => ?_, fun c => ?_⟩
    · replace hw := ok_t hw c
      refine ⟨fun c => ?_, fun c => ?_⟩
      · replace hw := ok_t hw c
        refine ⟨fun c => ?_, fun c => ?_⟩
        · replace hw := ok_t hw c
          refine ⟨fun c => ?_, fun c => ?_⟩
          · replace hw := ok_t hw c
            obtain ⟨_, _, e82, z, hw⟩ := ok_ra hw
            refine mj_run hG.1 (fun pc => pc == 2 || pc == 23 || pc == 24 || pc == 42 || pc == 43 || pc == 59 || pc == 60 || pc == 76 || pc == 77 || pc == 84 || pc == 88 || pc == 99 || pc == 101) 4000 ?_
            simp only [e82, mj_step, mj_W_s, mj_fin, List.getElem?_cons_zero, List.getElem?_cons_succ, mj_go, Nat.reduceAdd, Nat.reduceSub, Nat.reduceLT, Nat.reduceLeDiff, Nat.zero_add, Nat.reduceEqDiff, Nat.reduceBEq, ↓reduceIte, Bool.false_eq_true, List.append_nil, List.nil_append, List.cons_append, Option.toList, and_true, true_and, true_or, or_true, reduceCtorEq, List.map_nil, bI_eq0, bI_eq1, bool_ft, pk_us, Bool.or_false, Bool.or_true, Bool.false_or, Bool.true_or, mj_kne, eq_self, Int32.reduceLT, Int32.reduceLE, Int32.reduceAdd, Int32.reduceSub, Int32.reduceMul, not_true_eq_false, not_false_eq_true, false_implies, true_implies, D_X2_ease_0, D_X2_ease_1, mj_F_aload_n_k, mj_F_bipush_n, mj_F_iadd, mj_F_iaload, mj_F_iastore, mj_F_iconst_n, mj_F_ifCond_le_off, mj_F_ifCond_ne_off, mj_F_if_icmp_ge_off, mj_F_if_icmp_lt_off, mj_F_iload_n_k, mj_F_invokestatic_i, mj_F_irem, mj_F_ireturn, mj_F_istore_n_k, mj_F_isub, mj_F_ldc_i, mj_set, mj_set0, mj_unk, mj_c2, mj_kc, KT_X2, List.take_succ_cons, List.take_zero, List.drop_succ_cons, List.drop_zero, List.reverse_cons, List.reverse_nil, List.length_cons, List.length_nil, J_X2_ease]
            refine ⟨z, ?_⟩
            obtain ⟨_, _, e83, z, hw⟩ := ok_ra hw
            refine mj_run hG.1 (fun pc => pc == 2 || pc == 23 || pc == 24 || pc == 42 || pc == 43 || pc == 59 || pc == 60 || pc == 76 || pc == 77 || pc == 84 || pc == 88 || pc == 99 || pc == 101) 4000 ?_
            simp only [e83, mj_step, mj_W_s, mj_fin, List.getElem?_cons_zero, List.getElem?_cons_succ, mj_go, Nat.reduceAdd, Nat.reduceSub, Nat.reduceLT, Nat.reduceLeDiff, Nat.zero_add, Nat.reduceEqDiff, Nat.reduceBEq, ↓reduceIte, Bool.false_eq_true, List.append_nil, List.nil_append, List.cons_append, Option.toList, and_true, true_and, true_or, or_true, reduceCtorEq, List.map_nil, bI_eq0, bI_eq1, bool_ft, pk_us, Bool.or_false, Bool.or_true, Bool.false_or, Bool.true_or, mj_kne, eq_self, Int32.reduceLT, Int32.reduceLE, Int32.reduceAdd, Int32.reduceSub, Int32.reduceMul, not_true_eq_false, not_false_eq_true, false_implies, true_implies, D_X2_ease_0, D_X2_ease_1, mj_F_aload_n_k, mj_F_bipush_n, mj_F_iadd, mj_F_iaload, mj_F_iastore, mj_F_iconst_n, mj_F_ifCond_le_off, mj_F_ifCond_ne_off, mj_F_if_icmp_ge_off, mj_F_if_icmp_lt_off, mj_F_iload_n_k, mj_F_invokestatic_i, mj_F_irem, mj_F_ireturn, mj_F_istore_n_k, mj_F_isub, mj_F_ldc_i, mj_set, mj_set0, mj_unk, mj_c2, mj_kc, KT_X2, List.take_succ_cons, List.take_zero, List.drop_succ_cons, List.drop_zero, List.reverse_cons, List.reverse_nil, List.length_cons, List.length_nil, J_X2_ease]
            refine ⟨z, ?_⟩
            refine ⟨fun c => ?_, fun c => ?_⟩
            · replace hw := ok_t hw c
              obtain ⟨_, _, e84, z, hw⟩ := ok_ra hw
              refine mj_run hG.1 (fun pc => pc == 2 || pc == 23 || pc == 24 || pc == 42 || pc == 43 || pc == 59 || pc == 60 || pc == 76 || pc == 77 || pc == 84 || pc == 88 || pc == 99 || pc == 101) 4000 ?_
              simp only [e84, mj_step, mj_W_s, mj_fin, List.getElem?_cons_zero, List.getElem?_cons_succ, mj_go, Nat.reduceAdd, Nat.reduceSub, Nat.reduceLT, Nat.reduceLeDiff, Nat.zero_add, Nat.reduceEqDiff, Nat.reduceBEq, ↓reduceIte, Bool.false_eq_true, List.append_nil, List.nil_append, List.cons_append, Option.toList, and_true, true_and, true_or, or_true, reduceCtorEq, List.map_nil, bI_eq0, bI_eq1, bool_ft, pk_us, Bool.or_false, Bool.or_true, Bool.false_or, Bool.true_or, mj_kne, eq_self, Int32.reduceLT, Int32.reduceLE, Int32.reduceAdd, Int32.reduceSub, Int32.reduceMul, not_true_eq_false, not_false_eq_true, false_implies, true_implies, D_X2_ease_0, D_X2_ease_1, mj_F_aload_n_k, mj_F_bipush_n, mj_F_iadd, mj_F_iaload, mj_F_iastore, mj_F_iconst_n, mj_F_ifCond_le_off, mj_F_ifCond_ne_off, mj_F_if_icmp_ge_off, mj_F_if_icmp_lt_off, mj_F_iload_n_k, mj_F_invokestatic_i, mj_F_irem, mj_F_ireturn, mj_F_istore_n_k, mj_F_isub, mj_F_ldc_i, mj_set, mj_set0, mj_unk, mj_c2, mj_kc, KT_X2, List.take_succ_cons, List.take_zero, List.drop_succ_cons, List.drop_zero, List.reverse_cons, List.reverse_nil, List.length_cons, List.length_nil, J_X2_ease]
              refine ⟨z, ?_⟩
              obtain ⟨_, _, e85, z, z2, hw⟩ := ok_wa hw
              refine mj_run hG.1 (fun pc => pc == 2 || pc == 23 || pc == 24 || pc == 42 || pc == 43 || pc == 59 || pc == 60 || pc == 76 || pc == 77 || pc == 84 || pc == 88 || pc == 99 || pc == 101) 4000 ?_
              simp only [e85, z2, mj_step, mj_W_s, mj_fin, List.getElem?_cons_zero, List.getElem?_cons_succ, mj_go, Nat.reduceAdd, Nat.reduceSub, Nat.reduceLT, Nat.reduceLeDiff, Nat.zero_add, Nat.reduceEqDiff, Nat.reduceBEq, ↓reduceIte, Bool.false_eq_true, List.append_nil, List.nil_append, List.cons_append, Option.toList, and_true, true_and, true_or, or_true, reduceCtorEq, List.map_nil, bI_eq0, bI_eq1, bool_ft, pk_us, Bool.or_false, Bool.or_true, Bool.false_or, Bool.true_or, mj_kne, eq_self, Int32.reduceLT, Int32.reduceLE, Int32.reduceAdd, Int32.reduceSub, Int32.reduceMul, not_true_eq_false, not_false_eq_true, false_implies, true_implies, D_X2_ease_0, D_X2_ease_1, mj_F_aload_n_k, mj_F_bipush_n, mj_F_iadd, mj_F_iaload, mj_F_iastore, mj_F_iconst_n, mj_F_ifCond_le_off, mj_F_ifCond_ne_off, mj_F_if_icmp_ge_off, mj_F_if_icmp_lt_off, mj_F_iload_n_k, mj_F_invokestatic_i, mj_F_irem, mj_F_ireturn, mj_F_istore_n_k, mj_F_isub, mj_F_ldc_i, mj_set, mj_set0, mj_unk, mj_c2, mj_kc, KT_X2, List.take_succ_cons, List.take_zero, List.drop_succ_cons, List.drop_zero, List.reverse_cons, List.reverse_nil, List.length_cons, List.length_nil, J_X2_ease]
              refine ⟨z, ?_⟩
              exact (ok_some hw :)
            · replace hw := ok_f hw c
              exact (ok_some hw :)
          · replace hw := ok_f hw c
            obtain ⟨_, _, e86, z, hw⟩ := ok_ra hw
            refine mj_run hG.1 (fun pc => pc == 2 || pc == 23 || pc == 24 || pc == 42 || pc == 43 || pc == 59 || pc == 60 || pc == 76 || pc == 77 || pc == 84 || pc == 88 || pc == 99 || pc == 101) 4000 ?_
            simp only [e86, mj_step, mj_W_s, mj_fin, List.getElem?_cons_zero, List.getElem?_cons_succ, mj_go, Nat.reduceAdd, Nat.reduceSub, Nat.reduceLT, Nat.reduceLeDiff, Nat.zero_add, Nat.reduceEqDiff, Nat.reduceBEq, ↓reduceIte, Bool.false_eq_true, List.append_nil, List.nil_append, List.cons_append, Option.toList, and_true, true_and, true_or, or_true, reduceCtorEq, List.map_nil, bI_eq0, bI_eq1, bool_ft, pk_us, Bool.or_false, Bool.or_true, Bool.false_or, Bool.true_or, mj_kne, eq_self, Int32.reduceLT, Int32.reduceLE, Int32.reduceAdd, Int32.reduceSub, Int32.reduceMul, not_true_eq_false, not_false_eq_true, false_implies, true_implies, D_X2_ease_0, D_X2_ease_1, mj_F_aload_n_k, mj_F_bipush_n, mj_F_iadd, mj_F_iaload, mj_F_iastore, mj_F_iconst_n, mj_F_ifCond_le_off, mj_F_ifCond_ne_off, mj_F_if_icmp_ge_off, mj_F_if_icmp_lt_off, mj_F_iload_n_k, mj_F_invokestatic_i, mj_F_irem, mj_F_ireturn, mj_F_istore_n_k, mj_F_isub, mj_F_ldc_i, mj_set, mj_set0, mj_unk, mj_c2, mj_kc, KT_X2, List.take_succ_cons, List.take_zero, List.drop_succ_cons, List.drop_zero, List.reverse_cons, List.reverse_nil, List.length_cons, List.length_nil, J_X2_ease]
            refine ⟨z, ?_⟩
            refine hM 77 59 0 _ _ _ _ _ _ _ _ (by simp only [D_X2_ease_0, D_X2_ease_1]) (lkX2_59) rfl (Nat.le_of_ble_eq_true rfl) ?_
            refine mj_run hG.1 (fun pc => pc == 2 || pc == 23 || pc == 24 || pc == 42 || pc == 43 || pc == 59 || pc == 60 || pc == 76 || pc == 77 || pc == 84 || pc == 88 || pc == 99 || pc == 101) 4000 ?_
            simp only [mj_step, mj_W_s, mj_fin, List.getElem?_cons_zero, List.getElem?_cons_succ, mj_go, Nat.reduceAdd, Nat.reduceSub, Nat.reduceLT, Nat.reduceLeDiff, Nat.zero_add, Nat.reduceEqDiff, Nat.reduceBEq, ↓reduceIte, Bool.false_eq_true, List.append_nil, List.nil_append, List.cons_append, Option.toList, and_true, true_and, true_or, or_true, reduceCtorEq, List.map_nil, bI_eq0, bI_eq1, bool_ft, pk_us, Bool.or_false, Bool.or_true, Bool.false_or, Bool.true_or, mj_kne, eq_self, Int32.reduceLT, Int32.reduceLE, Int32.reduceAdd, Int32.reduceSub, Int32.reduceMul, not_true_eq_false, not_false_eq_true, false_implies, true_implies, D_X2_ease_0, D_X2_ease_1, mj_F_aload_n_k, mj_F_bipush_n, mj_F_iadd, mj_F_iaload, mj_F_iastore, mj_F_iconst_n, mj_F_ifCond_le_off, mj_F_ifCond_ne_off, mj_F_if_icmp_ge_off, mj_F_if_icmp_lt_off, mj_F_iload_n_k, mj_F_invokestatic_i, mj_F_irem, mj_F_ireturn, mj_F_istore_n_k, mj_F_isub, mj_F_ldc_i, mj_set, mj_set0, mj_unk, mj_c2, mj_kc, KT_X2, List.take_succ_cons, List.take_zero, List.drop_succ_cons, List.drop_zero, List.reverse_cons, List.reverse_nil, List.length_cons, List.length_nil, J_X2_ease]
            obtain ⟨_, _, e87, z, hw⟩ := ok_ra hw
            refine mj_run hG.1 (fun pc => pc == 2 || pc == 23 || pc == 24 || pc == 42 || pc == 43 || pc == 59 || pc == 60 || pc == 76 || pc == 77 || pc == 84 || pc == 88 || pc == 99 || pc == 101) 4000 ?_
            simp only [e87, mj_step, mj_W_s, mj_fin, List.getElem?_cons_zero, List.getElem?_cons_succ, mj_go, Nat.reduceAdd, Nat.reduceSub, Nat.reduceLT, Nat.reduceLeDiff, Nat.zero_add, Nat.reduceEqDiff, Nat.reduceBEq, ↓reduceIte, Bool.false_eq_true, List.append_nil, List.nil_append, List.cons_append, Option.toList, and_true, true_and, true_or, or_true, reduceCtorEq, List.map_nil, bI_eq0, bI_eq1, bool_ft, pk_us, Bool.or_false, Bool.or_true, Bool.false_or, Bool.true_or, mj_kne, eq_self, Int32.reduceLT, Int32.reduceLE, Int32.reduceAdd, Int32.reduceSub, Int32.reduceMul, not_true_eq_false, not_false_eq_true, false_implies, true_implies, D_X2_ease_0, D_X2_ease_1, mj_F_aload_n_k, mj_F_bipush_n, mj_F_iadd, mj_F_iaload, mj_F_iastore, mj_F_iconst_n, mj_F_ifCond_le_off, mj_F_ifCond_ne_off, mj_F_if_icmp_ge_off, mj_F_if_icmp_lt_off, mj_F_iload_n_k, mj_F_invokestatic_i, mj_F_irem, mj_F_ireturn, mj_F_istore_n_k, mj_F_isub, mj_F_ldc_i, mj_set, mj_set0, mj_unk, mj_c2, mj_kc, KT_X2, List.take_succ_cons, List.take_zero, List.drop_succ_cons, List.drop_zero, List.reverse_cons, List.reverse_nil, List.length_cons, List.length_nil, J_X2_ease]
            refine ⟨z, ?_⟩
            obtain ⟨_, _, e88, z, hw⟩ := ok_ra hw
            refine mj_run hG.1 (fun pc => pc == 2 || pc == 23 || pc == 24 || pc == 42 || pc == 43 || pc == 59 || pc == 60 || pc == 76 || pc == 77 || pc == 84 || pc == 88 || pc == 99 || pc == 101) 4000 ?_
            simp only [e88, mj_step, mj_W_s, mj_fin, List.getElem?_cons_zero, List.getElem?_cons_succ, mj_go, Nat.reduceAdd, Nat.reduceSub, Nat.reduceLT, Nat.reduceLeDiff, Nat.zero_add, Nat.reduceEqDiff, Nat.reduceBEq, ↓reduceIte, Bool.false_eq_true, List.append_nil, List.nil_append, List.cons_append, Option.toList, and_true, true_and, true_or, or_true, reduceCtorEq, List.map_nil, bI_eq0, bI_eq1, bool_ft, pk_us, Bool.or_false, Bool.or_true, Bool.false_or, Bool.true_or, mj_kne, eq_self, Int32.reduceLT, Int32.reduceLE, Int32.reduceAdd, Int32.reduceSub, Int32.reduceMul, not_true_eq_false, not_false_eq_true, false_implies, true_implies, D_X2_ease_0, D_X2_ease_1, mj_F_aload_n_k, mj_F_bipush_n, mj_F_iadd, mj_F_iaload, mj_F_iastore, mj_F_iconst_n, mj_F_ifCond_le_off, mj_F_ifCond_ne_off, mj_F_if_icmp_ge_off, mj_F_if_icmp_lt_off, mj_F_iload_n_k, mj_F_invokestatic_i, mj_F_irem, mj_F_ireturn, mj_F_istore_n_k, mj_F_isub, mj_F_ldc_i, mj_set, mj_set0, mj_unk, mj_c2, mj_kc, KT_X2, List.take_succ_cons, List.take_zero, List.drop_succ_cons, List.drop_zero, List.reverse_cons, List.reverse_nil, List.length_cons, List.length_nil, J_X2_ease]
            refine ⟨z, ?_⟩
            refine ⟨fun c => ?_, fun c => ?_⟩
            · replace hw := ok_t hw c
              obtain ⟨_, _, e89, z, hw⟩ := ok_ra hw
              refine mj_run hG.1 (fun pc => pc == 2 || pc == 23 || pc == 24 || pc == 42 || pc == 43 || pc == 59 || pc == 60 || pc == 76 || pc == 77 || pc == 84 || pc == 88 || pc == 99 || pc == 101) 4000 ?_
              simp only [e89, mj_step, mj_W_s, mj_fin, List.getElem?_cons_zero, List.getElem?_cons_succ, mj_go, Nat.reduceAdd, Nat.reduceSub, Nat.reduceLT, Nat.reduceLeDiff, Nat.zero_add, Nat.reduceEqDiff, Nat.reduceBEq, ↓reduceIte, Bool.false_eq_true, List.append_nil, List.nil_append, List.cons_append, Option.toList, and_true, true_and, true_or, or_true, reduceCtorEq, List.map_nil, bI_eq0, bI_eq1, bool_ft, pk_us, Bool.or_false, Bool.or_true, Bool.false_or, Bool.true_or, mj_kne, eq_self, Int32.reduceLT, Int32.reduceLE, Int32.reduceAdd, Int32.reduceSub, Int32.reduceMul, not_true_eq_false, not_false_eq_true, false_implies, true_implies, D_X2_ease_0, D_X2_ease_1, mj_F_aload_n_k, mj_F_bipush_n, mj_F_iadd, mj_F_iaload, mj_F_iastore, mj_F_iconst_n, mj_F_ifCond_le_off, mj_F_ifCond_ne_off, mj_F_if_icmp_ge_off, mj_F_if_icmp_lt_off, mj_F_iload_n_k, mj_F_invokestatic_i, mj_F_irem, mj_F_ireturn, mj_F_istore_n_k, mj_F_isub, mj_F_ldc_i, mj_set, mj_set0, mj_unk, mj_c2, mj_kc, KT_X2, List.take_succ_cons, List.take_zero, List.drop_succ_cons, List.drop_zero, List.reverse_cons, List.reverse_nil, List.length_cons, List.length_nil, J_X2_ease]
              refine ⟨z, ?_⟩
              obtain ⟨_, _, e90, z, z2, hw⟩ := ok_wa hw
              refine mj_run hG.1 (fun pc => pc == 2 || pc == 23 || pc == 24 || pc == 42 || pc == 43 || pc == 59 || pc == 60 || pc == 76 || pc == 77 || pc == 84 || pc == 88 || pc == 99 || pc == 101) 4000 ?_
              simp only [e90, z2, mj_step, mj_W_s, mj_fin, List.getElem?_cons_zero, List.getElem?_cons_succ, mj_go, Nat.reduceAdd, Nat.reduceSub, Nat.reduceLT, Nat.reduceLeDiff, Nat.zero_add, Nat.reduceEqDiff, Nat.reduceBEq, ↓reduceIte, Bool.false_eq_true, List.append_nil, List.nil_append, List.cons_append, Option.toList, and_true, true_and, true_or, or_true, reduceCtorEq, List.map_nil, bI_eq0, bI_eq1, bool_ft, pk_us, Bool.or_false, Bool.or_true, Bool.false_or, Bool.true_or, mj_kne, eq_self, Int32.reduceLT, Int32.reduceLE, Int32.reduceAdd, Int32.reduceSub, Int32.reduceMul, not_true_eq_false, not_false_eq_true, false_implies, true_implies, D_X2_ease_0, D_X2_ease_1, mj_F_aload_n_k, mj_F_bipush_n, mj_F_iadd, mj_F_iaload, mj_F_iastore, mj_F_iconst_n, mj_F_ifCond_le_off, mj_F_ifCond_ne_off, mj_F_if_icmp_ge_off, mj_F_if_icmp_lt_off, mj_F_iload_n_k, mj_F_invokestatic_i, mj_F_irem, mj_F_ireturn, mj_F_istore_n_k, mj_F_isub, mj_F_ldc_i, mj_set, mj_set0, mj_unk, mj_c2, mj_kc, KT_X2, List.take_succ_cons, List.take_zero, List.drop_succ_cons, List.drop_zero, List.reverse_cons, List.reverse_nil, List.length_cons, List.length_nil, J_X2_ease]
              refine ⟨z, ?_⟩
              exact (ok_some hw :)
            · replace hw := ok_f hw c
              exact (ok_some hw :)
        · replace hw := ok_f hw c
          obtain ⟨_, _, e91, z, hw⟩ := ok_ra hw
          refine mj_run hG.1 (fun pc => pc == 2 || pc == 23 || pc == 24 || pc == 42 || pc == 43 || pc == 59 || pc == 60 || pc == 76 || pc == 77 || pc == 84 || pc == 88 || pc == 99 || pc == 101) 4000 ?_
          simp only [e91, mj_step, mj_W_s, mj_fin, List.getElem?_cons_zero, List.getElem?_cons_succ, mj_go, Nat.reduceAdd, Nat.reduceSub, Nat.reduceLT, Nat.reduceLeDiff, Nat.zero_add, Nat.reduceEqDiff, Nat.reduceBEq, ↓reduceIte, Bool.false_eq_true, List.append_nil, List.nil_append, List.cons_append, Option.toList, and_true, true_and, true_or, or_true, reduceCtorEq, List.map_nil, bI_eq0, bI_eq1, bool_ft, pk_us, Bool.or_false, Bool.or_true, Bool.false_or, Bool.true_or, mj_kne, eq_self, Int32.reduceLT, Int32.reduceLE, Int32.reduceAdd, Int32.reduceSub, Int32.reduceMul, not_true_eq_false, not_false_eq_true, false_implies, true_implies, D_X2_ease_0, D_X2_ease_1, mj_F_aload_n_k, mj_F_bipush_n, mj_F_iadd, mj_F_iaload, mj_F_iastore, mj_F_iconst_n, mj_F_ifCond_le_off, mj_F_ifCond_ne_off, mj_F_if_icmp_ge_off, mj_F_if_icmp_lt_off, mj_F_iload_n_k, mj_F_invokestatic_i, mj_F_irem, mj_F_ireturn, mj_F_istore_n_k, mj_F_isub, mj_F_ldc_i, mj_set, mj_set0, mj_unk, mj_c2, mj_kc, KT_X2, List.take_succ_cons, List.take_zero, List.drop_succ_cons, List.drop_zero, List.reverse_cons, List.reverse_nil, List.length_cons, List.length_nil, J_X2_ease]
          refine ⟨z, ?_⟩
          refine hM 60 59 0 _ _ _ _ _ _ _ _ (by simp only [D_X2_ease_0, D_X2_ease_1]) (lkX2_59) rfl (Nat.le_of_ble_eq_true rfl) ?_
          refine mj_run hG.1 (fun pc => pc == 2 || pc == 23 || pc == 24 || pc == 42 || pc == 43 || pc == 59 || pc == 60 || pc == 76 || pc == 77 || pc == 84 || pc == 88 || pc == 99 || pc == 101) 4000 ?_
          simp only [mj_step, mj_W_s, mj_fin, List.getElem?_cons_zero, List.getElem?_cons_succ, mj_go, Nat.reduceAdd, Nat.reduceSub, Nat.reduceLT, Nat.reduceLeDiff, Nat.zero_add, Nat.reduceEqDiff, Nat.reduceBEq, ↓reduceIte, Bool.false_eq_true, List.append_nil, List.nil_append, List.cons_append, Option.toList, and_true, true_and, true_or, or_true, reduceCtorEq, List.map_nil, bI_eq0, bI_eq1, bool_ft, pk_us, Bool.or_false, Bool.or_true, Bool.false_or, Bool.true_or, mj_kne, eq_self, Int32.reduceLT, Int32.reduceLE, Int32.reduceAdd, Int32.reduceSub, Int32.reduceMul, not_true_eq_false, not_false_eq_true, false_implies, true_implies, D_X2_ease_0, D_X2_ease_1, mj_F_aload_n_k, mj_F_bipush_n, mj_F_iadd, mj_F_iaload, mj_F_iastore, mj_F_iconst_n, mj_F_ifCond_le_off, mj_F_ifCond_ne_off, mj_F_if_icmp_ge_off, mj_F_if_icmp_lt_off, mj_F_iload_n_k, mj_F_invokestatic_i, mj_F_irem, mj_F_ireturn, mj_F_istore_n_k, mj_F_isub, mj_F_ldc_i, mj_set, mj_set0, mj_unk, mj_c2, mj_kc, KT_X2, List.take_succ_cons, List.take_zero, List.drop_succ_cons, List.drop_zero, List.reverse_cons, List.reverse_nil, List.length_cons, List.length_nil, J_X2_ease]
          refine ⟨fun c => ?_, fun c => ?_⟩
          · replace hw := ok_t hw c
            obtain ⟨_, _, e92, z, hw⟩ := ok_ra hw
            refine mj_run hG.1 (fun pc => pc == 2 || pc == 23 || pc == 24 || pc == 42 || pc == 43 || pc == 59 || pc == 60 || pc == 76 || pc == 77 || pc == 84 || pc == 88 || pc == 99 || pc == 101) 4000 ?_
            simp only [e92, mj_step, mj_W_s, mj_fin, List.getElem?_cons_zero, List.getElem?_cons_succ, mj_go, Nat.reduceAdd, Nat.reduceSub, Nat.reduceLT, Nat.reduceLeDiff, Nat.zero_add, Nat.reduceEqDiff, Nat.reduceBEq, ↓reduceIte, Bool.false_eq_true, List.append_nil, List.nil_append, List.cons_append, Option.toList, and_true, true_and, true_or, or_true, reduceCtorEq, List.map_nil, bI_eq0, bI_eq1, bool_ft, pk_us, Bool.or_false, Bool.or_true, Bool.false_or, Bool.true_or, mj_kne, eq_self, Int32.reduceLT, Int32.reduceLE, Int32.reduceAdd, Int32.reduceSub, Int32.reduceMul, not_true_eq_false, not_false_eq_true, false_implies, true_implies, D_X2_ease_0, D_X2_ease_1, mj_F_aload_n_k, mj_F_bipush_n, mj_F_iadd, mj_F_iaload, mj_F_iastore, mj_F_iconst_n, mj_F_ifCond_le_off, mj_F_ifCond_ne_off, mj_F_if_icmp_ge_off, mj_F_if_icmp_lt_off, mj_F_iload_n_k, mj_F_invokestatic_i, mj_F_irem, mj_F_ireturn, mj_F_istore_n_k, mj_F_isub, mj_F_ldc_i, mj_set, mj_set0, mj_unk, mj_c2, mj_kc, KT_X2, List.take_succ_cons, List.take_zero, List.drop_succ_cons, List.drop_zero, List.reverse_cons, List.reverse_nil, List.length_cons, List.length_nil, J_X2_ease]
            refine ⟨z, ?_⟩
            obtain ⟨_, _, e93, z, hw⟩ := ok_ra hw
            refine mj_run hG.1 (fun pc => pc == 2 || pc == 23 || pc == 24 || pc == 42 || pc == 43 || pc == 59 || pc == 60 || pc == 76 || pc == 77 || pc == 84 || pc == 88 || pc == 99 || pc == 101) 4000 ?_
            simp only [e93, mj_step, mj_W_s, mj_fin, List.getElem?_cons_zero, List.getElem?_cons_succ, mj_go, Nat.reduceAdd, Nat.reduceSub, Nat.reduceLT, Nat.reduceLeDiff, Nat.zero_add, Nat.reduceEqDiff, Nat.reduceBEq, ↓reduceIte, Bool.false_eq_true, List.append_nil, List.nil_append, List.cons_append, Option.toList, and_true, true_and, true_or, or_true, reduceCtorEq, List.map_nil, bI_eq0, bI_eq1, bool_ft, pk_us, Bool.or_false, Bool.or_true, Bool.false_or, Bool.true_or, mj_kne, eq_self, Int32.reduceLT, Int32.reduceLE, Int32.reduceAdd, Int32.reduceSub, Int32.reduceMul, not_true_eq_false, not_false_eq_true, false_implies, true_implies, D_X2_ease_0, D_X2_ease_1, mj_F_aload_n_k, mj_F_bipush_n, mj_F_iadd, mj_F_iaload, mj_F_iastore, mj_F_iconst_n, mj_F_ifCond_le_off, mj_F_ifCond_ne_off, mj_F_if_icmp_ge_off, mj_F_if_icmp_lt_off, mj_F_iload_n_k, mj_F_invokestatic_i, mj_F_irem, mj_F_ireturn, mj_F_istore_n_k, mj_F_isub, mj_F_ldc_i, mj_set, mj_set0, mj_unk, mj_c2, mj_kc, KT_X2, List.take_succ_cons, List.take_zero, List.drop_succ_cons, List.drop_zero, List.reverse_cons, List.reverse_nil, List.length_cons, List.length_nil, J_X2_ease]
            refine ⟨z, ?_⟩
            refine ⟨fun c => ?_, fun c => ?_⟩
            · replace hw := ok_t hw c
              obtain ⟨_, _, e94, z, hw⟩ := ok_ra hw
              refine mj_run hG.1 (fun pc => pc == 2 || pc == 23 || pc == 24 || pc == 42 || pc == 43 || pc == 59 || pc == 60 || pc == 76 || pc == 77 || pc == 84 || pc == 88 || pc == 99 || pc == 101) 4000 ?_
              simp only [e94, mj_step, mj_W_s, mj_fin, List.getElem?_cons_zero, List.getElem?_cons_succ, mj_go, Nat.reduceAdd, Nat.reduceSub, Nat.reduceLT, Nat.reduceLeDiff, Nat.zero_add, Nat.reduceEqDiff, Nat.reduceBEq, ↓reduceIte, Bool.false_eq_true, List.append_nil, List.nil_append, List.cons_append, Option.toList, and_true, true_and, true_or, or_true, reduceCtorEq, List.map_nil, bI_eq0, bI_eq1, bool_ft, pk_us, Bool.or_false, Bool.or_true, Bool.false_or, Bool.true_or, mj_kne, eq_self, Int32.reduceLT, Int32.reduceLE, Int32.reduceAdd, Int32.reduceSub, Int32.reduceMul, not_true_eq_false, not_false_eq_true, false_implies, true_implies, D_X2_ease_0, D_X2_ease_1, mj_F_aload_n_k, mj_F_bipush_n, mj_F_iadd, mj_F_iaload, mj_F_iastore, mj_F_iconst_n, mj_F_ifCond_le_off, mj_F_ifCond_ne_off, mj_F_if_icmp_ge_off, mj_F_if_icmp_lt_off, mj_F_iload_n_k, mj_F_invokestatic_i, mj_F_irem, mj_F_ireturn, mj_F_istore_n_k, mj_F_isub, mj_F_ldc_i, mj_set, mj_set0, mj_unk, mj_c2, mj_kc, KT_X2, List.take_succ_cons, List.take_zero, List.drop_succ_cons, List.drop_zero, List.reverse_cons, List.reverse_nil, List.length_cons, List.length_nil, J_X2_ease]
              refine ⟨z, ?_⟩
              obtain ⟨_, _, e95, z, z2, hw⟩ := ok_wa hw
              refine mj_run hG.1 (fun pc => pc == 2 || pc == 23 || pc == 24 || pc == 42 || pc == 43 || pc == 59 || pc == 60 || pc == 76 || pc == 77 || pc == 84 || pc == 88 || pc == 99 || pc == 101) 4000 ?_
              simp only [e95, z2, mj_step, mj_W_s, mj_fin, List.getElem?_cons_zero, List.getElem?_cons_succ, mj_go, Nat.reduceAdd, Nat.reduceSub, Nat.reduceLT, Nat.reduceLeDiff, Nat.zero_add, Nat.reduceEqDiff, Nat.reduceBEq, ↓reduceIte, Bool.false_eq_true, List.append_nil, List.nil_append, List.cons_append, Option.toList, and_true, true_and, true_or, or_true, reduceCtorEq, List.map_nil, bI_eq0, bI_eq1, bool_ft, pk_us, Bool.or_false, Bool.or_true, Bool.false_or, Bool.true_or, mj_kne, eq_self, Int32.reduceLT, Int32.reduceLE, Int32.reduceAdd, Int32.reduceSub, Int32.reduceMul, not_true_eq_false, not_false_eq_true, false_implies, true_implies, D_X2_ease_0, D_X2_ease_1, mj_F_aload_n_k, mj_F_bipush_n, mj_F_iadd, mj_F_iaload, mj_F_iastore, mj_F_iconst_n, mj_F_ifCond_le_off, mj_F_ifCond_ne_off, mj_F_if_icmp_ge_off, mj_F_if_icmp_lt_off, mj_F_iload_n_k, mj_F_invokestatic_i, mj_F_irem, mj_F_ireturn, mj_F_istore_n_k, mj_F_isub, mj_F_ldc_i, mj_set, mj_set0, mj_unk, mj_c2, mj_kc, KT_X2, List.take_succ_cons, List.take_zero, List.drop_succ_cons, List.drop_zero, List.reverse_cons, List.reverse_nil, List.length_cons, List.length_nil, J_X2_ease]
              refine ⟨z, ?_⟩
              exact (ok_some hw :)
            · replace hw := ok_f hw c
              exact (ok_some hw :)
          · replace hw := ok_f hw c
            obtain ⟨_, _, e96, z, hw⟩ := ok_ra hw
            refine mj_run hG.1 (fun pc => pc == 2 || pc == 23 || pc == 24 || pc == 42 || pc == 43 || pc == 59 || pc == 60 || pc == 76 || pc == 77 || pc == 84 || pc == 88 || pc == 99 || pc == 101) 4000 ?_
            simp only [e96, mj_step, mj_W_s, mj_fin, List.getElem?_cons_zero, List.getElem?_cons_succ, mj_go, Nat.reduceAdd, Nat.reduceSub, Nat.reduceLT, Nat.reduceLeDiff, Nat.zero_add, Nat.reduceEqDiff, Nat.reduceBEq, ↓reduceIte, Bool.false_eq_true, List.append_nil, List.nil_append, List.cons_append, Option.toList, and_true, true_and, true_or, or_true, reduceCtorEq, List.map_nil, bI_eq0, bI_eq1, bool_ft, pk_us, Bool.or_false, Bool.or_true, Bool.false_or, Bool.true_or, mj_kne, eq_self, Int32.reduceLT, Int32.reduceLE, Int32.reduceAdd, Int32.reduceSub, Int32.reduceMul, not_true_eq_false, not_false_eq_true, false_implies, true_implies, D_X2_ease_0, D_X2_ease_1, mj_F_aload_n_k, mj_F_bipush_n, mj_F_iadd, mj_F_iaload, mj_F_iastore, mj_F_iconst_n, mj_F_ifCond_le_off, mj_F_ifCond_ne_off, mj_F_if_icmp_ge_off, mj_F_if_icmp_lt_off, mj_F_iload_n_k, mj_F_invokestatic_i, mj_F_irem, mj_F_ireturn, mj_F_istore_n_k, mj_F_isub, mj_F_ldc_i, mj_set, mj_set0, mj_unk, mj_c2, mj_kc, KT_X2, List.take_succ_cons, List.take_zero, List.drop_succ_cons, List.drop_zero, List.reverse_cons, List.reverse_nil, List.length_cons, List.length_nil, J_X2_ease]
            refine ⟨z, ?_⟩
            refine hM 77 59 0 _ _ _ _ _ _ _ _ (by simp only [D_X2_ease_0, D_X2_ease_1]) (lkX2_59) rfl (Nat.le_of_ble_eq_true rfl) ?_
            refine mj_run hG.1 (fun pc => pc == 2 || pc == 23 || pc == 24 || pc == 42 || pc == 43 || pc == 59 || pc == 60 || pc == 76 || pc == 77 || pc == 84 || pc == 88 || pc == 99 || pc == 101) 4000 ?_
            simp only [mj_step, mj_W_s, mj_fin, List.getElem?_cons_zero, List.getElem?_cons_succ, mj_go, Nat.reduceAdd, Nat.reduceSub, Nat.reduceLT, Nat.reduceLeDiff, Nat.zero_add, Nat.reduceEqDiff, Nat.reduceBEq, ↓reduceIte, Bool.false_eq_true, List.append_nil, List.nil_append, List.cons_append, Option.toList, and_true, true_and, true_or, or_true, reduceCtorEq, List.map_nil, bI_eq0, bI_eq1, bool_ft, pk_us, Bool.or_false, Bool.or_true, Bool.false_or, Bool.true_or, mj_kne, eq_self, Int32.reduceLT, Int32.reduceLE, Int32.reduceAdd, Int32.reduceSub, Int32.reduceMul, not_true_eq_false, not_false_eq_true, false_implies, true_implies, D_X2_ease_0, D_X2_ease_1, mj_F_aload_n_k, mj_F_bipush_n, mj_F_iadd, mj_F_iaload, mj_F_iastore, mj_F_iconst_n, mj_F_ifCond_le_off, mj_F_ifCond_ne_off, mj_F_if_icmp_ge_off, mj_F_if_icmp_lt_off, mj_F_iload_n_k, mj_F_invokestatic_i, mj_F_irem, mj_F_ireturn, mj_F_istore_n_k, mj_F_isub, mj_F_ldc_i, mj_set, mj_set0, mj_unk, mj_c2, mj_kc, KT_X2, List.take_succ_cons, List.take_zero, List.drop_succ_cons, List.drop_zero, List.reverse_cons, List.reverse_nil, List.length_cons, List.length_nil, J_X2_ease]
            obtain ⟨_, _, e97, z, hw⟩ := ok_ra hw
            refine mj_run hG.1 (fun pc => pc == 2 || pc == 23 || pc == 24 || pc == 42 || pc == 43 || pc == 59 || pc == 60 || pc == 76 || pc == 77 || pc == 84 || pc == 88 || pc == 99 || pc == 101) 4000 ?_
            simp only [e97, mj_step, mj_W_s, mj_fin, List.getElem?_cons_zero, List.getElem?_cons_succ, mj_go, Nat.reduceAdd, Nat.reduceSub, Nat.reduceLT, Nat.reduceLeDiff, Nat.zero_add, Nat.reduceEqDiff, Nat.reduceBEq, ↓reduceIte, Bool.false_eq_true, List.append_nil, List.nil_append, List.cons_append, Option.toList, and_true, true_and, true_or, or_true, reduceCtorEq, List.map_nil, bI_eq0, bI_eq1, bool_ft, pk_us, Bool.or_false, Bool.or_true, Bool.false_or, Bool.true_or, mj_kne, eq_self, Int32.reduceLT, Int32.reduceLE, Int32.reduceAdd, Int32.reduceSub, Int32.reduceMul, not_true_eq_false, not_false_eq_true, false_implies, true_implies, D_X2_ease_0, D_X2_ease_1, mj_F_aload_n_k, mj_F_bipush_n, mj_F_iadd, mj_F_iaload, mj_F_iastore, mj_F_iconst_n, mj_F_ifCond_le_off, mj_F_ifCond_ne_off, mj_F_if_icmp_ge_off, mj_F_if_icmp_lt_off, mj_F_iload_n_k, mj_F_invokestatic_i, mj_F_irem, mj_F_ireturn, mj_F_istore_n_k, mj_F_isub, mj_F_ldc_i, mj_set, mj_set0, mj_unk, mj_c2, mj_kc, KT_X2, List.take_succ_cons, List.take_zero, List.drop_succ_cons, List.drop_zero, List.reverse_cons, List.reverse_nil, List.length_cons, List.length_nil, J_X2_ease]
            refine ⟨z, ?_⟩
            obtain ⟨_, _, e98, z, hw⟩ := ok_ra hw
            refine mj_run hG.1 (fun pc => pc == 2 || pc == 23 || pc == 24 || pc == 42 || pc == 43 || pc == 59 || pc == 60 || pc == 76 || pc == 77 || pc == 84 || pc == 88 || pc == 99 || pc == 101) 4000 ?_
            simp only [e98, mj_step, mj_W_s, mj_fin, List.getElem?_cons_zero, List.getElem?_cons_succ, mj_go, Nat.reduceAdd, Nat.reduceSub, Nat.reduceLT, Nat.reduceLeDiff, Nat.zero_add, Nat.reduceEqDiff, Nat.reduceBEq, ↓reduceIte, Bool.false_eq_true, List.append_nil, List.nil_append, List.cons_append, Option.toList, and_true, true_and, true_or, or_true, reduceCtorEq, List.map_nil, bI_eq0, bI_eq1, bool_ft, pk_us, Bool.or_false, Bool.or_true, Bool.false_or, Bool.true_or, mj_kne, eq_self, Int32.reduceLT, Int32.reduceLE, Int32.reduceAdd, Int32.reduceSub, Int32.reduceMul, not_true_eq_false, not_false_eq_true, false_implies, true_implies, D_X2_ease_0, D_X2_ease_1, mj_F_aload_n_k, mj_F_bipush_n, mj_F_iadd, mj_F_iaload, mj_F_iastore, mj_F_iconst_n, mj_F_ifCond_le_off, mj_F_ifCond_ne_off, mj_F_if_icmp_ge_off, mj_F_if_icmp_lt_off, mj_F_iload_n_k, mj_F_invokestatic_i, mj_F_irem, mj_F_ireturn, mj_F_istore_n_k, mj_F_isub, mj_F_ldc_i, mj_set, mj_set0, mj_unk, mj_c2, mj_kc, KT_X2, List.take_succ_cons, List.take_zero, List.drop_succ_cons, List.drop_zero, List.reverse_cons, List.reverse_nil, List.length_cons, List.length_nil, J_X2_ease]
            refine ⟨z, ?_⟩
            refine ⟨fun c => ?_, fun c => ?_⟩
            · replace hw := ok_t hw c
              obtain ⟨_, _, e99, z, hw⟩ := ok_ra hw
              refine mj_run hG.1 (fun pc => pc == 2 || pc == 23 || pc == 24 || pc == 42 || pc == 43 || pc == 59 || pc == 60 || pc == 76 || pc == 77 || pc == 84 || pc == 88 || pc == 99 || pc == 101) 4000 ?_
              simp only [e99, mj_step, mj_W_s, mj_fin, List.getElem?_cons_zero, List.getElem?_cons_succ, mj_go, Nat.reduceAdd, Nat.reduceSub, Nat.reduceLT, Nat.reduceLeDiff, Nat.zero_add, Nat.reduceEqDiff, Nat.reduceBEq, ↓reduceIte, Bool.false_eq_true, List.append_nil, List.nil_append, List.cons_append, Option.toList, and_true, true_and, true_or, or_true, reduceCtorEq, List.map_nil, bI_eq0, bI_eq1, bool_ft, pk_us, Bool.or_false, Bool.or_true, Bool.false_or, Bool.true_or, mj_kne, eq_self, Int32.reduceLT, Int32.reduceLE, Int32.reduceAdd, Int32.reduceSub, Int32.reduceMul, not_true_eq_false, not_false_eq_true, false_implies, true_implies, D_X2_ease_0, D_X2_ease_1, mj_F_aload_n_k, mj_F_bipush_n, mj_F_iadd, mj_F_iaload, mj_F_iastore, mj_F_iconst_n, mj_F_ifCond_le_off, mj_F_ifCond_ne_off, mj_F_if_icmp_ge_off, mj_F_if_icmp_lt_off, mj_F_iload_n_k, mj_F_invokestatic_i, mj_F_irem, mj_F_ireturn, mj_F_istore_n_k, mj_F_isub, mj_F_ldc_i, mj_set, mj_set0, mj_unk, mj_c2, mj_kc, KT_X2, List.take_succ_cons, List.take_zero, List.drop_succ_cons, List.drop_zero, List.reverse_cons, List.reverse_nil, List.length_cons, List.length_nil, J_X2_ease]
              refine ⟨z, ?_⟩
              obtain ⟨_, _, e100, z, z2, hw⟩ := ok_wa hw
              refine mj_run hG.1 (fun pc => pc == 2 || pc == 23 || pc == 24 || pc == 42 || pc == 43 || pc == 59 || pc == 60 || pc == 76 || pc == 77 || pc == 84 || pc == 88 || pc == 99 || pc == 101) 4000 ?_
              simp only [e100, z2, mj_step, mj_W_s, mj_fin, List.getElem?_cons_zero, List.getElem?_cons_succ, mj_go, Nat.reduceAdd, Nat.reduceSub, Nat.reduceLT, Nat.reduceLeDiff, Nat.zero_add, Nat.reduceEqDiff, Nat.reduceBEq, ↓reduceIte, Bool.false_eq_true, List.append_nil, List.nil_append, List.cons_append, Option.toList, and_true, true_and, true_or, or_true, reduceCtorEq, List.map_nil, bI_eq0, bI_eq1, bool_ft, pk_us, Bool.or_false, Bool.or_true, Bool.false_or, Bool.true_or, mj_kne, eq_self, Int32.reduceLT, Int32.reduceLE, Int32.reduceAdd, Int32.reduceSub, Int32.reduceMul, not_true_eq_false, not_false_eq_true, false_implies, true_implies, D_X2_ease_0, D_X2_ease_1, mj_F_aload_n_k, mj_F_bipush_n, mj_F_iadd, mj_F_iaload, mj_F_iastore, mj_F_iconst_n, mj_F_ifCond_le_off, mj_F_ifCond_ne_off, mj_F_if_icmp_ge_off, mj_F_if_icmp_lt_off, mj_F_iload_n_k, mj_F_invokestatic_i, mj_F_irem, mj_F_ireturn, mj_F_istore_n_k, mj_F_isub, mj_F_ldc_i, mj_set, mj_set0, mj_unk, mj_c2, mj_kc, KT_X2, List.take_succ_cons, List.take_zero, List.drop_succ_cons, List.drop_zero, List.reverse_cons, List.reverse_nil, List.length_cons, List.length_nil, J_X2_ease]
              refine ⟨z, ?_⟩
              exact (ok_some hw :)
            · replace hw := ok_f hw c
              exact (ok_some hw :)
      · replace hw := ok_f hw c
        obtain ⟨_, _, e101, z, hw⟩ := ok_ra hw
        refine mj_run hG.1 (fun pc => pc == 2 || pc == 23 || pc == 24 || pc == 42 || pc == 43 || pc == 59 || pc == 60 || pc == 76 || pc == 77 || pc == 84 || pc == 88 || pc == 99 || pc == 101) 4000 ?_
        simp only [e101, mj_step, mj_W_s, mj_fin, List.getElem?_cons_zero, List.getElem?_cons_succ, mj_go, Nat.reduceAdd, Nat.reduceSub, Nat.reduceLT, Nat.reduceLeDiff, Nat.zero_add, Nat.reduceEqDiff, Nat.reduceBEq, ↓reduceIte, Bool.false_eq_true, List.append_nil, List.nil_append, List.cons_append, Option.toList, and_true, true_and, true_or, or_true, reduceCtorEq, List.map_nil, bI_eq0, bI_eq1, bool_ft, pk_us, Bool.or_false, Bool.or_true, Bool.false_or, Bool.true_or, mj_kne, eq_self, Int32.reduceLT, Int32.reduceLE, Int32.reduceAdd, Int32.reduceSub, Int32.reduceMul, not_true_eq_false, not_false_eq_true, false_implies, true_implies, D_X2_ease_0, D_X2_ease_1, mj_F_aload_n_k, mj_F_bipush_n, mj_F_iadd, mj_F_iaload, mj_F_iastore, mj_F_iconst_n, mj_F_ifCond_le_off, mj_F_ifCond_ne_off, mj_F_if_icmp_ge_off, mj_F_if_icmp_lt_off, mj_F_iload_n_k, mj_F_invokestatic_i, mj_F_irem, mj_F_ireturn, mj_F_istore_n_k, mj_F_isub, mj_F_ldc_i, mj_set, mj_set0, mj_unk, mj_c2, mj_kc, KT_X2, List.take_succ_cons, List.take_zero, List.drop_succ_cons, List.drop_zero, List.reverse_cons, List.reverse_nil, List.length_cons, List.length_nil, J_X2_ease]
        refine ⟨z, ?_⟩
        refine hM 43 59 0 _ _ _ _ _ _ _ _ (by simp only [D_X2_ease_0, D_X2_ease_1]) (lkX2_59) rfl (Nat.le_of_ble_eq_true rfl) ?_
        refine mj_run hG.1 (fun pc => pc == 2 || pc == 23 || pc == 24 || pc == 42 || pc == 43 || pc == 59 || pc == 60 || pc == 76 || pc == 77 || pc == 84 || pc == 88 || pc == 99 || pc == 101) 4000 ?_
        simp only [mj_step, mj_W_s, mj_fin, List.getElem?_cons_zero, List.getElem?_cons_succ, mj_go, Nat.reduceAdd, Nat.reduceSub, Nat.reduceLT, Nat.reduceLeDiff, Nat.zero_add, Nat.reduceEqDiff, Nat.reduceBEq, ↓reduceIte, Bool.false_eq_true, List.append_nil, List.nil_append, List.cons_append, Option.toList, and_true, true_and, true_or, or_true, reduceCtorEq, List.map_nil, bI_eq0, bI_eq1, bool_ft, pk_us, Bool.or_false, Bool.or_true, Bool.false_or, Bool.true_or, mj_kne, eq_self, Int32.reduceLT, Int32.reduceLE, Int32.reduceAdd, Int32.reduceSub, Int32.reduceMul, not_true_eq_false, not_false_eq_true, false_implies, true_implies, D_X2_ease_0, D_X2_ease_1, mj_F_aload_n_k, mj_F_bipush_n, mj_F_iadd, mj_F_iaload, mj_F_iastore, mj_F_iconst_n, mj_F_ifCond_le_off, mj_F_ifCond_ne_off, mj_F_if_icmp_ge_off, mj_F_if_icmp_lt_off, mj_F_iload_n_k, mj_F_invokestatic_i, mj_F_irem, mj_F_ireturn, mj_F_istore_n_k, mj_F_isub, mj_F_ldc_i, mj_set, mj_set0, mj_unk, mj_c2, mj_kc, KT_X2, List.take_succ_cons, List.take_zero, List.drop_succ_cons, List.drop_zero, List.reverse_cons, List.reverse_nil, List.length_cons, List.length_nil, J_X2_ease]
        refine ⟨fun c => ?_, fun c => ?_⟩
        · replace hw := ok_t hw c
          refine ⟨fun c => ?_, fun c => ?_⟩
          · replace hw := ok_t hw c
            obtain ⟨_, _, e102, z, hw⟩ := ok_ra hw
            refine mj_run hG.1 (fun pc => pc == 2 || pc == 23 || pc == 24 || pc == 42 || pc == 43 || pc == 59 || pc == 60 || pc == 76 || pc == 77 || pc == 84 || pc == 88 || pc == 99 || pc == 101) 4000 ?_
            simp only [e102, mj_step, mj_W_s, mj_fin, List.getElem?_cons_zero, List.getElem?_cons_succ, mj_go, Nat.reduceAdd, Nat.reduceSub, Nat.reduceLT, Nat.reduceLeDiff, Nat.zero_add, Nat.reduceEqDiff, Nat.reduceBEq, ↓reduceIte, Bool.false_eq_true, List.append_nil, List.nil_append, List.cons_append, Option.toList, and_true, true_and, true_or, or_true, reduceCtorEq, List.map_nil, bI_eq0, bI_eq1, bool_ft, pk_us, Bool.or_false, Bool.or_true, Bool.false_or, Bool.true_or, mj_kne, eq_self, Int32.reduceLT, Int32.reduceLE, Int32.reduceAdd, Int32.reduceSub, Int32.reduceMul, not_true_eq_false, not_false_eq_true, false_implies, true_implies, D_X2_ease_0, D_X2_ease_1, mj_F_aload_n_k, mj_F_bipush_n, mj_F_iadd, mj_F_iaload, mj_F_iastore, mj_F_iconst_n, mj_F_ifCond_le_off, mj_F_ifCond_ne_off, mj_F_if_icmp_ge_off, mj_F_if_icmp_lt_off, mj_F_iload_n_k, mj_F_invokestatic_i, mj_F_irem, mj_F_ireturn, mj_F_istore_n_k, mj_F_isub, mj_F_ldc_i, mj_set, mj_set0, mj_unk, mj_c2, mj_kc, KT_X2, List.take_succ_cons, List.take_zero, List.drop_succ_cons, List.drop_zero, List.reverse_cons, List.reverse_nil, List.length_cons, List.length_nil, J_X2_ease]
            refine ⟨z, ?_⟩
            obtain ⟨_, _, e103, z, hw⟩ := ok_ra hw
            refine mj_run hG.1 (fun pc => pc == 2 || pc == 23 || pc == 24 || pc == 42 || pc == 43 || pc == 59 || pc == 60 || pc == 76 || pc == 77 || pc == 84 || pc == 88 || pc == 99 || pc == 101) 4000 ?_
            simp only [e103, mj_step, mj_W_s, mj_fin, List.getElem?_cons_zero, List.getElem?_cons_succ, mj_go, Nat.reduceAdd, Nat.reduceSub, Nat.reduceLT, Nat.reduceLeDiff, Nat.zero_add, Nat.reduceEqDiff, Nat.reduceBEq, ↓reduceIte, Bool.false_eq_true, List.append_nil, List.nil_append, List.cons_append, Option.toList, and_true, true_and, true_or, or_true, reduceCtorEq, List.map_nil, bI_eq0, bI_eq1, bool_ft, pk_us, Bool.or_false, Bool.or_true, Bool.false_or, Bool.true_or, mj_kne, eq_self, Int32.reduceLT, Int32.reduceLE, Int32.reduceAdd, Int32.reduceSub, Int32.reduceMul, not_true_eq_false, not_false_eq_true, false_implies, true_implies, D_X2_ease_0, D_X2_ease_1, mj_F_aload_n_k, mj_F_bipush_n, mj_F_iadd, mj_F_iaload, mj_F_iastore, mj_F_iconst_n, mj_F_ifCond_le_off, mj_F_ifCond_ne_off, mj_F_if_icmp_ge_off, mj_F_if_icmp_lt_off, mj_F_iload_n_k, mj_F_invokestatic_i, mj_F_irem, mj_F_ireturn, mj_F_istore_n_k, mj_F_isub, mj_F_ldc_i, mj_set, mj_set0, mj_unk, mj_c2, mj_kc, KT_X2, List.take_succ_cons, List.take_zero, List.drop_succ_cons, List.drop_zero, List.reverse_cons, List.reverse_nil, List.length_cons, List.length_nil, J_X2_ease]
            refine ⟨z, ?_⟩
            refine ⟨fun c => ?_, fun c => ?_⟩
            · replace hw := ok_t hw c
              obtain ⟨_, _, e104, z, hw⟩ := ok_ra hw
              refine mj_run hG.1 (fun pc => pc == 2 || pc == 23 || pc == 24 || pc == 42 || pc == 43 || pc == 59 || pc == 60 || pc == 76 || pc == 77 || pc == 84 || pc == 88 || pc == 99 || pc == 101) 4000 ?_
              simp only [e104, mj_step, mj_W_s, mj_fin, List.getElem?_cons_zero, List.getElem?_cons_succ, mj_go, Nat.reduceAdd, Nat.reduceSub, Nat.reduceLT, Nat.reduceLeDiff, Nat.zero_add, Nat.reduceEqDiff, Nat.reduceBEq, ↓reduceIte, Bool.false_eq_true, List.append_nil, List.nil_append, List.cons_append, Option.toList, and_true, true_and, true_or, or_true, reduceCtorEq, List.map_nil, bI_eq0, bI_eq1, bool_ft, pk_us, Bool.or_false, Bool.or_true, Bool.false_or, Bool.true_or, mj_kne, eq_self, Int32.reduceLT, Int32.reduceLE, Int32.reduceAdd, Int32.reduceSub, Int32.reduceMul, not_true_eq_false, not_false_eq_true, false_implies, true_implies, D_X2_ease_0, D_X2_ease_1, mj_F_aload_n_k, mj_F_bipush_n, mj_F_iadd, mj_F_iaload, mj_F_iastore, mj_F_iconst_n, mj_F_ifCond_le_off, mj_F_ifCond_ne_off, mj_F_if_icmp_ge_off, mj_F_if_icmp_lt_off, mj_F_iload_n_k, mj_F_invokestatic_i, mj_F_irem, mj_F_ireturn, mj_F_istore_n_k, mj_F_isub, mj_F_ldc_i, mj_set, mj_set0, mj_unk, mj_c2, mj_kc, KT_X2, List.take_succ_cons, List.take_zero, List.drop_succ_cons, List.drop_zero, List.reverse_cons, List.reverse_nil, List.length_cons, List.length_nil, J_X2_ease]
              refine ⟨z, ?_⟩
              obtain ⟨_, _, e105, z, z2, hw⟩ := ok_wa hw
              refine mj_run hG.1 (fun pc => pc == 2 || pc == 23 || pc == 24 || pc == 42 || pc == 43 || pc == 59 || pc == 60 || pc == 76 || pc == 77 || pc == 84 || pc == 88 || pc == 99 || pc == 101) 4000 ?_
              simp only [e105, z2, mj_step, mj_W_s, mj_fin, List.getElem?_cons_zero, List.getElem?_cons_succ, mj_go, Nat.reduceAdd, Nat.reduceSub, Nat.reduceLT, Nat.reduceLeDiff, Nat.zero_add, Nat.reduceEqDiff, Nat.reduceBEq, ↓reduceIte, Bool.false_eq_true, List.append_nil, List.nil_append, List.cons_append, Option.toList, and_true, true_and, true_or, or_true, reduceCtorEq, List.map_nil, bI_eq0, bI_eq1, bool_ft, pk_us, Bool.or_false, Bool.or_true, Bool.false_or, Bool.true_or, mj_kne, eq_self, Int32.reduceLT, Int32.reduceLE, Int32.reduceAdd, Int32.reduceSub, Int32.reduceMul, not_true_eq_false, not_false_eq_true, false_implies, true_implies, D_X2_ease_0, D_X2_ease_1, mj_F_aload_n_k, mj_F_bipush_n, mj_F_iadd, mj_F_iaload, mj_F_iastore, mj_F_iconst_n, mj_F_ifCond_le_off, mj_F_ifCond_ne_off, mj_F_if_icmp_ge_off, mj_F_if_icmp_lt_off, mj_F_iload_n_k, mj_F_invokestatic_i, mj_F_irem, mj_F_ireturn, mj_F_istore_n_k, mj_F_isub, mj_F_ldc_i, mj_set, mj_set0, mj_unk, mj_c2, mj_kc, KT_X2, List.take_succ_cons, List.take_zero, List.drop_succ_cons, List.drop_zero, List.reverse_cons, List.reverse_nil, List.length_cons, List.length_nil, J_X2_ease]
              refine ⟨z, ?_⟩
              exact (ok_some hw :)
            · replace hw := ok_f hw c
              exact (ok_some hw :)
          · replace hw := ok_f hw c
            obtain ⟨_, _, e106, z, hw⟩ := ok_ra hw
            refine mj_run hG.1 (fun pc => pc == 2 || pc == 23 || pc == 24 || pc == 42 || pc == 43 || pc == 59 || pc == 60 || pc == 76 || pc == 77 || pc == 84 || pc == 88 || pc == 99 || pc == 101) 4000 ?_
            simp only [e106, mj_step, mj_W_s, mj_fin, List.getElem?_cons_zero, List.getElem?_cons_succ, mj_go, Nat.reduceAdd, Nat.reduceSub, Nat.reduceLT, Nat.reduceLeDiff, Nat.zero_add, Nat.reduceEqDiff, Nat.reduceBEq, ↓reduceIte, Bool.false_eq_true, List.append_nil, List.nil_append, List.cons_append, Option.toList, and_true, true_and, true_or, or_true, reduceCtorEq, List.map_nil, bI_eq0, bI_eq1, bool_ft, pk_us, Bool.or_false, Bool.or_true, Bool.false_or, Bool.true_or, mj_kne, eq_self, Int32.reduceLT, Int32.reduceLE, Int32.reduceAdd, Int32.reduceSub, Int32.reduceMul, not_true_eq_false, not_false_eq_true, false_implies, true_implies, D_X2_ease_0, D_X2_ease_1, mj_F_aload_n_k, mj_F_bipush_n, mj_F_iadd, mj_F_iaload, mj_F_iastore, mj_F_iconst_n, mj_F_ifCond_le_off, mj_F_ifCond_ne_off, mj_F_if_icmp_ge_off, mj_F_if_icmp_lt_off, mj_F_iload_n_k, mj_F_invokestatic_i, mj_F_irem, mj_F_ireturn, mj_F_istore_n_k, mj_F_isub, mj_F_ldc_i, mj_set, mj_set0, mj_unk, mj_c2, mj_kc, KT_X2, List.take_succ_cons, List.take_zero, List.drop_succ_cons, List.drop_zero, List.reverse_cons, List.reverse_nil, List.length_cons, List.length_nil, J_X2_ease]
            refine ⟨z, ?_⟩
            refine hM 77 59 0 _ _ _ _ _ _ _ _ (by simp only [D_X2_ease_0, D_X2_ease_1]) (lkX2_59) rfl (Nat.le_of_ble_eq_true rfl) ?_
            refine mj_run hG.1 (fun pc => pc == 2 || pc == 23 || pc == 24 || pc == 42 || pc == 43 || pc == 59 || pc == 60 || pc == 76 || pc == 77 || pc == 84 || pc == 88 || pc == 99 || pc == 101) 4000 ?_
            simp only [mj_step, mj_W_s, mj_fin, List.getElem?_cons_zero, List.getElem?_cons_succ, mj_go, Nat.reduceAdd, Nat.reduceSub, Nat.reduceLT, Nat.reduceLeDiff, Nat.zero_add, Nat.reduceEqDiff, Nat.reduceBEq, ↓reduceIte, Bool.false_eq_true, List.append_nil, List.nil_append, List.cons_append, Option.toList, and_true, true_and, true_or, or_true, reduceCtorEq, List.map_nil, bI_eq0, bI_eq1, bool_ft, pk_us, Bool.or_false, Bool.or_true, Bool.false_or, Bool.true_or, mj_kne, eq_self, Int32.reduceLT, Int32.reduceLE, Int32.reduceAdd, Int32.reduceSub, Int32.reduceMul, not_true_eq_false, not_false_eq_true, false_implies, true_implies, D_X2_ease_0, D_X2_ease_1, mj_F_aload_n_k, mj_F_bipush_n, mj_F_iadd, mj_F_iaload, mj_F_iastore, mj_F_iconst_n, mj_F_ifCond_le_off, mj_F_ifCond_ne_off, mj_F_if_icmp_ge_off, mj_F_if_icmp_lt_off, mj_F_iload_n_k, mj_F_invokestatic_i, mj_F_irem, mj_F_ireturn, mj_F_istore_n_k, mj_F_isub, mj_F_ldc_i, mj_set, mj_set0, mj_unk, mj_c2, mj_kc, KT_X2, List.take_succ_cons, List.take_zero, List.drop_succ_cons, List.drop_zero, List.reverse_cons, List.reverse_nil, List.length_cons, List.length_nil, J_X2_ease]
            obtain ⟨_, _, e107, z, hw⟩ := ok_ra hw
            refine mj_run hG.1 (fun pc => pc == 2 || pc == 23 || pc == 24 || pc == 42 || pc == 43 || pc == 59 || pc == 60 || pc == 76 || pc == 77 || pc == 84 || pc == 88 || pc == 99 || pc == 101) 4000 ?_
            simp only [e107, mj_step, mj_W_s, mj_fin, List.getElem?_cons_zero, List.getElem?_cons_succ, mj_go, Nat.reduceAdd, Nat.reduceSub, Nat.reduceLT, Nat.reduceLeDiff, Nat.zero_add, Nat.reduceEqDiff, Nat.reduceBEq, ↓reduceIte, Bool.false_eq_true, List.append_nil, List.nil_append, List.cons_append, Option.toList, and_true, true_and, true_or, or_true, reduceCtorEq, List.map_nil, bI_eq0, bI_eq1, bool_ft, pk_us, Bool.or_false, Bool.or_true, Bool.false_or, Bool.true_or, mj_kne, eq_self, Int32.reduceLT, Int32.reduceLE, Int32.reduceAdd, Int32.reduceSub, Int32.reduceMul, not_true_eq_false, not_false_eq_true, false_implies, true_implies, D_X2_ease_0, D_X2_ease_1, mj_F_aload_n_k, mj_F_bipush_n, mj_F_iadd, mj_F_iaload, mj_F_iastore, mj_F_iconst_n, mj_F_ifCond_le_off, mj_F_ifCond_ne_off, mj_F_if_icmp_ge_off, mj_F_if_icmp_lt_off, mj_F_iload_n_k, mj_F_invokestatic_i, mj_F_irem, mj_F_ireturn, mj_F_istore_n_k, mj_F_isub, mj_F_ldc_i, mj_set, mj_set0, mj_unk, mj_c2, mj_kc, KT_X2, List.take_succ_cons, List.take_zero, List.drop_succ_cons, List.drop_zero, List.reverse_cons, List.reverse_nil, List.length_cons, List.length_nil, J_X2_ease]
            refine ⟨z, ?_⟩
            obtain ⟨_, _, e108, z, hw⟩ := ok_ra hw
            refine mj_run hG.1 (fun pc => pc == 2 || pc == 23 || pc == 24 || pc == 42 || pc == 43 || pc == 59 || pc == 60 || pc == 76 || pc == 77 || pc == 84 || pc == 88 || pc == 99 || pc == 101) 4000 ?_
            simp only [e108, mj_step, mj_W_s, mj_fin, List.getElem?_cons_zero, List.getElem?_cons_succ, mj_go, Nat.reduceAdd, Nat.reduceSub, Nat.reduceLT, Nat.reduceLeDiff, Nat.zero_add, Nat.reduceEqDiff, Nat.reduceBEq, ↓reduceIte, Bool.false_eq_true, List.append_nil, List.nil_append, List.cons_append, Option.toList, and_true, true_and, true_or, or_true, reduceCtorEq, List.map_nil, bI_eq0, bI_eq1, bool_ft, pk_us, Bool.or_false, Bool.or_true, Bool.false_or, Bool.true_or, mj_kne, eq_self, Int32.reduceLT, Int32.reduceLE, Int32.reduceAdd, Int32.reduceSub, Int32.reduceMul, not_true_eq_false, not_false_eq_true, false_implies, true_implies, D_X2_ease_0, D_X2_ease_1, mj_F_aload_n_k, mj_F_bipush_n, mj_F_iadd, mj_F_iaload, mj_F_iastore, mj_F_iconst_n, mj_F_ifCond_le_off, mj_F_ifCond_ne_off, mj_F_if_icmp_ge_off, mj_F_if_icmp_lt_off, mj_F_iload_n_k, mj_F_invokestatic_i, mj_F_irem, mj_F_ireturn, mj_F_istore_n_k, mj_F_isub, mj_F_ldc_i, mj_set, mj_set0, mj_unk, mj_c2, mj_kc, KT_X2, List.take_succ_cons, List.take_zero, List.drop_succ_cons, List.drop_zero, List.reverse_cons, List.reverse_nil, List.length_cons, List.length_nil, J_X2_ease]
            refine ⟨z, ?_⟩
            refine ⟨fun c => ?_, fun c => ?_⟩
            · replace hw := ok_t hw c
              obtain ⟨_, _, e109, z, hw⟩ := ok_ra hw
              refine mj_run hG.1 (fun pc => pc == 2 || pc == 23 || pc == 24 || pc == 42 || pc == 43 || pc == 59 || pc == 60 || pc == 76 || pc == 77 || pc == 84 || pc == 88 || pc == 99 || pc == 101) 4000 ?_
              simp only [e109, mj_step, mj_W_s, mj_fin, List.getElem?_cons_zero, List.getElem?_cons_succ, mj_go, Nat.reduceAdd, Nat.reduceSub, Nat.reduceLT, Nat.reduceLeDiff, Nat.zero_add, Nat.reduceEqDiff, Nat.reduceBEq, ↓reduceIte, Bool.false_eq_true, List.append_nil, List.nil_append, List.cons_append, Option.toList, and_true, true_and, true_or, or_true, reduceCtorEq, List.map_nil, bI_eq0, bI_eq1, bool_ft, pk_us, Bool.or_false, Bool.or_true, Bool.false_or, Bool.true_or, mj_kne, eq_self, Int32.reduceLT, Int32.reduceLE, Int32.reduceAdd, Int32.reduceSub, Int32.reduceMul, not_true_eq_false, not_false_eq_true, false_implies, true_implies, D_X2_ease_0, D_X2_ease_1, mj_F_aload_n_k, mj_F_bipush_n, mj_F_iadd, mj_F_iaload, mj_F_iastore, mj_F_iconst_n, mj_F_ifCond_le_off, mj_F_ifCond_ne_off, mj_F_if_icmp_ge_off, mj_F_if_icmp_lt_off, mj_F_iload_n_k, mj_F_invokestatic_i, mj_F_irem, mj_F_ireturn, mj_F_istore_n_k, mj_F_isub, mj_F_ldc_i, mj_set, mj_set0, mj_unk, mj_c2, mj_kc, KT_X2, List.take_succ_cons, List.take_zero, List.drop_succ_cons, List.drop_zero, List.reverse_cons, List.reverse_nil, List.length_cons, List.length_nil, J_X2_ease]
              refine ⟨z, ?_⟩
              obtain ⟨_, _, e110, z, z2, hw⟩ := ok_wa hw
              refine mj_run hG.1 (fun pc => pc == 2 || pc == 23 || pc == 24 || pc == 42 || pc == 43 || pc == 59 || pc == 60 || pc == 76 || pc == 77 || pc == 84 || pc == 88 || pc == 99 || pc == 101) 4000 ?_
              simp only [e110, z2, mj_step, mj_W_s, mj_fin, List.getElem?_cons_zero, List.getElem?_cons_succ, mj_go, Nat.reduceAdd, Nat.reduceSub, Nat.reduceLT, Nat.reduceLeDiff, Nat.zero_add, Nat.reduceEqDiff, Nat.reduceBEq, ↓reduceIte, Bool.false_eq_true, List.append_nil, List.nil_append, List.cons_append, Option.toList, and_true, true_and, true_or, or_true, reduceCtorEq, List.map_nil, bI_eq0, bI_eq1, bool_ft, pk_us, Bool.or_false, Bool.or_true, Bool.false_or, Bool.true_or, mj_kne, eq_self, Int32.reduceLT, Int32.reduceLE, Int32.reduceAdd, Int32.reduceSub, Int32.reduceMul, not_true_eq_false, not_false_eq_true, false_implies, true_implies, D_X2_ease_0, D_X2_ease_1, mj_F_aload_n_k, mj_F_bipush_n, mj_F_iadd, mj_F_iaload, mj_F_iastore, mj_F_iconst_n, mj_F_ifCond_le_off, mj_F_ifCond_ne_off, mj_F_if_icmp_ge_off, mj_F_if_icmp_lt_off, mj_F_iload_n_k, mj_F_invokestatic_i, mj_F_irem, mj_F_ireturn, mj_F_istore_n_k, mj_F_isub, mj_F_ldc_i, mj_set, mj_set0, mj_unk, mj_c2, mj_kc, KT_X2, List.take_succ_cons, List.take_zero, List.drop_succ_cons, List.drop_zero, List.reverse_cons, List.reverse_nil, List.length_cons, List.length_nil, J_X2_ease]
              refine ⟨z, ?_⟩
              exact (ok_some hw :)
            · replace hw := ok_f hw c
              exact (ok_some hw :)
        · replace hw := ok_f hw c
          obtain ⟨_, _, e111, z, hw⟩ := ok_ra hw
          refine mj_run hG.1 (fun pc => pc == 2 || pc == 23 || pc == 24 || pc == 42 || pc == 43 || pc == 59 || pc == 60 || pc == 76 || pc == 77 || pc == 84 || pc == 88 || pc == 99 || pc == 101) 4000 ?_
          simp only [e111, mj_step, mj_W_s, mj_fin, List.getElem?_cons_zero, List.getElem?_cons_succ, mj_go, Nat.reduceAdd, Nat.reduceSub, Nat.reduceLT, Nat.reduceLeDiff, Nat.zero_add, Nat.reduceEqDiff, Nat.reduceBEq, ↓reduceIte, Bool.false_eq_true, List.append_nil, List.nil_append, List.cons_append, Option.toList, and_true, true_and, true_or, or_true, reduceCtorEq, List.map_nil, bI_eq0, bI_eq1, bool_ft, pk_us, Bool.or_false, Bool.or_true, Bool.false_or, Bool.true_or, mj_kne, eq_self, Int32.reduceLT, Int32.reduceLE, Int32.reduceAdd, Int32.reduceSub, Int32.reduceMul, not_true_eq_false, not_false_eq_true, false_implies, true_implies, D_X2_ease_0, D_X2_ease_1, mj_F_aload_n_k, mj_F_bipush_n, mj_F_iadd, mj_F_iaload, mj_F_iastore, mj_F_iconst_n, mj_F_ifCond_le_off, mj_F_ifCond_ne_off, mj_F_if_icmp_ge_off, mj_F_if_icmp_lt_off, mj_F_iload_n_k, mj_F_invokestatic_i, mj_F_irem, mj_F_ireturn, mj_F_istore_n_k, mj_F_isub, mj_F_ldc_i, mj_set, mj_set0, mj_unk, mj_c2, mj_kc, KT_X2, List.take_succ_cons, List.take_zero, List.drop_succ_cons, List.drop_zero, List.reverse_cons, List.reverse_nil, List.length_cons, List.length_nil, J_X2_ease]
          refine ⟨z, ?_⟩
          refine hM 60 59 0 _ _ _ _ _ _ _ _ (by simp only [D_X2_ease_0, D_X2_ease_1]) (lkX2_59) rfl (Nat.le_of_ble_eq_true rfl) ?_
          refine mj_run hG.1 (fun pc => pc == 2 || pc == 23 || pc == 24 || pc == 42 || pc == 43 || pc == 59 || pc == 60 || pc == 76 || pc == 77 || pc == 84 || pc == 88 || pc == 99 || pc == 101) 4000 ?_
          simp only [mj_step, mj_W_s, mj_fin, List.getElem?_cons_zero, List.getElem?_cons_succ, mj_go, Nat.reduceAdd, Nat.reduceSub, Nat.reduceLT, Nat.reduceLeDiff, Nat.zero_add, Nat.reduceEqDiff, Nat.reduceBEq, ↓reduceIte, Bool.false_eq_true, List.append_nil, List.nil_append, List.cons_append, Option.toList, and_true, true_and, true_or, or_true, reduceCtorEq, List.map_nil, bI_eq0, bI_eq1, bool_ft, pk_us, Bool.or_false, Bool.or_true, Bool.false_or, Bool.true_or, mj_kne, eq_self, Int32.reduceLT, Int32.reduceLE, Int32.reduceAdd, Int32.reduceSub, Int32.reduceMul, not_true_eq_false, not_false_eq_true, false_implies, true_implies, D_X2_ease_0, D_X2_ease_1, mj_F_aload_n_k, mj_F_bipush_n, mj_F_iadd, mj_F_iaload, mj_F_iastore, mj_F_iconst_n, mj_F_ifCond_le_off, mj_F_ifCond_ne_off, mj_F_if_icmp_ge_off, mj_F_if_icmp_lt_off, mj_F_iload_n_k, mj_F_invokestatic_i, mj_F_irem, mj_F_ireturn, mj_F_istore_n_k, mj_F_isub, mj_F_ldc_i, mj_set, mj_set0, mj_unk, mj_c2, mj_kc, KT_X2, List.take_succ_cons, List.take_zero, List.drop_succ_cons, List.drop_zero, List.reverse_cons, List.reverse_nil, List.length_cons, List.length_nil, J_X2_ease]
          refine ⟨fun c => ?_, fun c => ?_⟩
          · replace hw := ok_t hw c
            obtain ⟨_, _, e112, z, hw⟩ := ok_ra hw
            refine mj_run hG.1 (fun pc => pc == 2 || pc == 23 || pc == 24 || pc == 42 || pc == 43 || pc == 59 || pc == 60 || pc == 76 || pc == 77 || pc == 84 || pc == 88 || pc == 99 || pc == 101) 4000 ?_
            simp only [e112, mj_step, mj_W_s, mj_fin, List.getElem?_cons_zero, List.getElem?_cons_succ, mj_go, Nat.reduceAdd, Nat.reduceSub, Nat.reduceLT, Nat.reduceLeDiff, Nat.zero_add, Nat.reduceEqDiff, Nat.reduceBEq, ↓reduceIte, Bool.false_eq_true, List.append_nil, List.nil_append, List.cons_append, Option.toList, and_true, true_and, true_or, or_true, reduceCtorEq, List.map_nil, bI_eq0, bI_eq1, bool_ft, pk_us, Bool.or_false, Bool.or_true, Bool.false_or, Bool.true_or, mj_kne, eq_self, Int32.reduceLT, Int32.reduceLE, Int32.reduceAdd, Int32.reduceSub, Int32.reduceMul, not_true_eq_false, not_false_eq_true, false_implies, true_implies, D_X2_ease_0, D_X2_ease_1, mj_F_aload_n_k, mj_F_bipush_n, mj_F_iadd, mj_F_iaload, mj_F_iastore, mj_F_iconst_n, mj_F_ifCond_le_off, mj_F_ifCond_ne_off, mj_F_if_icmp_ge_off, mj_F_if_icmp_lt_off, mj_F_iload_n_k, mj_F_invokestatic_i, mj_F_irem, mj_F_ireturn, mj_F_istore_n_k, mj_F_isub, mj_F_ldc_i, mj_set, mj_set0, mj_unk, mj_c2, mj_kc, KT_X2, List.take_succ_cons, List.take_zero, List.drop_succ_cons, List.drop_zero, List.reverse_cons, List.reverse_nil, List.length_cons, List.length_nil, J_X2_ease]
            refine ⟨z, ?_⟩
            obtain ⟨_, _, e113, z, hw⟩ := ok_ra hw
            refine mj_run hG.1 (fun pc => pc == 2 || pc == 23 || pc == 24 || pc == 42 || pc == 43 || pc == 59 || pc == 60 || pc == 76 || pc == 77 || pc == 84 || pc == 88 || pc == 99 || pc == 101) 4000 ?_
            simp only [e113, mj_step, mj_W_s, mj_fin, List.getElem?_cons_zero, List.getElem?_cons_succ, mj_go, Nat.reduceAdd, Nat.reduceSub, Nat.reduceLT, Nat.reduceLeDiff, Nat.zero_add, Nat.reduceEqDiff, Nat.reduceBEq, ↓reduceIte, Bool.false_eq_true, List.append_nil, List.nil_append, List.cons_append, Option.toList, and_true, true_and, true_or, or_true, reduceCtorEq, List.map_nil, bI_eq0, bI_eq1, bool_ft, pk_us, Bool.or_false, Bool.or_true, Bool.false_or, Bool.true_or, mj_kne, eq_self, Int32.reduceLT, Int32.reduceLE, Int32.reduceAdd, Int32.reduceSub, Int32.reduceMul, not_true_eq_false, not_false_eq_true, false_implies, true_implies, D_X2_ease_0, D_X2_ease_1, mj_F_aload_n_k, mj_F_bipush_n, mj_F_iadd, mj_F_iaload, mj_F_iastore, mj_F_iconst_n, mj_F_ifCond_le_off, mj_F_ifCond_ne_off, mj_F_if_icmp_ge_off, mj_F_if_icmp_lt_off, mj_F_iload_n_k, mj_F_invokestatic_i, mj_F_irem, mj_F_ireturn, mj_F_istore_n_k, mj_F_isub, mj_F_ldc_i, mj_set, mj_set0, mj_unk, mj_c2, mj_kc, KT_X2, List.take_succ_cons, List.take_zero, List.drop_succ_cons, List.drop_zero, List.reverse_cons, List.reverse_nil, List.length_cons, List.length_nil, J_X2_ease]
            refine ⟨z, ?_⟩
            refine ⟨fun c => ?_, fun c => ?_⟩
            · replace hw := ok_t hw c
              obtain ⟨_, _, e114, z, hw⟩ := ok_ra hw
              refine mj_run hG.1 (fun pc => pc == 2 || pc == 23 || pc == 24 || pc == 42 || pc == 43 || pc == 59 || pc == 60 || pc == 76 || pc == 77 || pc == 84 || pc == 88 || pc == 99 || pc == 101) 4000 ?_
              simp only [e114, mj_step, mj_W_s, mj_fin, List.getElem?_cons_zero, List.getElem?_cons_succ, mj_go, Nat.reduceAdd, Nat.reduceSub, Nat.reduceLT, Nat.reduceLeDiff, Nat.zero_add, Nat.reduceEqDiff, Nat.reduceBEq, ↓reduceIte, Bool.false_eq_true, List.append_nil, List.nil_append, List.cons_append, Option.toList, and_true, true_and, true_or, or_true, reduceCtorEq, List.map_nil, bI_eq0, bI_eq1, bool_ft, pk_us, Bool.or_false, Bool.or_true, Bool.false_or, Bool.true_or, mj_kne, eq_self, Int32.reduceLT, Int32.reduceLE, Int32.reduceAdd, Int32.reduceSub, Int32.reduceMul, not_true_eq_false, not_false_eq_true, false_implies, true_implies, D_X2_ease_0, D_X2_ease_1, mj_F_aload_n_k, mj_F_bipush_n, mj_F_iadd, mj_F_iaload, mj_F_iastore, mj_F_iconst_n, mj_F_ifCond_le_off, mj_F_ifCond_ne_off, mj_F_if_icmp_ge_off, mj_F_if_icmp_lt_off, mj_F_iload_n_k, mj_F_invokestatic_i, mj_F_irem, mj_F_ireturn, mj_F_istore_n_k, mj_F_isub, mj_F_ldc_i, mj_set, mj_set0, mj_unk, mj_c2, mj_kc, KT_X2, List.take_succ_cons, List.take_zero, List.drop_succ_cons, List.drop_zero, List.reverse_cons, List.reverse_nil, List.length_cons, List.length_nil, J_X2_ease]
              refine ⟨z, ?_⟩
              obtain ⟨_, _, e115, z, z2, hw⟩ := ok_wa hw
              refine mj_run hG.1 (fun pc => pc == 2 || pc == 23 || pc == 24 || pc == 42 || pc == 43 || pc == 59 || pc == 60 || pc == 76 || pc == 77 || pc == 84 || pc == 88 || pc == 99 || pc == 101) 4000 ?_
              simp only [e115, z2, mj_step, mj_W_s, mj_fin, List.getElem?_cons_zero, List.getElem?_cons_succ, mj_go, Nat.reduceAdd, Nat.reduceSub, Nat.reduceLT, Nat.reduceLeDiff, Nat.zero_add, Nat.reduceEqDiff, Nat.reduceBEq, ↓reduceIte, Bool.false_eq_true, List.append_nil, List.nil_append, List.cons_append, Option.toList, and_true, true_and, true_or, or_true, reduceCtorEq, List.map_nil, bI_eq0, bI_eq1, bool_ft, pk_us, Bool.or_false, Bool.or_true, Bool.false_or, Bool.true_or, mj_kne, eq_self, Int32.reduceLT, Int32.reduceLE, Int32.reduceAdd, Int32.reduceSub, Int32.reduceMul, not_true_eq_false, not_false_eq_true, false_implies, true_implies, D_X2_ease_0, D_X2_ease_1, mj_F_aload_n_k, mj_F_bipush_n, mj_F_iadd, mj_F_iaload, mj_F_iastore, mj_F_iconst_n, mj_F_ifCond_le_off, mj_F_ifCond_ne_off, mj_F_if_icmp_ge_off, mj_F_if_icmp_lt_off, mj_F_iload_n_k, mj_F_invokestatic_i, mj_F_irem, mj_F_ireturn, mj_F_istore_n_k, mj_F_isub, mj_F_ldc_i, mj_set, mj_set0, mj_unk, mj_c2, mj_kc, KT_X2, List.take_succ_cons, List.take_zero, List.drop_succ_cons, List.drop_zero, List.reverse_cons, List.reverse_nil, List.length_cons, List.length_nil, J_X2_ease]
              refine ⟨z, ?_⟩
              exact (ok_some hw :)
            · replace hw := ok_f hw c
              exact (ok_some hw :)
          · replace hw := ok_f hw c
            obtain ⟨_, _, e116, z, hw⟩ := ok_ra hw
            refine mj_run hG.1 (fun pc => pc == 2 || pc == 23 || pc == 24 || pc == 42 || pc == 43 || pc == 59 || pc == 60 || pc == 76 || pc == 77 || pc == 84 || pc == 88 || pc == 99 || pc == 101) 4000 ?_
            simp only [e116, mj_step, mj_W_s, mj_fin, List.getElem?_cons_zero, List.getElem?_cons_succ, mj_go, Nat.reduceAdd, Nat.reduceSub, Nat.reduceLT, Nat.reduceLeDiff, Nat.zero_add, Nat.reduceEqDiff, Nat.reduceBEq, ↓reduceIte, Bool.false_eq_true, List.append_nil, List.nil_append, List.cons_append, Option.toList, and_true, true_and, true_or, or_true, reduceCtorEq, List.map_nil, bI_eq0, bI_eq1, bool_ft, pk_us, Bool.or_false, Bool.or_true, Bool.false_or, Bool.true_or, mj_kne, eq_self, Int32.reduceLT, Int32.reduceLE, Int32.reduceAdd, Int32.reduceSub, Int32.reduceMul, not_true_eq_false, not_false_eq_true, false_implies, true_implies, D_X2_ease_0, D_X2_ease_1, mj_F_aload_n_k, mj_F_bipush_n, mj_F_iadd, mj_F_iaload, mj_F_iastore, mj_F_iconst_n, mj_F_ifCond_le_off, mj_F_ifCond_ne_off, mj_F_if_icmp_ge_off, mj_F_if_icmp_lt_off, mj_F_iload_n_k, mj_F_invokestatic_i, mj_F_irem, mj_F_ireturn, mj_F_istore_n_k, mj_F_isub, mj_F_ldc_i, mj_set, mj_set0, mj_unk, mj_c2, mj_kc, KT_X2, List.take_succ_cons, List.take_zero, List.drop_succ_cons, List.drop_zero, List.reverse_cons, List.reverse_nil, List.length_cons, List.length_nil, J_X2_ease]
            refine ⟨z, ?_⟩
            refine hM 77 59 0 _ _ _ _ _ _ _ _ (by simp only [D_X2_ease_0, D_X2_ease_1]) (lkX2_59) rfl (Nat.le_of_ble_eq_true rfl) ?_
            refine mj_run hG.1 (fun pc => pc == 2 || pc == 23 || pc == 24 || pc == 42 || pc == 43 || pc == 59 || pc == 60 || pc == 76 || pc == 77 || pc == 84 || pc == 88 || pc == 99 || pc == 101) 4000 ?_
            simp only [mj_step, mj_W_s, mj_fin, List.getElem?_cons_zero, List.getElem?_cons_succ, mj_go, Nat.reduceAdd, Nat.reduceSub, Nat.reduceLT, Nat.reduceLeDiff, Nat.zero_add, Nat.reduceEqDiff, Nat.reduceBEq, ↓reduceIte, Bool.false_eq_true, List.append_nil, List.nil_append, List.cons_append, Option.toList, and_true, true_and, true_or, or_true, reduceCtorEq, List.map_nil, bI_eq0, bI_eq1, bool_ft, pk_us, Bool.or_false, Bool.or_true, Bool.false_or, Bool.true_or, mj_kne, eq_self, Int32.reduceLT, Int32.reduceLE, Int32.reduceAdd, Int32.reduceSub, Int32.reduceMul, not_true_eq_false, not_false_eq_true, false_implies, true_implies, D_X2_ease_0, D_X2_ease_1, mj_F_aload_n_k, mj_F_bipush_n, mj_F_iadd, mj_F_iaload, mj_F_iastore, mj_F_iconst_n, mj_F_ifCond_le_off, mj_F_ifCond_ne_off, mj_F_if_icmp_ge_off, mj_F_if_icmp_lt_off, mj_F_iload_n_k, mj_F_invokestatic_i, mj_F_irem, mj_F_ireturn, mj_F_istore_n_k, mj_F_isub, mj_F_ldc_i, mj_set, mj_set0, mj_unk, mj_c2, mj_kc, KT_X2, List.take_succ_cons, List.take_zero, List.drop_succ_cons, List.drop_zero, List.reverse_cons, List.reverse_nil, List.length_cons, List.length_nil, J_X2_ease]
            obtain ⟨_, _, e117, z, hw⟩ := ok_ra hw
            refine mj_run hG.1 (fun pc => pc == 2 || pc == 23 || pc == 24 || pc == 42 || pc == 43 || pc == 59 || pc == 60 || pc == 76 || pc == 77 || pc == 84 || pc == 88 || pc == 99 || pc == 101) 4000 ?_
            simp only [e117, mj_step, mj_W_s, mj_fin, List.getElem?_cons_zero, List.getElem?_cons_succ, mj_go, Nat.reduceAdd, Nat.reduceSub, Nat.reduceLT, Nat.reduceLeDiff, Nat.zero_add, Nat.reduceEqDiff, Nat.reduceBEq, ↓reduceIte, Bool.false_eq_true, List.append_nil, List.nil_append, List.cons_append, Option.toList, and_true, true_and, true_or, or_true, reduceCtorEq, List.map_nil, bI_eq0, bI_eq1, bool_ft, pk_us, Bool.or_false, Bool.or_true, Bool.false_or, Bool.true_or, mj_kne, eq_self, Int32.reduceLT, Int32.reduceLE, Int32.reduceAdd, Int32.reduceSub, Int32.reduceMul, not_true_eq_false, not_false_eq_true, false_implies, true_implies, D_X2_ease_0, D_X2_ease_1, mj_F_aload_n_k, mj_F_bipush_n, mj_F_iadd, mj_F_iaload, mj_F_iastore, mj_F_iconst_n, mj_F_ifCond_le_off, mj_F_ifCond_ne_off, mj_F_if_icmp_ge_off, mj_F_if_icmp_lt_off, mj_F_iload_n_k, mj_F_invokestatic_i, mj_F_irem, mj_F_ireturn, mj_F_istore_n_k, mj_F_isub, mj_F_ldc_i, mj_set, mj_set0, mj_unk, mj_c2, mj_kc, KT_X2, List.take_succ_cons, List.take_zero, List.drop_succ_cons, List.drop_zero, List.reverse_cons, List.reverse_nil, List.length_cons, List.length_nil, J_X2_ease]
            refine ⟨z, ?_⟩
            obtain ⟨_, _, e118, z, hw⟩ := ok_ra hw
            refine mj_run hG.1 (fun pc => pc == 2 || pc == 23 || pc == 24 || pc == 42 || pc == 43 || pc == 59 || pc == 60 || pc == 76 || pc == 77 || pc == 84 || pc == 88 || pc == 99 || pc == 101) 4000 ?_
            simp only [e118, mj_step, mj_W_s, mj_fin, List.getElem?_cons_zero, List.getElem?_cons_succ, mj_go, Nat.reduceAdd, Nat.reduceSub, Nat.reduceLT, Nat.reduceLeDiff, Nat.zero_add, Nat.reduceEqDiff, Nat.reduceBEq, ↓reduceIte, Bool.false_eq_true, List.append_nil, List.nil_append, List.cons_append, Option.toList, and_true, true_and, true_or, or_true, reduceCtorEq, List.map_nil, bI_eq0, bI_eq1, bool_ft, pk_us, Bool.or_false, Bool.or_true, Bool.false_or, Bool.true_or, mj_kne, eq_self, Int32.reduceLT, Int32.reduceLE, Int32.reduceAdd, Int32.reduceSub, Int32.reduceMul, not_true_eq_false, not_false_eq_true, false_implies, true_implies, D_X2_ease_0, D_X2_ease_1, mj_F_aload_n_k, mj_F_bipush_n, mj_F_iadd, mj_F_iaload, mj_F_iastore, mj_F_iconst_n, mj_F_ifCond_le_off, mj_F_ifCond_ne_off, mj_F_if_icmp_ge_off, mj_F_if_icmp_lt_off, mj_F_iload_n_k, mj_F_invokestatic_i, mj_F_irem, mj_F_ireturn, mj_F_istore_n_k, mj_F_isub, mj_F_ldc_i, mj_set, mj_set0, mj_unk, mj_c2, mj_kc, KT_X2, List.take_succ_cons, List.take_zero, List.drop_succ_cons, List.drop_zero, List.reverse_cons, List.reverse_nil, List.length_cons, List.length_nil, J_X2_ease]
            refine ⟨z, ?_⟩
            refine ⟨fun c => ?_, fun c => ?_⟩
            · replace hw := ok_t hw c
              obtain ⟨_, _, e119, z, hw⟩ := ok_ra hw
              refine mj_run hG.1 (fun pc => pc == 2 || pc == 23 || pc == 24 || pc == 42 || pc == 43 || pc == 59 || pc == 60 || pc == 76 || pc == 77 || pc == 84 || pc == 88 || pc == 99 || pc == 101) 4000 ?_
              simp only [e119, mj_step, mj_W_s, mj_fin, List.getElem?_cons_zero, List.getElem?_cons_succ, mj_go, Nat.reduceAdd, Nat.reduceSub, Nat.reduceLT, Nat.reduceLeDiff, Nat.zero_add, Nat.reduceEqDiff, Nat.reduceBEq, ↓reduceIte, Bool.false_eq_true, List.append_nil, List.nil_append, List.cons_append, Option.toList, and_true, true_and, true_or, or_true, reduceCtorEq, List.map_nil, bI_eq0, bI_eq1, bool_ft, pk_us, Bool.or_false, Bool.or_true, Bool.false_or, Bool.true_or, mj_kne, eq_self, Int32.reduceLT, Int32.reduceLE, Int32.reduceAdd, Int32.reduceSub, Int32.reduceMul, not_true_eq_false, not_false_eq_true, false_implies, true_implies, D_X2_ease_0, D_X2_ease_1, mj_F_aload_n_k, mj_F_bipush_n, mj_F_iadd, mj_F_iaload, mj_F_iastore, mj_F_iconst_n, mj_F_ifCond_le_off, mj_F_ifCond_ne_off, mj_F_if_icmp_ge_off, mj_F_if_icmp_lt_off, mj_F_iload_n_k, mj_F_invokestatic_i, mj_F_irem, mj_F_ireturn, mj_F_istore_n_k, mj_F_isub, mj_F_ldc_i, mj_set, mj_set0, mj_unk, mj_c2, mj_kc, KT_X2, List.take_succ_cons, List.take_zero, List.drop_succ_cons, List.drop_zero, List.reverse_cons, List.reverse_nil, List.length_cons, List.length_nil, J_X2_ease]
              refine ⟨z, ?_⟩
              obtain ⟨_, _, e120, z, z2, hw⟩ := ok_wa hw
              refine mj_run hG.1 (fun pc => pc == 2 || pc == 23 || pc == 24 || pc == 42 || pc == 43 || pc == 59 || pc == 60 || pc == 76 || pc == 77 || pc == 84 || pc == 88 || pc == 99 || pc == 101) 4000 ?_
              simp only [e120, z2, mj_step, mj_W_s, mj_fin, List.getElem?_cons_zero, List.getElem?_cons_succ, mj_go, Nat.reduceAdd, Nat.reduceSub, Nat.reduceLT, Nat.reduceLeDiff, Nat.zero_add, Nat.reduceEqDiff, Nat.reduceBEq, ↓reduceIte, Bool.false_eq_true, List.append_nil, List.nil_append, List.cons_append, Option.toList, and_true, true_and, true_or, or_true, reduceCtorEq, List.map_nil, bI_eq0, bI_eq1, bool_ft, pk_us, Bool.or_false, Bool.or_true, Bool.false_or, Bool.true_or, mj_kne, eq_self, Int32.reduceLT, Int32.reduceLE, Int32.reduceAdd, Int32.reduceSub, Int32.reduceMul, not_true_eq_false, not_false_eq_true, false_implies, true_implies, D_X2_ease_0, D_X2_ease_1, mj_F_aload_n_k, mj_F_bipush_n, mj_F_iadd, mj_F_iaload, mj_F_iastore, mj_F_iconst_n, mj_F_ifCond_le_off, mj_F_ifCond_ne_off, mj_F_if_icmp_ge_off, mj_F_if_icmp_lt_off, mj_F_iload_n_k, mj_F_invokestatic_i, mj_F_irem, mj_F_ireturn, mj_F_istore_n_k, mj_F_isub, mj_F_ldc_i, mj_set, mj_set0, mj_unk, mj_c2, mj_kc, KT_X2, List.take_succ_cons, List.take_zero, List.drop_succ_cons, List.drop_zero, List.reverse_cons, List.reverse_nil, List.length_cons, List.length_nil, J_X2_ease]
              refine ⟨z, ?_⟩
              exact (ok_some hw :)
            · replace hw := ok_f hw c
              exact (ok_some hw :)
    · replace hw := ok_f hw c
      obtain ⟨_, _, e121, z, hw⟩ := ok_ra hw
      refine mj_run hG.1 (fun pc => pc == 2 || pc == 23 || pc == 24 || pc == 42 || pc == 43 || pc == 59 || pc == 60 || pc == 76 || pc == 77 || pc == 84 || pc == 88 || pc == 99 || pc == 101) 4000 ?_
      simp only [e121, mj_step, mj_W_s, mj_fin, List.getElem?_cons_zero, List.getElem?_cons_succ, mj_go, Nat.reduceAdd, Nat.reduceSub, Nat.reduceLT, Nat.reduceLeDiff, Nat.zero_add, Nat.reduceEqDiff, Nat.reduceBEq, ↓reduceIte, Bool.false_eq_true, List.append_nil, List.nil_append, List.cons_append, Option.toList, and_true, true_and, true_or, or_true, reduceCtorEq, List.map_nil, bI_eq0, bI_eq1, bool_ft, pk_us, Bool.or_false, Bool.or_true, Bool.false_or, Bool.true_or, mj_kne, eq_self, Int32.reduceLT, Int32.reduceLE, Int32.reduceAdd, Int32.reduceSub, Int32.reduceMul, not_true_eq_false, not_false_eq_true, false_implies, true_implies, D_X2_ease_0, D_X2_ease_1, mj_F_aload_n_k, mj_F_bipush_n, mj_F_iadd, mj_F_iaload, mj_F_iastore, mj_F_iconst_n, mj_F_ifCond_le_off, mj_F_ifCond_ne_off, mj_F_if_icmp_ge_off, mj_F_if_icmp_lt_off, mj_F_iload_n_k, mj_F_invokestatic_i, mj_F_irem, mj_F_ireturn, mj_F_istore_n_k, mj_F_isub, mj_F_ldc_i, mj_set, mj_set0, mj_unk, mj_c2, mj_kc, KT_X2, List.take_succ_cons, List.take_zero, List.drop_succ_cons, List.drop_zero, List.reverse_cons, List.reverse_nil, List.length_cons, List.length_nil, J_X2_ease]
      refine ⟨z, ?_⟩
      refine hM 24 59 0 _ _ _ _ _ _ _ _ (by simp only [D_X2_ease_0, D_X2_ease_1]) (lkX2_59) rfl (Nat.le_of_ble_eq_true rfl) ?_
      refine mj_run hG.1 (fun pc => pc == 2 || pc == 23 || pc == 24 || pc == 42 || pc == 43 || pc == 59 || pc == 60 || pc == 76 || pc == 77 || pc == 84 || pc == 88 || pc == 99 || pc == 101) 4000 ?_
      simp only [mj_step, mj_W_s, mj_fin, List.getElem?_cons_zero, List.getElem?_cons_succ, mj_go, Nat.reduceAdd, Nat.reduceSub, Nat.reduceLT, Nat.reduceLeDiff, Nat.zero_add, Nat.reduceEqDiff, Nat.reduceBEq, ↓reduceIte, Bool.false_eq_true, List.append_nil, List.nil_append, List.cons_append, Option.toList, and_true, true_and, true_or, or_true, reduceCtorEq, List.map_nil, bI_eq0, bI_eq1, bool_ft, pk_us, Bool.or_false, Bool.or_true, Bool.false_or, Bool.true_or, mj_kne, eq_self, Int32.reduceLT, Int32.reduceLE, Int32.reduceAdd, Int32.reduceSub, Int32.reduceMul, not_true_eq_false, not_false_eq_true, false_implies, true_implies, D_X2_ease_0, D_X2_ease_1, mj_F_aload_n_k, mj_F_bipush_n, mj_F_iadd, mj_F_iaload, mj_F_iastore, mj_F_iconst_n, mj_F_ifCond_le_off, mj_F_ifCond_ne_off, mj_F_if_icmp_ge_off, mj_F_if_icmp_lt_off, mj_F_iload_n_k, mj_F_invokestatic_i, mj_F_irem, mj_F_ireturn, mj_F_istore_n_k, mj_F_isub, mj_F_ldc_i, mj_set, mj_set0, mj_unk, mj_c2, mj_kc, KT_X2, List.take_succ_cons, List.take_zero, List.drop_succ_cons, List.drop_zero, List.reverse_cons, List.reverse_nil, List.length_cons, List.length_nil, J_X2_ease]
      refine ⟨fun c => ?_, fun c => ?_⟩
      · replace hw := ok_t hw c
        refine ⟨fun c => ?_, fun c => ?_⟩
        · replace hw := ok_t hw c
          refine ⟨fun c => ?_, fun c => ?_⟩
          · replace hw := ok_t hw c
            obtain ⟨_, _, e122, z, hw⟩ := ok_ra hw
            refine mj_run hG.1 (fun pc => pc == 2 || pc == 23 || pc == 24 || pc == 42 || pc == 43 || pc == 59 || pc == 60 || pc == 76 || pc == 77 || pc == 84 || pc == 88 || pc == 99 || pc == 101) 4000 ?_
            simp only [e122, mj_step, mj_W_s, mj_fin, List.getElem?_cons_zero, List.getElem?_cons_succ, mj_go, Nat.reduceAdd, Nat.reduceSub, Nat.reduceLT, Nat.reduceLeDiff, Nat.zero_add, Nat.reduceEqDiff, Nat.reduceBEq, ↓reduceIte, Bool.false_eq_true, List.append_nil, List.nil_append, List.cons_append, Option.toList, and_true, true_and, true_or, or_true, reduceCtorEq, List.map_nil, bI_eq0, bI_eq1, bool_ft, pk_us, Bool.or_false, Bool.or_true, Bool.false_or, Bool.true_or, mj_kne, eq_self, Int32.reduceLT, Int32.reduceLE, Int32.reduceAdd, Int32.reduceSub, Int32.reduceMul, not_true_eq_false, not_false_eq_true, false_implies, true_implies, D_X2_ease_0, D_X2_ease_1, mj_F_aload_n_k, mj_F_bipush_n, mj_F_iadd, mj_F_iaload, mj_F_iastore, mj_F_iconst_n, mj_F_ifCond_le_off, mj_F_ifCond_ne_off, mj_F_if_icmp_ge_off, mj_F_if_icmp_lt_off, mj_F_iload_n_k, mj_F_invokestatic_i, mj_F_irem, mj_F_ireturn, mj_F_istore_n_k, mj_F_isub, mj_F_ldc_i, mj_set, mj_set0, mj_unk, mj_c2, mj_kc, KT_X2, List.take_succ_cons, List.take_zero, List.drop_succ_cons, List.drop_zero, List.reverse_cons, List.reverse_nil, List.length_cons, List.length_nil, J_X2_ease]
            refine ⟨z, ?_⟩
            obtain ⟨_, _, e123, z, hw⟩ := ok_ra hw
            refine mj_run hG.1 (fun pc => pc == 2 || pc == 23 || pc == 24 || pc == 42 || pc == 43 || pc == 59 || pc == 60 || pc == 76 || pc == 77 || pc == 84 || pc == 88 || pc == 99 || pc == 101) 4000 ?_
            simp only [e123, mj_step, mj_W_s, mj_fin, List.getElem?_cons_zero, List.getElem?_cons_succ, mj_go, Nat.reduceAdd, Nat.reduceSub, Nat.reduceLT, Nat.reduceLeDiff, Nat.zero_add, Nat.reduceEqDiff, Nat.reduceBEq, ↓reduceIte, Bool.false_eq_true, List.append_nil, List.nil_append, List.cons_append, Option.toList, and_true, true_and, true_or, or_true, reduceCtorEq, List.map_nil, bI_eq0, bI_eq1, bool_ft, pk_us, Bool.or_false, Bool.or_true, Bool.false_or, Bool.true_or, mj_kne, eq_self, Int32.reduceLT, Int32.reduceLE, Int32.reduceAdd, Int32.reduceSub, Int32.reduceMul, not_true_eq_false, not_false_eq_true, false_implies, true_implies, D_X2_ease_0, D_X2_ease_1, mj_F_aload_n_k, mj_F_bipush_n, mj_F_iadd, mj_F_iaload, mj_F_iastore, mj_F_iconst_n, mj_F_ifCond_le_off, mj_F_ifCond_ne_off, mj_F_if_icmp_ge_off, mj_F_if_icmp_lt_off, mj_F_iload_n_k, mj_F_invokestatic_i, mj_F_irem, mj_F_ireturn, mj_F_istore_n_k, mj_F_isub, mj_F_ldc_i, mj_set, mj_set0, mj_unk, mj_c2, mj_kc, KT_X2, List.take_succ_cons, List.take_zero, List.drop_succ_cons, List.drop_zero, List.reverse_cons, List.reverse_nil, List.length_cons, List.length_nil, J_X2_ease]
            refine ⟨z, ?_⟩
            refine ⟨fun c => ?_, fun c => ?_⟩
            · replace hw := ok_t hw c
              obtain ⟨_, _, e124, z, hw⟩ := ok_ra hw
              refine mj_run hG.1 (fun pc => pc == 2 || pc == 23 || pc == 24 || pc == 42 || pc == 43 || pc == 59 || pc == 60 || pc == 76 || pc == 77 || pc == 84 || pc == 88 || pc == 99 || pc == 101) 4000 ?_
              simp only [e124, mj_step, mj_W_s, mj_fin, List.getElem?_cons_zero, List.getElem?_cons_succ, mj_go, Nat.reduceAdd, Nat.reduceSub, Nat.reduceLT, Nat.reduceLeDiff, Nat.zero_add, Nat.reduceEqDiff, Nat.reduceBEq, ↓reduceIte, Bool.false_eq_true, List.append_nil, List.nil_append, List.cons_append, Option.toList, and_true, true_and, true_or, or_true, reduceCtorEq, List.map_nil, bI_eq0, bI_eq1, bool_ft, pk_us, Bool.or_false, Bool.or_true, Bool.false_or, Bool.true_or, mj_kne, eq_self, Int32.reduceLT, Int32.reduceLE, Int32.reduceAdd, Int32.reduceSub, Int32.reduceMul, not_true_eq_false, not_false_eq_true, false_implies, true_implies, D_X2_ease_0, D_X2_ease_1, mj_F_aload_n_k, mj_F_bipush_n, mj_F_iadd, mj_F_iaload, mj_F_iastore, mj_F_iconst_n, mj_F_ifCond_le_off, mj_F_ifCond_ne_off, mj_F_if_icmp_ge_off, mj_F_if_icmp_lt_off, mj_F_iload_n_k, mj_F_invokestatic_i, mj_F_irem, mj_F_ireturn, mj_F_istore_n_k, mj_F_isub, mj_F_ldc_i, mj_set, mj_set0, mj_unk, mj_c2, mj_kc, KT_X2, List.take_succ_cons, List.take_zero, List.drop_succ_cons, List.drop_zero, List.reverse_cons, List.reverse_nil, List.length_cons, List.length_nil, J_X2_ease]
              refine ⟨z, ?_⟩
              obtain ⟨_, _, e125, z, z2, hw⟩ := ok_wa hw
              refine mj_run hG.1 (fun pc => pc == 2 || pc == 23 || pc == 24 || pc == 42 || pc == 43 || pc == 59 || pc == 60 || pc == 76 || pc == 77 || pc == 84 || pc == 88 || pc == 99 || pc == 101) 4000 ?_
              simp only [e125, z2, mj_step, mj_W_s, mj_fin, List.getElem?_cons_zero, List.getElem?_cons_succ, mj_go, Nat.reduceAdd, Nat.reduceSub, Nat.reduceLT, Nat.reduceLeDiff, Nat.zero_add, Nat.reduceEqDiff, Nat.reduceBEq, ↓reduceIte, Bool.false_eq_true, List.append_nil, List.nil_append, List.cons_append, Option.toList, and_true, true_and, true_or, or_true, reduceCtorEq, List.map_nil, bI_eq0, bI_eq1, bool_ft, pk_us, Bool.or_false, Bool.or_true, Bool.false_or, Bool.true_or, mj_kne, eq_self, Int32.reduceLT, Int32.reduceLE, Int32.reduceAdd, Int32.reduceSub, Int32.reduceMul, not_true_eq_false, not_false_eq_true, false_implies, true_implies, D_X2_ease_0, D_X2_ease_1, mj_F_aload_n_k, mj_F_bipush_n, mj_F_iadd, mj_F_iaload, mj_F_iastore, mj_F_iconst_n, mj_F_ifCond_le_off, mj_F_ifCond_ne_off, mj_F_if_icmp_ge_off, mj_F_if_icmp_lt_off, mj_F_iload_n_k, mj_F_invokestatic_i, mj_F_irem, mj_F_ireturn, mj_F_istore_n_k, mj_F_isub, mj_F_ldc_i, mj_set, mj_set0, mj_unk, mj_c2, mj_kc, KT_X2, List.take_succ_cons, List.take_zero, List.drop_succ_cons, List.drop_zero, List.reverse_cons, List.reverse_nil, List.length_cons, List.length_nil, J_X2_ease]
              refine ⟨z, ?_⟩
              exact (ok_some hw :)
            · replace hw := ok_f hw c
              exact (ok_some hw :)
          · replace hw := ok_f hw c
            obtain ⟨_, _, e126, z, hw⟩ := ok_ra hw
            refine mj_run hG.1 (fun pc => pc == 2 || pc == 23 || pc == 24 || pc == 42 || pc == 43 || pc == 59 || pc == 60 || pc == 76 || pc == 77 || pc == 84 || pc == 88 || pc == 99 || pc == 101) 4000 ?_
            simp only [e126, mj_step, mj_W_s, mj_fin, List.getElem?_cons_zero, List.getElem?_cons_succ, mj_go, Nat.reduceAdd, Nat.reduceSub, Nat.reduceLT, Nat.reduceLeDiff, Nat.zero_add, Nat.reduceEqDiff, Nat.reduceBEq, ↓reduceIte, Bool.false_eq_true, List.append_nil, List.nil_append, List.cons_append, Option.toList, and_true, true_and, true_or, or_true, reduceCtorEq, List.map_nil, bI_eq0, bI_eq1, bool_ft, pk_us, Bool.or_false, Bool.or_true, Bool.false_or, Bool.true_or, mj_kne, eq_self, Int32.reduceLT, Int32.reduceLE, Int32.reduceAdd, Int32.reduceSub, Int32.reduceMul, not_true_eq_false, not_false_eq_true, false_implies, true_implies, D_X2_ease_0, D_X2_ease_1, mj_F_aload_n_k, mj_F_bipush_n, mj_F_iadd, mj_F_iaload, mj_F_iastore, mj_F_iconst_n, mj_F_ifCond_le_off, mj_F_ifCond_ne_off, mj_F_if_icmp_ge_off, mj_F_if_icmp_lt_off, mj_F_iload_n_k, mj_F_invokestatic_i, mj_F_irem, mj_F_ireturn, mj_F_istore_n_k, mj_F_isub, mj_F_ldc_i, mj_set, mj_set0, mj_unk, mj_c2, mj_kc, KT_X2, List.take_succ_cons, List.take_zero, List.drop_succ_cons, List.drop_zero, List.reverse_cons, List.reverse_nil, List.length_cons, List.length_nil, J_X2_ease]
            refine ⟨z, ?_⟩
            refine hM 77 59 0 _ _ _ _ _ _ _ _ (by simp only [D_X2_ease_0, D_X2_ease_1]) (lkX2_59) rfl (Nat.le_of_ble_eq_true rfl) ?_
            refine mj_run hG.1 (fun pc => pc == 2 || pc == 23 || pc == 24 || pc == 42 || pc == 43 || pc == 59 || pc == 60 || pc == 76 || pc == 77 || pc == 84 || pc == 88 || pc == 99 || pc == 101) 4000 ?_
            simp only [mj_step, mj_W_s, mj_fin, List.getElem?_cons_zero, List.getElem?_cons_succ, mj_go, Nat.reduceAdd, Nat.reduceSub, Nat.reduceLT, Nat.reduceLeDiff, Nat.zero_add, Nat.reduceEqDiff, Nat.reduceBEq, ↓reduceIte, Bool.false_eq_true, List.append_nil, List.nil_append, List.cons_append, Option.toList, and_true, true_and, true_or, or_true, reduceCtorEq, List.map_nil, bI_eq0, bI_eq1, bool_ft, pk_us, Bool.or_false, Bool.or_true, Bool.false_or, Bool.true_or, mj_kne, eq_self, Int32.reduceLT, Int32.reduceLE, Int32.reduceAdd, Int32.reduceSub, Int32.reduceMul, not_true_eq_false, not_false_eq_true, false_implies, true_implies, D_X2_ease_0, D_X2_ease_1, mj_F_aload_n_k, mj_F_bipush_n, mj_F_iadd, mj_F_iaload, mj_F_iastore, mj_F_iconst_n, mj_F_ifCond_le_off, mj_F_ifCond_ne_off, mj_F_if_icmp_ge_off, mj_F_if_icmp_lt_off, mj_F_iload_n_k, mj_F_invokestatic_i, mj_F_irem, mj_F_ireturn, mj_F_istore_n_k, mj_F_isub, mj_F_ldc_i, mj_set, mj_set0, mj_unk, mj_c2, mj_kc, KT_X2, List.take_succ_cons, List.take_zero, List.drop_succ_cons, List.drop_zero, List.reverse_cons, List.reverse_nil, List.length_cons, List.length_nil, J_X2_ease]
            obtain ⟨_, _, e127, z, hw⟩ := ok_ra hw
            refine mj_run hG.1 (fun pc => pc == 2 || pc == 23 || pc == 24 || pc == 42 || pc == 43 || pc == 59 || pc == 60 || pc == 76 || pc == 77 || pc == 84 || pc == 88 || pc == 99 || pc == 101) 4000 ?_
            simp only [e127, mj_step, mj_W_s, mj_fin, List.getElem?_cons_zero, List.getElem?_cons_succ, mj_go, Nat.reduceAdd, Nat.reduceSub, Nat.reduceLT, Nat.reduceLeDiff, Nat.zero_add, Nat.reduceEqDiff, Nat.reduceBEq, ↓reduceIte, Bool.false_eq_true, List.append_nil, List.nil_append, List.cons_append, Option.toList, and_true, true_and, true_or, or_true, reduceCtorEq, List.map_nil, bI_eq0, bI_eq1, bool_ft, pk_us, Bool.or_false, Bool.or_true, Bool.false_or, Bool.true_or, mj_kne, eq_self, Int32.reduceLT, Int32.reduceLE, Int32.reduceAdd, Int32.reduceSub, Int32.reduceMul, not_true_eq_false, not_false_eq_true, false_implies, true_implies, D_X2_ease_0, D_X2_ease_1, mj_F_aload_n_k, mj_F_bipush_n, mj_F_iadd, mj_F_iaload, mj_F_iastore, mj_F_iconst_n, mj_F_ifCond_le_off, mj_F_ifCond_ne_off, mj_F_if_icmp_ge_off, mj_F_if_icmp_lt_off, mj_F_iload_n_k, mj_F_invokestatic_i, mj_F_irem, mj_F_ireturn, mj_F_istore_n_k, mj_F_isub, mj_F_ldc_i, mj_set, mj_set0, mj_unk, mj_c2, mj_kc, KT_X2, List.take_succ_cons, List.take_zero, List.drop_succ_cons, List.drop_zero, List.reverse_cons, List.reverse_nil, List.length_cons, List.length_nil, J_X2_ease]
            refine ⟨z, ?_⟩
            obtain ⟨_, _, e128, z, hw⟩ := ok_ra hw
            refine mj_run hG.1 (fun pc => pc == 2 || pc == 23 || pc == 24 || pc == 42 || pc == 43 || pc == 59 || pc == 60 || pc == 76 || pc == 77 || pc == 84 || pc == 88 || pc == 99 || pc == 101) 4000 ?_
            simp only [e128, mj_step, mj_W_s, mj_fin, List.getElem?_cons_zero, List.getElem?_cons_succ, mj_go, Nat.reduceAdd, Nat.reduceSub, Nat.reduceLT, Nat.reduceLeDiff, Nat.zero_add, Nat.reduceEqDiff, Nat.reduceBEq, ↓reduceIte, Bool.false_eq_true, List.append_nil, List.nil_append, List.cons_append, Option.toList, and_true, true_and, true_or, or_true, reduceCtorEq, List.map_nil, bI_eq0, bI_eq1, bool_ft, pk_us, Bool.or_false, Bool.or_true, Bool.false_or, Bool.true_or, mj_kne, eq_self, Int32.reduceLT, Int32.reduceLE, Int32.reduceAdd, Int32.reduceSub, Int32.reduceMul, not_true_eq_false, not_false_eq_true, false_implies, true_implies, D_X2_ease_0, D_X2_ease_1, mj_F_aload_n_k, mj_F_bipush_n, mj_F_iadd, mj_F_iaload, mj_F_iastore, mj_F_iconst_n, mj_F_ifCond_le_off, mj_F_ifCond_ne_off, mj_F_if_icmp_ge_off, mj_F_if_icmp_lt_off, mj_F_iload_n_k, mj_F_invokestatic_i, mj_F_irem, mj_F_ireturn, mj_F_istore_n_k, mj_F_isub, mj_F_ldc_i, mj_set, mj_set0, mj_unk, mj_c2, mj_kc, KT_X2, List.take_succ_cons, List.take_zero, List.drop_succ_cons, List.drop_zero, List.reverse_cons, List.reverse_nil, List.length_cons, List.length_nil, J_X2_ease]
            refine ⟨z, ?_⟩
            refine ⟨fun c => ?_, fun c => ?_⟩
            · replace hw := ok_t hw c
              obtain ⟨_, _, e129, z, hw⟩ := ok_ra hw
              refine mj_run hG.1 (fun pc => pc == 2 || pc == 23 || pc == 24 || pc == 42 || pc == 43 || pc == 59 || pc == 60 || pc == 76 || pc == 77 || pc == 84 || pc == 88 || pc == 99 || pc == 101) 4000 ?_
              simp only [e129, mj_step, mj_W_s, mj_fin, List.getElem?_cons_zero, List.getElem?_cons_succ, mj_go, Nat.reduceAdd, Nat.reduceSub, Nat.reduceLT, Nat.reduceLeDiff, Nat.zero_add, Nat.reduceEqDiff, Nat.reduceBEq, ↓reduceIte, Bool.false_eq_true, List.append_nil, List.nil_append, List.cons_append, Option.toList, and_true, true_and, true_or, or_true, reduceCtorEq, List.map_nil, bI_eq0, bI_eq1, bool_ft, pk_us, Bool.or_false, Bool.or_true, Bool.false_or, Bool.true_or, mj_kne, eq_self, Int32.reduceLT, Int32.reduceLE, Int32.reduceAdd, Int32.reduceSub, Int32.reduceMul, not_true_eq_false, not_false_eq_true, false_implies, true_implies, D_X2_ease_0, D_X2_ease_1, mj_F_aload_n_k, mj_F_bipush_n, mj_F_iadd, mj_F_iaload, mj_F_iastore, mj_F_iconst_n, mj_F_ifCond_le_off, mj_F_ifCond_ne_off, mj_F_if_icmp_ge_off, mj_F_if_icmp_lt_off, mj_F_iload_n_k, mj_F_invokestatic_i, mj_F_irem, mj_F_ireturn, mj_F_istore_n_k, mj_F_isub, mj_F_ldc_i, mj_set, mj_set0, mj_unk, mj_c2, mj_kc, KT_X2, List.take_succ_cons, List.take_zero, List.drop_succ_cons, List.drop_zero, List.reverse_cons, List.reverse_nil, List.length_cons, List.length_nil, J_X2_ease]
              refine ⟨z, ?_⟩
              obtain ⟨_, _, e130, z, z2, hw⟩ := ok_wa hw
              refine mj_run hG.1 (fun pc => pc == 2 || pc == 23 || pc == 24 || pc == 42 || pc == 43 || pc == 59 || pc == 60 || pc == 76 || pc == 77 || pc == 84 || pc == 88 || pc == 99 || pc == 101) 4000 ?_
              simp only [e130, z2, mj_step, mj_W_s, mj_fin, List.getElem?_cons_zero, List.getElem?_cons_succ, mj_go, Nat.reduceAdd, Nat.reduceSub, Nat.reduceLT, Nat.reduceLeDiff, Nat.zero_add, Nat.reduceEqDiff, Nat.reduceBEq, ↓reduceIte, Bool.false_eq_true, List.append_nil, List.nil_append, List.cons_append, Option.toList, and_true, true_and, true_or, or_true, reduceCtorEq, List.map_nil, bI_eq0, bI_eq1, bool_ft, pk_us, Bool.or_false, Bool.or_true, Bool.false_or, Bool.true_or, mj_kne, eq_self, Int32.reduceLT, Int32.reduceLE, Int32.reduceAdd, Int32.reduceSub, Int32.reduceMul, not_true_eq_false, not_false_eq_true, false_implies, true_implies, D_X2_ease_0, D_X2_ease_1, mj_F_aload_n_k, mj_F_bipush_n, mj_F_iadd, mj_F_iaload, mj_F_iastore, mj_F_iconst_n, mj_F_ifCond_le_off, mj_F_ifCond_ne_off, mj_F_if_icmp_ge_off, mj_F_if_icmp_lt_off, mj_F_iload_n_k, mj_F_invokestatic_i, mj_F_irem, mj_F_ireturn, mj_F_istore_n_k, mj_F_isub, mj_F_ldc_i, mj_set, mj_set0, mj_unk, mj_c2, mj_kc, KT_X2, List.take_succ_cons, List.take_zero, List.drop_succ_cons, List.drop_zero, List.reverse_cons, List.reverse_nil, List.length_cons, List.length_nil, J_X2_ease]
              refine ⟨z, ?_⟩
              exact (ok_some hw :)
            · replace hw := ok_f hw c
              exact (ok_some hw :)
        · replace hw := ok_f hw c
          obtain ⟨_, _, e131, z, hw⟩ := ok_ra hw
          refine mj_run hG.1 (fun pc => pc == 2 || pc == 23 || pc == 24 || pc == 42 || pc == 43 || pc == 59 || pc == 60 || pc == 76 || pc == 77 || pc == 84 || pc == 88 || pc == 99 || pc == 101) 4000 ?_
          simp only [e131, mj_step, mj_W_s, mj_fin, List.getElem?_cons_zero, List.getElem?_cons_succ, mj_go, Nat.reduceAdd, Nat.reduceSub, Nat.reduceLT, Nat.reduceLeDiff, Nat.zero_add, Nat.reduceEqDiff, Nat.reduceBEq, ↓reduceIte, Bool.false_eq_true, List.append_nil, List.nil_append, List.cons_append, Option.toList, and_true, true_and, true_or, or_true, reduceCtorEq, List.map_nil, bI_eq0, bI_eq1, bool_ft, pk_us, Bool.or_false, Bool.or_true, Bool.false_or, Bool.true_or, mj_kne, eq_self, Int32.reduceLT, Int32.reduceLE, Int32.reduceAdd, Int32.reduceSub, Int32.reduceMul, not_true_eq_false, not_false_eq_true, false_implies, true_implies, D_X2_ease_0, D_X2_ease_1, mj_F_aload_n_k, mj_F_bipush_n, mj_F_iadd, mj_F_iaload, mj_F_iastore, mj_F_iconst_n, mj_F_ifCond_le_off, mj_F_ifCond_ne_off, mj_F_if_icmp_ge_off, mj_F_if_icmp_lt_off, mj_F_iload_n_k, mj_F_invokestatic_i, mj_F_irem, mj_F_ireturn, mj_F_istore_n_k, mj_F_isub, mj_F_ldc_i, mj_set, mj_set0, mj_unk, mj_c2, mj_kc, KT_X2, List.take_succ_cons, List.take_zero, List.drop_succ_cons, List.drop_zero, List.reverse_cons, List.reverse_nil, List.length_cons, List.length_nil, J_X2_ease]
          refine ⟨z, ?_⟩
          refine hM 60 59 0 _ _ _ _ _ _ _ _ (by simp only [D_X2_ease_0, D_X2_ease_1]) (lkX2_59) rfl (Nat.le_of_ble_eq_true rfl) ?_
          refine mj_run hG.1 (fun pc => pc == 2 || pc == 23 || pc == 24 || pc == 42 || pc == 43 || pc == 59 || pc == 60 || pc == 76 || pc == 77 || pc == 84 || pc == 88 || pc == 99 || pc == 101) 4000 ?_
          simp only [mj_step, mj_W_s, mj_fin, List.getElem?_cons_zero, List.getElem?_cons_succ, mj_go, Nat.reduceAdd, Nat.reduceSub, Nat.reduceLT, Nat.reduceLeDiff, Nat.zero_add, Nat.reduceEqDiff, Nat.reduceBEq, ↓reduceIte, Bool.false_eq_true, List.append_nil, List.nil_append, List.cons_append, Option.toList, and_true, true_and, true_or, or_true, reduceCtorEq, List.map_nil, bI_eq0, bI_eq1, bool_ft, pk_us, Bool.or_false, Bool.or_true, Bool.false_or, Bool.true_or, mj_kne, eq_self, Int32.reduceLT, Int32.reduceLE, Int32.reduceAdd, Int32.reduceSub, Int32.reduceMul, not_true_eq_false, not_false_eq_true, false_implies, true_implies, D_X2_ease_0, D_X2_ease_1, mj_F_aload_n_k, mj_F_bipush_n, mj_F_iadd, mj_F_iaload, mj_F_iastore, mj_F_iconst_n, mj_F_ifCond_le_off, mj_F_ifCond_ne_off, mj_F_if_icmp_ge_off, mj_F_if_icmp_lt_off, mj_F_iload_n_k, mj_F_invokestatic_i, mj_F_irem, mj_F_ireturn, mj_F_istore_n_k, mj_F_isub, mj_F_ldc_i, mj_set, mj_set0, mj_unk, mj_c2, mj_kc, KT_X2, List.take_succ_cons, List.take_zero, List.drop_succ_cons, List.drop_zero, List.reverse_cons, List.reverse_nil, List.length_cons, List.length_nil, J_X2_ease]
          refine ⟨fun c => ?_, fun c => ?_⟩
          · replace hw := ok_t hw c
            obtain ⟨_, _, e132, z, hw⟩ := ok_ra hw
            refine mj_run hG.1 (fun pc => pc == 2 || pc == 23 || pc == 24 || pc == 42 || pc == 43 || pc == 59 || pc == 60 || pc == 76 || pc == 77 || pc == 84 || pc == 88 || pc == 99 || pc == 101) 4000 ?_
            simp only [e132, mj_step, mj_W_s, mj_fin, List.getElem?_cons_zero, List.getElem?_cons_succ, mj_go, Nat.reduceAdd, Nat.reduceSub, Nat.reduceLT, Nat.reduceLeDiff, Nat.zero_add, Nat.reduceEqDiff, Nat.reduceBEq, ↓reduceIte, Bool.false_eq_true, List.append_nil, List.nil_append, List.cons_append, Option.toList, and_true, true_and, true_or, or_true, reduceCtorEq, List.map_nil, bI_eq0, bI_eq1, bool_ft, pk_us, Bool.or_false, Bool.or_true, Bool.false_or, Bool.true_or, mj_kne, eq_self, Int32.reduceLT, Int32.reduceLE, Int32.reduceAdd, Int32.reduceSub, Int32.reduceMul, not_true_eq_false, not_false_eq_true, false_implies, true_implies, D_X2_ease_0, D_X2_ease_1, mj_F_aload_n_k, mj_F_bipush_n, mj_F_iadd, mj_F_iaload, mj_F_iastore, mj_F_iconst_n, mj_F_ifCond_le_off, mj_F_ifCond_ne_off, mj_F_if_icmp_ge_off, mj_F_if_icmp_lt_off, mj_F_iload_n_k, mj_F_invokestatic_i, mj_F_irem, mj_F_ireturn, mj_F_istore_n_k, mj_F_isub, mj_F_ldc_i, mj_set, mj_set0, mj_unk, mj_c2, mj_kc, KT_X2, List.take_succ_cons, List.take_zero, List.drop_succ_cons, List.drop_zero, List.reverse_cons, List.reverse_nil, List.length_cons, List.length_nil, J_X2_ease]
            refine ⟨z, ?_⟩
            obtain ⟨_, _, e133, z, hw⟩ := ok_ra hw
            refine mj_run hG.1 (fun pc => pc == 2 || pc == 23 || pc == 24 || pc == 42 || pc == 43 || pc == 59 || pc == 60 || pc == 76 || pc == 77 || pc == 84 || pc == 88 || pc == 99 || pc == 101) 4000 ?_
            simp only [e133, mj_step, mj_W_s, mj_fin, List.getElem?_cons_zero, List.getElem?_cons_succ, mj_go, Nat.reduceAdd, Nat.reduceSub, Nat.reduceLT, Nat.reduceLeDiff, Nat.zero_add, Nat.reduceEqDiff, Nat.reduceBEq, ↓reduceIte, Bool.false_eq_true, List.append_nil, List.nil_append, List.cons_append, Option.toList, and_true, true_and, true_or, or_true, reduceCtorEq, List.map_nil, bI_eq0, bI_eq1, bool_ft, pk_us, Bool.or_false, Bool.or_true, Bool.false_or, Bool.true_or, mj_kne, eq_self, Int32.reduceLT, Int32.reduceLE, Int32.reduceAdd, Int32.reduceSub, Int32.reduceMul, not_true_eq_false, not_false_eq_true, false_implies, true_implies, D_X2_ease_0, D_X2_ease_1, mj_F_aload_n_k, mj_F_bipush_n, mj_F_iadd, mj_F_iaload, mj_F_iastore, mj_F_iconst_n, mj_F_ifCond_le_off, mj_F_ifCond_ne_off, mj_F_if_icmp_ge_off, mj_F_if_icmp_lt_off, mj_F_iload_n_k, mj_F_invokestatic_i, mj_F_irem, mj_F_ireturn, mj_F_istore_n_k, mj_F_isub, mj_F_ldc_i, mj_set, mj_set0, mj_unk, mj_c2, mj_kc, KT_X2, List.take_succ_cons, List.take_zero, List.drop_succ_cons, List.drop_zero, List.reverse_cons, List.reverse_nil, List.length_cons, List.length_nil, J_X2_ease]
            refine ⟨z, ?_⟩
            refine ⟨fun c => ?_, fun c => ?_⟩
            · replace hw := ok_t hw c
              obtain ⟨_, _, e134, z, hw⟩ := ok_ra hw
              refine mj_run hG.1 (fun pc => pc == 2 || pc == 23 || pc == 24 || pc == 42 || pc == 43 || pc == 59 || pc == 60 || pc == 76 || pc == 77 || pc == 84 || pc == 88 || pc == 99 || pc == 101) 4000 ?_
              simp only [e134, mj_step, mj_W_s, mj_fin, List.getElem?_cons_zero, List.getElem?_cons_succ, mj_go, Nat.reduceAdd, Nat.reduceSub, Nat.reduceLT, Nat.reduceLeDiff, Nat.zero_add, Nat.reduceEqDiff, Nat.reduceBEq, ↓reduceIte, Bool.false_eq_true, List.append_nil, List.nil_append, List.cons_append, Option.toList, and_true, true_and, true_or, or_true, reduceCtorEq, List.map_nil, bI_eq0, bI_eq1, bool_ft, pk_us, Bool.or_false, Bool.or_true, Bool.false_or, Bool.true_or, mj_kne, eq_self, Int32.reduceLT, Int32.reduceLE, Int32.reduceAdd, Int32.reduceSub, Int32.reduceMul, not_true_eq_false, not_false_eq_true, false_implies, true_implies, D_X2_ease_0, D_X2_ease_1, mj_F_aload_n_k, mj_F_bipush_n, mj_F_iadd, mj_F_iaload, mj_F_iastore, mj_F_iconst_n, mj_F_ifCond_le_off, mj_F_ifCond_ne_off, mj_F_if_icmp_ge_off, mj_F_if_icmp_lt_off, mj_F_iload_n_k, mj_F_invokestatic_i, mj_F_irem, mj_F_ireturn, mj_F_istore_n_k, mj_F_isub, mj_F_ldc_i, mj_set, mj_set0, mj_unk, mj_c2, mj_kc, KT_X2, List.take_succ_cons, List.take_zero, List.drop_succ_cons, List.drop_zero, List.reverse_cons, List.reverse_nil, List.length_cons, List.length_nil, J_X2_ease]
              refine ⟨z, ?_⟩
              obtain ⟨_, _, e135, z, z2, hw⟩ := ok_wa hw
              refine mj_run hG.1 (fun pc => pc == 2 || pc == 23 || pc == 24 || pc == 42 || pc == 43 || pc == 59 || pc == 60 || pc == 76 || pc == 77 || pc == 84 || pc == 88 || pc == 99 || pc == 101) 4000 ?_
              simp only [e135, z2, mj_step, mj_W_s, mj_fin, List.getElem?_cons_zero, List.getElem?_cons_succ, mj_go, Nat.reduceAdd, Nat.reduceSub, Nat.reduceLT, Nat.reduceLeDiff, Nat.zero_add, Nat.reduceEqDiff, Nat.reduceBEq, ↓reduceIte, Bool.false_eq_true, List.append_nil, List.nil_append, List.cons_append, Option.toList, and_true, true_and, true_or, or_true, reduceCtorEq, List.map_nil, bI_eq0, bI_eq1, bool_ft, pk_us, Bool.or_false, Bool.or_true, Bool.false_or, Bool.true_or, mj_kne, eq_self, Int32.reduceLT, Int32.reduceLE, Int32.reduceAdd, Int32.reduceSub, Int32.reduceMul, not_true_eq_false, not_false_eq_true, false_implies, true_implies, D_X2_ease_0, D_X2_ease_1, mj_F_aload_n_k, mj_F_bipush_n, mj_F_iadd, mj_F_iaload, mj_F_iastore, mj_F_iconst_n, mj_F_ifCond_le_off, mj_F_ifCond_ne_off, mj_F_if_icmp_ge_off, mj_F_if_icmp_lt_off, mj_F_iload_n_k, mj_F_invokestatic_i, mj_F_irem, mj_F_ireturn, mj_F_istore_n_k, mj_F_isub, mj_F_ldc_i, mj_set, mj_set0, mj_unk, mj_c2, mj_kc, KT_X2, List.take_succ_cons, List.take_zero, List.drop_succ_cons, List.drop_zero, List.reverse_cons, List.reverse_nil, List.length_cons, List.length_nil, J_X2_ease]
              refine ⟨z, ?_⟩
              exact (ok_some hw :)
            · replace hw := ok_f hw c
              exact (ok_some hw :)
          · replace hw := ok_f hw c
            obtain ⟨_, _, e136, z, hw⟩ := ok_ra hw
            refine mj_run hG.1 (fun pc => pc == 2 || pc == 23 || pc == 24 || pc == 42 || pc == 43 || pc == 59 || pc == 60 || pc == 76 || pc == 77 || pc == 84 || pc == 88 || pc == 99 || pc == 101) 4000 ?_
            simp only [e136, mj_step, mj_W_s, mj_fin, List.getElem?_cons_zero, List.getElem?_cons_succ, mj_go, Nat.reduceAdd, Nat.reduceSub, Nat.reduceLT, Nat.reduceLeDiff, Nat.zero_add, Nat.reduceEqDiff, Nat.reduceBEq, ↓reduceIte, Bool.false_eq_true, List.append_nil, List.nil_append, List.cons_append, Option.toList, and_true, true_and, true_or, or_true, reduceCtorEq, List.map_nil, bI_eq0, bI_eq1, bool_ft, pk_us, Bool.or_false, Bool.or_true, Bool.false_or, Bool.true_or, mj_kne, eq_self, Int32.reduceLT, Int32.reduceLE, Int32.reduceAdd, Int32.reduceSub, Int32.reduceMul, not_true_eq_false, not_false_eq_true, false_implies, true_implies, D_X2_ease_0, D_X2_ease_1, mj_F_aload_n_k, mj_F_bipush_n, mj_F_iadd, mj_F_iaload, mj_F_iastore, mj_F_iconst_n, mj_F_ifCond_le_off, mj_F_ifCond_ne_off, mj_F_if_icmp_ge_off, mj_F_if_icmp_lt_off, mj_F_iload_n_k, mj_F_invokestatic_i, mj_F_irem, mj_F_ireturn, mj_F_istore_n_k, mj_F_isub, mj_F_ldc_i, mj_set, mj_set0, mj_unk, mj_c2, mj_kc, KT_X2, List.take_succ_cons, List.take_zero, List.drop_succ_cons, List.drop_zero, List.reverse_cons, List.reverse_nil, List.length_cons, List.length_nil, J_X2_ease]
            refine ⟨z, ?_⟩
            refine hM 77 59 0 _ _ _ _ _ _ _ _ (by simp only [D_X2_ease_0, D_X2_ease_1]) (lkX2_59) rfl (Nat.le_of_ble_eq_true rfl) ?_
            refine mj_run hG.1 (fun pc => pc == 2 || pc == 23 || pc == 24 || pc == 42 || pc == 43 || pc == 59 || pc == 60 || pc == 76 || pc == 77 || pc == 84 || pc == 88 || pc == 99 || pc == 101) 4000 ?_
            simp only [mj_step, mj_W_s, mj_fin, List.getElem?_cons_zero, List.getElem?_cons_succ, mj_go, Nat.reduceAdd, Nat.reduceSub, Nat.reduceLT, Nat.reduceLeDiff, Nat.zero_add, Nat.reduceEqDiff, Nat.reduceBEq, ↓reduceIte, Bool.false_eq_true, List.append_nil, List.nil_append, List.cons_append, Option.toList, and_true, true_and, true_or, or_true, reduceCtorEq, List.map_nil, bI_eq0, bI_eq1, bool_ft, pk_us, Bool.or_false, Bool.or_true, Bool.false_or, Bool.true_or, mj_kne, eq_self, Int32.reduceLT, Int32.reduceLE, Int32.reduceAdd, Int32.reduceSub, Int32.reduceMul, not_true_eq_false, not_false_eq_true, false_implies, true_implies, D_X2_ease_0, D_X2_ease_1, mj_F_aload_n_k, mj_F_bipush_n, mj_F_iadd, mj_F_iaload, mj_F_iastore, mj_F_iconst_n, mj_F_ifCond_le_off, mj_F_ifCond_ne_off, mj_F_if_icmp_ge_off, mj_F_if_icmp_lt_off, mj_F_iload_n_k, mj_F_invokestatic_i, mj_F_irem, mj_F_ireturn, mj_F_istore_n_k, mj_F_isub, mj_F_ldc_i, mj_set, mj_set0, mj_unk, mj_c2, mj_kc, KT_X2, List.take_succ_cons, List.take_zero, List.drop_succ_cons, List.drop_zero, List.reverse_cons, List.reverse_nil, List.length_cons, List.length_nil, J_X2_ease]
            obtain ⟨_, _, e137, z, hw⟩ := ok_ra hw
            refine mj_run hG.1 (fun pc => pc == 2 || pc == 23 || pc == 24 || pc == 42 || pc == 43 || pc == 59 || pc == 60 || pc == 76 || pc == 77 || pc == 84 || pc == 88 || pc == 99 || pc == 101) 4000 ?_
            simp only [e137, mj_step, mj_W_s, mj_fin, List.getElem?_cons_zero, List.getElem?_cons_succ, mj_go, Nat.reduceAdd, Nat.reduceSub, Nat.reduceLT, Nat.reduceLeDiff, Nat.zero_add, Nat.reduceEqDiff, Nat.reduceBEq, ↓reduceIte, Bool.false_eq_true, List.append_nil, List.nil_append, List.cons_append, Option.toList, and_true, true_and, true_or, or_true, reduceCtorEq, List.map_nil, bI_eq0, bI_eq1, bool_ft, pk_us, Bool.or_false, Bool.or_true, Bool.false_or, Bool.true_or, mj_kne, eq_self, Int32.reduceLT, Int32.reduceLE, Int32.reduceAdd, Int32.reduceSub, Int32.reduceMul, not_true_eq_false, not_false_eq_true, false_implies, true_implies, D_X2_ease_0, D_X2_ease_1, mj_F_aload_n_k, mj_F_bipush_n, mj_F_iadd, mj_F_iaload, mj_F_iastore, mj_F_iconst_n, mj_F_ifCond_le_off, mj_F_ifCond_ne_off, mj_F_if_icmp_ge_off, mj_F_if_icmp_lt_off, mj_F_iload_n_k, mj_F_invokestatic_i, mj_F_irem, mj_F_ireturn, mj_F_istore_n_k, mj_F_isub, mj_F_ldc_i, mj_set, mj_set0, mj_unk, mj_c2, mj_kc, KT_X2, List.take_succ_cons, List.take_zero, List.drop_succ_cons, List.drop_zero, List.reverse_cons, List.reverse_nil, List.length_cons, List.length_nil, J_X2_ease]
            refine ⟨z, ?_⟩
            obtain ⟨_, _, e138, z, hw⟩ := ok_ra hw
            refine mj_run hG.1 (fun pc => pc == 2 || pc == 23 || pc == 24 || pc == 42 || pc == 43 || pc == 59 || pc == 60 || pc == 76 || pc == 77 || pc == 84 || pc == 88 || pc == 99 || pc == 101) 4000 ?_
            simp only [e138, mj_step, mj_W_s, mj_fin, List.getElem?_cons_zero, List.getElem?_cons_succ, mj_go, Nat.reduceAdd, Nat.reduceSub, Nat.reduceLT, Nat.reduceLeDiff, Nat.zero_add, Nat.reduceEqDiff, Nat.reduceBEq, ↓reduceIte, Bool.false_eq_true, List.append_nil, List.nil_append, List.cons_append, Option.toList, and_true, true_and, true_or, or_true, reduceCtorEq, List.map_nil, bI_eq0, bI_eq1, bool_ft, pk_us, Bool.or_false, Bool.or_true, Bool.false_or, Bool.true_or, mj_kne, eq_self, Int32.reduceLT, Int32.reduceLE, Int32.reduceAdd, Int32.reduceSub, Int32.reduceMul, not_true_eq_false, not_false_eq_true, false_implies, true_implies, D_X2_ease_0, D_X2_ease_1, mj_F_aload_n_k, mj_F_bipush_n, mj_F_iadd, mj_F_iaload, mj_F_iastore, mj_F_iconst_n, mj_F_ifCond_le_off, mj_F_ifCond_ne_off, mj_F_if_icmp_ge_off, mj_F_if_icmp_lt_off, mj_F_iload_n_k, mj_F_invokestatic_i, mj_F_irem, mj_F_ireturn, mj_F_istore_n_k, mj_F_isub, mj_F_ldc_i, mj_set, mj_set0, mj_unk, mj_c2, mj_kc, KT_X2, List.take_succ_cons, List.take_zero, List.drop_succ_cons, List.drop_zero, List.reverse_cons, List.reverse_nil, List.length_cons, List.length_nil, J_X2_ease]
            refine ⟨z, ?_⟩
            refine ⟨fun c => ?_, fun c => ?_⟩
            · replace hw := ok_t hw c
              obtain ⟨_, _, e139, z, hw⟩ := ok_ra hw
              refine mj_run hG.1 (fun pc => pc == 2 || pc == 23 || pc == 24 || pc == 42 || pc == 43 || pc == 59 || pc == 60 || pc == 76 || pc == 77 || pc == 84 || pc == 88 || pc == 99 || pc == 101) 4000 ?_
              simp only [e139, mj_step, mj_W_s, mj_fin, List.getElem?_cons_zero, List.getElem?_cons_succ, mj_go, Nat.reduceAdd, Nat.reduceSub, Nat.reduceLT, Nat.reduceLeDiff, Nat.zero_add, Nat.reduceEqDiff, Nat.reduceBEq, ↓reduceIte, Bool.false_eq_true, List.append_nil, List.nil_append, List.cons_append, Option.toList, and_true, true_and, true_or, or_true, reduceCtorEq, List.map_nil, bI_eq0, bI_eq1, bool_ft, pk_us, Bool.or_false, Bool.or_true, Bool.false_or, Bool.true_or, mj_kne, eq_self, Int32.reduceLT, Int32.reduceLE, Int32.reduceAdd, Int32.reduceSub, Int32.reduceMul, not_true_eq_false, not_false_eq_true, false_implies, true_implies, D_X2_ease_0, D_X2_ease_1, mj_F_aload_n_k, mj_F_bipush_n, mj_F_iadd, mj_F_iaload, mj_F_iastore, mj_F_iconst_n, mj_F_ifCond_le_off, mj_F_ifCond_ne_off, mj_F_if_icmp_ge_off, mj_F_if_icmp_lt_off, mj_F_iload_n_k, mj_F_invokestatic_i, mj_F_irem, mj_F_ireturn, mj_F_istore_n_k, mj_F_isub, mj_F_ldc_i, mj_set, mj_set0, mj_unk, mj_c2, mj_kc, KT_X2, List.take_succ_cons, List.take_zero, List.drop_succ_cons, List.drop_zero, List.reverse_cons, List.reverse_nil, List.length_cons, List.length_nil, J_X2_ease]
              refine ⟨z, ?_⟩
              obtain ⟨_, _, e140, z, z2, hw⟩ := ok_wa hw
              refine mj_run hG.1 (fun pc => pc == 2 || pc == 23 || pc == 24 || pc == 42 || pc == 43 || pc == 59 || pc == 60 || pc == 76 || pc == 77 || pc == 84 || pc == 88 || pc == 99 || pc == 101) 4000 ?_
              simp only [e140, z2, mj_step, mj_W_s, mj_fin, List.getElem?_cons_zero, List.getElem?_cons_succ, mj_go, Nat.reduceAdd, Nat.reduceSub, Nat.reduceLT, Nat.reduceLeDiff, Nat.zero_add, Nat.reduceEqDiff, Nat.reduceBEq, ↓reduceIte, Bool.false_eq_true, List.append_nil, List.nil_append, List.cons_append, Option.toList, and_true, true_and, true_or, or_true, reduceCtorEq, List.map_nil, bI_eq0, bI_eq1, bool_ft, pk_us, Bool.or_false, Bool.or_true, Bool.false_or, Bool.true_or, mj_kne, eq_self, Int32.reduceLT, Int32.reduceLE, Int32.reduceAdd, Int32.reduceSub, Int32.reduceMul, not_true_eq_false, not_false_eq_true, false_implies, true_implies, D_X2_ease_0, D_X2_ease_1, mj_F_aload_n_k, mj_F_bipush_n, mj_F_iadd, mj_F_iaload, mj_F_iastore, mj_F_iconst_n, mj_F_ifCond_le_off, mj_F_ifCond_ne_off, mj_F_if_icmp_ge_off, mj_F_if_icmp_lt_off, mj_F_iload_n_k, mj_F_invokestatic_i, mj_F_irem, mj_F_ireturn, mj_F_istore_n_k, mj_F_isub, mj_F_ldc_i, mj_set, mj_set0, mj_unk, mj_c2, mj_kc, KT_X2, List.take_succ_cons, List.take_zero, List.drop_succ_cons, List.drop_zero, List.reverse_cons, List.reverse_nil, List.length_cons, List.length_nil, J_X2_ease]
              refine ⟨z, ?_⟩
              exact (ok_some hw :)
            · replace hw := ok_f hw c
              exact (ok_some hw :)
      · replace hw := ok_f hw c
        obtain ⟨_, _, e141, z, hw⟩ := ok_ra hw
        refine mj_run hG.1 (fun pc => pc == 2 || pc == 23 || pc == 24 || pc == 42 || pc == 43 || pc == 59 || pc == 60 || pc == 76 || pc == 77 || pc == 84 || pc == 88 || pc == 99 || pc == 101) 4000 ?_
        simp only [e141, mj_step, mj_W_s, mj_fin, List.getElem?_cons_zero, List.getElem?_cons_succ, mj_go, Nat.reduceAdd, Nat.reduceSub, Nat.reduceLT, Nat.reduceLeDiff, Nat.zero_add, Nat.reduceEqDiff, Nat.reduceBEq, ↓reduceIte, Bool.false_eq_true, List.append_nil, List.nil_append, List.cons_append, Option.toList, and_true, true_and, true_or, or_true, reduceCtorEq, List.map_nil, bI_eq0, bI_eq1, bool_ft, pk_us, Bool.or_false, Bool.or_true, Bool.false_or, Bool.true_or, mj_kne, eq_self, Int32.reduceLT, Int32.reduceLE, Int32.reduceAdd, Int32.reduceSub, Int32.reduceMul, not_true_eq_false, not_false_eq_true, false_implies, true_implies, D_X2_ease_0, D_X2_ease_1, mj_F_aload_n_k, mj_F_bipush_n, mj_F_iadd, mj_F_iaload, mj_F_iastore, mj_F_iconst_n, mj_F_ifCond_le_off, mj_F_ifCond_ne_off, mj_F_if_icmp_ge_off, mj_F_if_icmp_lt_off, mj_F_iload_n_k, mj_F_invokestatic_i, mj_F_irem, mj_F_ireturn, mj_F_istore_n_k, mj_F_isub, mj_F_ldc_i, mj_set, mj_set0, mj_unk, mj_c2, mj_kc, KT_X2, List.take_succ_cons, List.take_zero, List.drop_succ_cons, List.drop_zero, List.reverse_cons, List.reverse_nil, List.length_cons, List.length_nil, J_X2_ease]
        refine ⟨z, ?_⟩
        refine hM 43 59 0 _ _ _ _ _ _ _ _ (by simp only [D_X2_ease_0, D_X2_ease_1]) (lkX2_59) rfl (Nat.le_of_ble_eq_true rfl) ?_
        refine mj_run hG.1 (fun pc => pc == 2 || pc == 23 || pc == 24 || pc == 42 || pc == 43 || pc == 59 || pc == 60 || pc == 76 || pc == 77 || pc == 84 || pc == 88 || pc == 99 || pc == 101) 4000 ?_
        simp only [mj_step, mj_W_s, mj_fin, List.getElem?_cons_zero, List.getElem?_cons_succ, mj_go, Nat.reduceAdd, Nat.reduceSub, Nat.reduceLT, Nat.reduceLeDiff, Nat.zero_add, Nat.reduceEqDiff, Nat.reduceBEq, ↓reduceIte, Bool.false_eq_true, List.append_nil, List.nil_append, List.cons_append, Option.toList, and_true, true_and, true_or, or_true, reduceCtorEq, List.map_nil, bI_eq0, bI_eq1, bool_ft, pk_us, Bool.or_false, Bool.or_true, Bool.false_or, Bool.true_or, mj_kne, eq_self, Int32.reduceLT, Int32.reduceLE, Int32.reduceAdd, Int32.reduceSub, Int32.reduceMul, not_true_eq_false, not_false_eq_true, false_implies, true_implies, D_X2_ease_0, D_X2_ease_1, mj_F_aload_n_k, mj_F_bipush_n, mj_F_iadd, mj_F_iaload, mj_F_iastore, mj_F_iconst_n, mj_F_ifCond_le_off, mj_F_ifCond_ne_off, mj_F_if_icmp_ge_off, mj_F_if_icmp_lt_off, mj_F_iload_n_k, mj_F_invokestatic_i, mj_F_irem, mj_F_ireturn, mj_F_istore_n_k, mj_F_isub, mj_F_ldc_i, mj_set, mj_set0, mj_unk, mj_c2, mj_kc, KT_X2, List.take_succ_cons, List.take_zero, List.drop_succ_cons, List.drop_zero, List.reverse_cons, List.reverse_nil, List.length_cons, List.length_nil, J_X2_ease]
        refine ⟨fun c => ?_, fun c => ?_⟩
        · replace hw := ok_t hw c
          refine ⟨fun c => ?_, fun c => ?_⟩
          · replace hw := ok_t hw c
            obtain ⟨_, _, e142, z, hw⟩ := ok_ra hw
            refine mj_run hG.1 (fun pc => pc == 2 || pc == 23 || pc == 24 || pc == 42 || pc == 43 || pc == 59 || pc == 60 || pc == 76 || pc == 77 || pc == 84 || pc == 88 || pc == 99 || pc == 101) 4000 ?_
            simp only [e142, mj_step, mj_W_s, mj_fin, List.getElem?_cons_zero, List.getElem?_cons_succ, mj_go, Nat.reduceAdd, Nat.reduceSub, Nat.reduceLT, Nat.reduceLeDiff, Nat.zero_add, Nat.reduceEqDiff, Nat.reduceBEq, ↓reduceIte, Bool.false_eq_true, List.append_nil, List.nil_append, List.cons_append, Option.toList, and_true, true_and, true_or, or_true, reduceCtorEq, List.map_nil, bI_eq0, bI_eq1, bool_ft, pk_us, Bool.or_false, Bool.or_true, Bool.false_or, Bool.true_or, mj_kne, eq_self, Int32.reduceLT, Int32.reduceLE, Int32.reduceAdd, Int32.reduceSub, Int32.reduceMul, not_true_eq_false, not_false_eq_true, false_implies, true_implies, D_X2_ease_0, D_X2_ease_1, mj_F_aload_n_k, mj_F_bipush_n, mj_F_iadd, mj_F_iaload, mj_F_iastore, mj_F_iconst_n, mj_F_ifCond_le_off, mj_F_ifCond_ne_off, mj_F_if_icmp_ge_off, mj_F_if_icmp_lt_off, mj_F_iload_n_k, mj_F_invokestatic_i, mj_F_irem, mj_F_ireturn, mj_F_istore_n_k, mj_F_isub, mj_F_ldc_i, mj_set, mj_set0, mj_unk, mj_c2, mj_kc, KT_X2, List.take_succ_cons, List.take_zero, List.drop_succ_cons, List.drop_zero, List.reverse_cons, List.reverse_nil, List.length_cons, List.length_nil, J_X2_ease]
            refine ⟨z, ?_⟩
            obtain ⟨_, _, e143, z, hw⟩ := ok_ra hw
            refine mj_run hG.1 (fun pc => pc == 2 || pc == 23 || pc == 24 || pc == 42 || pc == 43 || pc == 59 || pc == 60 || pc == 76 || pc == 77 || pc == 84 || pc == 88 || pc == 99 || pc == 101) 4000 ?_
            simp only [e143, mj_step, mj_W_s, mj_fin, List.getElem?_cons_zero, List.getElem?_cons_succ, mj_go, Nat.reduceAdd, Nat.reduceSub, Nat.reduceLT, Nat.reduceLeDiff, Nat.zero_add, Nat.reduceEqDiff, Nat.reduceBEq, ↓reduceIte, Bool.false_eq_true, List.append_nil, List.nil_append, List.cons_append, Option.toList, and_true, true_and, true_or, or_true, reduceCtorEq, List.map_nil, bI_eq0, bI_eq1, bool_ft, pk_us, Bool.or_false, Bool.or_true, Bool.false_or, Bool.true_or, mj_kne, eq_self, Int32.reduceLT, Int32.reduceLE, Int32.reduceAdd, Int32.reduceSub, Int32.reduceMul, not_true_eq_false, not_false_eq_true, false_implies, true_implies, D_X2_ease_0, D_X2_ease_1, mj_F_aload_n_k, mj_F_bipush_n, mj_F_iadd, mj_F_iaload, mj_F_iastore, mj_F_iconst_n, mj_F_ifCond_le_off, mj_F_ifCond_ne_off, mj_F_if_icmp_ge_off, mj_F_if_icmp_lt_off, mj_F_iload_n_k, mj_F_invokestatic_i, mj_F_irem, mj_F_ireturn, mj_F_istore_n_k, mj_F_isub, mj_F_ldc_i, mj_set, mj_set0, mj_unk, mj_c2, mj_kc, KT_X2, List.take_succ_cons, List.take_zero, List.drop_succ_cons, List.drop_zero, List.reverse_cons, List.reverse_nil, List.length_cons, List.length_nil, J_X2_ease]
            refine ⟨z, ?_⟩
            refine ⟨fun c => ?_, fun c => ?_⟩
            · replace hw := ok_t hw c
              obtain ⟨_, _, e144, z, hw⟩ := ok_ra hw
              refine mj_run hG.1 (fun pc => pc == 2 || pc == 23 || pc == 24 || pc == 42 || pc == 43 || pc == 59 || pc == 60 || pc == 76 || pc == 77 || pc == 84 || pc == 88 || pc == 99 || pc == 101) 4000 ?_
              simp only [e144, mj_step, mj_W_s, mj_fin, List.getElem?_cons_zero, List.getElem?_cons_succ, mj_go, Nat.reduceAdd, Nat.reduceSub, Nat.reduceLT, Nat.reduceLeDiff, Nat.zero_add, Nat.reduceEqDiff, Nat.reduceBEq, ↓reduceIte, Bool.false_eq_true, List.append_nil, List.nil_append, List.cons_append, Option.toList, and_true, true_and, true_or, or_true, reduceCtorEq, List.map_nil, bI_eq0, bI_eq1, bool_ft, pk_us, Bool.or_false, Bool.or_true, Bool.false_or, Bool.true_or, mj_kne, eq_self, Int32.reduceLT, Int32.reduceLE, Int32.reduceAdd, Int32.reduceSub, Int32.reduceMul, not_true_eq_false, not_false_eq_true, false_implies, true_implies, D_X2_ease_0, D_X2_ease_1, mj_F_aload_n_k, mj_F_bipush_n, mj_F_iadd, mj_F_iaload, mj_F_iastore, mj_F_iconst_n, mj_F_ifCond_le_off, mj_F_ifCond_ne_off, mj_F_if_icmp_ge_off, mj_F_if_icmp_lt_off, mj_F_iload_n_k, mj_F_invokestatic_i, mj_F_irem, mj_F_ireturn, mj_F_istore_n_k, mj_F_isub, mj_F_ldc_i, mj_set, mj_set0, mj_unk, mj_c2, mj_kc, KT_X2, List.take_succ_cons, List.take_zero, List.drop_succ_cons, List.drop_zero, List.reverse_cons, List.reverse_nil, List.length_cons, List.length_nil, J_X2_ease]
              refine ⟨z, ?_⟩
              obtain ⟨_, _, e145, z, z2, hw⟩ := ok_wa hw
              refine mj_run hG.1 (fun pc => pc == 2 || pc == 23 || pc == 24 || pc == 42 || pc == 43 || pc == 59 || pc == 60 || pc == 76 || pc == 77 || pc == 84 || pc == 88 || pc == 99 || pc == 101) 4000 ?_
              simp only [e145, z2, mj_step, mj_W_s, mj_fin, List.getElem?_cons_zero, List.getElem?_cons_succ, mj_go, Nat.reduceAdd, Nat.reduceSub, Nat.reduceLT, Nat.reduceLeDiff, Nat.zero_add, Nat.reduceEqDiff, Nat.reduceBEq, ↓reduceIte, Bool.false_eq_true, List.append_nil, List.nil_append, List.cons_append, Option.toList, and_true, true_and, true_or, or_true, reduceCtorEq, List.map_nil, bI_eq0, bI_eq1, bool_ft, pk_us, Bool.or_false, Bool.or_true, Bool.false_or, Bool.true_or, mj_kne, eq_self, Int32.reduceLT, Int32.reduceLE, Int32.reduceAdd, Int32.reduceSub, Int32.reduceMul, not_true_eq_false, not_false_eq_true, false_implies, true_implies, D_X2_ease_0, D_X2_ease_1, mj_F_aload_n_k, mj_F_bipush_n, mj_F_iadd, mj_F_iaload, mj_F_iastore, mj_F_iconst_n, mj_F_ifCond_le_off, mj_F_ifCond_ne_off, mj_F_if_icmp_ge_off, mj_F_if_icmp_lt_off, mj_F_iload_n_k, mj_F_invokestatic_i, mj_F_irem, mj_F_ireturn, mj_F_istore_n_k, mj_F_isub, mj_F_ldc_i, mj_set, mj_set0, mj_unk, mj_c2, mj_kc, KT_X2, List.take_succ_cons, List.take_zero, List.drop_succ_cons, List.drop_zero, List.reverse_cons, List.reverse_nil, List.length_cons, List.length_nil, J_X2_ease]
              refine ⟨z, ?_⟩
              exact (ok_some hw :)
            · replace hw := ok_f hw c
              exact (ok_some hw :)
          · replace hw := ok_f hw c
            obtain ⟨_, _, e146, z, hw⟩ := ok_ra hw
            refine mj_run hG.1 (fun pc => pc == 2 || pc == 23 || pc == 24 || pc == 42 || pc == 43 || pc == 59 || pc == 60 || pc == 76 || pc == 77 || pc == 84 || pc == 88 || pc == 99 || pc == 101) 4000 ?_
            simp only [e146, mj_step, mj_W_s, mj_fin, List.getElem?_cons_zero, List.getElem?_cons_succ, mj_go, Nat.reduceAdd, Nat.reduceSub, Nat.reduceLT, Nat.reduceLeDiff, Nat.zero_add, Nat.reduceEqDiff, Nat.reduceBEq, ↓reduceIte, Bool.false_eq_true, List.append_nil, List.nil_append, List.cons_append, Option.toList, and_true, true_and, true_or, or_true, reduceCtorEq, List.map_nil, bI_eq0, bI_eq1, bool_ft, pk_us, Bool.or_false, Bool.or_true, Bool.false_or, Bool.true_or, mj_kne, eq_self, Int32.reduceLT, Int32.reduceLE, Int32.reduceAdd, Int32.reduceSub, Int32.reduceMul, not_true_eq_false, not_false_eq_true, false_implies, true_implies, D_X2_ease_0, D_X2_ease_1, mj_F_aload_n_k, mj_F_bipush_n, mj_F_iadd, mj_F_iaload, mj_F_iastore, mj_F_iconst_n, mj_F_ifCond_le_off, mj_F_ifCond_ne_off, mj_F_if_icmp_ge_off, mj_F_if_icmp_lt_off, mj_F_iload_n_k, mj_F_invokestatic_i, mj_F_irem, mj_F_ireturn, mj_F_istore_n_k, mj_F_isub, mj_F_ldc_i, mj_set, mj_set0, mj_unk, mj_c2, mj_kc, KT_X2, List.take_succ_cons, List.take_zero, List.drop_succ_cons, List.drop_zero, List.reverse_cons, List.reverse_nil, List.length_cons, List.length_nil, J_X2_ease]
            refine ⟨z, ?_⟩
            refine hM 77 59 0 _ _ _ _ _ _ _ _ (by simp only [D_X2_ease_0, D_X2_ease_1]) (lkX2_59) rfl (Nat.le_of_ble_eq_true rfl) ?_
            refine mj_run hG.1 (fun pc => pc == 2 || pc == 23 || pc == 24 || pc == 42 || pc == 43 || pc == 59 || pc == 60 || pc == 76 || pc == 77 || pc == 84 || pc == 88 || pc == 99 || pc == 101) 4000 ?_
            simp only [mj_step, mj_W_s, mj_fin, List.getElem?_cons_zero, List.getElem?_cons_succ, mj_go, Nat.reduceAdd, Nat.reduceSub, Nat.reduceLT, Nat.reduceLeDiff, Nat.zero_add, Nat.reduceEqDiff, Nat.reduceBEq, ↓reduceIte, Bool.false_eq_true, List.append_nil, List.nil_append, List.cons_append, Option.toList, and_true, true_and, true_or, or_true, reduceCtorEq, List.map_nil, bI_eq0, bI_eq1, bool_ft, pk_us, Bool.or_false, Bool.or_true, Bool.false_or, Bool.true_or, mj_kne, eq_self, Int32.reduceLT, Int32.reduceLE, Int32.reduceAdd, Int32.reduceSub, Int32.reduceMul, not_true_eq_false, not_false_eq_true, false_implies, true_implies, D_X2_ease_0, D_X2_ease_1, mj_F_aload_n_k, mj_F_bipush_n, mj_F_iadd, mj_F_iaload, mj_F_iastore, mj_F_iconst_n, mj_F_ifCond_le_off, mj_F_ifCond_ne_off, mj_F_if_icmp_ge_off, mj_F_if_icmp_lt_off, mj_F_iload_n_k, mj_F_invokestatic_i, mj_F_irem, mj_F_ireturn, mj_F_istore_n_k, mj_F_isub, mj_F_ldc_i, mj_set, mj_set0, mj_unk, mj_c2, mj_kc, KT_X2, List.take_succ_cons, List.take_zero, List.drop_succ_cons, List.drop_zero, List.reverse_cons, List.reverse_nil, List.length_cons, List.length_nil, J_X2_ease]
            obtain ⟨_, _, e147, z, hw⟩ := ok_ra hw
            refine mj_run hG.1 (fun pc => pc == 2 || pc == 23 || pc == 24 || pc == 42 || pc == 43 || pc == 59 || pc == 60 || pc == 76 || pc == 77 || pc == 84 || pc == 88 || pc == 99 || pc == 101) 4000 ?_
            simp only [e147, mj_step, mj_W_s, mj_fin, List.getElem?_cons_zero, List.getElem?_cons_succ, mj_go, Nat.reduceAdd, Nat.reduceSub, Nat.reduceLT, Nat.reduceLeDiff, Nat.zero_add, Nat.reduceEqDiff, Nat.reduceBEq, ↓reduceIte, Bool.false_eq_true, List.append_nil, List.nil_append, List.cons_append, Option.toList, and_true, true_and, true_or, or_true, reduceCtorEq, List.map_nil, bI_eq0, bI_eq1, bool_ft, pk_us, Bool.or_false, Bool.or_true, Bool.false_or, Bool.true_or, mj_kne, eq_self, Int32.reduceLT, Int32.reduceLE, Int32.reduceAdd, Int32.reduceSub, Int32.reduceMul, not_true_eq_false, not_false_eq_true, false_implies, true_implies, D_X2_ease_0, D_X2_ease_1, mj_F_aload_n_k, mj_F_bipush_n, mj_F_iadd, mj_F_iaload, mj_F_iastore, mj_F_iconst_n, mj_F_ifCond_le_off, mj_F_ifCond_ne_off, mj_F_if_icmp_ge_off, mj_F_if_icmp_lt_off, mj_F_iload_n_k, mj_F_invokestatic_i, mj_F_irem, mj_F_ireturn, mj_F_istore_n_k, mj_F_isub, mj_F_ldc_i, mj_set, mj_set0, mj_unk, mj_c2, mj_kc, KT_X2, List.take_succ_cons, List.take_zero, List.drop_succ_cons, List.drop_zero, List.reverse_cons, List.reverse_nil, List.length_cons, List.length_nil, J_X2_ease]
            refine ⟨z, ?_⟩
            obtain ⟨_, _, e148, z, hw⟩ := ok_ra hw
            refine mj_run hG.1 (fun pc => pc == 2 || pc == 23 || pc == 24 || pc == 42 || pc == 43 || pc == 59 || pc == 60 || pc == 76 || pc == 77 || pc == 84 || pc == 88 || pc == 99 || pc == 101) 4000 ?_
            simp only [e148, mj_step, mj_W_s, mj_fin, List.getElem?_cons_zero, List.getElem?_cons_succ, mj_go, Nat.reduceAdd, Nat.reduceSub, Nat.reduceLT, Nat.reduceLeDiff, Nat.zero_add, Nat.reduceEqDiff, Nat.reduceBEq, ↓reduceIte, Bool.false_eq_true, List.append_nil, List.nil_append, List.cons_append, Option.toList, and_true, true_and, true_or, or_true, reduceCtorEq, List.map_nil, bI_eq0, bI_eq1, bool_ft, pk_us, Bool.or_false, Bool.or_true, Bool.false_or, Bool.true_or, mj_kne, eq_self, Int32.reduceLT, Int32.reduceLE, Int32.reduceAdd, Int32.reduceSub, Int32.reduceMul, not_true_eq_false, not_false_eq_true, false_implies, true_implies, D_X2_ease_0, D_X2_ease_1, mj_F_aload_n_k, mj_F_bipush_n, mj_F_iadd, mj_F_iaload, mj_F_iastore, mj_F_iconst_n, mj_F_ifCond_le_off, mj_F_ifCond_ne_off, mj_F_if_icmp_ge_off, mj_F_if_icmp_lt_off, mj_F_iload_n_k, mj_F_invokestatic_i, mj_F_irem, mj_F_ireturn, mj_F_istore_n_k, mj_F_isub, mj_F_ldc_i, mj_set, mj_set0, mj_unk, mj_c2, mj_kc, KT_X2, List.take_succ_cons, List.take_zero, List.drop_succ_cons, List.drop_zero, List.reverse_cons, List.reverse_nil, List.length_cons, List.length_nil, J_X2_ease]
            refine ⟨z, ?_⟩
            refine ⟨fun c => ?_, fun c => ?_⟩
            · replace hw := ok_t hw c
              obtain ⟨_, _, e149, z, hw⟩ := ok_ra hw
              refine mj_run hG.1 (fun pc => pc == 2 || pc == 23 || pc == 24 || pc == 42 || pc == 43 || pc == 59 || pc == 60 || pc == 76 || pc == 77 || pc == 84 || pc == 88 || pc == 99 || pc == 101) 4000 ?_
              simp only [e149, mj_step, mj_W_s, mj_fin, List.getElem?_cons_zero, List.getElem?_cons_succ, mj_go, Nat.reduceAdd, Nat.reduceSub, Nat.reduceLT, Nat.reduceLeDiff, Nat.zero_add, Nat.reduceEqDiff, Nat.reduceBEq, ↓reduceIte, Bool.false_eq_true, List.append_nil, List.nil_append, List.cons_append, Option.toList, and_true, true_and, true_or, or_true, reduceCtorEq, List.map_nil, bI_eq0, bI_eq1, bool_ft, pk_us, Bool.or_false, Bool.or_true, Bool.false_or, Bool.true_or, mj_kne, eq_self, Int32.reduceLT, Int32.reduceLE, Int32.reduceAdd, Int32.reduceSub, Int32.reduceMul, not_true_eq_false, not_false_eq_true, false_implies, true_implies, D_X2_ease_0, D_X2_ease_1, mj_F_aload_n_k, mj_F_bipush_n, mj_F_iadd, mj_F_iaload, mj_F_iastore, mj_F_iconst_n, mj_F_ifCond_le_off, mj_F_ifCond_ne_off, mj_F_if_icmp_ge_off, mj_F_if_icmp_lt_off, mj_F_iload_n_k, mj_F_invokestatic_i, mj_F_irem, mj_F_ireturn, mj_F_istore_n_k, mj_F_isub, mj_F_ldc_i, mj_set, mj_set0, mj_unk, mj_c2, mj_kc, KT_X2, List.take_succ_cons, List.take_zero, List.drop_succ_cons, List.drop_zero, List.reverse_cons, List.reverse_nil, List.length_cons, List.length_nil, J_X2_ease]
              refine ⟨z, ?_⟩
              obtain ⟨_, _, e150, z, z2, hw⟩ := ok_wa hw
              refine mj_run hG.1 (fun pc => pc == 2 || pc == 23 || pc == 24 || pc == 42 || pc == 43 || pc == 59 || pc == 60 || pc == 76 || pc == 77 || pc == 84 || pc == 88 || pc == 99 || pc == 101) 4000 ?_
              simp only [e150, z2, mj_step, mj_W_s, mj_fin, List.getElem?_cons_zero, List.getElem?_cons_succ, mj_go, Nat.reduceAdd, Nat.reduceSub, Nat.reduceLT, Nat.reduceLeDiff, Nat.zero_add, Nat.reduceEqDiff, Nat.reduceBEq, ↓reduceIte, Bool.false_eq_true, List.append_nil, List.nil_append, List.cons_append, Option.toList, and_true, true_and, true_or, or_true, reduceCtorEq, List.map_nil, bI_eq0, bI_eq1, bool_ft, pk_us, Bool.or_false, Bool.or_true, Bool.false_or, Bool.true_or, mj_kne, eq_self, Int32.reduceLT, Int32.reduceLE, Int32.reduceAdd, Int32.reduceSub, Int32.reduceMul, not_true_eq_false, not_false_eq_true, false_implies, true_implies, D_X2_ease_0, D_X2_ease_1, mj_F_aload_n_k, mj_F_bipush_n, mj_F_iadd, mj_F_iaload, mj_F_iastore, mj_F_iconst_n, mj_F_ifCond_le_off, mj_F_ifCond_ne_off, mj_F_if_icmp_ge_off, mj_F_if_icmp_lt_off, mj_F_iload_n_k, mj_F_invokestatic_i, mj_F_irem, mj_F_ireturn, mj_F_istore_n_k, mj_F_isub, mj_F_ldc_i, mj_set, mj_set0, mj_unk, mj_c2, mj_kc, KT_X2, List.take_succ_cons, List.take_zero, List.drop_succ_cons, List.drop_zero, List.reverse_cons, List.reverse_nil, List.length_cons, List.length_nil, J_X2_ease]
              refine ⟨z, ?_⟩
              exact (ok_some hw :)
            · replace hw := ok_f hw c
              exact (ok_some hw :)
        · replace hw := ok_f hw c
          obtain ⟨_, _, e151, z, hw⟩ := ok_ra hw
          refine mj_run hG.1 (fun pc => pc == 2 || pc == 23 || pc == 24 || pc == 42 || pc == 43 || pc == 59 || pc == 60 || pc == 76 || pc == 77 || pc == 84 || pc == 88 || pc == 99 || pc == 101) 4000 ?_
          simp only [e151, mj_step, mj_W_s, mj_fin, List.getElem?_cons_zero, List.getElem?_cons_succ, mj_go, Nat.reduceAdd, Nat.reduceSub, Nat.reduceLT, Nat.reduceLeDiff, Nat.zero_add, Nat.reduceEqDiff, Nat.reduceBEq, ↓reduceIte, Bool.false_eq_true, List.append_nil, List.nil_append, List.cons_append, Option.toList, and_true, true_and, true_or, or_true, reduceCtorEq, List.map_nil, bI_eq0, bI_eq1, bool_ft, pk_us, Bool.or_false, Bool.or_true, Bool.false_or, Bool.true_or, mj_kne, eq_self, Int32.reduceLT, Int32.reduceLE, Int32.reduceAdd, Int32.reduceSub, Int32.reduceMul, not_true_eq_false, not_false_eq_true, false_implies, true_implies, D_X2_ease_0, D_X2_ease_1, mj_F_aload_n_k, mj_F_bipush_n, mj_F_iadd, mj_F_iaload, mj_F_iastore, mj_F_iconst_n, mj_F_ifCond_le_off, mj_F_ifCond_ne_off, mj_F_if_icmp_ge_off, mj_F_if_icmp_lt_off, mj_F_iload_n_k, mj_F_invokestatic_i, mj_F_irem, mj_F_ireturn, mj_F_istore_n_k, mj_F_isub, mj_F_ldc_i, mj_set, mj_set0, mj_unk, mj_c2, mj_kc, KT_X2, List.take_succ_cons, List.take_zero, List.drop_succ_cons, List.drop_zero, List.reverse_cons, List.reverse_nil, List.length_cons, List.length_nil, J_X2_ease]
          refine ⟨z, ?_⟩
          refine hM 60 59 0 _ _ _ _ _ _ _ _ (by simp only [D_X2_ease_0, D_X2_ease_1]) (lkX2_59) rfl (Nat.le_of_ble_eq_true rfl) ?_
          refine mj_run hG.1 (fun pc => pc == 2 || pc == 23 || pc == 24 || pc == 42 || pc == 43 || pc == 59 || pc == 60 || pc == 76 || pc == 77 || pc == 84 || pc == 88 || pc == 99 || pc == 101) 4000 ?_
          simp only [mj_step, mj_W_s, mj_fin, List.getElem?_cons_zero, List.getElem?_cons_succ, mj_go, Nat.reduceAdd, Nat.reduceSub, Nat.reduceLT, Nat.reduceLeDiff, Nat.zero_add, Nat.reduceEqDiff, Nat.reduceBEq, ↓reduceIte, Bool.false_eq_true, List.append_nil, List.nil_append, List.cons_append, Option.toList, and_true, true_and, true_or, or_true, reduceCtorEq, List.map_nil, bI_eq0, bI_eq1, bool_ft, pk_us, Bool.or_false, Bool.or_true, Bool.false_or, Bool.true_or, mj_kne, eq_self, Int32.reduceLT, Int32.reduceLE, Int32.reduceAdd, Int32.reduceSub, Int32.reduceMul, not_true_eq_false, not_false_eq_true, false_implies, true_implies, D_X2_ease_0, D_X2_ease_1, mj_F_aload_n_k, mj_F_bipush_n, mj_F_iadd, mj_F_iaload, mj_F_iastore, mj_F_iconst_n, mj_F_ifCond_le_off, mj_F_ifCond_ne_off, mj_F_if_icmp_ge_off, mj_F_if_icmp_lt_off, mj_F_iload_n_k, mj_F_invokestatic_i, mj_F_irem, mj_F_ireturn, mj_F_istore_n_k, mj_F_isub, mj_F_ldc_i, mj_set, mj_set0, mj_unk, mj_c2, mj_kc, KT_X2, List.take_succ_cons, List.take_zero, List.drop_succ_cons, List.drop_zero, List.reverse_cons, List.reverse_nil, List.length_cons, List.length_nil, J_X2_ease]
          refine ⟨fun c => ?_, fun c => ?_⟩
          · replace hw := ok_t hw c
            obtain ⟨_, _, e152, z, hw⟩ := ok_ra hw
            refine mj_run hG.1 (fun pc => pc == 2 || pc == 23 || pc == 24 || pc == 42 || pc == 43 || pc == 59 || pc == 60 || pc == 76 || pc == 77 || pc == 84 || pc == 88 || pc == 99 || pc == 101) 4000 ?_
            simp only [e152, mj_step, mj_W_s, mj_fin, List.getElem?_cons_zero, List.getElem?_cons_succ, mj_go, Nat.reduceAdd, Nat.reduceSub, Nat.reduceLT, Nat.reduceLeDiff, Nat.zero_add, Nat.reduceEqDiff, Nat.reduceBEq, ↓reduceIte, Bool.false_eq_true, List.append_nil, List.nil_append, List.cons_append, Option.toList, and_true, true_and, true_or, or_true, reduceCtorEq, List.map_nil, bI_eq0, bI_eq1, bool_ft, pk_us, Bool.or_false, Bool.or_true, Bool.false_or, Bool.true_or, mj_kne, eq_self, Int32.reduceLT, Int32.reduceLE, Int32.reduceAdd, Int32.reduceSub, Int32.reduceMul, not_true_eq_false, not_false_eq_true, false_implies, true_implies, D_X2_ease_0, D_X2_ease_1, mj_F_aload_n_k, mj_F_bipush_n, mj_F_iadd, mj_F_iaload, mj_F_iastore, mj_F_iconst_n, mj_F_ifCond_le_off, mj_F_ifCond_ne_off, mj_F_if_icmp_ge_off, mj_F_if_icmp_lt_off, mj_F_iload_n_k, mj_F_invokestatic_i, mj_F_irem, mj_F_ireturn, mj_F_istore_n_k, mj_F_isub, mj_F_ldc_i, mj_set, mj_set0, mj_unk, mj_c2, mj_kc, KT_X2, List.take_succ_cons, List.take_zero, List.drop_succ_cons, List.drop_zero, List.reverse_cons, List.reverse_nil, List.length_cons, List.length_nil, J_X2_ease]
            refine ⟨z, ?_⟩
            obtain ⟨_, _, e153, z, hw⟩ := ok_ra hw
            refine mj_run hG.1 (fun pc => pc == 2 || pc == 23 || pc == 24 || pc == 42 || pc == 43 || pc == 59 || pc == 60 || pc == 76 || pc == 77 || pc == 84 || pc == 88 || pc == 99 || pc == 101) 4000 ?_
            simp only [e153, mj_step, mj_W_s, mj_fin, List.getElem?_cons_zero, List.getElem?_cons_succ, mj_go, Nat.reduceAdd, Nat.reduceSub, Nat.reduceLT, Nat.reduceLeDiff, Nat.zero_add, Nat.reduceEqDiff, Nat.reduceBEq, ↓reduceIte, Bool.false_eq_true, List.append_nil, List.nil_append, List.cons_append, Option.toList, and_true, true_and, true_or, or_true, reduceCtorEq, List.map_nil, bI_eq0, bI_eq1, bool_ft, pk_us, Bool.or_false, Bool.or_true, Bool.false_or, Bool.true_or, mj_kne, eq_self, Int32.reduceLT, Int32.reduceLE, Int32.reduceAdd, Int32.reduceSub, Int32.reduceMul, not_true_eq_false, not_false_eq_true, false_implies, true_implies, D_X2_ease_0, D_X2_ease_1, mj_F_aload_n_k, mj_F_bipush_n, mj_F_iadd, mj_F_iaload, mj_F_iastore, mj_F_iconst_n, mj_F_ifCond_le_off, mj_F_ifCond_ne_off, mj_F_if_icmp_ge_off, mj_F_if_icmp_lt_off, mj_F_iload_n_k, mj_F_invokestatic_i, mj_F_irem, mj_F_ireturn, mj_F_istore_n_k, mj_F_isub, mj_F_ldc_i, mj_set, mj_set0, mj_unk, mj_c2, mj_kc, KT_X2, List.take_succ_cons, List.take_zero, List.drop_succ_cons, List.drop_zero, List.reverse_cons, List.reverse_nil, List.length_cons, List.length_nil, J_X2_ease]
            refine ⟨z, ?_⟩
            refine ⟨fun c => ?_, fun c => ?_⟩
            · replace hw := ok_t hw c
              obtain ⟨_, _, e154, z, hw⟩ := ok_ra hw
              refine mj_run hG.1 (fun pc => pc == 2 || pc == 23 || pc == 24 || pc == 42 || pc == 43 || pc == 59 || pc == 60 || pc == 76 || pc == 77 || pc == 84 || pc == 88 || pc == 99 || pc == 101) 4000 ?_
              simp only [e154, mj_step, mj_W_s, mj_fin, List.getElem?_cons_zero, List.getElem?_cons_succ, mj_go, Nat.reduceAdd, Nat.reduceSub, Nat.reduceLT, Nat.reduceLeDiff, Nat.zero_add, Nat.reduceEqDiff, Nat.reduceBEq, ↓reduceIte, Bool.false_eq_true, List.append_nil, List.nil_append, List.cons_append, Option.toList, and_true, true_and, true_or, or_true, reduceCtorEq, List.map_nil, bI_eq0, bI_eq1, bool_ft, pk_us, Bool.or_false, Bool.or_true, Bool.false_or, Bool.true_or, mj_kne, eq_self, Int32.reduceLT, Int32.reduceLE, Int32.reduceAdd, Int32.reduceSub, Int32.reduceMul, not_true_eq_false, not_false_eq_true, false_implies, true_implies, D_X2_ease_0, D_X2_ease_1, mj_F_aload_n_k, mj_F_bipush_n, mj_F_iadd, mj_F_iaload, mj_F_iastore, mj_F_iconst_n, mj_F_ifCond_le_off, mj_F_ifCond_ne_off, mj_F_if_icmp_ge_off, mj_F_if_icmp_lt_off, mj_F_iload_n_k, mj_F_invokestatic_i, mj_F_irem, mj_F_ireturn, mj_F_istore_n_k, mj_F_isub, mj_F_ldc_i, mj_set, mj_set0, mj_unk, mj_c2, mj_kc, KT_X2, List.take_succ_cons, List.take_zero, List.drop_succ_cons, List.drop_zero, List.reverse_cons, List.reverse_nil, List.length_cons, List.length_nil, J_X2_ease]
              refine ⟨z, ?_⟩
              obtain ⟨_, _, e155, z, z2, hw⟩ := ok_wa hw
              refine mj_run hG.1 (fun pc => pc == 2 || pc == 23 || pc == 24 || pc == 42 || pc == 43 || pc == 59 || pc == 60 || pc == 76 || pc == 77 || pc == 84 || pc == 88 || pc == 99 || pc == 101) 4000 ?_
              simp only [e155, z2, mj_step, mj_W_s, mj_fin, List.getElem?_cons_zero, List.getElem?_cons_succ, mj_go, Nat.reduceAdd, Nat.reduceSub, Nat.reduceLT, Nat.reduceLeDiff, Nat.zero_add, Nat.reduceEqDiff, Nat.reduceBEq, ↓reduceIte, Bool.false_eq_true, List.append_nil, List.nil_append, List.cons_append, Option.toList, and_true, true_and, true_or, or_true, reduceCtorEq, List.map_nil, bI_eq0, bI_eq1, bool_ft, pk_us, Bool.or_false, Bool.or_true, Bool.false_or, Bool.true_or, mj_kne, eq_self, Int32.reduceLT, Int32.reduceLE, Int32.reduceAdd, Int32.reduceSub, Int32.reduceMul, not_true_eq_false, not_false_eq_true, false_implies, true_implies, D_X2_ease_0, D_X2_ease_1, mj_F_aload_n_k, mj_F_bipush_n, mj_F_iadd, mj_F_iaload, mj_F_iastore, mj_F_iconst_n, mj_F_ifCond_le_off, mj_F_ifCond_ne_off, mj_F_if_icmp_ge_off, mj_F_if_icmp_lt_off, mj_F_iload_n_k, mj_F_invokestatic_i, mj_F_irem, mj_F_ireturn, mj_F_istore_n_k, mj_F_isub, mj_F_ldc_i, mj_set, mj_set0, mj_unk, mj_c2, mj_kc, KT_X2, List.take_succ_cons, List.take_zero, List.drop_succ_cons, List.drop_zero, List.reverse_cons, List.reverse_nil, List.length_cons, List.length_nil, J_X2_ease]
              refine ⟨z, ?_⟩
              exact (ok_some hw :)
            · replace hw := ok_f hw c
              exact (ok_some hw :)
          · replace hw := ok_f hw c
            obtain ⟨_, _, e156, z, hw⟩ := ok_ra hw
            refine mj_run hG.1 (fun pc => pc == 2 || pc == 23 || pc == 24 || pc == 42 || pc == 43 || pc == 59 || pc == 60 || pc == 76 || pc == 77 || pc == 84 || pc == 88 || pc == 99 || pc == 101) 4000 ?_
            simp only [e156, mj_step, mj_W_s, mj_fin, List.getElem?_cons_zero, List.getElem?_cons_succ, mj_go, Nat.reduceAdd, Nat.reduceSub, Nat.reduceLT, Nat.reduceLeDiff, Nat.zero_add, Nat.reduceEqDiff, Nat.reduceBEq, ↓reduceIte, Bool.false_eq_true, List.append_nil, List.nil_append, List.cons_append, Option.toList, and_true, true_and, true_or, or_true, reduceCtorEq, List.map_nil, bI_eq0, bI_eq1, bool_ft, pk_us, Bool.or_false, Bool.or_true, Bool.false_or, Bool.true_or, mj_kne, eq_self, Int32.reduceLT, Int32.reduceLE, Int32.reduceAdd, Int32.reduceSub, Int32.reduceMul, not_true_eq_false, not_false_eq_true, false_implies, true_implies, D_X2_ease_0, D_X2_ease_1, mj_F_aload_n_k, mj_F_bipush_n, mj_F_iadd, mj_F_iaload, mj_F_iastore, mj_F_iconst_n, mj_F_ifCond_le_off, mj_F_ifCond_ne_off, mj_F_if_icmp_ge_off, mj_F_if_icmp_lt_off, mj_F_iload_n_k, mj_F_invokestatic_i, mj_F_irem, mj_F_ireturn, mj_F_istore_n_k, mj_F_isub, mj_F_ldc_i, mj_set, mj_set0, mj_unk, mj_c2, mj_kc, KT_X2, List.take_succ_cons, List.take_zero, List.drop_succ_cons, List.drop_zero, List.reverse_cons, List.reverse_nil, List.length_cons, List.length_nil, J_X2_ease]
            refine ⟨z, ?_⟩
            refine hM 77 59 0 _ _ _ _ _ _ _ _ (by simp only [D_X2_ease_0, D_X2_ease_1]) (lkX2_59) rfl (Nat.le_of_ble_eq_true rfl) ?_
            refine mj_run hG.1 (fun pc => pc == 2 || pc == 23 || pc == 24 || pc == 42 || pc == 43 || pc == 59 || pc == 60 || pc == 76 || pc == 77 || pc == 84 || pc == 88 || pc == 99 || pc == 101) 4000 ?_
            simp only [mj_step, mj_W_s, mj_fin, List.getElem?_cons_zero, List.getElem?_cons_succ, mj_go, Nat.reduceAdd, Nat.reduceSub, Nat.reduceLT, Nat.reduceLeDiff, Nat.zero_add, Nat.reduceEqDiff, Nat.reduceBEq, ↓reduceIte, Bool.false_eq_true, List.append_nil, List.nil_append, List.cons_append, Option.toList, and_true, true_and, true_or, or_true, reduceCtorEq, List.map_nil, bI_eq0, bI_eq1, bool_ft, pk_us, Bool.or_false, Bool.or_true, Bool.false_or, Bool.true_or, mj_kne, eq_self, Int32.reduceLT, Int32.reduceLE, Int32.reduceAdd, Int32.reduceSub, Int32.reduceMul, not_true_eq_false, not_false_eq_true, false_implies, true_implies, D_X2_ease_0, D_X2_ease_1, mj_F_aload_n_k, mj_F_bipush_n, mj_F_iadd, mj_F_iaload, mj_F_iastore, mj_F_iconst_n, mj_F_ifCond_le_off, mj_F_ifCond_ne_off, mj_F_if_icmp_ge_off, mj_F_if_icmp_lt_off, mj_F_iload_n_k, mj_F_invokestatic_i, mj_F_irem, mj_F_ireturn, mj_F_istore_n_k, mj_F_isub, mj_F_ldc_i, mj_set, mj_set0, mj_unk, mj_c2, mj_kc, KT_X2, List.take_succ_cons, List.take_zero, List.drop_succ_cons, List.drop_zero, List.reverse_cons, List.reverse_nil, List.length_cons, List.length_nil, J_X2_ease]
            obtain ⟨_, _, e157, z, hw⟩ := ok_ra hw
            refine mj_run hG.1 (fun pc => pc == 2 || pc == 23 || pc == 24 || pc == 42 || pc == 43 || pc == 59 || pc == 60 || pc == 76 || pc == 77 || pc == 84 || pc == 88 || pc == 99 || pc == 101) 4000 ?_
            simp only [e157, mj_step, mj_W_s, mj_fin, List.getElem?_cons_zero, List.getElem?_cons_succ, mj_go, Nat.reduceAdd, Nat.reduceSub, Nat.reduceLT, Nat.reduceLeDiff, Nat.zero_add, Nat.reduceEqDiff, Nat.reduceBEq, ↓reduceIte, Bool.false_eq_true, List.append_nil, List.nil_append, List.cons_append, Option.toList, and_true, true_and, true_or, or_true, reduceCtorEq, List.map_nil, bI_eq0, bI_eq1, bool_ft, pk_us, Bool.or_false, Bool.or_true, Bool.false_or, Bool.true_or, mj_kne, eq_self, Int32.reduceLT, Int32.reduceLE, Int32.reduceAdd, Int32.reduceSub, Int32.reduceMul, not_true_eq_false, not_false_eq_true, false_implies, true_implies, D_X2_ease_0, D_X2_ease_1, mj_F_aload_n_k, mj_F_bipush_n, mj_F_iadd, mj_F_iaload, mj_F_iastore, mj_F_iconst_n, mj_F_ifCond_le_off, mj_F_ifCond_ne_off, mj_F_if_icmp_ge_off, mj_F_if_icmp_lt_off, mj_F_iload_n_k, mj_F_invokestatic_i, mj_F_irem, mj_F_ireturn, mj_F_istore_n_k, mj_F_isub, mj_F_ldc_i, mj_set, mj_set0, mj_unk, mj_c2, mj_kc, KT_X2, List.take_succ_cons, List.take_zero, List.drop_succ_cons, List.drop_zero, List.reverse_cons, List.reverse_nil, List.length_cons, List.length_nil, J_X2_ease]
            refine ⟨z, ?_⟩
            obtain ⟨_, _, e158, z, hw⟩ := ok_ra hw
            refine mj_run hG.1 (fun pc => pc == 2 || pc == 23 || pc == 24 || pc == 42 || pc == 43 || pc == 59 || pc == 60 || pc == 76 || pc == 77 || pc == 84 || pc == 88 || pc == 99 || pc == 101) 4000 ?_
            simp only [e158, mj_step, mj_W_s, mj_fin, List.getElem?_cons_zero, List.getElem?_cons_succ, mj_go, Nat.reduceAdd, Nat.reduceSub, Nat.reduceLT, Nat.reduceLeDiff, Nat.zero_add, Nat.reduceEqDiff, Nat.reduceBEq, ↓reduceIte, Bool.false_eq_true, List.append_nil, List.nil_append, List.cons_append, Option.toList, and_true, true_and, true_or, or_true, reduceCtorEq, List.map_nil, bI_eq0, bI_eq1, bool_ft, pk_us, Bool.or_false, Bool.or_true, Bool.false_or, Bool.true_or, mj_kne, eq_self, Int32.reduceLT, Int32.reduceLE, Int32.reduceAdd, Int32.reduceSub, Int32.reduceMul, not_true_eq_false, not_false_eq_true, false_implies, true_implies, D_X2_ease_0, D_X2_ease_1, mj_F_aload_n_k, mj_F_bipush_n, mj_F_iadd, mj_F_iaload, mj_F_iastore, mj_F_iconst_n, mj_F_ifCond_le_off, mj_F_ifCond_ne_off, mj_F_if_icmp_ge_off, mj_F_if_icmp_lt_off, mj_F_iload_n_k, mj_F_invokestatic_i, mj_F_irem, mj_F_ireturn, mj_F_istore_n_k, mj_F_isub, mj_F_ldc_i, mj_set, mj_set0, mj_unk, mj_c2, mj_kc, KT_X2, List.take_succ_cons, List.take_zero, List.drop_succ_cons, List.drop_zero, List.reverse_cons, List.reverse_nil, List.length_cons, List.length_nil, J_X2_ease]
            refine ⟨z, ?_⟩
            refine ⟨fun c => ?_, fun c => ?_⟩
            · replace hw := ok_t hw c
              obtain ⟨_, _, e159, z, hw⟩ := ok_ra hw
              refine mj_run hG.1 (fun pc => pc == 2 || pc == 23 || pc == 24 || pc == 42 || pc == 43 || pc == 59 || pc == 60 || pc == 76 || pc == 77 || pc == 84 || pc == 88 || pc == 99 || pc == 101) 4000 ?_
              simp only [e159, mj_step, mj_W_s, mj_fin, List.getElem?_cons_zero, List.getElem?_cons_succ, mj_go, Nat.reduceAdd, Nat.reduceSub, Nat.reduceLT, Nat.reduceLeDiff, Nat.zero_add, Nat.reduceEqDiff, Nat.reduceBEq, ↓reduceIte, Bool.false_eq_true, List.append_nil, List.nil_append, List.cons_append, Option.toList, and_true, true_and, true_or, or_true, reduceCtorEq, List.map_nil, bI_eq0, bI_eq1, bool_ft, pk_us, Bool.or_false, Bool.or_true, Bool.false_or, Bool.true_or, mj_kne, eq_self, Int32.reduceLT, Int32.reduceLE, Int32.reduceAdd, Int32.reduceSub, Int32.reduceMul, not_true_eq_false, not_false_eq_true, false_implies, true_implies, D_X2_ease_0, D_X2_ease_1, mj_F_aload_n_k, mj_F_bipush_n, mj_F_iadd, mj_F_iaload, mj_F_iastore, mj_F_iconst_n, mj_F_ifCond_le_off, mj_F_ifCond_ne_off, mj_F_if_icmp_ge_off, mj_F_if_icmp_lt_off, mj_F_iload_n_k, mj_F_invokestatic_i, mj_F_irem, mj_F_ireturn, mj_F_istore_n_k, mj_F_isub, mj_F_ldc_i, mj_set, mj_set0, mj_unk, mj_c2, mj_kc, KT_X2, List.take_succ_cons, List.take_zero, List.drop_succ_cons, List.drop_zero, List.reverse_cons, List.reverse_nil, List.length_cons, List.length_nil, J_X2_ease]
              refine ⟨z, ?_⟩
              obtain ⟨_, _, e160, z, z2, hw⟩ := ok_wa hw
              refine mj_run hG.1 (fun pc => pc == 2 || pc == 23 || pc == 24 || pc == 42 || pc == 43 || pc == 59 || pc == 60 || pc == 76 || pc == 77 || pc == 84 || pc == 88 || pc == 99 || pc == 101) 4000 ?_
              simp only [e160, z2, mj_step, mj_W_s, mj_fin, List.getElem?_cons_zero, List.getElem?_cons_succ, mj_go, Nat.reduceAdd, Nat.reduceSub, Nat.reduceLT, Nat.reduceLeDiff, Nat.zero_add, Nat.reduceEqDiff, Nat.reduceBEq, ↓reduceIte, Bool.false_eq_true, List.append_nil, List.nil_append, List.cons_append, Option.toList, and_true, true_and, true_or, or_true, reduceCtorEq, List.map_nil, bI_eq0, bI_eq1, bool_ft, pk_us, Bool.or_false, Bool.or_true, Bool.false_or, Bool.true_or, mj_kne, eq_self, Int32.reduceLT, Int32.reduceLE, Int32.reduceAdd, Int32.reduceSub, Int32.reduceMul, not_true_eq_false, not_false_eq_true, false_implies, true_implies, D_X2_ease_0, D_X2_ease_1, mj_F_aload_n_k, mj_F_bipush_n, mj_F_iadd, mj_F_iaload, mj_F_iastore, mj_F_iconst_n, mj_F_ifCond_le_off, mj_F_ifCond_ne_off, mj_F_if_icmp_ge_off, mj_F_if_icmp_lt_off, mj_F_iload_n_k, mj_F_invokestatic_i, mj_F_irem, mj_F_ireturn, mj_F_istore_n_k, mj_F_isub, mj_F_ldc_i, mj_set, mj_set0, mj_unk, mj_c2, mj_kc, KT_X2, List.take_succ_cons, List.take_zero, List.drop_succ_cons, List.drop_zero, List.reverse_cons, List.reverse_nil, List.length_cons, List.length_nil, J_X2_ease]
              refine ⟨z, ?_⟩
              exact (ok_some hw :)
            · replace hw := ok_f hw c
              exact (ok_some hw :)
  · replace hw := ok_t hw c
    exact (ok_some hw :)

def c_X2_ease : mj_S := fun as h k => ∃ (v0 : Int32) (v1 : Nat) (v2 : Nat) (s : St), as = [.int v0, .ref v1, .ref v2] ∧ h = mkCs s ∧ ok (F_X2_ease v0 v1 v2 s) (fun p => k (some (.int p.1)) (mkCs p.2))
theorem c_X2_ease_in {v0 : Int32} {v1 : Nat} {v2 : Nat} {s : St} {k : Option Value → mj_H → Prop} (hw : ok (F_X2_ease v0 v1 v2 s) (fun p => k (some (.int p.1)) (mkCs p.2))) : c_X2_ease [.int v0, .ref v1, .ref v2] (mkCs s) k := ⟨v0, v1, v2, s, rfl, rfl, hw⟩
theorem m_X2_ease (l : Launch) : mj_Met l yX2_ease cX2_ease 4 ((some FieldType.boolean)) 1 0 0 c_X2_ease := by
  refine mj_body3 false (TbX2 4 ((some FieldType.boolean)) []) (by decide) (by decide) rfl rfl (fun h => nomatch h) (tfX2 _ (fun _ h => nomatch h)) ?_
  rintro as h k ⟨v0, v1, v2, s, rfl, rfl, hw⟩
  exact ⟨rfl, fun G hG hM => g_X2_ease hG hM hw⟩
def B_X2_spread_31 (v1 : Nat) (v2 : Nat) (v4 : Int32) : Int32 × Int32 × St → Option ((Int32 × Int32 × St) ⊕ ((Int32 × St)))
  | (v3, v5, s) =>
  if 120 ≤ v5 then
    some (.inr (v3, s))
  else
    (F_X2_ease v5 v1 v2 s).bind fun r3 =>
    if r3.1 = 0 then
      if v3 = 0 then
        some (.inl (0, (v5 + 1), r3.2))
      else
        some (.inl (1, (v5 + 1), r3.2))
    else
      some (.inl (1, (v5 + 1), r3.2))
def B_X2_spread_68 (v1 : Nat) (v2 : Nat) (v4 : Int32) : Int32 × Int32 × St → Option ((Int32 × Int32 × St) ⊕ ((Int32 × St)))
  | (v3, v5, s) =>
  if v5 < 0 then
    some (.inr (v3, s))
  else
    (F_X2_ease v5 v1 v2 s).bind fun r4 =>
    if r4.1 = 0 then
      if v3 = 0 then
        some (.inl (0, (v5 + (-1)), r4.2))
      else
        some (.inl (1, (v5 + (-1)), r4.2))
    else
      some (.inl (1, (v5 + (-1)), r4.2))
def F_X2_spread_99 (v1 : Nat) (v2 : Nat) (v3 : Int32) (v4 : Int32) (s : St) : Option ((Int32 × Int32 × St) ⊕ ((St))) :=
  some (.inl (v3, (v4 + 1), s))
def F_X2_spread_68 (v1 : Nat) (v2 : Nat) (v3 : Int32) (v4 : Int32) (v5 : Int32) (s : St) : Option ((Int32 × Int32 × St) ⊕ ((St))) :=
  (lp (B_X2_spread_68 v1 v2 v4) FU (v3, v5, s)).bind (fun y => F_X2_spread_99 v1 v2 y.1 v4 y.2)
def F_X2_spread_64 (v1 : Nat) (v2 : Nat) (v3 : Int32) (v4 : Int32) (s : St) : Option ((Int32 × Int32 × St) ⊕ ((St))) :=
  F_X2_spread_68 v1 v2 v3 v4 119 s
def F_X2_spread_31 (v1 : Nat) (v2 : Nat) (v3 : Int32) (v4 : Int32) (v5 : Int32) (s : St) : Option ((Int32 × Int32 × St) ⊕ ((St))) :=
  (lp (B_X2_spread_31 v1 v2 v4) FU (v3, v5, s)).bind (fun y => F_X2_spread_64 v1 v2 y.1 v4 y.2)
def B_X2_spread_15 (v1 : Nat) (v2 : Nat) : Int32 × Int32 × St → Option ((Int32 × Int32 × St) ⊕ ((St)))
  | (v3, v4, s) =>
  if 120 ≤ v4 then
    some (.inr s)
  else
    if v3 = 0 then
      some (.inr s)
    else
      F_X2_spread_31 v1 v2 0 v4 0 s
def F_X2_spread_105 (s : St) : Option (St) :=
  some s
def F_X2_spread_15 (v1 : Nat) (v2 : Nat) (v3 : Int32) (v4 : Int32) (s : St) : Option (St) :=
  (lp (B_X2_spread_15 v1 v2) FU (v3, v4, s)).bind (fun y => F_X2_spread_105 y)
def F_X2_spread (v0 : Int32) (v1 : Nat) (v2 : Nat) (s : St) : Option (St) :=
  (wFd s v2 100000000).bind fun s1 =>
  (wa s1 v2 v0 0).bind fun s2 =>
  F_X2_spread_15 v1 v2 1 0 s2
theorem J_X2_spread : mj_t 19 86 = 105 ∧ mj_t 23 82 = 105 ∧ mj_t 35 29 = 64 ∧ mj_t 45 7 = 52 ∧ mj_t 49 7 = 56 ∧ mj_t 53 4 = 57 ∧ mj_t 61 (-30) = 31 ∧ mj_t 70 29 = 99 ∧ mj_t 80 7 = 87 ∧ mj_t 84 7 = 91 ∧ mj_t 88 4 = 92 ∧ mj_t 96 (-28) = 68 ∧ mj_t 102 (-87) = 15 ∧ (0 ≤ ((19 : Nat) : Int) + 86) = True ∧ (0 ≤ ((23 : Nat) : Int) + 82) = True ∧ (0 ≤ ((35 : Nat) : Int) + 29) = True ∧ (0 ≤ ((45 : Nat) : Int) + 7) = True ∧ (0 ≤ ((49 : Nat) : Int) + 7) = True ∧ (0 ≤ ((53 : Nat) : Int) + 4) = True ∧ (0 ≤ ((61 : Nat) : Int) + (-30)) = True ∧ (0 ≤ ((70 : Nat) : Int) + 29) = True ∧ (0 ≤ ((80 : Nat) : Int) + 7) = True ∧ (0 ≤ ((84 : Nat) : Int) + 7) = True ∧ (0 ≤ ((88 : Nat) : Int) + 4) = True ∧ (0 ≤ ((96 : Nat) : Int) + (-28)) = True ∧ (0 ≤ ((102 : Nat) : Int) + (-87)) = True := by and_intros <;> first | rfl | exact eq_true (by decide)
def ct_X2_spread : List (Nat × mj_Cs) := [(30, 2, 2, 99, 0, 0, c_fill), (55, 2, 3, 2, 0, 0, c_X2_ease)]
theorem L_X2_spread : mj_lk ct_X2_spread 30 = some (2, 2, 99, 0, 0, c_fill) ∧ mj_lk ct_X2_spread 55 = some (2, 3, 2, 0, 0, c_X2_ease) := ⟨rfl, rfl⟩
set_option maxHeartbeats 4000000 in
set_option maxRecDepth 20000 in
theorem b_X2_spread_31 {k : Option Value → mj_H → Prop} {G : mj_K} (hG : mj_cl2 cX2_spread (TbX2 6 (none) ct_X2_spread) k G) {v1 : Nat} {v2 : Nat} {v4 : Int32} {P : Int32 × Int32 × St → Prop} {K : (Int32 × St) → Prop} (hP : ∀ x, P x → G 31 [mj_unk, .ref v1, .ref v2, .int x.1, .int v4, .int x.2.1] [] (mkCs x.2.2) 0 0) (hK0 : ∀ y, K y → G 64 [mj_unk, .ref v1, .ref v2, .int y.1, .int v4] [] (mkCs y.2) 0 0) {v3 : Int32} {v5 : Int32} {s : St} (hw : ok (B_X2_spread_31 v1 v2 v4 (v3, v5, s)) (Sum.elim P K)) : G 31 [mj_unk, .ref v1, .ref v2, .int v3, .int v4, .int v5] [] (mkCs s) 0 0 := by
  unfold B_X2_spread_31 at hw
  refine mj_run hG.1 (fun pc => pc == 6 || pc == 9 || pc == 15 || pc == 31 || pc == 45 || pc == 64 || pc == 68 || pc == 80 || pc == 99 || pc == 105) 4000 ?_
  simp only [mj_step, mj_W_s, mj_fin, List.getElem?_cons_zero, List.getElem?_cons_succ, mj_go, Nat.reduceAdd, Nat.reduceSub, Nat.reduceLT, Nat.reduceLeDiff, Nat.zero_add, Nat.reduceEqDiff, Nat.reduceBEq, ↓reduceIte, Bool.false_eq_true, List.append_nil, List.nil_append, List.cons_append, Option.toList, and_true, true_and, true_or, or_true, reduceCtorEq, List.map_nil, bI_eq0, bI_eq1, bool_ft, pk_us, Bool.or_false, Bool.or_true, Bool.false_or, Bool.true_or, mj_kne, eq_self, Int32.reduceLT, Int32.reduceLE, Int32.reduceAdd, Int32.reduceSub, Int32.reduceMul, not_true_eq_false, not_false_eq_true, false_implies, true_implies, D_X2_spread_0, D_X2_spread_1, mj_F_aload_n_k, mj_F_bipush_n, mj_F_goto_off, mj_F_iastore, mj_F_iconst_n, mj_F_ifCond_eq_off, mj_F_ifCond_lt_off, mj_F_ifCond_ne_off, mj_F_if_icmp_ge_off, mj_F_iinc_k_n, mj_F_iload_k, mj_F_iload_n_k, mj_F_invokestatic_i, mj_F_istore_k, mj_F_istore_n_k, mj_F_ldc_i, mj_F_return_, mj_set, mj_set0, mj_unk, mj_c2, mj_kc, KT_X2, L_X2_spread, List.take_succ_cons, List.take_zero, List.drop_succ_cons, List.drop_zero, List.reverse_cons, List.reverse_nil, List.length_cons, List.length_nil, J_X2_spread]
  refine ⟨fun c => ?_, fun c => ?_⟩
  · replace hw := ok_t hw c
    exact hG.2 _ _ _ _ _ _ _ _ _ (by refine ⟨Or.inl rfl, ?_⟩; refine ⟨Or.inr rfl, ?_⟩; refine ⟨Or.inr rfl, ?_⟩; refine ⟨Or.inr rfl, ?_⟩; refine ⟨Or.inr rfl, ?_⟩; exact trivial) (Nat.zero_le _) (Nat.zero_le _) (hK0 _ (ok_some hw :) :)
  · replace hw := ok_f hw c
    refine c_X2_ease_in (ok_imp (ok_bind hw) ?_)
    intro p hw
    simp only [Option.toList, List.nil_append, List.cons_append, Nat.reduceSub]
    refine mj_run hG.1 (fun pc => pc == 6 || pc == 9 || pc == 15 || pc == 31 || pc == 45 || pc == 64 || pc == 68 || pc == 80 || pc == 99 || pc == 105) 4000 ?_
    simp only [mj_step, mj_W_s, mj_fin, List.getElem?_cons_zero, List.getElem?_cons_succ, mj_go, Nat.reduceAdd, Nat.reduceSub, Nat.reduceLT, Nat.reduceLeDiff, Nat.zero_add, Nat.reduceEqDiff, Nat.reduceBEq, ↓reduceIte, Bool.false_eq_true, List.append_nil, List.nil_append, List.cons_append, Option.toList, and_true, true_and, true_or, or_true, reduceCtorEq, List.map_nil, bI_eq0, bI_eq1, bool_ft, pk_us, Bool.or_false, Bool.or_true, Bool.false_or, Bool.true_or, mj_kne, eq_self, Int32.reduceLT, Int32.reduceLE, Int32.reduceAdd, Int32.reduceSub, Int32.reduceMul, not_true_eq_false, not_false_eq_true, false_implies, true_implies, D_X2_spread_0, D_X2_spread_1, mj_F_aload_n_k, mj_F_bipush_n, mj_F_goto_off, mj_F_iastore, mj_F_iconst_n, mj_F_ifCond_eq_off, mj_F_ifCond_lt_off, mj_F_ifCond_ne_off, mj_F_if_icmp_ge_off, mj_F_iinc_k_n, mj_F_iload_k, mj_F_iload_n_k, mj_F_invokestatic_i, mj_F_istore_k, mj_F_istore_n_k, mj_F_ldc_i, mj_F_return_, mj_set, mj_set0, mj_unk, mj_c2, mj_kc, KT_X2, L_X2_spread, List.take_succ_cons, List.take_zero, List.drop_succ_cons, List.drop_zero, List.reverse_cons, List.reverse_nil, List.length_cons, List.length_nil, J_X2_spread]
    refine ⟨fun c => ?_, fun c => ?_⟩
    · replace hw := ok_f hw c
      exact hG.2 _ _ _ _ _ _ _ _ _ (by refine ⟨Or.inl rfl, ?_⟩; refine ⟨Or.inr rfl, ?_⟩; refine ⟨Or.inr rfl, ?_⟩; refine ⟨Or.inr rfl, ?_⟩; refine ⟨Or.inr rfl, ?_⟩; refine ⟨Or.inr rfl, ?_⟩; exact trivial) (Nat.zero_le _) (Nat.zero_le _) (hP _ (ok_some hw :) :)
    · replace hw := ok_t hw c
      refine ⟨fun c => ?_, fun c => ?_⟩
      · replace hw := ok_t hw c
        exact hG.2 _ _ _ _ _ _ _ _ _ (by refine ⟨Or.inl rfl, ?_⟩; refine ⟨Or.inr rfl, ?_⟩; refine ⟨Or.inr rfl, ?_⟩; refine ⟨Or.inr rfl, ?_⟩; refine ⟨Or.inr rfl, ?_⟩; refine ⟨Or.inr rfl, ?_⟩; exact trivial) (Nat.zero_le _) (Nat.zero_le _) (hP _ (ok_some hw :) :)
      · replace hw := ok_f hw c
        exact hG.2 _ _ _ _ _ _ _ _ _ (by refine ⟨Or.inl rfl, ?_⟩; refine ⟨Or.inr rfl, ?_⟩; refine ⟨Or.inr rfl, ?_⟩; refine ⟨Or.inr rfl, ?_⟩; refine ⟨Or.inr rfl, ?_⟩; refine ⟨Or.inr rfl, ?_⟩; exact trivial) (Nat.zero_le _) (Nat.zero_le _) (hP _ (ok_some hw :) :)

set_option maxHeartbeats 4000000 in
set_option maxRecDepth 20000 in
theorem b_X2_spread_68 {k : Option Value → mj_H → Prop} {G : mj_K} (hG : mj_cl2 cX2_spread (TbX2 6 (none) ct_X2_spread) k G) {v1 : Nat} {v2 : Nat} {v4 : Int32} {P : Int32 × Int32 × St → Prop} {K : (Int32 × St) → Prop} (hP : ∀ x, P x → G 68 [mj_unk, .ref v1, .ref v2, .int x.1, .int v4, .int x.2.1] [] (mkCs x.2.2) 0 0) (hK0 : ∀ y, K y → G 99 [mj_unk, .ref v1, .ref v2, .int y.1, .int v4] [] (mkCs y.2) 0 0) {v3 : Int32} {v5 : Int32} {s : St} (hw : ok (B_X2_spread_68 v1 v2 v4 (v3, v5, s)) (Sum.elim P K)) : G 68 [mj_unk, .ref v1, .ref v2, .int v3, .int v4, .int v5] [] (mkCs s) 0 0 := by
  unfold B_X2_spread_68 at hw
  refine mj_run hG.1 (fun pc => pc == 6 || pc == 9 || pc == 15 || pc == 31 || pc == 45 || pc == 64 || pc == 68 || pc == 80 || pc == 99 || pc == 105) 4000 ?_
  simp only [mj_step, mj_W_s, mj_fin, List.getElem?_cons_zero, List.getElem?_cons_succ, mj_go, Nat.reduceAdd, Nat.reduceSub, Nat.reduceLT, Nat.reduceLeDiff, Nat.zero_add, Nat.reduceEqDiff, Nat.reduceBEq, ↓reduceIte, Bool.false_eq_true, List.append_nil, List.nil_append, List.cons_append, Option.toList, and_true, true_and, true_or, or_true, reduceCtorEq, List.map_nil, bI_eq0, bI_eq1, bool_ft, pk_us, Bool.or_false, Bool.or_true, Bool.false_or, Bool.true_or, mj_kne, eq_self, Int32.reduceLT, Int32.reduceLE, Int32.reduceAdd, Int32.reduceSub, Int32.reduceMul, not_true_eq_false, not_false_eq_true, false_implies, true_implies, D_X2_spread_0, D_X2_spread_1, mj_F_aload_n_k, mj_F_bipush_n, mj_F_goto_off, mj_F_iastore, mj_F_iconst_n, mj_F_ifCond_eq_off, mj_F_ifCond_lt_off, mj_F_ifCond_ne_off, mj_F_if_icmp_ge_off, mj_F_iinc_k_n, mj_F_iload_k, mj_F_iload_n_k, mj_F_invokestatic_i, mj_F_istore_k, mj_F_istore_n_k, mj_F_ldc_i, mj_F_return_, mj_set, mj_set0, mj_unk, mj_c2, mj_kc, KT_X2, L_X2_spread, List.take_succ_cons, List.take_zero, List.drop_succ_cons, List.drop_zero, List.reverse_cons, List.reverse_nil, List.length_cons, List.length_nil, J_X2_spread]
  refine ⟨fun c => ?_, fun c => ?_⟩
  · replace hw := ok_t hw c
    exact hG.2 _ _ _ _ _ _ _ _ _ (by refine ⟨Or.inl rfl, ?_⟩; refine ⟨Or.inr rfl, ?_⟩; refine ⟨Or.inr rfl, ?_⟩; refine ⟨Or.inr rfl, ?_⟩; refine ⟨Or.inr rfl, ?_⟩; exact trivial) (Nat.zero_le _) (Nat.zero_le _) (hK0 _ (ok_some hw :) :)
  · replace hw := ok_f hw c
    refine c_X2_ease_in (ok_imp (ok_bind hw) ?_)
    intro p hw
    simp only [Option.toList, List.nil_append, List.cons_append, Nat.reduceSub]
    refine mj_run hG.1 (fun pc => pc == 6 || pc == 9 || pc == 15 || pc == 31 || pc == 45 || pc == 64 || pc == 68 || pc == 80 || pc == 99 || pc == 105) 4000 ?_
    simp only [mj_step, mj_W_s, mj_fin, List.getElem?_cons_zero, List.getElem?_cons_succ, mj_go, Nat.reduceAdd, Nat.reduceSub, Nat.reduceLT, Nat.reduceLeDiff, Nat.zero_add, Nat.reduceEqDiff, Nat.reduceBEq, ↓reduceIte, Bool.false_eq_true, List.append_nil, List.nil_append, List.cons_append, Option.toList, and_true, true_and, true_or, or_true, reduceCtorEq, List.map_nil, bI_eq0, bI_eq1, bool_ft, pk_us, Bool.or_false, Bool.or_true, Bool.false_or, Bool.true_or, mj_kne, eq_self, Int32.reduceLT, Int32.reduceLE, Int32.reduceAdd, Int32.reduceSub, Int32.reduceMul, not_true_eq_false, not_false_eq_true, false_implies, true_implies, D_X2_spread_0, D_X2_spread_1, mj_F_aload_n_k, mj_F_bipush_n, mj_F_goto_off, mj_F_iastore, mj_F_iconst_n, mj_F_ifCond_eq_off, mj_F_ifCond_lt_off, mj_F_ifCond_ne_off, mj_F_if_icmp_ge_off, mj_F_iinc_k_n, mj_F_iload_k, mj_F_iload_n_k, mj_F_invokestatic_i, mj_F_istore_k, mj_F_istore_n_k, mj_F_ldc_i, mj_F_return_, mj_set, mj_set0, mj_unk, mj_c2, mj_kc, KT_X2, L_X2_spread, List.take_succ_cons, List.take_zero, List.drop_succ_cons, List.drop_zero, List.reverse_cons, List.reverse_nil, List.length_cons, List.length_nil, J_X2_spread]
    refine ⟨fun c => ?_, fun c => ?_⟩
    · replace hw := ok_f hw c
      exact hG.2 _ _ _ _ _ _ _ _ _ (by refine ⟨Or.inl rfl, ?_⟩; refine ⟨Or.inr rfl, ?_⟩; refine ⟨Or.inr rfl, ?_⟩; refine ⟨Or.inr rfl, ?_⟩; refine ⟨Or.inr rfl, ?_⟩; refine ⟨Or.inr rfl, ?_⟩; exact trivial) (Nat.zero_le _) (Nat.zero_le _) (hP _ (ok_some hw :) :)
    · replace hw := ok_t hw c
      refine ⟨fun c => ?_, fun c => ?_⟩
      · replace hw := ok_t hw c
        exact hG.2 _ _ _ _ _ _ _ _ _ (by refine ⟨Or.inl rfl, ?_⟩; refine ⟨Or.inr rfl, ?_⟩; refine ⟨Or.inr rfl, ?_⟩; refine ⟨Or.inr rfl, ?_⟩; refine ⟨Or.inr rfl, ?_⟩; refine ⟨Or.inr rfl, ?_⟩; exact trivial) (Nat.zero_le _) (Nat.zero_le _) (hP _ (ok_some hw :) :)
      · replace hw := ok_f hw c
        exact hG.2 _ _ _ _ _ _ _ _ _ (by refine ⟨Or.inl rfl, ?_⟩; refine ⟨Or.inr rfl, ?_⟩; refine ⟨Or.inr rfl, ?_⟩; refine ⟨Or.inr rfl, ?_⟩; refine ⟨Or.inr rfl, ?_⟩; refine ⟨Or.inr rfl, ?_⟩; exact trivial) (Nat.zero_le _) (Nat.zero_le _) (hP _ (ok_some hw :) :)

set_option maxHeartbeats 4000000 in
set_option maxRecDepth 20000 in
theorem g_X2_spread_99 {k : Option Value → mj_H → Prop} {G : mj_K} (hG : mj_cl2 cX2_spread (TbX2 6 (none) ct_X2_spread) k G) {v1 : Nat} {v2 : Nat} {P : Int32 × Int32 × St → Prop} {K : (St) → Prop} (hP : ∀ x, P x → G 15 [mj_unk, .ref v1, .ref v2, .int x.1, .int x.2.1] [] (mkCs x.2.2) 0 0) (hK0 : ∀ y, K y → G 105 [] [] (mkCs y) 0 0) {v3 : Int32} {v4 : Int32} {s : St} (hw : ok (F_X2_spread_99 v1 v2 v3 v4 s) (Sum.elim P K)) : G 99 [mj_unk, .ref v1, .ref v2, .int v3, .int v4] [] (mkCs s) 0 0 := by
  unfold F_X2_spread_99 at hw
  refine mj_run hG.1 (fun pc => pc == 6 || pc == 9 || pc == 15 || pc == 31 || pc == 45 || pc == 64 || pc == 68 || pc == 80 || pc == 99 || pc == 105) 4000 ?_
  simp only [mj_step, mj_W_s, mj_fin, List.getElem?_cons_zero, List.getElem?_cons_succ, mj_go, Nat.reduceAdd, Nat.reduceSub, Nat.reduceLT, Nat.reduceLeDiff, Nat.zero_add, Nat.reduceEqDiff, Nat.reduceBEq, ↓reduceIte, Bool.false_eq_true, List.append_nil, List.nil_append, List.cons_append, Option.toList, and_true, true_and, true_or, or_true, reduceCtorEq, List.map_nil, bI_eq0, bI_eq1, bool_ft, pk_us, Bool.or_false, Bool.or_true, Bool.false_or, Bool.true_or, mj_kne, eq_self, Int32.reduceLT, Int32.reduceLE, Int32.reduceAdd, Int32.reduceSub, Int32.reduceMul, not_true_eq_false, not_false_eq_true, false_implies, true_implies, D_X2_spread_0, D_X2_spread_1, mj_F_aload_n_k, mj_F_bipush_n, mj_F_goto_off, mj_F_iastore, mj_F_iconst_n, mj_F_ifCond_eq_off, mj_F_ifCond_lt_off, mj_F_ifCond_ne_off, mj_F_if_icmp_ge_off, mj_F_iinc_k_n, mj_F_iload_k, mj_F_iload_n_k, mj_F_invokestatic_i, mj_F_istore_k, mj_F_istore_n_k, mj_F_ldc_i, mj_F_return_, mj_set, mj_set0, mj_unk, mj_c2, mj_kc, KT_X2, L_X2_spread, List.take_succ_cons, List.take_zero, List.drop_succ_cons, List.drop_zero, List.reverse_cons, List.reverse_nil, List.length_cons, List.length_nil, J_X2_spread]
  exact hG.2 _ _ _ _ _ _ _ _ _ (by refine ⟨Or.inl rfl, ?_⟩; refine ⟨Or.inr rfl, ?_⟩; refine ⟨Or.inr rfl, ?_⟩; refine ⟨Or.inr rfl, ?_⟩; refine ⟨Or.inr rfl, ?_⟩; exact trivial) (Nat.zero_le _) (Nat.zero_le _) (hP _ (ok_some hw :) :)

set_option maxHeartbeats 4000000 in
theorem g_X2_spread_68 {k : Option Value → mj_H → Prop} {G : mj_K} (hG : mj_cl2 cX2_spread (TbX2 6 (none) ct_X2_spread) k G) {v1 : Nat} {v2 : Nat} {P : Int32 × Int32 × St → Prop} {K : (St) → Prop} (hP : ∀ x, P x → G 15 [mj_unk, .ref v1, .ref v2, .int x.1, .int x.2.1] [] (mkCs x.2.2) 0 0) (hK0 : ∀ y, K y → G 105 [] [] (mkCs y) 0 0) {v3 : Int32} {v4 : Int32} {v5 : Int32} {s : St} (hw : ok (F_X2_spread_68 v1 v2 v3 v4 v5 s) (Sum.elim P K)) : G 68 [mj_unk, .ref v1, .ref v2, .int v3, .int v4, .int v5] [] (mkCs s) 0 0 := by
  unfold F_X2_spread_68 at hw
  refine lp_ok (B_X2_spread_68 v1 v2 v4) (fun x => G 68 [mj_unk, .ref v1, .ref v2, .int x.1, .int v4, .int x.2.1] [] (mkCs x.2.2) 0 0) _ ?_ _ _ (ok_bind hw)
  rintro ⟨v3, v5, s⟩ hb
  exact b_X2_spread_68 hG (fun _ z => z) (fun y hw => by exact hG.2 _ _ _ _ _ _ _ _ _ (by refine ⟨Or.inl rfl, ?_⟩; refine ⟨Or.inr rfl, ?_⟩; refine ⟨Or.inr rfl, ?_⟩; refine ⟨Or.inr rfl, ?_⟩; refine ⟨Or.inr rfl, ?_⟩; exact trivial) (Nat.zero_le _) (Nat.zero_le _) (g_X2_spread_99 hG hP hK0  hw :)) hb

set_option maxHeartbeats 4000000 in
set_option maxRecDepth 20000 in
theorem g_X2_spread_64 {k : Option Value → mj_H → Prop} {G : mj_K} (hG : mj_cl2 cX2_spread (TbX2 6 (none) ct_X2_spread) k G) {v1 : Nat} {v2 : Nat} {P : Int32 × Int32 × St → Prop} {K : (St) → Prop} (hP : ∀ x, P x → G 15 [mj_unk, .ref v1, .ref v2, .int x.1, .int x.2.1] [] (mkCs x.2.2) 0 0) (hK0 : ∀ y, K y → G 105 [] [] (mkCs y) 0 0) {v3 : Int32} {v4 : Int32} {s : St} (hw : ok (F_X2_spread_64 v1 v2 v3 v4 s) (Sum.elim P K)) : G 64 [mj_unk, .ref v1, .ref v2, .int v3, .int v4] [] (mkCs s) 0 0 := by
  unfold F_X2_spread_64 at hw
  refine mj_run hG.1 (fun pc => pc == 6 || pc == 9 || pc == 15 || pc == 31 || pc == 45 || pc == 64 || pc == 68 || pc == 80 || pc == 99 || pc == 105) 4000 ?_
  simp only [mj_step, mj_W_s, mj_fin, List.getElem?_cons_zero, List.getElem?_cons_succ, mj_go, Nat.reduceAdd, Nat.reduceSub, Nat.reduceLT, Nat.reduceLeDiff, Nat.zero_add, Nat.reduceEqDiff, Nat.reduceBEq, ↓reduceIte, Bool.false_eq_true, List.append_nil, List.nil_append, List.cons_append, Option.toList, and_true, true_and, true_or, or_true, reduceCtorEq, List.map_nil, bI_eq0, bI_eq1, bool_ft, pk_us, Bool.or_false, Bool.or_true, Bool.false_or, Bool.true_or, mj_kne, eq_self, Int32.reduceLT, Int32.reduceLE, Int32.reduceAdd, Int32.reduceSub, Int32.reduceMul, not_true_eq_false, not_false_eq_true, false_implies, true_implies, D_X2_spread_0, D_X2_spread_1, mj_F_aload_n_k, mj_F_bipush_n, mj_F_goto_off, mj_F_iastore, mj_F_iconst_n, mj_F_ifCond_eq_off, mj_F_ifCond_lt_off, mj_F_ifCond_ne_off, mj_F_if_icmp_ge_off, mj_F_iinc_k_n, mj_F_iload_k, mj_F_iload_n_k, mj_F_invokestatic_i, mj_F_istore_k, mj_F_istore_n_k, mj_F_ldc_i, mj_F_return_, mj_set, mj_set0, mj_unk, mj_c2, mj_kc, KT_X2, L_X2_spread, List.take_succ_cons, List.take_zero, List.drop_succ_cons, List.drop_zero, List.reverse_cons, List.reverse_nil, List.length_cons, List.length_nil, J_X2_spread]
  exact hG.2 _ _ _ _ _ _ _ _ _ (by refine ⟨Or.inl rfl, ?_⟩; refine ⟨Or.inr rfl, ?_⟩; refine ⟨Or.inr rfl, ?_⟩; refine ⟨Or.inr rfl, ?_⟩; refine ⟨Or.inr rfl, ?_⟩; refine ⟨Or.inr rfl, ?_⟩; exact trivial) (Nat.zero_le _) (Nat.zero_le _) (g_X2_spread_68 hG hP hK0  hw :)

set_option maxHeartbeats 4000000 in
theorem g_X2_spread_31 {k : Option Value → mj_H → Prop} {G : mj_K} (hG : mj_cl2 cX2_spread (TbX2 6 (none) ct_X2_spread) k G) {v1 : Nat} {v2 : Nat} {P : Int32 × Int32 × St → Prop} {K : (St) → Prop} (hP : ∀ x, P x → G 15 [mj_unk, .ref v1, .ref v2, .int x.1, .int x.2.1] [] (mkCs x.2.2) 0 0) (hK0 : ∀ y, K y → G 105 [] [] (mkCs y) 0 0) {v3 : Int32} {v4 : Int32} {v5 : Int32} {s : St} (hw : ok (F_X2_spread_31 v1 v2 v3 v4 v5 s) (Sum.elim P K)) : G 31 [mj_unk, .ref v1, .ref v2, .int v3, .int v4, .int v5] [] (mkCs s) 0 0 := by
  unfold F_X2_spread_31 at hw
  refine lp_ok (B_X2_spread_31 v1 v2 v4) (fun x => G 31 [mj_unk, .ref v1, .ref v2, .int x.1, .int v4, .int x.2.1] [] (mkCs x.2.2) 0 0) _ ?_ _ _ (ok_bind hw)
  rintro ⟨v3, v5, s⟩ hb
  exact b_X2_spread_31 hG (fun _ z => z) (fun y hw => by exact hG.2 _ _ _ _ _ _ _ _ _ (by refine ⟨Or.inl rfl, ?_⟩; refine ⟨Or.inr rfl, ?_⟩; refine ⟨Or.inr rfl, ?_⟩; refine ⟨Or.inr rfl, ?_⟩; refine ⟨Or.inr rfl, ?_⟩; exact trivial) (Nat.zero_le _) (Nat.zero_le _) (g_X2_spread_64 hG hP hK0  hw :)) hb

set_option maxHeartbeats 4000000 in
set_option maxRecDepth 20000 in
theorem b_X2_spread_15 {k : Option Value → mj_H → Prop} {G : mj_K} (hG : mj_cl2 cX2_spread (TbX2 6 (none) ct_X2_spread) k G) {v1 : Nat} {v2 : Nat} {P : Int32 × Int32 × St → Prop} {K : (St) → Prop} (hP : ∀ x, P x → G 15 [mj_unk, .ref v1, .ref v2, .int x.1, .int x.2.1] [] (mkCs x.2.2) 0 0) (hK0 : ∀ y, K y → G 105 [] [] (mkCs y) 0 0) {v3 : Int32} {v4 : Int32} {s : St} (hw : ok (B_X2_spread_15 v1 v2 (v3, v4, s)) (Sum.elim P K)) : G 15 [mj_unk, .ref v1, .ref v2, .int v3, .int v4] [] (mkCs s) 0 0 := by
  unfold B_X2_spread_15 at hw
  refine mj_run hG.1 (fun pc => pc == 6 || pc == 9 || pc == 15 || pc == 31 || pc == 45 || pc == 64 || pc == 68 || pc == 80 || pc == 99 || pc == 105) 4000 ?_
  simp only [mj_step, mj_W_s, mj_fin, List.getElem?_cons_zero, List.getElem?_cons_succ, mj_go, Nat.reduceAdd, Nat.reduceSub, Nat.reduceLT, Nat.reduceLeDiff, Nat.zero_add, Nat.reduceEqDiff, Nat.reduceBEq, ↓reduceIte, Bool.false_eq_true, List.append_nil, List.nil_append, List.cons_append, Option.toList, and_true, true_and, true_or, or_true, reduceCtorEq, List.map_nil, bI_eq0, bI_eq1, bool_ft, pk_us, Bool.or_false, Bool.or_true, Bool.false_or, Bool.true_or, mj_kne, eq_self, Int32.reduceLT, Int32.reduceLE, Int32.reduceAdd, Int32.reduceSub, Int32.reduceMul, not_true_eq_false, not_false_eq_true, false_implies, true_implies, D_X2_spread_0, D_X2_spread_1, mj_F_aload_n_k, mj_F_bipush_n, mj_F_goto_off, mj_F_iastore, mj_F_iconst_n, mj_F_ifCond_eq_off, mj_F_ifCond_lt_off, mj_F_ifCond_ne_off, mj_F_if_icmp_ge_off, mj_F_iinc_k_n, mj_F_iload_k, mj_F_iload_n_k, mj_F_invokestatic_i, mj_F_istore_k, mj_F_istore_n_k, mj_F_ldc_i, mj_F_return_, mj_set, mj_set0, mj_unk, mj_c2, mj_kc, KT_X2, L_X2_spread, List.take_succ_cons, List.take_zero, List.drop_succ_cons, List.drop_zero, List.reverse_cons, List.reverse_nil, List.length_cons, List.length_nil, J_X2_spread]
  refine ⟨fun c => ?_, fun c => ?_⟩
  · replace hw := ok_t hw c
    exact hG.2 _ _ _ _ _ _ _ _ _ (by exact trivial) (Nat.zero_le _) (Nat.zero_le _) (hK0 _ (ok_some hw :) :)
  · replace hw := ok_f hw c
    refine ⟨fun c => ?_, fun c => ?_⟩
    · replace hw := ok_t hw c
      exact hG.2 _ _ _ _ _ _ _ _ _ (by exact trivial) (Nat.zero_le _) (Nat.zero_le _) (hK0 _ (ok_some hw :) :)
    · replace hw := ok_f hw c
      exact hG.2 _ _ _ _ _ _ _ _ _ (by refine ⟨Or.inl rfl, ?_⟩; refine ⟨Or.inr rfl, ?_⟩; refine ⟨Or.inr rfl, ?_⟩; refine ⟨Or.inr rfl, ?_⟩; refine ⟨Or.inr rfl, ?_⟩; refine ⟨Or.inr rfl, ?_⟩; exact trivial) (Nat.zero_le _) (Nat.zero_le _) (g_X2_spread_31 hG hP hK0  hw :)

set_option maxHeartbeats 4000000 in
set_option maxRecDepth 20000 in
theorem g_X2_spread_105 {k : Option Value → mj_H → Prop} {G : mj_K} (hG : mj_cl2 cX2_spread (TbX2 6 (none) ct_X2_spread) k G)   {s : St} (hw : ok (F_X2_spread_105 s) (fun p => k none (mkCs p))) : G 105 [] [] (mkCs s) 0 0 := by
  unfold F_X2_spread_105 at hw
  refine mj_run hG.1 (fun pc => pc == 6 || pc == 9 || pc == 15 || pc == 31 || pc == 45 || pc == 64 || pc == 68 || pc == 80 || pc == 99 || pc == 105) 4000 ?_
  simp only [mj_step, mj_W_s, mj_fin, List.getElem?_cons_zero, List.getElem?_cons_succ, mj_go, Nat.reduceAdd, Nat.reduceSub, Nat.reduceLT, Nat.reduceLeDiff, Nat.zero_add, Nat.reduceEqDiff, Nat.reduceBEq, ↓reduceIte, Bool.false_eq_true, List.append_nil, List.nil_append, List.cons_append, Option.toList, and_true, true_and, true_or, or_true, reduceCtorEq, List.map_nil, bI_eq0, bI_eq1, bool_ft, pk_us, Bool.or_false, Bool.or_true, Bool.false_or, Bool.true_or, mj_kne, eq_self, Int32.reduceLT, Int32.reduceLE, Int32.reduceAdd, Int32.reduceSub, Int32.reduceMul, not_true_eq_false, not_false_eq_true, false_implies, true_implies, D_X2_spread_0, D_X2_spread_1, mj_F_aload_n_k, mj_F_bipush_n, mj_F_goto_off, mj_F_iastore, mj_F_iconst_n, mj_F_ifCond_eq_off, mj_F_ifCond_lt_off, mj_F_ifCond_ne_off, mj_F_if_icmp_ge_off, mj_F_iinc_k_n, mj_F_iload_k, mj_F_iload_n_k, mj_F_invokestatic_i, mj_F_istore_k, mj_F_istore_n_k, mj_F_ldc_i, mj_F_return_, mj_set, mj_set0, mj_unk, mj_c2, mj_kc, KT_X2, L_X2_spread, List.take_succ_cons, List.take_zero, List.drop_succ_cons, List.drop_zero, List.reverse_cons, List.reverse_nil, List.length_cons, List.length_nil, J_X2_spread]
  exact (ok_some hw :)

set_option maxHeartbeats 4000000 in
theorem g_X2_spread_15 {k : Option Value → mj_H → Prop} {G : mj_K} (hG : mj_cl2 cX2_spread (TbX2 6 (none) ct_X2_spread) k G)   {v1 : Nat} {v2 : Nat} {v3 : Int32} {v4 : Int32} {s : St} (hw : ok (F_X2_spread_15 v1 v2 v3 v4 s) (fun p => k none (mkCs p))) : G 15 [mj_unk, .ref v1, .ref v2, .int v3, .int v4] [] (mkCs s) 0 0 := by
  unfold F_X2_spread_15 at hw
  refine lp_ok (B_X2_spread_15 v1 v2) (fun x => G 15 [mj_unk, .ref v1, .ref v2, .int x.1, .int x.2.1] [] (mkCs x.2.2) 0 0) _ ?_ _ _ (ok_bind hw)
  rintro ⟨v3, v4, s⟩ hb
  exact b_X2_spread_15 hG (fun _ z => z) (fun y hw => by exact hG.2 _ _ _ _ _ _ _ _ _ (by exact trivial) (Nat.zero_le _) (Nat.zero_le _) (g_X2_spread_105 hG  hw :)) hb

set_option maxHeartbeats 4000000 in
set_option maxRecDepth 20000 in
theorem g_X2_spread {k : Option Value → mj_H → Prop} {G : mj_K} (hG : mj_cl2 cX2_spread (TbX2 6 (none) ct_X2_spread) k G) {v0 : Int32} {v1 : Nat} {v2 : Nat} {s : St} (hw : ok (F_X2_spread v0 v1 v2 s) (fun p => k none (mkCs p))) : G 0 [.int v0, .ref v1, .ref v2] [] (mkCs s) 0 0 := by
  unfold F_X2_spread at hw
  refine mj_run hG.1 (fun pc => pc == 6 || pc == 9 || pc == 15 || pc == 31 || pc == 45 || pc == 64 || pc == 68 || pc == 80 || pc == 99 || pc == 105) 4000 ?_
  simp only [mj_step, mj_W_s, mj_fin, List.getElem?_cons_zero, List.getElem?_cons_succ, mj_go, Nat.reduceAdd, Nat.reduceSub, Nat.reduceLT, Nat.reduceLeDiff, Nat.zero_add, Nat.reduceEqDiff, Nat.reduceBEq, ↓reduceIte, Bool.false_eq_true, List.append_nil, List.nil_append, List.cons_append, Option.toList, and_true, true_and, true_or, or_true, reduceCtorEq, List.map_nil, bI_eq0, bI_eq1, bool_ft, pk_us, Bool.or_false, Bool.or_true, Bool.false_or, Bool.true_or, mj_kne, eq_self, Int32.reduceLT, Int32.reduceLE, Int32.reduceAdd, Int32.reduceSub, Int32.reduceMul, not_true_eq_false, not_false_eq_true, false_implies, true_implies, D_X2_spread_0, D_X2_spread_1, mj_F_aload_n_k, mj_F_bipush_n, mj_F_goto_off, mj_F_iastore, mj_F_iconst_n, mj_F_ifCond_eq_off, mj_F_ifCond_lt_off, mj_F_ifCond_ne_off, mj_F_if_icmp_ge_off, mj_F_iinc_k_n, mj_F_iload_k, mj_F_iload_n_k, mj_F_invokestatic_i, mj_F_istore_k, mj_F_istore_n_k, mj_F_ldc_i, mj_F_return_, mj_set, mj_set0, mj_unk, mj_c2, mj_kc, KT_X2, L_X2_spread, List.take_succ_cons, List.take_zero, List.drop_succ_cons, List.drop_zero, List.reverse_cons, List.reverse_nil, List.length_cons, List.length_nil, J_X2_spread]
  obtain ⟨_, _, e5, z2, z3, hw⟩ := ok_wFd hw
  refine c_fill_in e5 z3 ?_
  simp only [z2, Option.toList, List.nil_append, Nat.reduceSub]
  refine mj_run hG.1 (fun pc => pc == 6 || pc == 9 || pc == 15 || pc == 31 || pc == 45 || pc == 64 || pc == 68 || pc == 80 || pc == 99 || pc == 105) 4000 ?_
  simp only [mj_step, mj_W_s, mj_fin, List.getElem?_cons_zero, List.getElem?_cons_succ, mj_go, Nat.reduceAdd, Nat.reduceSub, Nat.reduceLT, Nat.reduceLeDiff, Nat.zero_add, Nat.reduceEqDiff, Nat.reduceBEq, ↓reduceIte, Bool.false_eq_true, List.append_nil, List.nil_append, List.cons_append, Option.toList, and_true, true_and, true_or, or_true, reduceCtorEq, List.map_nil, bI_eq0, bI_eq1, bool_ft, pk_us, Bool.or_false, Bool.or_true, Bool.false_or, Bool.true_or, mj_kne, eq_self, Int32.reduceLT, Int32.reduceLE, Int32.reduceAdd, Int32.reduceSub, Int32.reduceMul, not_true_eq_false, not_false_eq_true, false_implies, true_implies, D_X2_spread_0, D_X2_spread_1, mj_F_aload_n_k, mj_F_bipush_n, mj_F_goto_off, mj_F_iastore, mj_F_iconst_n, mj_F_ifCond_eq_off, mj_F_ifCond_lt_off, mj_F_ifCond_ne_off, mj_F_if_icmp_ge_off, mj_F_iinc_k_n, mj_F_iload_k, mj_F_iload_n_k, mj_F_invokestatic_i, mj_F_istore_k, mj_F_istore_n_k, mj_F_ldc_i, mj_F_return_, mj_set, mj_set0, mj_unk, mj_c2, mj_kc, KT_X2, L_X2_spread, List.take_succ_cons, List.take_zero, List.drop_succ_cons, List.drop_zero, List.reverse_cons, List.reverse_nil, List.length_cons, List.length_nil, J_X2_spread]
  obtain ⟨_, _, e6, z, z2, hw⟩ := ok_wa hw
  refine mj_run hG.1 (fun pc => pc == 6 || pc == 9 || pc == 15 || pc == 31 || pc == 45 || pc == 64 || pc == 68 || pc == 80 || pc == 99 || pc == 105) 4000 ?_
  simp only [e6, z2, mj_step, mj_W_s, mj_fin, List.getElem?_cons_zero, List.getElem?_cons_succ, mj_go, Nat.reduceAdd, Nat.reduceSub, Nat.reduceLT, Nat.reduceLeDiff, Nat.zero_add, Nat.reduceEqDiff, Nat.reduceBEq, ↓reduceIte, Bool.false_eq_true, List.append_nil, List.nil_append, List.cons_append, Option.toList, and_true, true_and, true_or, or_true, reduceCtorEq, List.map_nil, bI_eq0, bI_eq1, bool_ft, pk_us, Bool.or_false, Bool.or_true, Bool.false_or, Bool.true_or, mj_kne, eq_self, Int32.reduceLT, Int32.reduceLE, Int32.reduceAdd, Int32.reduceSub, Int32.reduceMul, not_true_eq_false, not_false_eq_true, false_implies, true_implies, D_X2_spread_0, D_X2_spread_1, mj_F_aload_n_k, mj_F_bipush_n, mj_F_goto_off, mj_F_iastore, mj_F_iconst_n, mj_F_ifCond_eq_off, mj_F_ifCond_lt_off, mj_F_ifCond_ne_off, mj_F_if_icmp_ge_off, mj_F_iinc_k_n, mj_F_iload_k, mj_F_iload_n_k, mj_F_invokestatic_i, mj_F_istore_k, mj_F_istore_n_k, mj_F_ldc_i, mj_F_return_, mj_set, mj_set0, mj_unk, mj_c2, mj_kc, KT_X2, L_X2_spread, List.take_succ_cons, List.take_zero, List.drop_succ_cons, List.drop_zero, List.reverse_cons, List.reverse_nil, List.length_cons, List.length_nil, J_X2_spread]
  refine ⟨z, ?_⟩
  exact hG.2 _ _ _ _ _ _ _ _ _ (by refine ⟨Or.inl rfl, ?_⟩; refine ⟨Or.inr rfl, ?_⟩; refine ⟨Or.inr rfl, ?_⟩; refine ⟨Or.inr rfl, ?_⟩; refine ⟨Or.inr rfl, ?_⟩; exact trivial) (Nat.zero_le _) (Nat.zero_le _) (g_X2_spread_15 hG  hw :)

def c_X2_spread : mj_S := fun as h k => ∃ (v0 : Int32) (v1 : Nat) (v2 : Nat) (s : St), as = [.int v0, .ref v1, .ref v2] ∧ h = mkCs s ∧ ok (F_X2_spread v0 v1 v2 s) (fun p => k none (mkCs p))
theorem c_X2_spread_in {v0 : Int32} {v1 : Nat} {v2 : Nat} {s : St} {k : Option Value → mj_H → Prop} (hw : ok (F_X2_spread v0 v1 v2 s) (fun p => k none (mkCs p))) : c_X2_spread [.int v0, .ref v1, .ref v2] (mkCs s) k := ⟨v0, v1, v2, s, rfl, rfl, hw⟩
theorem m_X2_spread (l : Launch) : mj_Met l yX2_spread cX2_spread 6 (none) 2 0 0 c_X2_spread := by
  refine mj_body2 false (TbX2 6 (none) ct_X2_spread) (by decide) rfl rfl (fun h => nomatch h) (tfX2 _ (List.forall_mem_cons.mpr ⟨cfX2_30 (m_J7_fill_53178 l) (by decide), List.forall_mem_cons.mpr ⟨cfX2_55 (m_X2_ease l) (by decide), fun _ h => nomatch h⟩⟩)) ?_
  rintro as h k ⟨v0, v1, v2, s, rfl, rfl, hw⟩
  exact ⟨rfl, fun G hG => g_X2_spread hG hw⟩
def F_X2_rowFrom_48 (v2 : Int32) (v3 : Int32) (v4 : Int32) (s : St) : Option (Nat × St) :=
  (rd s 204 240 v4).bind fun x4 =>
  if x4 = 0 then
    if v2 = 0 then
      rr s 203 240 v4 (
        none) fun a6 =>
      (F_X2_spread v3 2 a6 s).bind fun s7 =>
      (wr s7 204 240 v4 1).bind fun s8 =>
      rr s8 203 240 v4 (
        none) fun a9 =>
      some (a9, s8)
    else
      rr s 203 240 v4 (
        none) fun a10 =>
      (F_X2_spread v3 3 a10 s).bind fun s11 =>
      (wr s11 204 240 v4 1).bind fun s12 =>
      rr s12 203 240 v4 (
        none) fun a13 =>
      some (a13, s12)
  else
    rr s 203 240 v4 (
      none) fun a5 =>
    some (a5, s)
def F_X2_rowFrom_25 (v2 : Int32) (v3 : Int32) (t0 : Int32) (s : St) : Option (Nat × St) :=
  rr s 203 240 t0 (
    (nA s 120).bind fun s2 =>
    (wR s2 203 240 t0 (aL s)).bind fun s3 =>
    F_X2_rowFrom_48 v2 v3 t0 s3) fun a1 =>
  F_X2_rowFrom_48 v2 v3 t0 s
def F_X2_rowFrom_12 (v2 : Int32) (t0 : Int32) (s : St) : Option (Nat × St) :=
  if v2 = 0 then
    F_X2_rowFrom_25 v2 t0 t0 s
  else
    F_X2_rowFrom_25 v2 t0 (120 + t0) s
def F_X2_rowFrom (v1 : Int32) (v2 : Int32) (s : St) : Option (Nat × St) :=
  if inb v1 0 119 = false then
    F_X2_rowFrom_12 v2 0 s
  else
    F_X2_rowFrom_12 v2 v1 s
theorem J_X2_rowFrom : mj_t 4 7 = 11 ∧ mj_t 8 4 = 12 ∧ mj_t 14 10 = 24 ∧ mj_t 21 4 = 25 ∧ mj_t 34 14 = 48 ∧ mj_t 55 37 = 92 ∧ mj_t 60 10 = 70 ∧ mj_t 67 7 = 74 ∧ (0 ≤ ((4 : Nat) : Int) + 7) = True ∧ (0 ≤ ((8 : Nat) : Int) + 4) = True ∧ (0 ≤ ((14 : Nat) : Int) + 10) = True ∧ (0 ≤ ((21 : Nat) : Int) + 4) = True ∧ (0 ≤ ((34 : Nat) : Int) + 14) = True ∧ (0 ≤ ((55 : Nat) : Int) + 37) = True ∧ (0 ≤ ((60 : Nat) : Int) + 10) = True ∧ (0 ≤ ((67 : Nat) : Int) + 7) = True := by and_intros <;> first | rfl | exact eq_true (by decide)
def ct_X2_rowFrom : List (Nat × mj_Cs) := [(46, 3, 1, 11, 0, 0, c_isCell), (50, 2, 3, 2, 0, 0, c_X2_spread)]
theorem L_X2_rowFrom : mj_lk ct_X2_rowFrom 46 = some (3, 1, 11, 0, 0, c_isCell) ∧ mj_lk ct_X2_rowFrom 50 = some (2, 3, 2, 0, 0, c_X2_spread) := ⟨rfl, rfl⟩
set_option maxHeartbeats 4000000 in
set_option maxRecDepth 20000 in
theorem g_X2_rowFrom_48 {k : Option Value → mj_H → Prop} {G : mj_K} (hG : mj_cl2 cX2_rowFrom (TbX2 5 ((some (FieldType.array FieldType.int))) ct_X2_rowFrom) k G)   {v2 : Int32} {v3 : Int32} {v4 : Int32} {s : St} (hw : ok (F_X2_rowFrom_48 v2 v3 v4 s) (fun p => k (some (.ref p.1)) (mkCs p.2))) : G 48 [.ref 1, mj_unk, .int v2, .int v3, .int v4] [] (mkCs s) 0 0 := by
  unfold F_X2_rowFrom_48 at hw
  refine mj_run hG.1 (fun pc => pc == 12 || pc == 25 || pc == 34 || pc == 47 || pc == 48 || pc == 81 || pc == 84 || pc == 99) 4000 ?_
  simp only [mj_step, mj_W_s, mj_fin, List.getElem?_cons_zero, List.getElem?_cons_succ, mj_go, Nat.reduceAdd, Nat.reduceSub, Nat.reduceLT, Nat.reduceLeDiff, Nat.zero_add, Nat.reduceEqDiff, Nat.reduceBEq, ↓reduceIte, Bool.false_eq_true, List.append_nil, List.nil_append, List.cons_append, Option.toList, and_true, true_and, true_or, or_true, reduceCtorEq, List.map_nil, bI_eq0, bI_eq1, bool_ft, pk_us, Bool.or_false, Bool.or_true, Bool.false_or, Bool.true_or, mj_kne, eq_self, Int32.reduceLT, Int32.reduceLE, Int32.reduceAdd, Int32.reduceSub, Int32.reduceMul, not_true_eq_false, not_false_eq_true, false_implies, true_implies, D_X2_rowFrom_0, D_X2_rowFrom_1, mj_F_aaload, mj_F_aastore, mj_F_aload_n_k, mj_F_areturn, mj_F_baload, mj_F_bastore, mj_F_bipush_n, mj_F_getfield_i, mj_F_goto_off, mj_F_iadd, mj_F_iconst_n, mj_F_ifCond_eq_off, mj_F_ifCond_ne_off, mj_F_ifnonnull_off, mj_F_iload_k, mj_F_iload_n_k, mj_F_invokestatic_i, mj_F_istore_k, mj_F_istore_n_k, mj_F_newarray_ty, mj_set, mj_set0, mj_unk, mj_c2, mj_kc, FT_X2, L_X2_rowFrom, List.take_succ_cons, List.take_zero, List.drop_succ_cons, List.drop_zero, List.reverse_cons, List.reverse_nil, List.length_cons, List.length_nil, gS_C1, gCf2_3, gS_C5, sS_Cr_5, gCf2_4, gS_C6, sS_Ca_6, gCf2_1, gS_C3, sS_Ca_3, gCf2_0, gS_C2, sS_Ca_2, c_isCell_eq, mj_nn, sS_new, mkCs_len, J_X2_rowFrom]
  refine ⟨(ok_rd hw).1, ?_⟩
  replace hw := (ok_rd hw).2
  refine ⟨fun c => ?_, fun c => ?_⟩
  · replace hw := ok_f hw c
    refine ⟨(ok_rr hw).1, ?_⟩
    rcases (ok_rr hw).2 with ⟨e18, hw⟩ | ⟨_, e18, hw⟩
    · simp only [e18, va_rf]
      refine mj_run hG.1 (fun pc => pc == 12 || pc == 25 || pc == 34 || pc == 47 || pc == 48 || pc == 81 || pc == 84 || pc == 99) 4000 ?_
      simp only [mj_step, mj_W_s, mj_fin, List.getElem?_cons_zero, List.getElem?_cons_succ, mj_go, Nat.reduceAdd, Nat.reduceSub, Nat.reduceLT, Nat.reduceLeDiff, Nat.zero_add, Nat.reduceEqDiff, Nat.reduceBEq, ↓reduceIte, Bool.false_eq_true, List.append_nil, List.nil_append, List.cons_append, Option.toList, and_true, true_and, true_or, or_true, reduceCtorEq, List.map_nil, bI_eq0, bI_eq1, bool_ft, pk_us, Bool.or_false, Bool.or_true, Bool.false_or, Bool.true_or, mj_kne, eq_self, Int32.reduceLT, Int32.reduceLE, Int32.reduceAdd, Int32.reduceSub, Int32.reduceMul, not_true_eq_false, not_false_eq_true, false_implies, true_implies, D_X2_rowFrom_0, D_X2_rowFrom_1, mj_F_aaload, mj_F_aastore, mj_F_aload_n_k, mj_F_areturn, mj_F_baload, mj_F_bastore, mj_F_bipush_n, mj_F_getfield_i, mj_F_goto_off, mj_F_iadd, mj_F_iconst_n, mj_F_ifCond_eq_off, mj_F_ifCond_ne_off, mj_F_ifnonnull_off, mj_F_iload_k, mj_F_iload_n_k, mj_F_invokestatic_i, mj_F_istore_k, mj_F_istore_n_k, mj_F_newarray_ty, mj_set, mj_set0, mj_unk, mj_c2, mj_kc, FT_X2, L_X2_rowFrom, List.take_succ_cons, List.take_zero, List.drop_succ_cons, List.drop_zero, List.reverse_cons, List.reverse_nil, List.length_cons, List.length_nil, gS_C1, gCf2_3, gS_C5, sS_Cr_5, gCf2_4, gS_C6, sS_Ca_6, gCf2_1, gS_C3, sS_Ca_3, gCf2_0, gS_C2, sS_Ca_2, c_isCell_eq, mj_nn, sS_new, mkCs_len, J_X2_rowFrom]
      exact absurd hw ok_none
    · simp only [e18, va_rf]
      refine mj_run hG.1 (fun pc => pc == 12 || pc == 25 || pc == 34 || pc == 47 || pc == 48 || pc == 81 || pc == 84 || pc == 99) 4000 ?_
      simp only [mj_step, mj_W_s, mj_fin, List.getElem?_cons_zero, List.getElem?_cons_succ, mj_go, Nat.reduceAdd, Nat.reduceSub, Nat.reduceLT, Nat.reduceLeDiff, Nat.zero_add, Nat.reduceEqDiff, Nat.reduceBEq, ↓reduceIte, Bool.false_eq_true, List.append_nil, List.nil_append, List.cons_append, Option.toList, and_true, true_and, true_or, or_true, reduceCtorEq, List.map_nil, bI_eq0, bI_eq1, bool_ft, pk_us, Bool.or_false, Bool.or_true, Bool.false_or, Bool.true_or, mj_kne, eq_self, Int32.reduceLT, Int32.reduceLE, Int32.reduceAdd, Int32.reduceSub, Int32.reduceMul, not_true_eq_false, not_false_eq_true, false_implies, true_implies, D_X2_rowFrom_0, D_X2_rowFrom_1, mj_F_aaload, mj_F_aastore, mj_F_aload_n_k, mj_F_areturn, mj_F_baload, mj_F_bastore, mj_F_bipush_n, mj_F_getfield_i, mj_F_goto_off, mj_F_iadd, mj_F_iconst_n, mj_F_ifCond_eq_off, mj_F_ifCond_ne_off, mj_F_ifnonnull_off, mj_F_iload_k, mj_F_iload_n_k, mj_F_invokestatic_i, mj_F_istore_k, mj_F_istore_n_k, mj_F_newarray_ty, mj_set, mj_set0, mj_unk, mj_c2, mj_kc, FT_X2, L_X2_rowFrom, List.take_succ_cons, List.take_zero, List.drop_succ_cons, List.drop_zero, List.reverse_cons, List.reverse_nil, List.length_cons, List.length_nil, gS_C1, gCf2_3, gS_C5, sS_Cr_5, gCf2_4, gS_C6, sS_Ca_6, gCf2_1, gS_C3, sS_Ca_3, gCf2_0, gS_C2, sS_Ca_2, c_isCell_eq, mj_nn, sS_new, mkCs_len, J_X2_rowFrom]
      exact (ok_some hw :)
  · replace hw := ok_t hw c
    refine ⟨fun c => ?_, fun c => ?_⟩
    · replace hw := ok_t hw c
      refine ⟨(ok_rr hw).1, ?_⟩
      rcases (ok_rr hw).2 with ⟨e14, hw⟩ | ⟨_, e14, hw⟩
      · simp only [e14, va_rf]
        refine mj_run hG.1 (fun pc => pc == 12 || pc == 25 || pc == 34 || pc == 47 || pc == 48 || pc == 81 || pc == 84 || pc == 99) 4000 ?_
        simp only [mj_step, mj_W_s, mj_fin, List.getElem?_cons_zero, List.getElem?_cons_succ, mj_go, Nat.reduceAdd, Nat.reduceSub, Nat.reduceLT, Nat.reduceLeDiff, Nat.zero_add, Nat.reduceEqDiff, Nat.reduceBEq, ↓reduceIte, Bool.false_eq_true, List.append_nil, List.nil_append, List.cons_append, Option.toList, and_true, true_and, true_or, or_true, reduceCtorEq, List.map_nil, bI_eq0, bI_eq1, bool_ft, pk_us, Bool.or_false, Bool.or_true, Bool.false_or, Bool.true_or, mj_kne, eq_self, Int32.reduceLT, Int32.reduceLE, Int32.reduceAdd, Int32.reduceSub, Int32.reduceMul, not_true_eq_false, not_false_eq_true, false_implies, true_implies, D_X2_rowFrom_0, D_X2_rowFrom_1, mj_F_aaload, mj_F_aastore, mj_F_aload_n_k, mj_F_areturn, mj_F_baload, mj_F_bastore, mj_F_bipush_n, mj_F_getfield_i, mj_F_goto_off, mj_F_iadd, mj_F_iconst_n, mj_F_ifCond_eq_off, mj_F_ifCond_ne_off, mj_F_ifnonnull_off, mj_F_iload_k, mj_F_iload_n_k, mj_F_invokestatic_i, mj_F_istore_k, mj_F_istore_n_k, mj_F_newarray_ty, mj_set, mj_set0, mj_unk, mj_c2, mj_kc, FT_X2, L_X2_rowFrom, List.take_succ_cons, List.take_zero, List.drop_succ_cons, List.drop_zero, List.reverse_cons, List.reverse_nil, List.length_cons, List.length_nil, gS_C1, gCf2_3, gS_C5, sS_Cr_5, gCf2_4, gS_C6, sS_Ca_6, gCf2_1, gS_C3, sS_Ca_3, gCf2_0, gS_C2, sS_Ca_2, c_isCell_eq, mj_nn, sS_new, mkCs_len, J_X2_rowFrom]
        exact absurd hw ok_none
      · simp only [e14, va_rf]
        refine mj_run hG.1 (fun pc => pc == 12 || pc == 25 || pc == 34 || pc == 47 || pc == 48 || pc == 81 || pc == 84 || pc == 99) 4000 ?_
        simp only [mj_step, mj_W_s, mj_fin, List.getElem?_cons_zero, List.getElem?_cons_succ, mj_go, Nat.reduceAdd, Nat.reduceSub, Nat.reduceLT, Nat.reduceLeDiff, Nat.zero_add, Nat.reduceEqDiff, Nat.reduceBEq, ↓reduceIte, Bool.false_eq_true, List.append_nil, List.nil_append, List.cons_append, Option.toList, and_true, true_and, true_or, or_true, reduceCtorEq, List.map_nil, bI_eq0, bI_eq1, bool_ft, pk_us, Bool.or_false, Bool.or_true, Bool.false_or, Bool.true_or, mj_kne, eq_self, Int32.reduceLT, Int32.reduceLE, Int32.reduceAdd, Int32.reduceSub, Int32.reduceMul, not_true_eq_false, not_false_eq_true, false_implies, true_implies, D_X2_rowFrom_0, D_X2_rowFrom_1, mj_F_aaload, mj_F_aastore, mj_F_aload_n_k, mj_F_areturn, mj_F_baload, mj_F_bastore, mj_F_bipush_n, mj_F_getfield_i, mj_F_goto_off, mj_F_iadd, mj_F_iconst_n, mj_F_ifCond_eq_off, mj_F_ifCond_ne_off, mj_F_ifnonnull_off, mj_F_iload_k, mj_F_iload_n_k, mj_F_invokestatic_i, mj_F_istore_k, mj_F_istore_n_k, mj_F_newarray_ty, mj_set, mj_set0, mj_unk, mj_c2, mj_kc, FT_X2, L_X2_rowFrom, List.take_succ_cons, List.take_zero, List.drop_succ_cons, List.drop_zero, List.reverse_cons, List.reverse_nil, List.length_cons, List.length_nil, gS_C1, gCf2_3, gS_C5, sS_Cr_5, gCf2_4, gS_C6, sS_Ca_6, gCf2_1, gS_C3, sS_Ca_3, gCf2_0, gS_C2, sS_Ca_2, c_isCell_eq, mj_nn, sS_new, mkCs_len, J_X2_rowFrom]
        refine c_X2_spread_in (ok_imp (ok_bind hw) ?_)
        intro p hw
        simp only [Option.toList, List.nil_append, List.cons_append, Nat.reduceSub]
        refine mj_run hG.1 (fun pc => pc == 12 || pc == 25 || pc == 34 || pc == 47 || pc == 48 || pc == 81 || pc == 84 || pc == 99) 4000 ?_
        simp only [mj_step, mj_W_s, mj_fin, List.getElem?_cons_zero, List.getElem?_cons_succ, mj_go, Nat.reduceAdd, Nat.reduceSub, Nat.reduceLT, Nat.reduceLeDiff, Nat.zero_add, Nat.reduceEqDiff, Nat.reduceBEq, ↓reduceIte, Bool.false_eq_true, List.append_nil, List.nil_append, List.cons_append, Option.toList, and_true, true_and, true_or, or_true, reduceCtorEq, List.map_nil, bI_eq0, bI_eq1, bool_ft, pk_us, Bool.or_false, Bool.or_true, Bool.false_or, Bool.true_or, mj_kne, eq_self, Int32.reduceLT, Int32.reduceLE, Int32.reduceAdd, Int32.reduceSub, Int32.reduceMul, not_true_eq_false, not_false_eq_true, false_implies, true_implies, D_X2_rowFrom_0, D_X2_rowFrom_1, mj_F_aaload, mj_F_aastore, mj_F_aload_n_k, mj_F_areturn, mj_F_baload, mj_F_bastore, mj_F_bipush_n, mj_F_getfield_i, mj_F_goto_off, mj_F_iadd, mj_F_iconst_n, mj_F_ifCond_eq_off, mj_F_ifCond_ne_off, mj_F_ifnonnull_off, mj_F_iload_k, mj_F_iload_n_k, mj_F_invokestatic_i, mj_F_istore_k, mj_F_istore_n_k, mj_F_newarray_ty, mj_set, mj_set0, mj_unk, mj_c2, mj_kc, FT_X2, L_X2_rowFrom, List.take_succ_cons, List.take_zero, List.drop_succ_cons, List.drop_zero, List.reverse_cons, List.reverse_nil, List.length_cons, List.length_nil, gS_C1, gCf2_3, gS_C5, sS_Cr_5, gCf2_4, gS_C6, sS_Ca_6, gCf2_1, gS_C3, sS_Ca_3, gCf2_0, gS_C2, sS_Ca_2, c_isCell_eq, mj_nn, sS_new, mkCs_len, J_X2_rowFrom]
        refine ⟨(ok_wr hw).1, ?_⟩
        replace hw := (ok_wr hw).2
        refine ⟨(ok_rr hw).1, ?_⟩
        rcases (ok_rr hw).2 with ⟨e15, hw⟩ | ⟨_, e15, hw⟩
        · simp only [e15, va_rf]
          refine mj_run hG.1 (fun pc => pc == 12 || pc == 25 || pc == 34 || pc == 47 || pc == 48 || pc == 81 || pc == 84 || pc == 99) 4000 ?_
          simp only [mj_step, mj_W_s, mj_fin, List.getElem?_cons_zero, List.getElem?_cons_succ, mj_go, Nat.reduceAdd, Nat.reduceSub, Nat.reduceLT, Nat.reduceLeDiff, Nat.zero_add, Nat.reduceEqDiff, Nat.reduceBEq, ↓reduceIte, Bool.false_eq_true, List.append_nil, List.nil_append, List.cons_append, Option.toList, and_true, true_and, true_or, or_true, reduceCtorEq, List.map_nil, bI_eq0, bI_eq1, bool_ft, pk_us, Bool.or_false, Bool.or_true, Bool.false_or, Bool.true_or, mj_kne, eq_self, Int32.reduceLT, Int32.reduceLE, Int32.reduceAdd, Int32.reduceSub, Int32.reduceMul, not_true_eq_false, not_false_eq_true, false_implies, true_implies, D_X2_rowFrom_0, D_X2_rowFrom_1, mj_F_aaload, mj_F_aastore, mj_F_aload_n_k, mj_F_areturn, mj_F_baload, mj_F_bastore, mj_F_bipush_n, mj_F_getfield_i, mj_F_goto_off, mj_F_iadd, mj_F_iconst_n, mj_F_ifCond_eq_off, mj_F_ifCond_ne_off, mj_F_ifnonnull_off, mj_F_iload_k, mj_F_iload_n_k, mj_F_invokestatic_i, mj_F_istore_k, mj_F_istore_n_k, mj_F_newarray_ty, mj_set, mj_set0, mj_unk, mj_c2, mj_kc, FT_X2, L_X2_rowFrom, List.take_succ_cons, List.take_zero, List.drop_succ_cons, List.drop_zero, List.reverse_cons, List.reverse_nil, List.length_cons, List.length_nil, gS_C1, gCf2_3, gS_C5, sS_Cr_5, gCf2_4, gS_C6, sS_Ca_6, gCf2_1, gS_C3, sS_Ca_3, gCf2_0, gS_C2, sS_Ca_2, c_isCell_eq, mj_nn, sS_new, mkCs_len, J_X2_rowFrom]
          exact absurd hw ok_none
        · simp only [e15, va_rf]
          refine mj_run hG.1 (fun pc => pc == 12 || pc == 25 || pc == 34 || pc == 47 || pc == 48 || pc == 81 || pc == 84 || pc == 99) 4000 ?_
          simp only [mj_step, mj_W_s, mj_fin, List.getElem?_cons_zero, List.getElem?_cons_succ, mj_go, Nat.reduceAdd, Nat.reduceSub, Nat.reduceLT, Nat.reduceLeDiff, Nat.zero_add, Nat.reduceEqDiff, Nat.reduceBEq, ↓reduceIte, Bool.false_eq_true, List.append_nil, List.nil_append, List.cons_append, Option.toList, and_true, true_and, true_or, or_true, reduceCtorEq, List.map_nil, bI_eq0, bI_eq1, bool_ft, pk_us, Bool.or_false, Bool.or_true, Bool.false_or, Bool.true_or, mj_kne, eq_self, Int32.reduceLT, Int32.reduceLE, Int32.reduceAdd, Int32.reduceSub, Int32.reduceMul, not_true_eq_false, not_false_eq_true, false_implies, true_implies, D_X2_rowFrom_0, D_X2_rowFrom_1, mj_F_aaload, mj_F_aastore, mj_F_aload_n_k, mj_F_areturn, mj_F_baload, mj_F_bastore, mj_F_bipush_n, mj_F_getfield_i, mj_F_goto_off, mj_F_iadd, mj_F_iconst_n, mj_F_ifCond_eq_off, mj_F_ifCond_ne_off, mj_F_ifnonnull_off, mj_F_iload_k, mj_F_iload_n_k, mj_F_invokestatic_i, mj_F_istore_k, mj_F_istore_n_k, mj_F_newarray_ty, mj_set, mj_set0, mj_unk, mj_c2, mj_kc, FT_X2, L_X2_rowFrom, List.take_succ_cons, List.take_zero, List.drop_succ_cons, List.drop_zero, List.reverse_cons, List.reverse_nil, List.length_cons, List.length_nil, gS_C1, gCf2_3, gS_C5, sS_Cr_5, gCf2_4, gS_C6, sS_Ca_6, gCf2_1, gS_C3, sS_Ca_3, gCf2_0, gS_C2, sS_Ca_2, c_isCell_eq, mj_nn, sS_new, mkCs_len, J_X2_rowFrom]
          exact (ok_some hw :)
    · replace hw := ok_f hw c
      refine ⟨(ok_rr hw).1, ?_⟩
      rcases (ok_rr hw).2 with ⟨e16, hw⟩ | ⟨_, e16, hw⟩
      · simp only [e16, va_rf]
        refine mj_run hG.1 (fun pc => pc == 12 || pc == 25 || pc == 34 || pc == 47 || pc == 48 || pc == 81 || pc == 84 || pc == 99) 4000 ?_
        simp only [mj_step, mj_W_s, mj_fin, List.getElem?_cons_zero, List.getElem?_cons_succ, mj_go, Nat.reduceAdd, Nat.reduceSub, Nat.reduceLT, Nat.reduceLeDiff, Nat.zero_add, Nat.reduceEqDiff, Nat.reduceBEq, ↓reduceIte, Bool.false_eq_true, List.append_nil, List.nil_append, List.cons_append, Option.toList, and_true, true_and, true_or, or_true, reduceCtorEq, List.map_nil, bI_eq0, bI_eq1, bool_ft, pk_us, Bool.or_false, Bool.or_true, Bool.false_or, Bool.true_or, mj_kne, eq_self, Int32.reduceLT, Int32.reduceLE, Int32.reduceAdd, Int32.reduceSub, Int32.reduceMul, not_true_eq_false, not_false_eq_true, false_implies, true_implies, D_X2_rowFrom_0, D_X2_rowFrom_1, mj_F_aaload, mj_F_aastore, mj_F_aload_n_k, mj_F_areturn, mj_F_baload, mj_F_bastore, mj_F_bipush_n, mj_F_getfield_i, mj_F_goto_off, mj_F_iadd, mj_F_iconst_n, mj_F_ifCond_eq_off, mj_F_ifCond_ne_off, mj_F_ifnonnull_off, mj_F_iload_k, mj_F_iload_n_k, mj_F_invokestatic_i, mj_F_istore_k, mj_F_istore_n_k, mj_F_newarray_ty, mj_set, mj_set0, mj_unk, mj_c2, mj_kc, FT_X2, L_X2_rowFrom, List.take_succ_cons, List.take_zero, List.drop_succ_cons, List.drop_zero, List.reverse_cons, List.reverse_nil, List.length_cons, List.length_nil, gS_C1, gCf2_3, gS_C5, sS_Cr_5, gCf2_4, gS_C6, sS_Ca_6, gCf2_1, gS_C3, sS_Ca_3, gCf2_0, gS_C2, sS_Ca_2, c_isCell_eq, mj_nn, sS_new, mkCs_len, J_X2_rowFrom]
        exact absurd hw ok_none
      · simp only [e16, va_rf]
        refine mj_run hG.1 (fun pc => pc == 12 || pc == 25 || pc == 34 || pc == 47 || pc == 48 || pc == 81 || pc == 84 || pc == 99) 4000 ?_
        simp only [mj_step, mj_W_s, mj_fin, List.getElem?_cons_zero, List.getElem?_cons_succ, mj_go, Nat.reduceAdd, Nat.reduceSub, Nat.reduceLT, Nat.reduceLeDiff, Nat.zero_add, Nat.reduceEqDiff, Nat.reduceBEq, ↓reduceIte, Bool.false_eq_true, List.append_nil, List.nil_append, List.cons_append, Option.toList, and_true, true_and, true_or, or_true, reduceCtorEq, List.map_nil, bI_eq0, bI_eq1, bool_ft, pk_us, Bool.or_false, Bool.or_true, Bool.false_or, Bool.true_or, mj_kne, eq_self, Int32.reduceLT, Int32.reduceLE, Int32.reduceAdd, Int32.reduceSub, Int32.reduceMul, not_true_eq_false, not_false_eq_true, false_implies, true_implies, D_X2_rowFrom_0, D_X2_rowFrom_1, mj_F_aaload, mj_F_aastore, mj_F_aload_n_k, mj_F_areturn, mj_F_baload, mj_F_bastore, mj_F_bipush_n, mj_F_getfield_i, mj_F_goto_off, mj_F_iadd, mj_F_iconst_n, mj_F_ifCond_eq_off, mj_F_ifCond_ne_off, mj_F_ifnonnull_off, mj_F_iload_k, mj_F_iload_n_k, mj_F_invokestatic_i, mj_F_istore_k, mj_F_istore_n_k, mj_F_newarray_ty, mj_set, mj_set0, mj_unk, mj_c2, mj_kc, FT_X2, L_X2_rowFrom, List.take_succ_cons, List.take_zero, List.drop_succ_cons, List.drop_zero, List.reverse_cons, List.reverse_nil, List.length_cons, List.length_nil, gS_C1, gCf2_3, gS_C5, sS_Cr_5, gCf2_4, gS_C6, sS_Ca_6, gCf2_1, gS_C3, sS_Ca_3, gCf2_0, gS_C2, sS_Ca_2, c_isCell_eq, mj_nn, sS_new, mkCs_len, J_X2_rowFrom]
        refine c_X2_spread_in (ok_imp (ok_bind hw) ?_)
        intro p hw
        simp only [Option.toList, List.nil_append, List.cons_append, Nat.reduceSub]
        refine mj_run hG.1 (fun pc => pc == 12 || pc == 25 || pc == 34 || pc == 47 || pc == 48 || pc == 81 || pc == 84 || pc == 99) 4000 ?_
        simp only [mj_step, mj_W_s, mj_fin, List.getElem?_cons_zero, List.getElem?_cons_succ, mj_go, Nat.reduceAdd, Nat.reduceSub, Nat.reduceLT, Nat.reduceLeDiff, Nat.zero_add, Nat.reduceEqDiff, Nat.reduceBEq, ↓reduceIte, Bool.false_eq_true, List.append_nil, List.nil_append, List.cons_append, Option.toList, and_true, true_and, true_or, or_true, reduceCtorEq, List.map_nil, bI_eq0, bI_eq1, bool_ft, pk_us, Bool.or_false, Bool.or_true, Bool.false_or, Bool.true_or, mj_kne, eq_self, Int32.reduceLT, Int32.reduceLE, Int32.reduceAdd, Int32.reduceSub, Int32.reduceMul, not_true_eq_false, not_false_eq_true, false_implies, true_implies, D_X2_rowFrom_0, D_X2_rowFrom_1, mj_F_aaload, mj_F_aastore, mj_F_aload_n_k, mj_F_areturn, mj_F_baload, mj_F_bastore, mj_F_bipush_n, mj_F_getfield_i, mj_F_goto_off, mj_F_iadd, mj_F_iconst_n, mj_F_ifCond_eq_off, mj_F_ifCond_ne_off, mj_F_ifnonnull_off, mj_F_iload_k, mj_F_iload_n_k, mj_F_invokestatic_i, mj_F_istore_k, mj_F_istore_n_k, mj_F_newarray_ty, mj_set, mj_set0, mj_unk, mj_c2, mj_kc, FT_X2, L_X2_rowFrom, List.take_succ_cons, List.take_zero, List.drop_succ_cons, List.drop_zero, List.reverse_cons, List.reverse_nil, List.length_cons, List.length_nil, gS_C1, gCf2_3, gS_C5, sS_Cr_5, gCf2_4, gS_C6, sS_Ca_6, gCf2_1, gS_C3, sS_Ca_3, gCf2_0, gS_C2, sS_Ca_2, c_isCell_eq, mj_nn, sS_new, mkCs_len, J_X2_rowFrom]
        refine ⟨(ok_wr hw).1, ?_⟩
        replace hw := (ok_wr hw).2
        refine ⟨(ok_rr hw).1, ?_⟩
        rcases (ok_rr hw).2 with ⟨e17, hw⟩ | ⟨_, e17, hw⟩
        · simp only [e17, va_rf]
          refine mj_run hG.1 (fun pc => pc == 12 || pc == 25 || pc == 34 || pc == 47 || pc == 48 || pc == 81 || pc == 84 || pc == 99) 4000 ?_
          simp only [mj_step, mj_W_s, mj_fin, List.getElem?_cons_zero, List.getElem?_cons_succ, mj_go, Nat.reduceAdd, Nat.reduceSub, Nat.reduceLT, Nat.reduceLeDiff, Nat.zero_add, Nat.reduceEqDiff, Nat.reduceBEq, ↓reduceIte, Bool.false_eq_true, List.append_nil, List.nil_append, List.cons_append, Option.toList, and_true, true_and, true_or, or_true, reduceCtorEq, List.map_nil, bI_eq0, bI_eq1, bool_ft, pk_us, Bool.or_false, Bool.or_true, Bool.false_or, Bool.true_or, mj_kne, eq_self, Int32.reduceLT, Int32.reduceLE, Int32.reduceAdd, Int32.reduceSub, Int32.reduceMul, not_true_eq_false, not_false_eq_true, false_implies, true_implies, D_X2_rowFrom_0, D_X2_rowFrom_1, mj_F_aaload, mj_F_aastore, mj_F_aload_n_k, mj_F_areturn, mj_F_baload, mj_F_bastore, mj_F_bipush_n, mj_F_getfield_i, mj_F_goto_off, mj_F_iadd, mj_F_iconst_n, mj_F_ifCond_eq_off, mj_F_ifCond_ne_off, mj_F_ifnonnull_off, mj_F_iload_k, mj_F_iload_n_k, mj_F_invokestatic_i, mj_F_istore_k, mj_F_istore_n_k, mj_F_newarray_ty, mj_set, mj_set0, mj_unk, mj_c2, mj_kc, FT_X2, L_X2_rowFrom, List.take_succ_cons, List.take_zero, List.drop_succ_cons, List.drop_zero, List.reverse_cons, List.reverse_nil, List.length_cons, List.length_nil, gS_C1, gCf2_3, gS_C5, sS_Cr_5, gCf2_4, gS_C6, sS_Ca_6, gCf2_1, gS_C3, sS_Ca_3, gCf2_0, gS_C2, sS_Ca_2, c_isCell_eq, mj_nn, sS_new, mkCs_len, J_X2_rowFrom]
          exact absurd hw ok_none
        · simp only [e17, va_rf]
          refine mj_run hG.1 (fun pc => pc == 12 || pc == 25 || pc == 34 || pc == 47 || pc == 48 || pc == 81 || pc == 84 || pc == 99) 4000 ?_
          simp only [mj_step, mj_W_s, mj_fin, List.getElem?_cons_zero, List.getElem?_cons_succ, mj_go, Nat.reduceAdd, Nat.reduceSub, Nat.reduceLT, Nat.reduceLeDiff, Nat.zero_add, Nat.reduceEqDiff, Nat.reduceBEq, ↓reduceIte, Bool.false_eq_true, List.append_nil, List.nil_append, List.cons_append, Option.toList, and_true, true_and, true_or, or_true, reduceCtorEq, List.map_nil, bI_eq0, bI_eq1, bool_ft, pk_us, Bool.or_false, Bool.or_true, Bool.false_or, Bool.true_or, mj_kne, eq_self, Int32.reduceLT, Int32.reduceLE, Int32.reduceAdd, Int32.reduceSub, Int32.reduceMul, not_true_eq_false, not_false_eq_true, false_implies, true_implies, D_X2_rowFrom_0, D_X2_rowFrom_1, mj_F_aaload, mj_F_aastore, mj_F_aload_n_k, mj_F_areturn, mj_F_baload, mj_F_bastore, mj_F_bipush_n, mj_F_getfield_i, mj_F_goto_off, mj_F_iadd, mj_F_iconst_n, mj_F_ifCond_eq_off, mj_F_ifCond_ne_off, mj_F_ifnonnull_off, mj_F_iload_k, mj_F_iload_n_k, mj_F_invokestatic_i, mj_F_istore_k, mj_F_istore_n_k, mj_F_newarray_ty, mj_set, mj_set0, mj_unk, mj_c2, mj_kc, FT_X2, L_X2_rowFrom, List.take_succ_cons, List.take_zero, List.drop_succ_cons, List.drop_zero, List.reverse_cons, List.reverse_nil, List.length_cons, List.length_nil, gS_C1, gCf2_3, gS_C5, sS_Cr_5, gCf2_4, gS_C6, sS_Ca_6, gCf2_1, gS_C3, sS_Ca_3, gCf2_0, gS_C2, sS_Ca_2, c_isCell_eq, mj_nn, sS_new, mkCs_len, J_X2_rowFrom]
          exact (ok_some hw :)

set_option maxHeartbeats 4000000 in
set_option maxRecDepth 20000 in
theorem g_X2_rowFrom_25 {k : Option Value → mj_H → Prop} {G : mj_K} (hG : mj_cl2 cX2_rowFrom (TbX2 5 ((some (FieldType.array FieldType.int))) ct_X2_rowFrom) k G)   {v2 : Int32} {v3 : Int32} {t0 : Int32} {s : St} (hw : ok (F_X2_rowFrom_25 v2 v3 t0 s) (fun p => k (some (.ref p.1)) (mkCs p.2))) : G 25 [.ref 1, mj_unk, .int v2, .int v3] [.int t0] (mkCs s) 1 120 := by
  unfold F_X2_rowFrom_25 at hw
  refine mj_run hG.1 (fun pc => pc == 12 || pc == 25 || pc == 34 || pc == 47 || pc == 48 || pc == 81 || pc == 84 || pc == 99) 4000 ?_
  simp only [mj_step, mj_W_s, mj_fin, List.getElem?_cons_zero, List.getElem?_cons_succ, mj_go, Nat.reduceAdd, Nat.reduceSub, Nat.reduceLT, Nat.reduceLeDiff, Nat.zero_add, Nat.reduceEqDiff, Nat.reduceBEq, ↓reduceIte, Bool.false_eq_true, List.append_nil, List.nil_append, List.cons_append, Option.toList, and_true, true_and, true_or, or_true, reduceCtorEq, List.map_nil, bI_eq0, bI_eq1, bool_ft, pk_us, Bool.or_false, Bool.or_true, Bool.false_or, Bool.true_or, mj_kne, eq_self, Int32.reduceLT, Int32.reduceLE, Int32.reduceAdd, Int32.reduceSub, Int32.reduceMul, not_true_eq_false, not_false_eq_true, false_implies, true_implies, D_X2_rowFrom_0, D_X2_rowFrom_1, mj_F_aaload, mj_F_aastore, mj_F_aload_n_k, mj_F_areturn, mj_F_baload, mj_F_bastore, mj_F_bipush_n, mj_F_getfield_i, mj_F_goto_off, mj_F_iadd, mj_F_iconst_n, mj_F_ifCond_eq_off, mj_F_ifCond_ne_off, mj_F_ifnonnull_off, mj_F_iload_k, mj_F_iload_n_k, mj_F_invokestatic_i, mj_F_istore_k, mj_F_istore_n_k, mj_F_newarray_ty, mj_set, mj_set0, mj_unk, mj_c2, mj_kc, FT_X2, L_X2_rowFrom, List.take_succ_cons, List.take_zero, List.drop_succ_cons, List.drop_zero, List.reverse_cons, List.reverse_nil, List.length_cons, List.length_nil, gS_C1, gCf2_3, gS_C5, sS_Cr_5, gCf2_4, gS_C6, sS_Ca_6, gCf2_1, gS_C3, sS_Ca_3, gCf2_0, gS_C2, sS_Ca_2, c_isCell_eq, mj_nn, sS_new, mkCs_len, J_X2_rowFrom]
  refine ⟨(ok_rr hw).1, ?_⟩
  rcases (ok_rr hw).2 with ⟨e19, hw⟩ | ⟨_, e19, hw⟩
  · simp only [e19, va_rf]
    refine mj_run hG.1 (fun pc => pc == 12 || pc == 25 || pc == 34 || pc == 47 || pc == 48 || pc == 81 || pc == 84 || pc == 99) 4000 ?_
    simp only [mj_step, mj_W_s, mj_fin, List.getElem?_cons_zero, List.getElem?_cons_succ, mj_go, Nat.reduceAdd, Nat.reduceSub, Nat.reduceLT, Nat.reduceLeDiff, Nat.zero_add, Nat.reduceEqDiff, Nat.reduceBEq, ↓reduceIte, Bool.false_eq_true, List.append_nil, List.nil_append, List.cons_append, Option.toList, and_true, true_and, true_or, or_true, reduceCtorEq, List.map_nil, bI_eq0, bI_eq1, bool_ft, pk_us, Bool.or_false, Bool.or_true, Bool.false_or, Bool.true_or, mj_kne, eq_self, Int32.reduceLT, Int32.reduceLE, Int32.reduceAdd, Int32.reduceSub, Int32.reduceMul, not_true_eq_false, not_false_eq_true, false_implies, true_implies, D_X2_rowFrom_0, D_X2_rowFrom_1, mj_F_aaload, mj_F_aastore, mj_F_aload_n_k, mj_F_areturn, mj_F_baload, mj_F_bastore, mj_F_bipush_n, mj_F_getfield_i, mj_F_goto_off, mj_F_iadd, mj_F_iconst_n, mj_F_ifCond_eq_off, mj_F_ifCond_ne_off, mj_F_ifnonnull_off, mj_F_iload_k, mj_F_iload_n_k, mj_F_invokestatic_i, mj_F_istore_k, mj_F_istore_n_k, mj_F_newarray_ty, mj_set, mj_set0, mj_unk, mj_c2, mj_kc, FT_X2, L_X2_rowFrom, List.take_succ_cons, List.take_zero, List.drop_succ_cons, List.drop_zero, List.reverse_cons, List.reverse_nil, List.length_cons, List.length_nil, gS_C1, gCf2_3, gS_C5, sS_Cr_5, gCf2_4, gS_C6, sS_Ca_6, gCf2_1, gS_C3, sS_Ca_3, gCf2_0, gS_C2, sS_Ca_2, c_isCell_eq, mj_nn, sS_new, mkCs_len, J_X2_rowFrom]
    replace hw := ok_nA hw
    obtain ⟨_, _, e20, z, hw⟩ := ok_wR hw
    refine mj_run hG.1 (fun pc => pc == 12 || pc == 25 || pc == 34 || pc == 47 || pc == 48 || pc == 81 || pc == 84 || pc == 99) 4000 ?_
    simp only [e20, mj_step, mj_W_s, mj_fin, List.getElem?_cons_zero, List.getElem?_cons_succ, mj_go, Nat.reduceAdd, Nat.reduceSub, Nat.reduceLT, Nat.reduceLeDiff, Nat.zero_add, Nat.reduceEqDiff, Nat.reduceBEq, ↓reduceIte, Bool.false_eq_true, List.append_nil, List.nil_append, List.cons_append, Option.toList, and_true, true_and, true_or, or_true, reduceCtorEq, List.map_nil, bI_eq0, bI_eq1, bool_ft, pk_us, Bool.or_false, Bool.or_true, Bool.false_or, Bool.true_or, mj_kne, eq_self, Int32.reduceLT, Int32.reduceLE, Int32.reduceAdd, Int32.reduceSub, Int32.reduceMul, not_true_eq_false, not_false_eq_true, false_implies, true_implies, D_X2_rowFrom_0, D_X2_rowFrom_1, mj_F_aaload, mj_F_aastore, mj_F_aload_n_k, mj_F_areturn, mj_F_baload, mj_F_bastore, mj_F_bipush_n, mj_F_getfield_i, mj_F_goto_off, mj_F_iadd, mj_F_iconst_n, mj_F_ifCond_eq_off, mj_F_ifCond_ne_off, mj_F_ifnonnull_off, mj_F_iload_k, mj_F_iload_n_k, mj_F_invokestatic_i, mj_F_istore_k, mj_F_istore_n_k, mj_F_newarray_ty, mj_set, mj_set0, mj_unk, mj_c2, mj_kc, FT_X2, L_X2_rowFrom, List.take_succ_cons, List.take_zero, List.drop_succ_cons, List.drop_zero, List.reverse_cons, List.reverse_nil, List.length_cons, List.length_nil, gS_C1, gCf2_3, gS_C5, sS_Cr_5, gCf2_4, gS_C6, sS_Ca_6, gCf2_1, gS_C3, sS_Ca_3, gCf2_0, gS_C2, sS_Ca_2, c_isCell_eq, mj_nn, sS_new, mkCs_len, J_X2_rowFrom]
    refine ⟨z, ?_⟩
    exact hG.2 _ _ _ _ _ _ _ _ _ (by refine ⟨Or.inr rfl, ?_⟩; refine ⟨Or.inl rfl, ?_⟩; refine ⟨Or.inr rfl, ?_⟩; refine ⟨Or.inr rfl, ?_⟩; refine ⟨Or.inr rfl, ?_⟩; exact trivial) (by omega) (by omega) (g_X2_rowFrom_48 hG  hw :)
  · simp only [e19, va_rf]
    refine mj_run hG.1 (fun pc => pc == 12 || pc == 25 || pc == 34 || pc == 47 || pc == 48 || pc == 81 || pc == 84 || pc == 99) 4000 ?_
    simp only [mj_step, mj_W_s, mj_fin, List.getElem?_cons_zero, List.getElem?_cons_succ, mj_go, Nat.reduceAdd, Nat.reduceSub, Nat.reduceLT, Nat.reduceLeDiff, Nat.zero_add, Nat.reduceEqDiff, Nat.reduceBEq, ↓reduceIte, Bool.false_eq_true, List.append_nil, List.nil_append, List.cons_append, Option.toList, and_true, true_and, true_or, or_true, reduceCtorEq, List.map_nil, bI_eq0, bI_eq1, bool_ft, pk_us, Bool.or_false, Bool.or_true, Bool.false_or, Bool.true_or, mj_kne, eq_self, Int32.reduceLT, Int32.reduceLE, Int32.reduceAdd, Int32.reduceSub, Int32.reduceMul, not_true_eq_false, not_false_eq_true, false_implies, true_implies, D_X2_rowFrom_0, D_X2_rowFrom_1, mj_F_aaload, mj_F_aastore, mj_F_aload_n_k, mj_F_areturn, mj_F_baload, mj_F_bastore, mj_F_bipush_n, mj_F_getfield_i, mj_F_goto_off, mj_F_iadd, mj_F_iconst_n, mj_F_ifCond_eq_off, mj_F_ifCond_ne_off, mj_F_ifnonnull_off, mj_F_iload_k, mj_F_iload_n_k, mj_F_invokestatic_i, mj_F_istore_k, mj_F_istore_n_k, mj_F_newarray_ty, mj_set, mj_set0, mj_unk, mj_c2, mj_kc, FT_X2, L_X2_rowFrom, List.take_succ_cons, List.take_zero, List.drop_succ_cons, List.drop_zero, List.reverse_cons, List.reverse_nil, List.length_cons, List.length_nil, gS_C1, gCf2_3, gS_C5, sS_Cr_5, gCf2_4, gS_C6, sS_Ca_6, gCf2_1, gS_C3, sS_Ca_3, gCf2_0, gS_C2, sS_Ca_2, c_isCell_eq, mj_nn, sS_new, mkCs_len, J_X2_rowFrom]
    exact hG.2 _ _ _ _ _ _ _ _ _ (by refine ⟨Or.inr rfl, ?_⟩; refine ⟨Or.inl rfl, ?_⟩; refine ⟨Or.inr rfl, ?_⟩; refine ⟨Or.inr rfl, ?_⟩; refine ⟨Or.inr rfl, ?_⟩; exact trivial) (by omega) (by omega) (g_X2_rowFrom_48 hG  hw :)

set_option maxHeartbeats 4000000 in
set_option maxRecDepth 20000 in
theorem g_X2_rowFrom_12 {k : Option Value → mj_H → Prop} {G : mj_K} (hG : mj_cl2 cX2_rowFrom (TbX2 5 ((some (FieldType.array FieldType.int))) ct_X2_rowFrom) k G)   {v2 : Int32} {t0 : Int32} {s : St} (hw : ok (F_X2_rowFrom_12 v2 t0 s) (fun p => k (some (.ref p.1)) (mkCs p.2))) : G 12 [.ref 1, mj_unk, .int v2] [.int t0] (mkCs s) 1 120 := by
  unfold F_X2_rowFrom_12 at hw
  refine mj_run hG.1 (fun pc => pc == 12 || pc == 25 || pc == 34 || pc == 47 || pc == 48 || pc == 81 || pc == 84 || pc == 99) 4000 ?_
  simp only [mj_step, mj_W_s, mj_fin, List.getElem?_cons_zero, List.getElem?_cons_succ, mj_go, Nat.reduceAdd, Nat.reduceSub, Nat.reduceLT, Nat.reduceLeDiff, Nat.zero_add, Nat.reduceEqDiff, Nat.reduceBEq, ↓reduceIte, Bool.false_eq_true, List.append_nil, List.nil_append, List.cons_append, Option.toList, and_true, true_and, true_or, or_true, reduceCtorEq, List.map_nil, bI_eq0, bI_eq1, bool_ft, pk_us, Bool.or_false, Bool.or_true, Bool.false_or, Bool.true_or, mj_kne, eq_self, Int32.reduceLT, Int32.reduceLE, Int32.reduceAdd, Int32.reduceSub, Int32.reduceMul, not_true_eq_false, not_false_eq_true, false_implies, true_implies, D_X2_rowFrom_0, D_X2_rowFrom_1, mj_F_aaload, mj_F_aastore, mj_F_aload_n_k, mj_F_areturn, mj_F_baload, mj_F_bastore, mj_F_bipush_n, mj_F_getfield_i, mj_F_goto_off, mj_F_iadd, mj_F_iconst_n, mj_F_ifCond_eq_off, mj_F_ifCond_ne_off, mj_F_ifnonnull_off, mj_F_iload_k, mj_F_iload_n_k, mj_F_invokestatic_i, mj_F_istore_k, mj_F_istore_n_k, mj_F_newarray_ty, mj_set, mj_set0, mj_unk, mj_c2, mj_kc, FT_X2, L_X2_rowFrom, List.take_succ_cons, List.take_zero, List.drop_succ_cons, List.drop_zero, List.reverse_cons, List.reverse_nil, List.length_cons, List.length_nil, gS_C1, gCf2_3, gS_C5, sS_Cr_5, gCf2_4, gS_C6, sS_Ca_6, gCf2_1, gS_C3, sS_Ca_3, gCf2_0, gS_C2, sS_Ca_2, c_isCell_eq, mj_nn, sS_new, mkCs_len, J_X2_rowFrom]
  refine ⟨fun c => ?_, fun c => ?_⟩
  · replace hw := ok_t hw c
    exact hG.2 _ _ _ _ _ _ _ _ _ (by refine ⟨Or.inr rfl, ?_⟩; refine ⟨Or.inl rfl, ?_⟩; refine ⟨Or.inr rfl, ?_⟩; refine ⟨Or.inr rfl, ?_⟩; exact trivial) (by omega) (by omega) (g_X2_rowFrom_25 hG  hw :)
  · replace hw := ok_f hw c
    exact hG.2 _ _ _ _ _ _ _ _ _ (by refine ⟨Or.inr rfl, ?_⟩; refine ⟨Or.inl rfl, ?_⟩; refine ⟨Or.inr rfl, ?_⟩; refine ⟨Or.inr rfl, ?_⟩; exact trivial) (by omega) (by omega) (g_X2_rowFrom_25 hG  hw :)

set_option maxHeartbeats 4000000 in
set_option maxRecDepth 20000 in
theorem g_X2_rowFrom {k : Option Value → mj_H → Prop} {G : mj_K} (hG : mj_cl2 cX2_rowFrom (TbX2 5 ((some (FieldType.array FieldType.int))) ct_X2_rowFrom) k G) {v1 : Int32} {v2 : Int32} {s : St} (hw : ok (F_X2_rowFrom v1 v2 s) (fun p => k (some (.ref p.1)) (mkCs p.2))) : G 0 [.ref 1, .int v1, .int v2] [] (mkCs s) 1 120 := by
  unfold F_X2_rowFrom at hw
  refine mj_run hG.1 (fun pc => pc == 12 || pc == 25 || pc == 34 || pc == 47 || pc == 48 || pc == 81 || pc == 84 || pc == 99) 4000 ?_
  simp only [mj_step, mj_W_s, mj_fin, List.getElem?_cons_zero, List.getElem?_cons_succ, mj_go, Nat.reduceAdd, Nat.reduceSub, Nat.reduceLT, Nat.reduceLeDiff, Nat.zero_add, Nat.reduceEqDiff, Nat.reduceBEq, ↓reduceIte, Bool.false_eq_true, List.append_nil, List.nil_append, List.cons_append, Option.toList, and_true, true_and, true_or, or_true, reduceCtorEq, List.map_nil, bI_eq0, bI_eq1, bool_ft, pk_us, Bool.or_false, Bool.or_true, Bool.false_or, Bool.true_or, mj_kne, eq_self, Int32.reduceLT, Int32.reduceLE, Int32.reduceAdd, Int32.reduceSub, Int32.reduceMul, not_true_eq_false, not_false_eq_true, false_implies, true_implies, D_X2_rowFrom_0, D_X2_rowFrom_1, mj_F_aaload, mj_F_aastore, mj_F_aload_n_k, mj_F_areturn, mj_F_baload, mj_F_bastore, mj_F_bipush_n, mj_F_getfield_i, mj_F_goto_off, mj_F_iadd, mj_F_iconst_n, mj_F_ifCond_eq_off, mj_F_ifCond_ne_off, mj_F_ifnonnull_off, mj_F_iload_k, mj_F_iload_n_k, mj_F_invokestatic_i, mj_F_istore_k, mj_F_istore_n_k, mj_F_newarray_ty, mj_set, mj_set0, mj_unk, mj_c2, mj_kc, FT_X2, L_X2_rowFrom, List.take_succ_cons, List.take_zero, List.drop_succ_cons, List.drop_zero, List.reverse_cons, List.reverse_nil, List.length_cons, List.length_nil, gS_C1, gCf2_3, gS_C5, sS_Cr_5, gCf2_4, gS_C6, sS_Ca_6, gCf2_1, gS_C3, sS_Ca_3, gCf2_0, gS_C2, sS_Ca_2, c_isCell_eq, mj_nn, sS_new, mkCs_len, J_X2_rowFrom]
  refine ⟨fun c => ?_, fun c => ?_⟩
  · replace hw := ok_t hw c
    exact hG.2 _ _ _ _ _ _ _ _ _ (by refine ⟨Or.inr rfl, ?_⟩; refine ⟨Or.inl rfl, ?_⟩; refine ⟨Or.inr rfl, ?_⟩; exact trivial) (by omega) (by omega) (g_X2_rowFrom_12 hG  hw :)
  · replace hw := ok_f hw c
    exact hG.2 _ _ _ _ _ _ _ _ _ (by refine ⟨Or.inr rfl, ?_⟩; refine ⟨Or.inl rfl, ?_⟩; refine ⟨Or.inr rfl, ?_⟩; exact trivial) (by omega) (by omega) (g_X2_rowFrom_12 hG  hw :)

def c_X2_rowFrom : mj_S := fun as h k => ∃ (v1 : Int32) (v2 : Int32) (s : St), as = [.ref 1, .int v1, .int v2] ∧ h = mkCs s ∧ ok (F_X2_rowFrom v1 v2 s) (fun p => k (some (.ref p.1)) (mkCs p.2))
theorem c_X2_rowFrom_in {v1 : Int32} {v2 : Int32} {s : St} {k : Option Value → mj_H → Prop} (hw : ok (F_X2_rowFrom v1 v2 s) (fun p => k (some (.ref p.1)) (mkCs p.2))) : c_X2_rowFrom [.ref 1, .int v1, .int v2] (mkCs s) k := ⟨v1, v2, s, rfl, rfl, hw⟩
theorem m_X2_rowFrom (l : Launch) : mj_Met l yX2_rowFrom cX2_rowFrom 5 ((some (FieldType.array FieldType.int))) 3 1 120 c_X2_rowFrom := by
  refine mj_body2 false (TbX2 5 ((some (FieldType.array FieldType.int))) ct_X2_rowFrom) (by decide) rfl rfl (fun h => nomatch h) (tfX2 _ (List.forall_mem_cons.mpr ⟨cfX2_46 (m_X11_isCell l) (by decide), List.forall_mem_cons.mpr ⟨cfX2_50 (m_X2_spread l) (by decide), fun _ h => nomatch h⟩⟩)) ?_
  rintro as h k ⟨v1, v2, s, rfl, rfl, hw⟩
  exact ⟨rfl, fun G hG => g_X2_rowFrom hG hw⟩
def F_X11_walk (v1 : Int32) (v2 : Int32) (v3 : Int32) (s : St) : Option (Int32 × St) :=
  if inb v1 0 119 = false then
    some ((-1), s)
  else
    if inb v2 0 119 = false then
      some ((-1), s)
    else
      if inb v3 0 1 = false then
        some ((-1), s)
      else
        if v3 = 1 then
          (F_X2_rowFrom v1 1 s).bind fun r3 =>
          (ra r3.2 r3.1 v2).bind fun x4 =>
          if 100000000 ≤ x4 then
            some ((-1), r3.2)
          else
            some (x4, r3.2)
        else
          (F_X2_rowFrom v1 0 s).bind fun r1 =>
          (ra r1.2 r1.1 v2).bind fun x2 =>
          if 100000000 ≤ x2 then
            some ((-1), r1.2)
          else
            some (x2, r1.2)
theorem J_X11_walk : mj_t 4 19 = 23 ∧ mj_t 11 12 = 23 ∧ mj_t 20 5 = 25 ∧ mj_t 32 7 = 39 ∧ mj_t 36 4 = 40 ∧ mj_t 51 8 = 59 ∧ mj_t 56 4 = 60 ∧ (0 ≤ ((4 : Nat) : Int) + 19) = True ∧ (0 ≤ ((11 : Nat) : Int) + 12) = True ∧ (0 ≤ ((20 : Nat) : Int) + 5) = True ∧ (0 ≤ ((32 : Nat) : Int) + 7) = True ∧ (0 ≤ ((36 : Nat) : Int) + 4) = True ∧ (0 ≤ ((51 : Nat) : Int) + 8) = True ∧ (0 ≤ ((56 : Nat) : Int) + 4) = True := by and_intros <;> first | rfl | exact eq_true (by decide)
def ct_X11_walk : List (Nat × mj_Cs) := [(96, 2, 3, 11, 0, 0, c_in), (118, 2, 1, 11, 0, 0, c_isCell), (122, 0, 3, 2, 1, 120, c_X2_rowFrom)]
theorem L_X11_walk : mj_lk ct_X11_walk 96 = some (2, 3, 11, 0, 0, c_in) ∧ mj_lk ct_X11_walk 118 = some (2, 1, 11, 0, 0, c_isCell) ∧ mj_lk ct_X11_walk 122 = some (0, 3, 2, 1, 120, c_X2_rowFrom) := ⟨rfl, rfl, rfl⟩
set_option maxHeartbeats 4000000 in
set_option maxRecDepth 20000 in
theorem g_X11_walk {k : Option Value → mj_H → Prop} {G : mj_K} (hG : mj_cl2 cX11_walk (TbX11 5 ((some FieldType.int)) ct_X11_walk) k G) {v1 : Int32} {v2 : Int32} {v3 : Int32} {s : St} (hw : ok (F_X11_walk v1 v2 v3 s) (fun p => k (some (.int p.1)) (mkCs p.2))) : G 0 [.ref 0, .int v1, .int v2, .int v3] [] (mkCs s) 1 120 := by
  unfold F_X11_walk at hw
  refine mj_run hG.1 (fun pc => pc == 43 || pc == 44) 4000 ?_
  simp only [mj_step, mj_W_s, mj_fin, List.getElem?_cons_zero, List.getElem?_cons_succ, mj_go, Nat.reduceAdd, Nat.reduceSub, Nat.reduceLT, Nat.reduceLeDiff, Nat.zero_add, Nat.reduceEqDiff, Nat.reduceBEq, ↓reduceIte, Bool.false_eq_true, List.append_nil, List.nil_append, List.cons_append, Option.toList, and_true, true_and, true_or, or_true, reduceCtorEq, List.map_nil, bI_eq0, bI_eq1, bool_ft, pk_us, Bool.or_false, Bool.or_true, Bool.false_or, Bool.true_or, mj_kne, eq_self, Int32.reduceLT, Int32.reduceLE, Int32.reduceAdd, Int32.reduceSub, Int32.reduceMul, not_true_eq_false, not_false_eq_true, false_implies, true_implies, D_X11_walk, mj_F_aload_n_k, mj_F_getfield_i, mj_F_goto_off, mj_F_iaload, mj_F_iconst_n, mj_F_ifCond_eq_off, mj_F_ifCond_ne_off, mj_F_if_icmp_ge_off, mj_F_if_icmp_ne_off, mj_F_iload_k, mj_F_iload_n_k, mj_F_invokestatic_i, mj_F_invokevirtual_i, mj_F_ireturn, mj_F_istore_k, mj_F_ldc_i, mj_set, mj_set0, mj_unk, mj_c2, mj_kc, FT_X11, KT_X11, L_X11_walk, List.take_succ_cons, List.take_zero, List.drop_succ_cons, List.drop_zero, List.reverse_cons, List.reverse_nil, List.length_cons, List.length_nil, gS_C0, gCf11_1, c_isCell_eq, c_in_eq, gS_C1, J_X11_walk]
  refine ⟨fun c => ?_, fun c => ?_⟩
  · replace hw := ok_t hw c
    exact (ok_some hw :)
  · replace hw := ok_f hw c
    refine ⟨fun c => ?_, fun c => ?_⟩
    · replace hw := ok_t hw c
      exact (ok_some hw :)
    · replace hw := ok_f hw c
      refine ⟨fun c => ?_, fun c => ?_⟩
      · replace hw := ok_f hw c
        refine ⟨fun c => ?_, fun c => ?_⟩
        · replace hw := ok_f hw c
          refine c_X2_rowFrom_in (ok_imp (ok_bind hw) ?_)
          intro p hw
          simp only [Option.toList, List.nil_append, List.cons_append, Nat.reduceSub]
          refine mj_run hG.1 (fun pc => pc == 43 || pc == 44) 4000 ?_
          simp only [mj_step, mj_W_s, mj_fin, List.getElem?_cons_zero, List.getElem?_cons_succ, mj_go, Nat.reduceAdd, Nat.reduceSub, Nat.reduceLT, Nat.reduceLeDiff, Nat.zero_add, Nat.reduceEqDiff, Nat.reduceBEq, ↓reduceIte, Bool.false_eq_true, List.append_nil, List.nil_append, List.cons_append, Option.toList, and_true, true_and, true_or, or_true, reduceCtorEq, List.map_nil, bI_eq0, bI_eq1, bool_ft, pk_us, Bool.or_false, Bool.or_true, Bool.false_or, Bool.true_or, mj_kne, eq_self, Int32.reduceLT, Int32.reduceLE, Int32.reduceAdd, Int32.reduceSub, Int32.reduceMul, not_true_eq_false, not_false_eq_true, false_implies, true_implies, D_X11_walk, mj_F_aload_n_k, mj_F_getfield_i, mj_F_goto_off, mj_F_iaload, mj_F_iconst_n, mj_F_ifCond_eq_off, mj_F_ifCond_ne_off, mj_F_if_icmp_ge_off, mj_F_if_icmp_ne_off, mj_F_iload_k, mj_F_iload_n_k, mj_F_invokestatic_i, mj_F_invokevirtual_i, mj_F_ireturn, mj_F_istore_k, mj_F_ldc_i, mj_set, mj_set0, mj_unk, mj_c2, mj_kc, FT_X11, KT_X11, L_X11_walk, List.take_succ_cons, List.take_zero, List.drop_succ_cons, List.drop_zero, List.reverse_cons, List.reverse_nil, List.length_cons, List.length_nil, gS_C0, gCf11_1, c_isCell_eq, c_in_eq, gS_C1, J_X11_walk]
          obtain ⟨_, _, e6, z, hw⟩ := ok_ra hw
          refine mj_run hG.1 (fun pc => pc == 43 || pc == 44) 4000 ?_
          simp only [e6, mj_step, mj_W_s, mj_fin, List.getElem?_cons_zero, List.getElem?_cons_succ, mj_go, Nat.reduceAdd, Nat.reduceSub, Nat.reduceLT, Nat.reduceLeDiff, Nat.zero_add, Nat.reduceEqDiff, Nat.reduceBEq, ↓reduceIte, Bool.false_eq_true, List.append_nil, List.nil_append, List.cons_append, Option.toList, and_true, true_and, true_or, or_true, reduceCtorEq, List.map_nil, bI_eq0, bI_eq1, bool_ft, pk_us, Bool.or_false, Bool.or_true, Bool.false_or, Bool.true_or, mj_kne, eq_self, Int32.reduceLT, Int32.reduceLE, Int32.reduceAdd, Int32.reduceSub, Int32.reduceMul, not_true_eq_false, not_false_eq_true, false_implies, true_implies, D_X11_walk, mj_F_aload_n_k, mj_F_getfield_i, mj_F_goto_off, mj_F_iaload, mj_F_iconst_n, mj_F_ifCond_eq_off, mj_F_ifCond_ne_off, mj_F_if_icmp_ge_off, mj_F_if_icmp_ne_off, mj_F_iload_k, mj_F_iload_n_k, mj_F_invokestatic_i, mj_F_invokevirtual_i, mj_F_ireturn, mj_F_istore_k, mj_F_ldc_i, mj_set, mj_set0, mj_unk, mj_c2, mj_kc, FT_X11, KT_X11, L_X11_walk, List.take_succ_cons, List.take_zero, List.drop_succ_cons, List.drop_zero, List.reverse_cons, List.reverse_nil, List.length_cons, List.length_nil, gS_C0, gCf11_1, c_isCell_eq, c_in_eq, gS_C1, J_X11_walk]
          refine ⟨z, ?_⟩
          refine ⟨fun c => ?_, fun c => ?_⟩
          · replace hw := ok_t hw c
            exact (ok_some hw :)
          · replace hw := ok_f hw c
            exact (ok_some hw :)
        · replace hw := ok_t hw c
          refine c_X2_rowFrom_in (ok_imp (ok_bind hw) ?_)
          intro p hw
          simp only [Option.toList, List.nil_append, List.cons_append, Nat.reduceSub]
          refine mj_run hG.1 (fun pc => pc == 43 || pc == 44) 4000 ?_
          simp only [mj_step, mj_W_s, mj_fin, List.getElem?_cons_zero, List.getElem?_cons_succ, mj_go, Nat.reduceAdd, Nat.reduceSub, Nat.reduceLT, Nat.reduceLeDiff, Nat.zero_add, Nat.reduceEqDiff, Nat.reduceBEq, ↓reduceIte, Bool.false_eq_true, List.append_nil, List.nil_append, List.cons_append, Option.toList, and_true, true_and, true_or, or_true, reduceCtorEq, List.map_nil, bI_eq0, bI_eq1, bool_ft, pk_us, Bool.or_false, Bool.or_true, Bool.false_or, Bool.true_or, mj_kne, eq_self, Int32.reduceLT, Int32.reduceLE, Int32.reduceAdd, Int32.reduceSub, Int32.reduceMul, not_true_eq_false, not_false_eq_true, false_implies, true_implies, D_X11_walk, mj_F_aload_n_k, mj_F_getfield_i, mj_F_goto_off, mj_F_iaload, mj_F_iconst_n, mj_F_ifCond_eq_off, mj_F_ifCond_ne_off, mj_F_if_icmp_ge_off, mj_F_if_icmp_ne_off, mj_F_iload_k, mj_F_iload_n_k, mj_F_invokestatic_i, mj_F_invokevirtual_i, mj_F_ireturn, mj_F_istore_k, mj_F_ldc_i, mj_set, mj_set0, mj_unk, mj_c2, mj_kc, FT_X11, KT_X11, L_X11_walk, List.take_succ_cons, List.take_zero, List.drop_succ_cons, List.drop_zero, List.reverse_cons, List.reverse_nil, List.length_cons, List.length_nil, gS_C0, gCf11_1, c_isCell_eq, c_in_eq, gS_C1, J_X11_walk]
          obtain ⟨_, _, e5, z, hw⟩ := ok_ra hw
          refine mj_run hG.1 (fun pc => pc == 43 || pc == 44) 4000 ?_
          simp only [e5, mj_step, mj_W_s, mj_fin, List.getElem?_cons_zero, List.getElem?_cons_succ, mj_go, Nat.reduceAdd, Nat.reduceSub, Nat.reduceLT, Nat.reduceLeDiff, Nat.zero_add, Nat.reduceEqDiff, Nat.reduceBEq, ↓reduceIte, Bool.false_eq_true, List.append_nil, List.nil_append, List.cons_append, Option.toList, and_true, true_and, true_or, or_true, reduceCtorEq, List.map_nil, bI_eq0, bI_eq1, bool_ft, pk_us, Bool.or_false, Bool.or_true, Bool.false_or, Bool.true_or, mj_kne, eq_self, Int32.reduceLT, Int32.reduceLE, Int32.reduceAdd, Int32.reduceSub, Int32.reduceMul, not_true_eq_false, not_false_eq_true, false_implies, true_implies, D_X11_walk, mj_F_aload_n_k, mj_F_getfield_i, mj_F_goto_off, mj_F_iaload, mj_F_iconst_n, mj_F_ifCond_eq_off, mj_F_ifCond_ne_off, mj_F_if_icmp_ge_off, mj_F_if_icmp_ne_off, mj_F_iload_k, mj_F_iload_n_k, mj_F_invokestatic_i, mj_F_invokevirtual_i, mj_F_ireturn, mj_F_istore_k, mj_F_ldc_i, mj_set, mj_set0, mj_unk, mj_c2, mj_kc, FT_X11, KT_X11, L_X11_walk, List.take_succ_cons, List.take_zero, List.drop_succ_cons, List.drop_zero, List.reverse_cons, List.reverse_nil, List.length_cons, List.length_nil, gS_C0, gCf11_1, c_isCell_eq, c_in_eq, gS_C1, J_X11_walk]
          refine ⟨z, ?_⟩
          refine ⟨fun c => ?_, fun c => ?_⟩
          · replace hw := ok_t hw c
            exact (ok_some hw :)
          · replace hw := ok_f hw c
            exact (ok_some hw :)
      · replace hw := ok_t hw c
        exact (ok_some hw :)

def c_X11_walk : mj_S := fun as h k => ∃ (v1 : Int32) (v2 : Int32) (v3 : Int32) (s : St), as = [.ref 0, .int v1, .int v2, .int v3] ∧ h = mkCs s ∧ ok (F_X11_walk v1 v2 v3 s) (fun p => k (some (.int p.1)) (mkCs p.2))
theorem c_X11_walk_in {v1 : Int32} {v2 : Int32} {v3 : Int32} {s : St} {k : Option Value → mj_H → Prop} (hw : ok (F_X11_walk v1 v2 v3 s) (fun p => k (some (.int p.1)) (mkCs p.2))) : c_X11_walk [.ref 0, .int v1, .int v2, .int v3] (mkCs s) k := ⟨v1, v2, v3, s, rfl, rfl, hw⟩
theorem m_X11_walk (l : Launch) : mj_Met l yX11_walk cX11_walk 5 ((some FieldType.int)) 4 1 120 c_X11_walk := by
  refine mj_body2 false (TbX11 5 ((some FieldType.int)) ct_X11_walk) (by decide) rfl rfl (fun h => nomatch h) (tfX11 _ (List.forall_mem_cons.mpr ⟨cfX11_96 (m_X11_within l) (by decide), List.forall_mem_cons.mpr ⟨cfX11_118 (m_X11_isCell l) (by decide), List.forall_mem_cons.mpr ⟨cfX11_122 (m_X2_rowFrom l) (by decide), fun _ h => nomatch h⟩⟩⟩)) ?_
  rintro as h k ⟨v1, v2, v3, s, rfl, rfl, hw⟩
  exact ⟨rfl, fun G hG => g_X11_walk hG hw⟩
def B_X2_soak_3 (v2 : Int32) (v3 : Int32) : Int32 × St → Option ((Int32 × St) ⊕ ((St)))
  | (v4, s) =>
  if v2 < v4 then
    some (.inr s)
  else
    if 601 ≤ v4 then
      some (.inr s)
    else
      (wr s 202 601 v4 (vp_nar .boolean v3)).bind fun s1 =>
      some (.inl ((v4 + 1), s1))
def F_X2_soak_33 (s : St) : Option (St) :=
  some s
def F_X2_soak_3 (v2 : Int32) (v3 : Int32) (v4 : Int32) (s : St) : Option (St) :=
  (lp (B_X2_soak_3 v2 v3) FU (v4, s)).bind (fun y => F_X2_soak_33 y)
def F_X2_soak (v1 : Int32) (v2 : Int32) (v3 : Int32) (s : St) : Option (St) :=
  F_X2_soak_3 v2 v3 v1 s
theorem J_X2_soak : mj_t 6 27 = 33 ∧ mj_t 16 17 = 33 ∧ mj_t 30 (-27) = 3 ∧ (0 ≤ ((6 : Nat) : Int) + 27) = True ∧ (0 ≤ ((16 : Nat) : Int) + 17) = True ∧ (0 ≤ ((30 : Nat) : Int) + (-27)) = True := by and_intros <;> first | rfl | exact eq_true (by decide)
set_option maxHeartbeats 4000000 in
set_option maxRecDepth 20000 in
theorem b_X2_soak_3 {k : Option Value → mj_H → Prop} {G : mj_K} (hG : mj_cl2 cX2_soak (TbX2 5 (none) []) k G) {v2 : Int32} {v3 : Int32} {P : Int32 × St → Prop} {K : (St) → Prop} (hP : ∀ x, P x → G 3 [.ref 1, mj_unk, .int v2, .int v3, .int x.1] [] (mkCs x.2) 0 0) (hK0 : ∀ y, K y → G 33 [] [] (mkCs y) 0 0) {v4 : Int32} {s : St} (hw : ok (B_X2_soak_3 v2 v3 (v4, s)) (Sum.elim P K)) : G 3 [.ref 1, mj_unk, .int v2, .int v3, .int v4] [] (mkCs s) 0 0 := by
  unfold B_X2_soak_3 at hw
  refine mj_run hG.1 (fun pc => pc == 3 || pc == 33) 4000 ?_
  simp only [mj_step, mj_W_s, mj_fin, List.getElem?_cons_zero, List.getElem?_cons_succ, mj_go, Nat.reduceAdd, Nat.reduceSub, Nat.reduceLT, Nat.reduceLeDiff, Nat.zero_add, Nat.reduceEqDiff, Nat.reduceBEq, ↓reduceIte, Bool.false_eq_true, List.append_nil, List.nil_append, List.cons_append, Option.toList, and_true, true_and, true_or, or_true, reduceCtorEq, List.map_nil, bI_eq0, bI_eq1, bool_ft, pk_us, Bool.or_false, Bool.or_true, Bool.false_or, Bool.true_or, mj_kne, eq_self, Int32.reduceLT, Int32.reduceLE, Int32.reduceAdd, Int32.reduceSub, Int32.reduceMul, not_true_eq_false, not_false_eq_true, false_implies, true_implies, D_X2_soak, mj_F_aload_n_k, mj_F_arraylength, mj_F_bastore, mj_F_getfield_i, mj_F_goto_off, mj_F_if_icmp_ge_off, mj_F_if_icmp_gt_off, mj_F_iinc_k_n, mj_F_iload_k, mj_F_iload_n_k, mj_F_istore_k, mj_F_return_, mj_set, mj_set0, mj_unk, mj_c2, mj_kc, FT_X2, gS_C1, gCf2_2, gS_C4, sS_Ca_4, mj_nk, mj_isA, J_X2_soak]
  refine ⟨fun c => ?_, fun c => ?_⟩
  · replace hw := ok_t hw c
    exact hG.2 _ _ _ _ _ _ _ _ _ (by exact trivial) (Nat.zero_le _) (Nat.zero_le _) (hK0 _ (ok_some hw :) :)
  · replace hw := ok_f hw c
    refine ⟨fun c => ?_, fun c => ?_⟩
    · replace hw := ok_t hw c
      exact hG.2 _ _ _ _ _ _ _ _ _ (by exact trivial) (Nat.zero_le _) (Nat.zero_le _) (hK0 _ (ok_some hw :) :)
    · replace hw := ok_f hw c
      refine ⟨(ok_wr hw).1, ?_⟩
      replace hw := (ok_wr hw).2
      exact hG.2 _ _ _ _ _ _ _ _ _ (by refine ⟨Or.inr rfl, ?_⟩; refine ⟨Or.inl rfl, ?_⟩; refine ⟨Or.inr rfl, ?_⟩; refine ⟨Or.inr rfl, ?_⟩; refine ⟨Or.inr rfl, ?_⟩; exact trivial) (Nat.zero_le _) (Nat.zero_le _) (hP _ (ok_some hw :) :)

set_option maxHeartbeats 4000000 in
set_option maxRecDepth 20000 in
theorem g_X2_soak_33 {k : Option Value → mj_H → Prop} {G : mj_K} (hG : mj_cl2 cX2_soak (TbX2 5 (none) []) k G)   {s : St} (hw : ok (F_X2_soak_33 s) (fun p => k none (mkCs p))) : G 33 [] [] (mkCs s) 0 0 := by
  unfold F_X2_soak_33 at hw
  refine mj_run hG.1 (fun pc => pc == 3 || pc == 33) 4000 ?_
  simp only [mj_step, mj_W_s, mj_fin, List.getElem?_cons_zero, List.getElem?_cons_succ, mj_go, Nat.reduceAdd, Nat.reduceSub, Nat.reduceLT, Nat.reduceLeDiff, Nat.zero_add, Nat.reduceEqDiff, Nat.reduceBEq, ↓reduceIte, Bool.false_eq_true, List.append_nil, List.nil_append, List.cons_append, Option.toList, and_true, true_and, true_or, or_true, reduceCtorEq, List.map_nil, bI_eq0, bI_eq1, bool_ft, pk_us, Bool.or_false, Bool.or_true, Bool.false_or, Bool.true_or, mj_kne, eq_self, Int32.reduceLT, Int32.reduceLE, Int32.reduceAdd, Int32.reduceSub, Int32.reduceMul, not_true_eq_false, not_false_eq_true, false_implies, true_implies, D_X2_soak, mj_F_aload_n_k, mj_F_arraylength, mj_F_bastore, mj_F_getfield_i, mj_F_goto_off, mj_F_if_icmp_ge_off, mj_F_if_icmp_gt_off, mj_F_iinc_k_n, mj_F_iload_k, mj_F_iload_n_k, mj_F_istore_k, mj_F_return_, mj_set, mj_set0, mj_unk, mj_c2, mj_kc, FT_X2, gS_C1, gCf2_2, gS_C4, sS_Ca_4, mj_nk, mj_isA, J_X2_soak]
  exact (ok_some hw :)

set_option maxHeartbeats 4000000 in
theorem g_X2_soak_3 {k : Option Value → mj_H → Prop} {G : mj_K} (hG : mj_cl2 cX2_soak (TbX2 5 (none) []) k G)   {v2 : Int32} {v3 : Int32} {v4 : Int32} {s : St} (hw : ok (F_X2_soak_3 v2 v3 v4 s) (fun p => k none (mkCs p))) : G 3 [.ref 1, mj_unk, .int v2, .int v3, .int v4] [] (mkCs s) 0 0 := by
  unfold F_X2_soak_3 at hw
  refine lp_ok (B_X2_soak_3 v2 v3) (fun x => G 3 [.ref 1, mj_unk, .int v2, .int v3, .int x.1] [] (mkCs x.2) 0 0) _ ?_ _ _ (ok_bind hw)
  rintro ⟨v4, s⟩ hb
  exact b_X2_soak_3 hG (fun _ z => z) (fun y hw => by exact hG.2 _ _ _ _ _ _ _ _ _ (by exact trivial) (Nat.zero_le _) (Nat.zero_le _) (g_X2_soak_33 hG  hw :)) hb

set_option maxHeartbeats 4000000 in
set_option maxRecDepth 20000 in
theorem g_X2_soak {k : Option Value → mj_H → Prop} {G : mj_K} (hG : mj_cl2 cX2_soak (TbX2 5 (none) []) k G) {v1 : Int32} {v2 : Int32} {v3 : Int32} {s : St} (hw : ok (F_X2_soak v1 v2 v3 s) (fun p => k none (mkCs p))) : G 0 [.ref 1, .int v1, .int v2, .int v3] [] (mkCs s) 0 0 := by
  unfold F_X2_soak at hw
  refine mj_run hG.1 (fun pc => pc == 3 || pc == 33) 4000 ?_
  simp only [mj_step, mj_W_s, mj_fin, List.getElem?_cons_zero, List.getElem?_cons_succ, mj_go, Nat.reduceAdd, Nat.reduceSub, Nat.reduceLT, Nat.reduceLeDiff, Nat.zero_add, Nat.reduceEqDiff, Nat.reduceBEq, ↓reduceIte, Bool.false_eq_true, List.append_nil, List.nil_append, List.cons_append, Option.toList, and_true, true_and, true_or, or_true, reduceCtorEq, List.map_nil, bI_eq0, bI_eq1, bool_ft, pk_us, Bool.or_false, Bool.or_true, Bool.false_or, Bool.true_or, mj_kne, eq_self, Int32.reduceLT, Int32.reduceLE, Int32.reduceAdd, Int32.reduceSub, Int32.reduceMul, not_true_eq_false, not_false_eq_true, false_implies, true_implies, D_X2_soak, mj_F_aload_n_k, mj_F_arraylength, mj_F_bastore, mj_F_getfield_i, mj_F_goto_off, mj_F_if_icmp_ge_off, mj_F_if_icmp_gt_off, mj_F_iinc_k_n, mj_F_iload_k, mj_F_iload_n_k, mj_F_istore_k, mj_F_return_, mj_set, mj_set0, mj_unk, mj_c2, mj_kc, FT_X2, gS_C1, gCf2_2, gS_C4, sS_Ca_4, mj_nk, mj_isA, J_X2_soak]
  exact hG.2 _ _ _ _ _ _ _ _ _ (by refine ⟨Or.inr rfl, ?_⟩; refine ⟨Or.inl rfl, ?_⟩; refine ⟨Or.inr rfl, ?_⟩; refine ⟨Or.inr rfl, ?_⟩; refine ⟨Or.inr rfl, ?_⟩; exact trivial) (Nat.zero_le _) (Nat.zero_le _) (g_X2_soak_3 hG  hw :)

def c_X2_soak : mj_S := fun as h k => ∃ (v1 : Int32) (v2 : Int32) (v3 : Int32) (s : St), as = [.ref 1, .int v1, .int v2, .int v3] ∧ h = mkCs s ∧ ok (F_X2_soak v1 v2 v3 s) (fun p => k none (mkCs p))
theorem c_X2_soak_in {v1 : Int32} {v2 : Int32} {v3 : Int32} {s : St} {k : Option Value → mj_H → Prop} (hw : ok (F_X2_soak v1 v2 v3 s) (fun p => k none (mkCs p))) : c_X2_soak [.ref 1, .int v1, .int v2, .int v3] (mkCs s) k := ⟨v1, v2, v3, s, rfl, rfl, hw⟩
theorem m_X2_soak (l : Launch) : mj_Met l yX2_soak cX2_soak 5 (none) 0 0 0 c_X2_soak := by
  refine mj_body2 false (TbX2 5 (none) []) (by decide) rfl rfl (fun h => nomatch h) (tfX2 _ (fun _ h => nomatch h)) ?_
  rintro as h k ⟨v1, v2, v3, s, rfl, rfl, hw⟩
  exact ⟨rfl, fun G hG => g_X2_soak hG hw⟩
def F_X11_rain (v1 : Int32) (v2 : Int32) (v3 : Int32) (s : St) : Option (Int32 × St) :=
  if inb v1 0 600 = false then
    some (0, s)
  else
    if inb v2 v1 600 = false then
      some (0, s)
    else
      (F_X2_soak v1 v2 v3 s).bind fun s1 =>
      some (1, s1)
theorem J_X11_rain : mj_t 8 14 = 22 ∧ mj_t 19 5 = 24 ∧ (0 ≤ ((8 : Nat) : Int) + 14) = True ∧ (0 ≤ ((19 : Nat) : Int) + 5) = True := by and_intros <;> first | rfl | exact eq_true (by decide)
def ct_X11_rain : List (Nat × mj_Cs) := [(96, 2, 3, 11, 0, 0, c_in), (127, 0, 4, 2, 0, 0, c_X2_soak)]
theorem L_X11_rain : mj_lk ct_X11_rain 96 = some (2, 3, 11, 0, 0, c_in) ∧ mj_lk ct_X11_rain 127 = some (0, 4, 2, 0, 0, c_X2_soak) := ⟨rfl, rfl⟩
set_option maxHeartbeats 4000000 in
set_option maxRecDepth 20000 in
theorem g_X11_rain {k : Option Value → mj_H → Prop} {G : mj_K} (hG : mj_cl2 cX11_rain (TbX11 4 ((some FieldType.boolean)) ct_X11_rain) k G) {v1 : Int32} {v2 : Int32} {v3 : Int32} {s : St} (hw : ok (F_X11_rain v1 v2 v3 s) (fun p => k (some (.int p.1)) (mkCs p.2))) : G 0 [.ref 0, .int v1, .int v2, .int v3] [] (mkCs s) 0 0 := by
  unfold F_X11_rain at hw
  refine mj_run hG.1 (fun pc => pc == 34) 4000 ?_
  simp only [mj_step, mj_W_s, mj_fin, List.getElem?_cons_zero, List.getElem?_cons_succ, mj_go, Nat.reduceAdd, Nat.reduceSub, Nat.reduceLT, Nat.reduceLeDiff, Nat.zero_add, Nat.reduceEqDiff, Nat.reduceBEq, ↓reduceIte, Bool.false_eq_true, List.append_nil, List.nil_append, List.cons_append, Option.toList, and_true, true_and, true_or, or_true, reduceCtorEq, List.map_nil, bI_eq0, bI_eq1, bool_ft, pk_us, Bool.or_false, Bool.or_true, Bool.false_or, Bool.true_or, mj_kne, eq_self, Int32.reduceLT, Int32.reduceLE, Int32.reduceAdd, Int32.reduceSub, Int32.reduceMul, not_true_eq_false, not_false_eq_true, false_implies, true_implies, D_X11_rain, mj_F_aload_n_k, mj_F_getfield_i, mj_F_iconst_n, mj_F_ifCond_eq_off, mj_F_ifCond_ne_off, mj_F_iload_n_k, mj_F_invokestatic_i, mj_F_invokevirtual_i, mj_F_ireturn, mj_F_sipush_n, mj_kc, FT_X11, L_X11_rain, List.take_succ_cons, List.take_zero, List.drop_succ_cons, List.drop_zero, List.reverse_cons, List.reverse_nil, List.length_cons, List.length_nil, gS_C0, gCf11_1, c_in_eq, gS_C1, J_X11_rain]
  refine ⟨fun c => ?_, fun c => ?_⟩
  · replace hw := ok_t hw c
    exact (ok_some hw :)
  · replace hw := ok_f hw c
    refine ⟨fun c => ?_, fun c => ?_⟩
    · replace hw := ok_f hw c
      refine c_X2_soak_in (ok_imp (ok_bind hw) ?_)
      intro p hw
      simp only [Option.toList, List.nil_append, List.cons_append, Nat.reduceSub]
      refine mj_run hG.1 (fun pc => pc == 34) 4000 ?_
      simp only [mj_step, mj_W_s, mj_fin, List.getElem?_cons_zero, List.getElem?_cons_succ, mj_go, Nat.reduceAdd, Nat.reduceSub, Nat.reduceLT, Nat.reduceLeDiff, Nat.zero_add, Nat.reduceEqDiff, Nat.reduceBEq, ↓reduceIte, Bool.false_eq_true, List.append_nil, List.nil_append, List.cons_append, Option.toList, and_true, true_and, true_or, or_true, reduceCtorEq, List.map_nil, bI_eq0, bI_eq1, bool_ft, pk_us, Bool.or_false, Bool.or_true, Bool.false_or, Bool.true_or, mj_kne, eq_self, Int32.reduceLT, Int32.reduceLE, Int32.reduceAdd, Int32.reduceSub, Int32.reduceMul, not_true_eq_false, not_false_eq_true, false_implies, true_implies, D_X11_rain, mj_F_aload_n_k, mj_F_getfield_i, mj_F_iconst_n, mj_F_ifCond_eq_off, mj_F_ifCond_ne_off, mj_F_iload_n_k, mj_F_invokestatic_i, mj_F_invokevirtual_i, mj_F_ireturn, mj_F_sipush_n, mj_kc, FT_X11, L_X11_rain, List.take_succ_cons, List.take_zero, List.drop_succ_cons, List.drop_zero, List.reverse_cons, List.reverse_nil, List.length_cons, List.length_nil, gS_C0, gCf11_1, c_in_eq, gS_C1, J_X11_rain]
      exact (ok_some hw :)
    · replace hw := ok_t hw c
      exact (ok_some hw :)

def c_X11_rain : mj_S := fun as h k => ∃ (v1 : Int32) (v2 : Int32) (v3 : Int32) (s : St), as = [.ref 0, .int v1, .int v2, .int v3] ∧ h = mkCs s ∧ ok (F_X11_rain v1 v2 v3 s) (fun p => k (some (.int p.1)) (mkCs p.2))
theorem c_X11_rain_in {v1 : Int32} {v2 : Int32} {v3 : Int32} {s : St} {k : Option Value → mj_H → Prop} (hw : ok (F_X11_rain v1 v2 v3 s) (fun p => k (some (.int p.1)) (mkCs p.2))) : c_X11_rain [.ref 0, .int v1, .int v2, .int v3] (mkCs s) k := ⟨v1, v2, v3, s, rfl, rfl, hw⟩
theorem m_X11_rain (l : Launch) : mj_Met l yX11_rain cX11_rain 4 ((some FieldType.boolean)) 1 0 0 c_X11_rain := by
  refine mj_body2 false (TbX11 4 ((some FieldType.boolean)) ct_X11_rain) (by decide) rfl rfl (fun h => nomatch h) (tfX11 _ (List.forall_mem_cons.mpr ⟨cfX11_96 (m_X11_within l) (by decide), List.forall_mem_cons.mpr ⟨cfX11_127 (m_X2_soak l) (by decide), fun _ h => nomatch h⟩⟩)) ?_
  rintro as h k ⟨v1, v2, v3, s, rfl, rfl, hw⟩
  exact ⟨rfl, fun G hG => g_X11_rain hG hw⟩
def F_X1_settle (v1 : Int32) (v2 : Int32) (v3 : Int32) (s : St) : Option (Int32 × St) :=
  if (s.1 101) < 24 then
    (wr s 102 24 (s.1 101) v1).bind fun s1 =>
    (wr s1 103 24 (s1.1 101) v2).bind fun s2 =>
    (wr s2 104 24 (s2.1 101) v3).bind fun s3 =>
    (wI s3 101 ((s3.1 101) + 1)).bind fun s4 =>
    some (((s4.1 101) - 1), s4)
  else
    some ((-1), s)
theorem J_X1_settle : mj_t 6 5 = 11 ∧ (0 ≤ ((6 : Nat) : Int) + 5) = True := by and_intros <;> first | rfl | exact eq_true (by decide)
set_option maxHeartbeats 4000000 in
set_option maxRecDepth 20000 in
theorem g_X1_settle {k : Option Value → mj_H → Prop} {G : mj_K} (hG : mj_cl2 cX1_settle (TbX1 4 ((some FieldType.int)) []) k G) {v1 : Int32} {v2 : Int32} {v3 : Int32} {s : St} (hw : ok (F_X1_settle v1 v2 v3 s) (fun p => k (some (.int p.1)) (mkCs p.2))) : G 0 [.ref 20, .int v1, .int v2, .int v3] [] (mkCs s) 0 0 := by
  unfold F_X1_settle at hw
  refine mj_run hG.1 (fun _ => false) 4000 ?_
  simp only [mj_step, mj_W_s, mj_fin, List.getElem?_cons_zero, List.getElem?_cons_succ, mj_go, Nat.reduceAdd, Nat.reduceSub, Nat.reduceLT, Nat.reduceLeDiff, Nat.zero_add, Nat.reduceEqDiff, Nat.reduceBEq, ↓reduceIte, Bool.false_eq_true, List.append_nil, List.nil_append, List.cons_append, Option.toList, and_true, true_and, true_or, or_true, reduceCtorEq, List.map_nil, bI_eq0, bI_eq1, bool_ft, pk_us, Bool.or_false, Bool.or_true, Bool.false_or, Bool.true_or, mj_kne, eq_self, Int32.reduceLT, Int32.reduceLE, Int32.reduceAdd, Int32.reduceSub, Int32.reduceMul, not_true_eq_false, not_false_eq_true, false_implies, true_implies, D_X1_settle, mj_F_aload_n_k, mj_F_bipush_n, mj_F_dup, mj_F_getfield_i, mj_F_iadd, mj_F_iastore, mj_F_iconst_n, mj_F_if_icmp_lt_off, mj_F_iload_n_k, mj_F_ireturn, mj_F_isub, mj_F_putfield_i, mj_c2, mj_kc, FT_X1, PT_X1, gS_C20, gCf1_1, gCf1_2, gS_C21, sS_Ca_21, gCf1_3, gS_C22, sS_Ca_22, gCf1_4, gS_C23, sS_Ca_23, sS_Cf_1_1, gCf1len, J_X1_settle]
  refine ⟨fun c => ?_, fun c => ?_⟩
  · replace hw := ok_t hw c
    refine ⟨(ok_wr hw).1, ?_⟩
    replace hw := (ok_wr hw).2
    refine ⟨(ok_wr hw).1, ?_⟩
    replace hw := (ok_wr hw).2
    refine ⟨(ok_wr hw).1, ?_⟩
    replace hw := (ok_wr hw).2
    replace hw := ok_wI hw
    exact (ok_some hw :)
  · replace hw := ok_f hw c
    exact (ok_some hw :)

def c_X1_settle : mj_S := fun as h k => ∃ (v1 : Int32) (v2 : Int32) (v3 : Int32) (s : St), as = [.ref 20, .int v1, .int v2, .int v3] ∧ h = mkCs s ∧ ok (F_X1_settle v1 v2 v3 s) (fun p => k (some (.int p.1)) (mkCs p.2))
theorem c_X1_settle_in {v1 : Int32} {v2 : Int32} {v3 : Int32} {s : St} {k : Option Value → mj_H → Prop} (hw : ok (F_X1_settle v1 v2 v3 s) (fun p => k (some (.int p.1)) (mkCs p.2))) : c_X1_settle [.ref 20, .int v1, .int v2, .int v3] (mkCs s) k := ⟨v1, v2, v3, s, rfl, rfl, hw⟩
theorem m_X1_settle (l : Launch) : mj_Met l yX1_settle cX1_settle 4 ((some FieldType.int)) 0 0 0 c_X1_settle := by
  refine mj_body2 false (TbX1 4 ((some FieldType.int)) []) (by decide) rfl rfl (fun h => nomatch h) (tfX1 _ (fun _ h => nomatch h)) ?_
  rintro as h k ⟨v1, v2, v3, s, rfl, rfl, hw⟩
  exact ⟨rfl, fun G hG => g_X1_settle hG hw⟩
