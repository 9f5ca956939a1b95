/-! functional pictures, and that the bytecode keeps them (c0) -/
def B_X10_bring_2 (v1 : Int32) : Int32 × St → Option ((Int32 × St) ⊕ ((St)))
  | (v2, s) =>
  if (s.1 1004) ≤ v2 then
    some (.inr s)
  else
    (rd s 1007 8 v2).bind fun x1 =>
    (rd s 1008 8 v2).bind fun x2 =>
    if inb v1 x1 x2 = false then
      some (.inl ((v2 + 1), s))
    else
      (rd s 1005 8 v2).bind fun x3 =>
      (rd s 1011 5 x3).bind fun x4 =>
      (rd s 1006 8 v2).bind fun x5 =>
      (wr s 1011 5 x3 (x4 + x5)).bind fun s6 =>
      some (.inl ((v2 + 1), s6))
def F_X10_bring_55 (s : St) : Option (St) :=
  some s
def F_X10_bring_2 (v1 : Int32) (v2 : Int32) (s : St) : Option (St) :=
  (lp (B_X10_bring_2 v1) FU (v2, s)).bind (fun y => F_X10_bring_55 y)
def F_X10_bring (v1 : Int32) (s : St) : Option (St) :=
  F_X10_bring_2 v1 0 s
theorem J_X10_bring : mj_t 7 48 = 55 ∧ mj_t 26 23 = 49 ∧ mj_t 52 (-50) = 2 ∧ (0 ≤ ((7 : Nat) : Int) + 48) = True ∧ (0 ≤ ((26 : Nat) : Int) + 23) = True ∧ (0 ≤ ((52 : Nat) : Int) + (-50)) = True := by and_intros <;> first | rfl | exact eq_true (by decide)
def ct_X10_bring : List (Nat × mj_Cs) := [(69, 3, 3, 11, 0, 0, c_in)]
theorem L_X10_bring : mj_lk ct_X10_bring 69 = some (3, 3, 11, 0, 0, c_in) := rfl
set_option maxHeartbeats 4000000 in
set_option maxRecDepth 20000 in
theorem b_X10_bring_2 {k : Option Value → mj_H → Prop} {G : mj_K} (hG : mj_cl2 cX10_bring (TbX10 3 (none) ct_X10_bring) k G) {v1 : Int32} {P : Int32 × St → Prop} {K : (St) → Prop} (hP : ∀ x, P x → G 2 [.ref 45, .int v1, .int x.1] [] (mkCs x.2) 0 0) (hK0 : ∀ y, K y → G 55 [] [] (mkCs y) 0 0) {v2 : Int32} {s : St} (hw : ok (B_X10_bring_2 v1 (v2, s)) (Sum.elim P K)) : G 2 [.ref 45, .int v1, .int v2] [] (mkCs s) 0 0 := by
  unfold B_X10_bring_2 at hw
  refine mj_run hG.1 (fun pc => pc == 2 || pc == 55) 4000 ?_
  simp only [mj_step, mj_W_s, mj_fin, List.getElem?_cons_zero, List.getElem?_cons_succ, mj_go, Nat.reduceAdd, Nat.reduceSub, Nat.reduceLT, Nat.reduceLeDiff, Nat.zero_add, Nat.reduceEqDiff, Nat.reduceBEq, ↓reduceIte, Bool.false_eq_true, List.append_nil, List.nil_append, List.cons_append, Option.toList, and_true, true_and, true_or, or_true, reduceCtorEq, List.map_nil, bI_eq0, bI_eq1, bool_ft, pk_us, vnar0, vnar1, Bool.or_false, Bool.or_true, Bool.false_or, Bool.true_or, mj_kne, eq_self, Int32.reduceLT, Int32.reduceLE, Int32.reduceAdd, Int32.reduceSub, Int32.reduceMul, not_true_eq_false, not_false_eq_true, false_implies, true_implies, D_X10_bring, mj_F_aload_n_k, mj_F_dup2, mj_F_getfield_i, mj_F_goto_off, mj_F_iadd, mj_F_iaload, mj_F_iastore, mj_F_iconst_n, mj_F_ifCond_eq_off, mj_F_if_icmp_ge_off, mj_F_iinc_k_n, mj_F_iload_n_k, mj_F_invokestatic_i, mj_F_istore_n_k, mj_F_return_, mj_set, mj_set0, mj_unk, mj_c2, mj_kc, FT_X10, L_X10_bring, List.take_succ_cons, List.take_zero, List.drop_succ_cons, List.drop_zero, List.reverse_cons, List.reverse_nil, List.length_cons, List.length_nil, gS_C45, gCf10_4, gCf10_7, gS_C48, sS_Ca_48, gCf10_8, gS_C49, sS_Ca_49, gCf10_11, gS_C51, sS_Ca_51, gCf10_5, gS_C46, sS_Ca_46, gCf10_6, gS_C47, sS_Ca_47, c_in_eq, J_X10_bring]
  refine ⟨fun c => ?_, fun c => ?_⟩
  · replace hw := ok_t hw c
    exact hG.2 _ _ _ _ _ _ _ _ _ (by exact trivial) (Nat.zero_le _) (Nat.zero_le _) (hK0 _ (ok_some hw :) :)
  · replace hw := ok_f hw c
    refine ⟨(ok_rd hw).1, ?_⟩
    replace hw := (ok_rd hw).2
    refine ⟨(ok_rd hw).1, ?_⟩
    replace hw := (ok_rd hw).2
    refine ⟨fun c => ?_, fun c => ?_⟩
    · replace hw := ok_t hw c
      exact hG.2 _ _ _ _ _ _ _ _ _ (by refine ⟨Or.inr rfl, ?_⟩; refine ⟨Or.inr rfl, ?_⟩; refine ⟨Or.inr rfl, ?_⟩; exact trivial) (Nat.zero_le _) (Nat.zero_le _) (hP _ (ok_some hw :) :)
    · replace hw := ok_f hw c
      refine ⟨(ok_rd hw).1, ?_⟩
      replace hw := (ok_rd hw).2
      refine ⟨(ok_rd hw).1, ?_⟩
      replace hw := (ok_rd hw).2
      refine ⟨(ok_rd hw).1, ?_⟩
      replace hw := (ok_rd hw).2
      refine ⟨(ok_wr hw).1, ?_⟩
      replace hw := (ok_wr hw).2
      exact hG.2 _ _ _ _ _ _ _ _ _ (by refine ⟨Or.inr rfl, ?_⟩; refine ⟨Or.inr rfl, ?_⟩; refine ⟨Or.inr rfl, ?_⟩; exact trivial) (Nat.zero_le _) (Nat.zero_le _) (hP _ (ok_some hw :) :)

set_option maxHeartbeats 4000000 in
set_option maxRecDepth 20000 in
theorem g_X10_bring_55 {k : Option Value → mj_H → Prop} {G : mj_K} (hG : mj_cl2 cX10_bring (TbX10 3 (none) ct_X10_bring) k G)   {s : St} (hw : ok (F_X10_bring_55 s) (fun p => k none (mkCs p))) : G 55 [] [] (mkCs s) 0 0 := by
  unfold F_X10_bring_55 at hw
  refine mj_run hG.1 (fun pc => pc == 2 || pc == 55) 4000 ?_
  simp only [mj_step, mj_W_s, mj_fin, List.getElem?_cons_zero, List.getElem?_cons_succ, mj_go, Nat.reduceAdd, Nat.reduceSub, Nat.reduceLT, Nat.reduceLeDiff, Nat.zero_add, Nat.reduceEqDiff, Nat.reduceBEq, ↓reduceIte, Bool.false_eq_true, List.append_nil, List.nil_append, List.cons_append, Option.toList, and_true, true_and, true_or, or_true, reduceCtorEq, List.map_nil, bI_eq0, bI_eq1, bool_ft, pk_us, vnar0, vnar1, Bool.or_false, Bool.or_true, Bool.false_or, Bool.true_or, mj_kne, eq_self, Int32.reduceLT, Int32.reduceLE, Int32.reduceAdd, Int32.reduceSub, Int32.reduceMul, not_true_eq_false, not_false_eq_true, false_implies, true_implies, D_X10_bring, mj_F_aload_n_k, mj_F_dup2, mj_F_getfield_i, mj_F_goto_off, mj_F_iadd, mj_F_iaload, mj_F_iastore, mj_F_iconst_n, mj_F_ifCond_eq_off, mj_F_if_icmp_ge_off, mj_F_iinc_k_n, mj_F_iload_n_k, mj_F_invokestatic_i, mj_F_istore_n_k, mj_F_return_, mj_set, mj_set0, mj_unk, mj_c2, mj_kc, FT_X10, L_X10_bring, List.take_succ_cons, List.take_zero, List.drop_succ_cons, List.drop_zero, List.reverse_cons, List.reverse_nil, List.length_cons, List.length_nil, gS_C45, gCf10_4, gCf10_7, gS_C48, sS_Ca_48, gCf10_8, gS_C49, sS_Ca_49, gCf10_11, gS_C51, sS_Ca_51, gCf10_5, gS_C46, sS_Ca_46, gCf10_6, gS_C47, sS_Ca_47, c_in_eq, J_X10_bring]
  exact (ok_some hw :)

set_option maxHeartbeats 4000000 in
theorem g_X10_bring_2 {k : Option Value → mj_H → Prop} {G : mj_K} (hG : mj_cl2 cX10_bring (TbX10 3 (none) ct_X10_bring) k G)   {v1 : Int32} {v2 : Int32} {s : St} (hw : ok (F_X10_bring_2 v1 v2 s) (fun p => k none (mkCs p))) : G 2 [.ref 45, .int v1, .int v2] [] (mkCs s) 0 0 := by
  unfold F_X10_bring_2 at hw
  refine lp_ok (B_X10_bring_2 v1) (fun x => G 2 [.ref 45, .int v1, .int x.1] [] (mkCs x.2) 0 0) _ ?_ _ _ (ok_bind hw)
  rintro ⟨v2, s⟩ hb
  exact b_X10_bring_2 hG (fun _ z => z) (fun y hw => by exact hG.2 _ _ _ _ _ _ _ _ _ (by exact trivial) (Nat.zero_le _) (Nat.zero_le _) (g_X10_bring_55 hG  hw :)) hb

set_option maxHeartbeats 4000000 in
set_option maxRecDepth 20000 in
theorem g_X10_bring {k : Option Value → mj_H → Prop} {G : mj_K} (hG : mj_cl2 cX10_bring (TbX10 3 (none) ct_X10_bring) k G) {v1 : Int32} {s : St} (hw : ok (F_X10_bring v1 s) (fun p => k none (mkCs p))) : G 0 [.ref 45, .int v1] [] (mkCs s) 0 0 := by
  unfold F_X10_bring at hw
  refine mj_run hG.1 (fun pc => pc == 2 || pc == 55) 4000 ?_
  simp only [mj_step, mj_W_s, mj_fin, List.getElem?_cons_zero, List.getElem?_cons_succ, mj_go, Nat.reduceAdd, Nat.reduceSub, Nat.reduceLT, Nat.reduceLeDiff, Nat.zero_add, Nat.reduceEqDiff, Nat.reduceBEq, ↓reduceIte, Bool.false_eq_true, List.append_nil, List.nil_append, List.cons_append, Option.toList, and_true, true_and, true_or, or_true, reduceCtorEq, List.map_nil, bI_eq0, bI_eq1, bool_ft, pk_us, vnar0, vnar1, Bool.or_false, Bool.or_true, Bool.false_or, Bool.true_or, mj_kne, eq_self, Int32.reduceLT, Int32.reduceLE, Int32.reduceAdd, Int32.reduceSub, Int32.reduceMul, not_true_eq_false, not_false_eq_true, false_implies, true_implies, D_X10_bring, mj_F_aload_n_k, mj_F_dup2, mj_F_getfield_i, mj_F_goto_off, mj_F_iadd, mj_F_iaload, mj_F_iastore, mj_F_iconst_n, mj_F_ifCond_eq_off, mj_F_if_icmp_ge_off, mj_F_iinc_k_n, mj_F_iload_n_k, mj_F_invokestatic_i, mj_F_istore_n_k, mj_F_return_, mj_set, mj_set0, mj_unk, mj_c2, mj_kc, FT_X10, L_X10_bring, List.take_succ_cons, List.take_zero, List.drop_succ_cons, List.drop_zero, List.reverse_cons, List.reverse_nil, List.length_cons, List.length_nil, gS_C45, gCf10_4, gCf10_7, gS_C48, sS_Ca_48, gCf10_8, gS_C49, sS_Ca_49, gCf10_11, gS_C51, sS_Ca_51, gCf10_5, gS_C46, sS_Ca_46, gCf10_6, gS_C47, sS_Ca_47, c_in_eq, J_X10_bring]
  exact hG.2 _ _ _ _ _ _ _ _ _ (by refine ⟨Or.inr rfl, ?_⟩; refine ⟨Or.inr rfl, ?_⟩; refine ⟨Or.inr rfl, ?_⟩; exact trivial) (Nat.zero_le _) (Nat.zero_le _) (g_X10_bring_2 hG  hw :)

def c_X10_bring : mj_S := fun as h k => ∃ (v1 : Int32) (s : St), as = [.ref 45, .int v1] ∧ h = mkCs s ∧ ok (F_X10_bring v1 s) (fun p => k none (mkCs p))
theorem c_X10_bring_in {v1 : Int32} {s : St} {k : Option Value → mj_H → Prop} (hw : ok (F_X10_bring v1 s) (fun p => k none (mkCs p))) : c_X10_bring [.ref 45, .int v1] (mkCs s) k := ⟨v1, s, rfl, rfl, hw⟩
theorem m_X10_bring (l : Launch) : mj_Met l yX10_bring cX10_bring 3 (none) 1 0 0 c_X10_bring := by
  refine mj_body2 false (TbX10 3 (none) ct_X10_bring) (by decide) rfl rfl (fun h => nomatch h) (tfX10 _ (List.forall_mem_cons.mpr ⟨cfX10_69 (m_X11_within l) (by decide), fun _ h => nomatch h⟩)) ?_
  rintro as h k ⟨v1, s, rfl, rfl, hw⟩
  exact ⟨rfl, fun G hG => g_X10_bring hG hw⟩
def F_X2_isWet (v1 : Int32) (s : St) : Option (Int32) :=
  if inb v1 0 600 = false then
    some 0
  else
    (rd s 202 601 v1).bind fun x1 =>
    if x1 = 0 then
      some 0
    else
      some 1
theorem J_X2_isWet : mj_t 8 16 = 24 ∧ mj_t 17 7 = 24 ∧ mj_t 21 4 = 25 ∧ (0 ≤ ((8 : Nat) : Int) + 16) = True ∧ (0 ≤ ((17 : Nat) : Int) + 7) = True ∧ (0 ≤ ((21 : Nat) : Int) + 4) = True := by and_intros <;> first | rfl | exact eq_true (by decide)
def ct_X2_isWet : List (Nat × mj_Cs) := [(42, 3, 3, 11, 0, 0, c_in)]
theorem L_X2_isWet : mj_lk ct_X2_isWet 42 = some (3, 3, 11, 0, 0, c_in) := rfl
set_option maxHeartbeats 4000000 in
set_option maxRecDepth 20000 in
theorem g_X2_isWet {k : Option Value → mj_H → Prop} {G : mj_K} (hG : mj_cl2 cX2_isWet (TbX2 2 ((some FieldType.boolean)) ct_X2_isWet) k G) {v1 : Int32} {s : St} (hw : ok (F_X2_isWet v1 s) (fun p => k (some (.int p)) (mkCs s))) : G 0 [.ref 1, .int v1] [] (mkCs s) 0 0 := by
  unfold F_X2_isWet at hw
  refine mj_run hG.1 (fun _ => false) 4000 ?_
  simp only [mj_step, mj_W_s, mj_fin, List.getElem?_cons_zero, List.getElem?_cons_succ, mj_go, Nat.reduceAdd, Nat.reduceSub, Nat.reduceLT, Nat.reduceLeDiff, Nat.zero_add, Nat.reduceEqDiff, Nat.reduceBEq, ↓reduceIte, Bool.false_eq_true, List.append_nil, List.nil_append, List.cons_append, Option.toList, and_true, true_and, true_or, or_true, reduceCtorEq, List.map_nil, bI_eq0, bI_eq1, bool_ft, pk_us, vnar0, vnar1, Bool.or_false, Bool.or_true, Bool.false_or, Bool.true_or, mj_kne, eq_self, Int32.reduceLT, Int32.reduceLE, Int32.reduceAdd, Int32.reduceSub, Int32.reduceMul, not_true_eq_false, not_false_eq_true, false_implies, true_implies, D_X2_isWet, mj_F_aload_n_k, mj_F_baload, mj_F_getfield_i, mj_F_goto_off, mj_F_iconst_n, mj_F_ifCond_eq_off, mj_F_iload_n_k, mj_F_invokestatic_i, mj_F_ireturn, mj_F_sipush_n, mj_kc, FT_X2, L_X2_isWet, List.take_succ_cons, List.take_zero, List.drop_succ_cons, List.drop_zero, List.reverse_cons, List.reverse_nil, List.length_cons, List.length_nil, gS_C1, gCf2_2, gS_C4, sS_Ca_4, c_in_eq, J_X2_isWet]
  refine ⟨fun c => ?_, fun c => ?_⟩
  · replace hw := ok_t hw c
    exact (ok_some hw :)
  · replace hw := ok_f hw c
    refine ⟨(ok_rd hw).1, ?_⟩
    replace hw := (ok_rd hw).2
    refine ⟨fun c => ?_, fun c => ?_⟩
    · replace hw := ok_t hw c
      exact (ok_some hw :)
    · replace hw := ok_f hw c
      exact (ok_some hw :)

def c_X2_isWet : mj_S := fun as h k => ∃ (v1 : Int32) (s : St), as = [.ref 1, .int v1] ∧ h = mkCs s ∧ ok (F_X2_isWet v1 s) (fun p => k (some (.int p)) (mkCs s))
theorem c_X2_isWet_in {v1 : Int32} {s : St} {k : Option Value → mj_H → Prop} (hw : ok (F_X2_isWet v1 s) (fun p => k (some (.int p)) (mkCs s))) : c_X2_isWet [.ref 1, .int v1] (mkCs s) k := ⟨v1, s, rfl, rfl, hw⟩
theorem m_X2_isWet (l : Launch) : mj_Met l yX2_isWet cX2_isWet 2 ((some FieldType.boolean)) 1 0 0 c_X2_isWet := by
  refine mj_body2 false (TbX2 2 ((some FieldType.boolean)) ct_X2_isWet) (by decide) rfl rfl (fun h => nomatch h) (tfX2 _ (List.forall_mem_cons.mpr ⟨cfX2_42 (m_X11_within l) (by decide), fun _ h => nomatch h⟩)) ?_
  rintro as h k ⟨v1, s, rfl, rfl, hw⟩
  exact ⟨rfl, fun G hG => g_X2_isWet hG hw⟩
def F_X2_isShutWet (v1 : Int32) (s : St) : Option (Int32) :=
  if inb v1 0 119 = false then
    some 0
  else
    (rd s 201 120 v1).bind fun x1 =>
    if x1 = 0 then
      some 1
    else
      some 0
theorem J_X2_isShutWet : mj_t 4 16 = 20 ∧ mj_t 13 7 = 20 ∧ mj_t 17 4 = 21 ∧ (0 ≤ ((4 : Nat) : Int) + 16) = True ∧ (0 ≤ ((13 : Nat) : Int) + 7) = True ∧ (0 ≤ ((17 : Nat) : Int) + 4) = True := by and_intros <;> first | rfl | exact eq_true (by decide)
def ct_X2_isShutWet : List (Nat × mj_Cs) := [(46, 3, 1, 11, 0, 0, c_isCell)]
theorem L_X2_isShutWet : mj_lk ct_X2_isShutWet 46 = some (3, 1, 11, 0, 0, c_isCell) := rfl
set_option maxHeartbeats 4000000 in
set_option maxRecDepth 20000 in
theorem g_X2_isShutWet {k : Option Value → mj_H → Prop} {G : mj_K} (hG : mj_cl2 cX2_isShutWet (TbX2 2 ((some FieldType.boolean)) ct_X2_isShutWet) k G) {v1 : Int32} {s : St} (hw : ok (F_X2_isShutWet v1 s) (fun p => k (some (.int p)) (mkCs s))) : G 0 [.ref 1, .int v1] [] (mkCs s) 0 0 := by
  unfold F_X2_isShutWet at hw
  refine mj_run hG.1 (fun _ => false) 4000 ?_
  simp only [mj_step, mj_W_s, mj_fin, List.getElem?_cons_zero, List.getElem?_cons_succ, mj_go, Nat.reduceAdd, Nat.reduceSub, Nat.reduceLT, Nat.reduceLeDiff, Nat.zero_add, Nat.reduceEqDiff, Nat.reduceBEq, ↓reduceIte, Bool.false_eq_true, List.append_nil, List.nil_append, List.cons_append, Option.toList, and_true, true_and, true_or, or_true, reduceCtorEq, List.map_nil, bI_eq0, bI_eq1, bool_ft, pk_us, vnar0, vnar1, Bool.or_false, Bool.or_true, Bool.false_or, Bool.true_or, mj_kne, eq_self, Int32.reduceLT, Int32.reduceLE, Int32.reduceAdd, Int32.reduceSub, Int32.reduceMul, not_true_eq_false, not_false_eq_true, false_implies, true_implies, D_X2_isShutWet, mj_F_aload_n_k, mj_F_getfield_i, mj_F_goto_off, mj_F_iaload, mj_F_iconst_n, mj_F_ifCond_eq_off, mj_F_ifCond_ne_off, mj_F_iload_n_k, mj_F_invokestatic_i, mj_F_ireturn, mj_kc, FT_X2, L_X2_isShutWet, List.take_succ_cons, List.take_zero, List.drop_succ_cons, List.drop_zero, List.reverse_cons, List.reverse_nil, List.length_cons, List.length_nil, gS_C1, gCf2_1, gS_C3, sS_Ca_3, c_isCell_eq, J_X2_isShutWet]
  refine ⟨fun c => ?_, fun c => ?_⟩
  · replace hw := ok_t hw c
    exact (ok_some hw :)
  · replace hw := ok_f hw c
    refine ⟨(ok_rd hw).1, ?_⟩
    replace hw := (ok_rd hw).2
    refine ⟨fun c => ?_, fun c => ?_⟩
    · replace hw := ok_f hw c
      exact (ok_some hw :)
    · replace hw := ok_t hw c
      exact (ok_some hw :)

def c_X2_isShutWet : mj_S := fun as h k => ∃ (v1 : Int32) (s : St), as = [.ref 1, .int v1] ∧ h = mkCs s ∧ ok (F_X2_isShutWet v1 s) (fun p => k (some (.int p)) (mkCs s))
theorem c_X2_isShutWet_in {v1 : Int32} {s : St} {k : Option Value → mj_H → Prop} (hw : ok (F_X2_isShutWet v1 s) (fun p => k (some (.int p)) (mkCs s))) : c_X2_isShutWet [.ref 1, .int v1] (mkCs s) k := ⟨v1, s, rfl, rfl, hw⟩
theorem m_X2_isShutWet (l : Launch) : mj_Met l yX2_isShutWet cX2_isShutWet 2 ((some FieldType.boolean)) 2 0 0 c_X2_isShutWet := by
  refine mj_body2 false (TbX2 2 ((some FieldType.boolean)) ct_X2_isShutWet) (by decide) rfl rfl (fun h => nomatch h) (tfX2 _ (List.forall_mem_cons.mpr ⟨cfX2_46 (m_X11_isCell l) (by decide), fun _ h => nomatch h⟩)) ?_
  rintro as h k ⟨v1, s, rfl, rfl, hw⟩
  exact ⟨rfl, fun G hG => g_X2_isShutWet hG hw⟩
def B_X10_canBeServed_2 (v1 : Int32) (s : St) : Int32 → Option ((Int32) ⊕ ((Unit) ⊕ (Unit)))
  | v2 =>
  if 5 ≤ v2 then
    some (.inr (.inl ()))
  else
    (rd s 1012 100 ((v1 * 5) + v2)).bind fun x1 =>
    if x1 ≤ 0 then
      some (.inl (v2 + 1))
    else
      (rd s 1011 5 v2).bind fun x2 =>
      if x2 ≤ 0 then
        some (.inl (v2 + 1))
      else
        some (.inr (.inr ()))
def F_X10_canBeServed_37 (s : St) : Option (Int32) :=
  some 0
def F_X10_canBeServed_29 (s : St) : Option (Int32) :=
  some 1
def F_X10_canBeServed_2 (v1 : Int32) (v2 : Int32) (s : St) : Option (Int32) :=
  (lp (B_X10_canBeServed_2 v1 s) FU v2).bind (Sum.elim (fun _ => F_X10_canBeServed_37 s) (fun _ => F_X10_canBeServed_29 s))
def F_X10_canBeServed (v1 : Int32) (s : St) : Option (Int32) :=
  F_X10_canBeServed_2 v1 0 s
theorem J_X10_canBeServed : mj_t 4 33 = 37 ∧ mj_t 17 14 = 31 ∧ mj_t 26 5 = 31 ∧ mj_t 34 (-32) = 2 ∧ (0 ≤ ((4 : Nat) : Int) + 33) = True ∧ (0 ≤ ((17 : Nat) : Int) + 14) = True ∧ (0 ≤ ((26 : Nat) : Int) + 5) = True ∧ (0 ≤ ((34 : Nat) : Int) + (-32)) = True := by and_intros <;> first | rfl | exact eq_true (by decide)
set_option maxHeartbeats 4000000 in
set_option maxRecDepth 20000 in
theorem b_X10_canBeServed_2 {k : Option Value → mj_H → Prop} {G : mj_K} (hG : mj_cl2 cX10_canBeServed (TbX10 3 ((some FieldType.boolean)) []) k G) {v1 : Int32} {s : St} {P : Int32 → Prop} {K : (Unit) ⊕ (Unit) → Prop} (hP : ∀ x, P x → G 2 [.ref 45, .int v1, .int x] [] (mkCs s) 0 0) (hK0 : ∀ y, K (.inl y) → G 37 [] [] (mkCs s) 0 0) (hK1 : ∀ y, K (.inr y) → G 29 [] [] (mkCs s) 0 0) {v2 : Int32} (hw : ok (B_X10_canBeServed_2 v1 s v2) (Sum.elim P K)) : G 2 [.ref 45, .int v1, .int v2] [] (mkCs s) 0 0 := by
  unfold B_X10_canBeServed_2 at hw
  refine mj_run hG.1 (fun pc => pc == 2 || pc == 29 || pc == 37) 4000 ?_
  simp only [mj_step, mj_W_s, mj_fin, List.getElem?_cons_zero, List.getElem?_cons_succ, mj_go, Nat.reduceAdd, Nat.reduceSub, Nat.reduceLT, Nat.reduceLeDiff, Nat.zero_add, Nat.reduceEqDiff, Nat.reduceBEq, ↓reduceIte, Bool.false_eq_true, List.append_nil, List.nil_append, List.cons_append, Option.toList, and_true, true_and, true_or, or_true, reduceCtorEq, List.map_nil, bI_eq0, bI_eq1, bool_ft, pk_us, vnar0, vnar1, Bool.or_false, Bool.or_true, Bool.false_or, Bool.true_or, mj_kne, eq_self, Int32.reduceLT, Int32.reduceLE, Int32.reduceAdd, Int32.reduceSub, Int32.reduceMul, not_true_eq_false, not_false_eq_true, false_implies, true_implies, D_X10_canBeServed, mj_F_aload_n_k, mj_F_getfield_i, mj_F_goto_off, mj_F_iadd, mj_F_iaload, mj_F_iconst_n, mj_F_ifCond_le_off, mj_F_if_icmp_ge_off, mj_F_iinc_k_n, mj_F_iload_n_k, mj_F_imul, mj_F_ireturn, mj_F_istore_n_k, mj_set, mj_set0, mj_unk, mj_c2, mj_kc, FT_X10, gS_C45, gCf10_12, gS_C52, sS_Ca_52, gCf10_11, gS_C51, sS_Ca_51, J_X10_canBeServed]
  refine ⟨fun c => ?_, fun c => ?_⟩
  · replace hw := ok_t hw c
    exact hG.2 _ _ _ _ _ _ _ _ _ (by exact trivial) (Nat.zero_le _) (Nat.zero_le _) (hK0 _ (ok_some hw :) :)
  · replace hw := ok_f hw c
    refine ⟨(ok_rd hw).1, ?_⟩
    replace hw := (ok_rd hw).2
    refine ⟨fun c => ?_, fun c => ?_⟩
    · replace hw := ok_t hw c
      exact hG.2 _ _ _ _ _ _ _ _ _ (by refine ⟨Or.inr rfl, ?_⟩; refine ⟨Or.inr rfl, ?_⟩; refine ⟨Or.inr rfl, ?_⟩; exact trivial) (Nat.zero_le _) (Nat.zero_le _) (hP _ (ok_some hw :) :)
    · replace hw := ok_f hw c
      refine ⟨(ok_rd hw).1, ?_⟩
      replace hw := (ok_rd hw).2
      refine ⟨fun c => ?_, fun c => ?_⟩
      · replace hw := ok_t hw c
        exact hG.2 _ _ _ _ _ _ _ _ _ (by refine ⟨Or.inr rfl, ?_⟩; refine ⟨Or.inr rfl, ?_⟩; refine ⟨Or.inr rfl, ?_⟩; exact trivial) (Nat.zero_le _) (Nat.zero_le _) (hP _ (ok_some hw :) :)
      · replace hw := ok_f hw c
        exact hG.2 _ _ _ _ _ _ _ _ _ (by exact trivial) (Nat.zero_le _) (Nat.zero_le _) (hK1 _ (ok_some hw :) :)

set_option maxHeartbeats 4000000 in
set_option maxRecDepth 20000 in
theorem g_X10_canBeServed_37 {k : Option Value → mj_H → Prop} {G : mj_K} (hG : mj_cl2 cX10_canBeServed (TbX10 3 ((some FieldType.boolean)) []) k G)   {s : St} (hw : ok (F_X10_canBeServed_37 s) (fun p => k (some (.int p)) (mkCs s))) : G 37 [] [] (mkCs s) 0 0 := by
  unfold F_X10_canBeServed_37 at hw
  refine mj_run hG.1 (fun pc => pc == 2 || pc == 29 || pc == 37) 4000 ?_
  simp only [mj_step, mj_W_s, mj_fin, List.getElem?_cons_zero, List.getElem?_cons_succ, mj_go, Nat.reduceAdd, Nat.reduceSub, Nat.reduceLT, Nat.reduceLeDiff, Nat.zero_add, Nat.reduceEqDiff, Nat.reduceBEq, ↓reduceIte, Bool.false_eq_true, List.append_nil, List.nil_append, List.cons_append, Option.toList, and_true, true_and, true_or, or_true, reduceCtorEq, List.map_nil, bI_eq0, bI_eq1, bool_ft, pk_us, vnar0, vnar1, Bool.or_false, Bool.or_true, Bool.false_or, Bool.true_or, mj_kne, eq_self, Int32.reduceLT, Int32.reduceLE, Int32.reduceAdd, Int32.reduceSub, Int32.reduceMul, not_true_eq_false, not_false_eq_true, false_implies, true_implies, D_X10_canBeServed, mj_F_aload_n_k, mj_F_getfield_i, mj_F_goto_off, mj_F_iadd, mj_F_iaload, mj_F_iconst_n, mj_F_ifCond_le_off, mj_F_if_icmp_ge_off, mj_F_iinc_k_n, mj_F_iload_n_k, mj_F_imul, mj_F_ireturn, mj_F_istore_n_k, mj_set, mj_set0, mj_unk, mj_c2, mj_kc, FT_X10, gS_C45, gCf10_12, gS_C52, sS_Ca_52, gCf10_11, gS_C51, sS_Ca_51, J_X10_canBeServed]
  exact (ok_some hw :)

set_option maxHeartbeats 4000000 in
set_option maxRecDepth 20000 in
theorem g_X10_canBeServed_29 {k : Option Value → mj_H → Prop} {G : mj_K} (hG : mj_cl2 cX10_canBeServed (TbX10 3 ((some FieldType.boolean)) []) k G)   {s : St} (hw : ok (F_X10_canBeServed_29 s) (fun p => k (some (.int p)) (mkCs s))) : G 29 [] [] (mkCs s) 0 0 := by
  unfold F_X10_canBeServed_29 at hw
  refine mj_run hG.1 (fun pc => pc == 2 || pc == 29 || pc == 37) 4000 ?_
  simp only [mj_step, mj_W_s, mj_fin, List.getElem?_cons_zero, List.getElem?_cons_succ, mj_go, Nat.reduceAdd, Nat.reduceSub, Nat.reduceLT, Nat.reduceLeDiff, Nat.zero_add, Nat.reduceEqDiff, Nat.reduceBEq, ↓reduceIte, Bool.false_eq_true, List.append_nil, List.nil_append, List.cons_append, Option.toList, and_true, true_and, true_or, or_true, reduceCtorEq, List.map_nil, bI_eq0, bI_eq1, bool_ft, pk_us, vnar0, vnar1, Bool.or_false, Bool.or_true, Bool.false_or, Bool.true_or, mj_kne, eq_self, Int32.reduceLT, Int32.reduceLE, Int32.reduceAdd, Int32.reduceSub, Int32.reduceMul, not_true_eq_false, not_false_eq_true, false_implies, true_implies, D_X10_canBeServed, mj_F_aload_n_k, mj_F_getfield_i, mj_F_goto_off, mj_F_iadd, mj_F_iaload, mj_F_iconst_n, mj_F_ifCond_le_off, mj_F_if_icmp_ge_off, mj_F_iinc_k_n, mj_F_iload_n_k, mj_F_imul, mj_F_ireturn, mj_F_istore_n_k, mj_set, mj_set0, mj_unk, mj_c2, mj_kc, FT_X10, gS_C45, gCf10_12, gS_C52, sS_Ca_52, gCf10_11, gS_C51, sS_Ca_51, J_X10_canBeServed]
  exact (ok_some hw :)

set_option maxHeartbeats 4000000 in
theorem g_X10_canBeServed_2 {k : Option Value → mj_H → Prop} {G : mj_K} (hG : mj_cl2 cX10_canBeServed (TbX10 3 ((some FieldType.boolean)) []) k G)   {v1 : Int32} {v2 : Int32} {s : St} (hw : ok (F_X10_canBeServed_2 v1 v2 s) (fun p => k (some (.int p)) (mkCs s))) : G 2 [.ref 45, .int v1, .int v2] [] (mkCs s) 0 0 := by
  unfold F_X10_canBeServed_2 at hw
  refine lp_ok (B_X10_canBeServed_2 v1 s) (fun x => G 2 [.ref 45, .int v1, .int x] [] (mkCs s) 0 0) _ ?_ _ _ (ok_bind hw)
  rintro v2 hb
  exact b_X10_canBeServed_2 hG (fun _ z => z) (fun y hw => by exact hG.2 _ _ _ _ _ _ _ _ _ (by exact trivial) (Nat.zero_le _) (Nat.zero_le _) (g_X10_canBeServed_37 hG  hw :)) (fun y hw => by exact hG.2 _ _ _ _ _ _ _ _ _ (by exact trivial) (Nat.zero_le _) (Nat.zero_le _) (g_X10_canBeServed_29 hG  hw :)) hb

set_option maxHeartbeats 4000000 in
set_option maxRecDepth 20000 in
theorem g_X10_canBeServed {k : Option Value → mj_H → Prop} {G : mj_K} (hG : mj_cl2 cX10_canBeServed (TbX10 3 ((some FieldType.boolean)) []) k G) {v1 : Int32} {s : St} (hw : ok (F_X10_canBeServed v1 s) (fun p => k (some (.int p)) (mkCs s))) : G 0 [.ref 45, .int v1] [] (mkCs s) 0 0 := by
  unfold F_X10_canBeServed at hw
  refine mj_run hG.1 (fun pc => pc == 2 || pc == 29 || pc == 37) 4000 ?_
  simp only [mj_step, mj_W_s, mj_fin, List.getElem?_cons_zero, List.getElem?_cons_succ, mj_go, Nat.reduceAdd, Nat.reduceSub, Nat.reduceLT, Nat.reduceLeDiff, Nat.zero_add, Nat.reduceEqDiff, Nat.reduceBEq, ↓reduceIte, Bool.false_eq_true, List.append_nil, List.nil_append, List.cons_append, Option.toList, and_true, true_and, true_or, or_true, reduceCtorEq, List.map_nil, bI_eq0, bI_eq1, bool_ft, pk_us, vnar0, vnar1, Bool.or_false, Bool.or_true, Bool.false_or, Bool.true_or, mj_kne, eq_self, Int32.reduceLT, Int32.reduceLE, Int32.reduceAdd, Int32.reduceSub, Int32.reduceMul, not_true_eq_false, not_false_eq_true, false_implies, true_implies, D_X10_canBeServed, mj_F_aload_n_k, mj_F_getfield_i, mj_F_goto_off, mj_F_iadd, mj_F_iaload, mj_F_iconst_n, mj_F_ifCond_le_off, mj_F_if_icmp_ge_off, mj_F_iinc_k_n, mj_F_iload_n_k, mj_F_imul, mj_F_ireturn, mj_F_istore_n_k, mj_set, mj_set0, mj_unk, mj_c2, mj_kc, FT_X10, gS_C45, gCf10_12, gS_C52, sS_Ca_52, gCf10_11, gS_C51, sS_Ca_51, J_X10_canBeServed]
  exact hG.2 _ _ _ _ _ _ _ _ _ (by refine ⟨Or.inr rfl, ?_⟩; refine ⟨Or.inr rfl, ?_⟩; refine ⟨Or.inr rfl, ?_⟩; exact trivial) (Nat.zero_le _) (Nat.zero_le _) (g_X10_canBeServed_2 hG  hw :)

def c_X10_canBeServed : mj_S := fun as h k => ∃ (v1 : Int32) (s : St), as = [.ref 45, .int v1] ∧ h = mkCs s ∧ ok (F_X10_canBeServed v1 s) (fun p => k (some (.int p)) (mkCs s))
theorem c_X10_canBeServed_in {v1 : Int32} {s : St} {k : Option Value → mj_H → Prop} (hw : ok (F_X10_canBeServed v1 s) (fun p => k (some (.int p)) (mkCs s))) : c_X10_canBeServed [.ref 45, .int v1] (mkCs s) k := ⟨v1, s, rfl, rfl, hw⟩
theorem m_X10_canBeServed (l : Launch) : mj_Met l yX10_canBeServed cX10_canBeServed 3 ((some FieldType.boolean)) 0 0 0 c_X10_canBeServed := by
  refine mj_body2 false (TbX10 3 ((some FieldType.boolean)) []) (by decide) rfl rfl (fun h => nomatch h) (tfX10 _ (fun _ h => nomatch h)) ?_
  rintro as h k ⟨v1, s, rfl, rfl, hw⟩
  exact ⟨rfl, fun G hG => g_X10_canBeServed hG hw⟩
def B_X10_lowestToServe_2 (v1 : Int32) (s : St) : Int32 → Option ((Int32) ⊕ ((Unit) ⊕ (Int32)))
  | v2 =>
  if (s.1 501) ≤ v2 then
    some (.inr (.inl ()))
  else
    if v1 = 0 then
      (F_X10_canBeServed v2 s).bind fun r1 =>
      if r1 = 0 then
        some (.inl (v2 + 1))
      else
        some (.inr (.inr v2))
    else
      (rd s 509 20 v2).bind fun x2 =>
      if x2 = 0 then
        (rd s 502 20 v2).bind fun x3 =>
        (F_X2_isShutWet x3 s).bind fun r4 =>
        if r4 = 0 then
          (F_X10_canBeServed v2 s).bind fun r5 =>
          if r5 = 0 then
            some (.inl (v2 + 1))
          else
            some (.inr (.inr v2))
        else
          some (.inl (v2 + 1))
      else
        some (.inl (v2 + 1))
def F_X10_lowestToServe_74 (s : St) : Option (Int32) :=
  some (-1)
def F_X10_lowestToServe_66 (v2 : Int32) (s : St) : Option (Int32) :=
  some v2
def F_X10_lowestToServe_2 (v1 : Int32) (v2 : Int32) (s : St) : Option (Int32) :=
  (lp (B_X10_lowestToServe_2 v1 s) FU v2).bind (Sum.elim (fun _ => F_X10_lowestToServe_74 s) (fun y => F_X10_lowestToServe_66 y s))
def F_X10_lowestToServe (v1 : Int32) (s : St) : Option (Int32) :=
  F_X10_lowestToServe_2 v1 0 s
theorem J_X10_lowestToServe : mj_t 10 64 = 74 ∧ mj_t 14 38 = 52 ∧ mj_t 26 22 = 48 ∧ mj_t 45 7 = 52 ∧ mj_t 49 4 = 53 ∧ mj_t 55 13 = 68 ∧ mj_t 63 5 = 68 ∧ mj_t 71 (-69) = 2 ∧ (0 ≤ ((10 : Nat) : Int) + 64) = True ∧ (0 ≤ ((14 : Nat) : Int) + 38) = True ∧ (0 ≤ ((26 : Nat) : Int) + 22) = True ∧ (0 ≤ ((45 : Nat) : Int) + 7) = True ∧ (0 ≤ ((49 : Nat) : Int) + 4) = True ∧ (0 ≤ ((55 : Nat) : Int) + 13) = True ∧ (0 ≤ ((63 : Nat) : Int) + 5) = True ∧ (0 ≤ ((71 : Nat) : Int) + (-69)) = True := by and_intros <;> first | rfl | exact eq_true (by decide)
def ct_X10_lowestToServe : List (Nat × mj_Cs) := [(109, 0, 2, 2, 0, 0, c_X2_isShutWet), (112, 0, 2, 10, 0, 0, c_X10_canBeServed)]
theorem L_X10_lowestToServe : mj_lk ct_X10_lowestToServe 109 = some (0, 2, 2, 0, 0, c_X2_isShutWet) ∧ mj_lk ct_X10_lowestToServe 112 = some (0, 2, 10, 0, 0, c_X10_canBeServed) := ⟨rfl, rfl⟩
set_option maxHeartbeats 4000000 in
set_option maxRecDepth 20000 in
theorem b_X10_lowestToServe_2 {k : Option Value → mj_H → Prop} {G : mj_K} (hG : mj_cl2 cX10_lowestToServe (TbX10 4 ((some FieldType.int)) ct_X10_lowestToServe) k G) {v1 : Int32} {s : St} {P : Int32 → Prop} {K : (Unit) ⊕ (Int32) → Prop} (hP : ∀ x, P x → G 2 [.ref 45, .int v1, .int x] [] (mkCs s) 0 0) (hK0 : ∀ y, K (.inl y) → G 74 [] [] (mkCs s) 0 0) (hK1 : ∀ y, K (.inr y) → G 66 [mj_unk, mj_unk, .int y] [] (mkCs s) 0 0) {v2 : Int32} (hw : ok (B_X10_lowestToServe_2 v1 s v2) (Sum.elim P K)) : G 2 [.ref 45, .int v1, .int v2] [] (mkCs s) 0 0 := by
  unfold B_X10_lowestToServe_2 at hw
  refine mj_run hG.1 (fun pc => pc == 2 || pc == 45 || pc == 63 || pc == 66 || pc == 74) 4000 ?_
  simp only [mj_step, mj_W_s, mj_fin, List.getElem?_cons_zero, List.getElem?_cons_succ, mj_go, Nat.reduceAdd, Nat.reduceSub, Nat.reduceLT, Nat.reduceLeDiff, Nat.zero_add, Nat.reduceEqDiff, Nat.reduceBEq, ↓reduceIte, Bool.false_eq_true, List.append_nil, List.nil_append, List.cons_append, Option.toList, and_true, true_and, true_or, or_true, reduceCtorEq, List.map_nil, bI_eq0, bI_eq1, bool_ft, pk_us, vnar0, vnar1, Bool.or_false, Bool.or_true, Bool.false_or, Bool.true_or, mj_kne, eq_self, Int32.reduceLT, Int32.reduceLE, Int32.reduceAdd, Int32.reduceSub, Int32.reduceMul, not_true_eq_false, not_false_eq_true, false_implies, true_implies, D_X10_lowestToServe, mj_F_aload_n_k, mj_F_baload, mj_F_getfield_i, mj_F_goto_off, mj_F_iaload, mj_F_iconst_n, mj_F_ifCond_eq_off, mj_F_ifCond_ne_off, mj_F_if_icmp_ge_off, mj_F_iinc_k_n, mj_F_iload_n_k, mj_F_invokevirtual_i, mj_F_ireturn, mj_F_istore_n_k, mj_set, mj_set0, mj_unk, mj_c2, mj_kc, FT_X10, L_X10_lowestToServe, List.take_succ_cons, List.take_zero, List.drop_succ_cons, List.drop_zero, List.reverse_cons, List.reverse_nil, List.length_cons, List.length_nil, gS_C45, gCf10_3, gS_C35, gCf5_1, gCf5_9, gS_C43, sS_Ca_43, gCf10_0, gCf5_2, gS_C36, sS_Ca_36, gS_C1, J_X10_lowestToServe]
  refine ⟨fun c => ?_, fun c => ?_⟩
  · replace hw := ok_t hw c
    exact hG.2 _ _ _ _ _ _ _ _ _ (by exact trivial) (Nat.zero_le _) (Nat.zero_le _) (hK0 _ (ok_some hw :) :)
  · replace hw := ok_f hw c
    refine ⟨fun c => ?_, fun c => ?_⟩
    · replace hw := ok_t hw c
      refine c_X10_canBeServed_in (ok_imp (ok_bind hw) ?_)
      intro p hw
      simp only [Option.toList, List.nil_append, List.cons_append, Nat.reduceSub]
      refine mj_run hG.1 (fun pc => pc == 2 || pc == 45 || pc == 63 || pc == 66 || pc == 74) 4000 ?_
      simp only [mj_step, mj_W_s, mj_fin, List.getElem?_cons_zero, List.getElem?_cons_succ, mj_go, Nat.reduceAdd, Nat.reduceSub, Nat.reduceLT, Nat.reduceLeDiff, Nat.zero_add, Nat.reduceEqDiff, Nat.reduceBEq, ↓reduceIte, Bool.false_eq_true, List.append_nil, List.nil_append, List.cons_append, Option.toList, and_true, true_and, true_or, or_true, reduceCtorEq, List.map_nil, bI_eq0, bI_eq1, bool_ft, pk_us, vnar0, vnar1, Bool.or_false, Bool.or_true, Bool.false_or, Bool.true_or, mj_kne, eq_self, Int32.reduceLT, Int32.reduceLE, Int32.reduceAdd, Int32.reduceSub, Int32.reduceMul, not_true_eq_false, not_false_eq_true, false_implies, true_implies, D_X10_lowestToServe, mj_F_aload_n_k, mj_F_baload, mj_F_getfield_i, mj_F_goto_off, mj_F_iaload, mj_F_iconst_n, mj_F_ifCond_eq_off, mj_F_ifCond_ne_off, mj_F_if_icmp_ge_off, mj_F_iinc_k_n, mj_F_iload_n_k, mj_F_invokevirtual_i, mj_F_ireturn, mj_F_istore_n_k, mj_set, mj_set0, mj_unk, mj_c2, mj_kc, FT_X10, L_X10_lowestToServe, List.take_succ_cons, List.take_zero, List.drop_succ_cons, List.drop_zero, List.reverse_cons, List.reverse_nil, List.length_cons, List.length_nil, gS_C45, gCf10_3, gS_C35, gCf5_1, gCf5_9, gS_C43, sS_Ca_43, gCf10_0, gCf5_2, gS_C36, sS_Ca_36, gS_C1, J_X10_lowestToServe]
      refine ⟨fun c => ?_, fun c => ?_⟩
      · replace hw := ok_t hw c
        exact hG.2 _ _ _ _ _ _ _ _ _ (by refine ⟨Or.inr rfl, ?_⟩; refine ⟨Or.inr rfl, ?_⟩; refine ⟨Or.inr rfl, ?_⟩; exact trivial) (Nat.zero_le _) (Nat.zero_le _) (hP _ (ok_some hw :) :)
      · replace hw := ok_f hw c
        exact hG.2 _ _ _ _ _ _ _ _ _ (by refine ⟨Or.inl rfl, ?_⟩; refine ⟨Or.inl rfl, ?_⟩; refine ⟨Or.inr rfl, ?_⟩; exact trivial) (Nat.zero_le _) (Nat.zero_le _) (hK1 _ (ok_some hw :) :)
    · replace hw := ok_f hw c
      refine ⟨(ok_rd hw).1, ?_⟩
      replace hw := (ok_rd hw).2
      refine ⟨fun c => ?_, fun c => ?_⟩
      · replace hw := ok_f hw c
        exact hG.2 _ _ _ _ _ _ _ _ _ (by refine ⟨Or.inr rfl, ?_⟩; refine ⟨Or.inr rfl, ?_⟩; refine ⟨Or.inr rfl, ?_⟩; exact trivial) (Nat.zero_le _) (Nat.zero_le _) (hP _ (ok_some hw :) :)
      · replace hw := ok_t hw c
        refine ⟨(ok_rd hw).1, ?_⟩
        replace hw := (ok_rd hw).2
        refine c_X2_isShutWet_in (ok_imp (ok_bind hw) ?_)
        intro p hw
        simp only [Option.toList, List.nil_append, List.cons_append, Nat.reduceSub]
        refine mj_run hG.1 (fun pc => pc == 2 || pc == 45 || pc == 63 || pc == 66 || pc == 74) 4000 ?_
        simp only [mj_step, mj_W_s, mj_fin, List.getElem?_cons_zero, List.getElem?_cons_succ, mj_go, Nat.reduceAdd, Nat.reduceSub, Nat.reduceLT, Nat.reduceLeDiff, Nat.zero_add, Nat.reduceEqDiff, Nat.reduceBEq, ↓reduceIte, Bool.false_eq_true, List.append_nil, List.nil_append, List.cons_append, Option.toList, and_true, true_and, true_or, or_true, reduceCtorEq, List.map_nil, bI_eq0, bI_eq1, bool_ft, pk_us, vnar0, vnar1, Bool.or_false, Bool.or_true, Bool.false_or, Bool.true_or, mj_kne, eq_self, Int32.reduceLT, Int32.reduceLE, Int32.reduceAdd, Int32.reduceSub, Int32.reduceMul, not_true_eq_false, not_false_eq_true, false_implies, true_implies, D_X10_lowestToServe, mj_F_aload_n_k, mj_F_baload, mj_F_getfield_i, mj_F_goto_off, mj_F_iaload, mj_F_iconst_n, mj_F_ifCond_eq_off, mj_F_ifCond_ne_off, mj_F_if_icmp_ge_off, mj_F_iinc_k_n, mj_F_iload_n_k, mj_F_invokevirtual_i, mj_F_ireturn, mj_F_istore_n_k, mj_set, mj_set0, mj_unk, mj_c2, mj_kc, FT_X10, L_X10_lowestToServe, List.take_succ_cons, List.take_zero, List.drop_succ_cons, List.drop_zero, List.reverse_cons, List.reverse_nil, List.length_cons, List.length_nil, gS_C45, gCf10_3, gS_C35, gCf5_1, gCf5_9, gS_C43, sS_Ca_43, gCf10_0, gCf5_2, gS_C36, sS_Ca_36, gS_C1, J_X10_lowestToServe]
        refine ⟨fun c => ?_, fun c => ?_⟩
        · replace hw := ok_t hw c
          refine c_X10_canBeServed_in (ok_imp (ok_bind hw) ?_)
          intro p hw
          simp only [Option.toList, List.nil_append, List.cons_append, Nat.reduceSub]
          refine mj_run hG.1 (fun pc => pc == 2 || pc == 45 || pc == 63 || pc == 66 || pc == 74) 4000 ?_
          simp only [mj_step, mj_W_s, mj_fin, List.getElem?_cons_zero, List.getElem?_cons_succ, mj_go, Nat.reduceAdd, Nat.reduceSub, Nat.reduceLT, Nat.reduceLeDiff, Nat.zero_add, Nat.reduceEqDiff, Nat.reduceBEq, ↓reduceIte, Bool.false_eq_true, List.append_nil, List.nil_append, List.cons_append, Option.toList, and_true, true_and, true_or, or_true, reduceCtorEq, List.map_nil, bI_eq0, bI_eq1, bool_ft, pk_us, vnar0, vnar1, Bool.or_false, Bool.or_true, Bool.false_or, Bool.true_or, mj_kne, eq_self, Int32.reduceLT, Int32.reduceLE, Int32.reduceAdd, Int32.reduceSub, Int32.reduceMul, not_true_eq_false, not_false_eq_true, false_implies, true_implies, D_X10_lowestToServe, mj_F_aload_n_k, mj_F_baload, mj_F_getfield_i, mj_F_goto_off, mj_F_iaload, mj_F_iconst_n, mj_F_ifCond_eq_off, mj_F_ifCond_ne_off, mj_F_if_icmp_ge_off, mj_F_iinc_k_n, mj_F_iload_n_k, mj_F_invokevirtual_i, mj_F_ireturn, mj_F_istore_n_k, mj_set, mj_set0, mj_unk, mj_c2, mj_kc, FT_X10, L_X10_lowestToServe, List.take_succ_cons, List.take_zero, List.drop_succ_cons, List.drop_zero, List.reverse_cons, List.reverse_nil, List.length_cons, List.length_nil, gS_C45, gCf10_3, gS_C35, gCf5_1, gCf5_9, gS_C43, sS_Ca_43, gCf10_0, gCf5_2, gS_C36, sS_Ca_36, gS_C1, J_X10_lowestToServe]
          refine ⟨fun c => ?_, fun c => ?_⟩
          · replace hw := ok_t hw c
            exact hG.2 _ _ _ _ _ _ _ _ _ (by refine ⟨Or.inr rfl, ?_⟩; refine ⟨Or.inr rfl, ?_⟩; refine ⟨Or.inr rfl, ?_⟩; exact trivial) (Nat.zero_le _) (Nat.zero_le _) (hP _ (ok_some hw :) :)
          · replace hw := ok_f hw c
            exact hG.2 _ _ _ _ _ _ _ _ _ (by refine ⟨Or.inl rfl, ?_⟩; refine ⟨Or.inl rfl, ?_⟩; refine ⟨Or.inr rfl, ?_⟩; exact trivial) (Nat.zero_le _) (Nat.zero_le _) (hK1 _ (ok_some hw :) :)
        · replace hw := ok_f hw c
          exact hG.2 _ _ _ _ _ _ _ _ _ (by refine ⟨Or.inr rfl, ?_⟩; refine ⟨Or.inr rfl, ?_⟩; refine ⟨Or.inr rfl, ?_⟩; exact trivial) (Nat.zero_le _) (Nat.zero_le _) (hP _ (ok_some hw :) :)

set_option maxHeartbeats 4000000 in
set_option maxRecDepth 20000 in
theorem g_X10_lowestToServe_74 {k : Option Value → mj_H → Prop} {G : mj_K} (hG : mj_cl2 cX10_lowestToServe (TbX10 4 ((some FieldType.int)) ct_X10_lowestToServe) k G)   {s : St} (hw : ok (F_X10_lowestToServe_74 s) (fun p => k (some (.int p)) (mkCs s))) : G 74 [] [] (mkCs s) 0 0 := by
  unfold F_X10_lowestToServe_74 at hw
  refine mj_run hG.1 (fun pc => pc == 2 || pc == 45 || pc == 63 || pc == 66 || pc == 74) 4000 ?_
  simp only [mj_step, mj_W_s, mj_fin, List.getElem?_cons_zero, List.getElem?_cons_succ, mj_go, Nat.reduceAdd, Nat.reduceSub, Nat.reduceLT, Nat.reduceLeDiff, Nat.zero_add, Nat.reduceEqDiff, Nat.reduceBEq, ↓reduceIte, Bool.false_eq_true, List.append_nil, List.nil_append, List.cons_append, Option.toList, and_true, true_and, true_or, or_true, reduceCtorEq, List.map_nil, bI_eq0, bI_eq1, bool_ft, pk_us, vnar0, vnar1, Bool.or_false, Bool.or_true, Bool.false_or, Bool.true_or, mj_kne, eq_self, Int32.reduceLT, Int32.reduceLE, Int32.reduceAdd, Int32.reduceSub, Int32.reduceMul, not_true_eq_false, not_false_eq_true, false_implies, true_implies, D_X10_lowestToServe, mj_F_aload_n_k, mj_F_baload, mj_F_getfield_i, mj_F_goto_off, mj_F_iaload, mj_F_iconst_n, mj_F_ifCond_eq_off, mj_F_ifCond_ne_off, mj_F_if_icmp_ge_off, mj_F_iinc_k_n, mj_F_iload_n_k, mj_F_invokevirtual_i, mj_F_ireturn, mj_F_istore_n_k, mj_set, mj_set0, mj_unk, mj_c2, mj_kc, FT_X10, L_X10_lowestToServe, List.take_succ_cons, List.take_zero, List.drop_succ_cons, List.drop_zero, List.reverse_cons, List.reverse_nil, List.length_cons, List.length_nil, gS_C45, gCf10_3, gS_C35, gCf5_1, gCf5_9, gS_C43, sS_Ca_43, gCf10_0, gCf5_2, gS_C36, sS_Ca_36, gS_C1, J_X10_lowestToServe]
  exact (ok_some hw :)

set_option maxHeartbeats 4000000 in
set_option maxRecDepth 20000 in
theorem g_X10_lowestToServe_66 {k : Option Value → mj_H → Prop} {G : mj_K} (hG : mj_cl2 cX10_lowestToServe (TbX10 4 ((some FieldType.int)) ct_X10_lowestToServe) k G)   {v2 : Int32} {s : St} (hw : ok (F_X10_lowestToServe_66 v2 s) (fun p => k (some (.int p)) (mkCs s))) : G 66 [mj_unk, mj_unk, .int v2] [] (mkCs s) 0 0 := by
  unfold F_X10_lowestToServe_66 at hw
  refine mj_run hG.1 (fun pc => pc == 2 || pc == 45 || pc == 63 || pc == 66 || pc == 74) 4000 ?_
  simp only [mj_step, mj_W_s, mj_fin, List.getElem?_cons_zero, List.getElem?_cons_succ, mj_go, Nat.reduceAdd, Nat.reduceSub, Nat.reduceLT, Nat.reduceLeDiff, Nat.zero_add, Nat.reduceEqDiff, Nat.reduceBEq, ↓reduceIte, Bool.false_eq_true, List.append_nil, List.nil_append, List.cons_append, Option.toList, and_true, true_and, true_or, or_true, reduceCtorEq, List.map_nil, bI_eq0, bI_eq1, bool_ft, pk_us, vnar0, vnar1, Bool.or_false, Bool.or_true, Bool.false_or, Bool.true_or, mj_kne, eq_self, Int32.reduceLT, Int32.reduceLE, Int32.reduceAdd, Int32.reduceSub, Int32.reduceMul, not_true_eq_false, not_false_eq_true, false_implies, true_implies, D_X10_lowestToServe, mj_F_aload_n_k, mj_F_baload, mj_F_getfield_i, mj_F_goto_off, mj_F_iaload, mj_F_iconst_n, mj_F_ifCond_eq_off, mj_F_ifCond_ne_off, mj_F_if_icmp_ge_off, mj_F_iinc_k_n, mj_F_iload_n_k, mj_F_invokevirtual_i, mj_F_ireturn, mj_F_istore_n_k, mj_set, mj_set0, mj_unk, mj_c2, mj_kc, FT_X10, L_X10_lowestToServe, List.take_succ_cons, List.take_zero, List.drop_succ_cons, List.drop_zero, List.reverse_cons, List.reverse_nil, List.length_cons, List.length_nil, gS_C45, gCf10_3, gS_C35, gCf5_1, gCf5_9, gS_C43, sS_Ca_43, gCf10_0, gCf5_2, gS_C36, sS_Ca_36, gS_C1, J_X10_lowestToServe]
  exact (ok_some hw :)

set_option maxHeartbeats 4000000 in
theorem g_X10_lowestToServe_2 {k : Option Value → mj_H → Prop} {G : mj_K} (hG : mj_cl2 cX10_lowestToServe (TbX10 4 ((some FieldType.int)) ct_X10_lowestToServe) k G)   {v1 : Int32} {v2 : Int32} {s : St} (hw : ok (F_X10_lowestToServe_2 v1 v2 s) (fun p => k (some (.int p)) (mkCs s))) : G 2 [.ref 45, .int v1, .int v2] [] (mkCs s) 0 0 := by
  unfold F_X10_lowestToServe_2 at hw
  refine lp_ok (B_X10_lowestToServe_2 v1 s) (fun x => G 2 [.ref 45, .int v1, .int x] [] (mkCs s) 0 0) _ ?_ _ _ (ok_bind hw)
  rintro v2 hb
  exact b_X10_lowestToServe_2 hG (fun _ z => z) (fun y hw => by exact hG.2 _ _ _ _ _ _ _ _ _ (by exact trivial) (Nat.zero_le _) (Nat.zero_le _) (g_X10_lowestToServe_74 hG  hw :)) (fun y hw => by exact hG.2 _ _ _ _ _ _ _ _ _ (by refine ⟨Or.inl rfl, ?_⟩; refine ⟨Or.inl rfl, ?_⟩; refine ⟨Or.inr rfl, ?_⟩; exact trivial) (Nat.zero_le _) (Nat.zero_le _) (g_X10_lowestToServe_66 hG  hw :)) hb

set_option maxHeartbeats 4000000 in
set_option maxRecDepth 20000 in
theorem g_X10_lowestToServe {k : Option Value → mj_H → Prop} {G : mj_K} (hG : mj_cl2 cX10_lowestToServe (TbX10 4 ((some FieldType.int)) ct_X10_lowestToServe) k G) {v1 : Int32} {s : St} (hw : ok (F_X10_lowestToServe v1 s) (fun p => k (some (.int p)) (mkCs s))) : G 0 [.ref 45, .int v1] [] (mkCs s) 0 0 := by
  unfold F_X10_lowestToServe at hw
  refine mj_run hG.1 (fun pc => pc == 2 || pc == 45 || pc == 63 || pc == 66 || pc == 74) 4000 ?_
  simp only [mj_step, mj_W_s, mj_fin, List.getElem?_cons_zero, List.getElem?_cons_succ, mj_go, Nat.reduceAdd, Nat.reduceSub, Nat.reduceLT, Nat.reduceLeDiff, Nat.zero_add, Nat.reduceEqDiff, Nat.reduceBEq, ↓reduceIte, Bool.false_eq_true, List.append_nil, List.nil_append, List.cons_append, Option.toList, and_true, true_and, true_or, or_true, reduceCtorEq, List.map_nil, bI_eq0, bI_eq1, bool_ft, pk_us, vnar0, vnar1, Bool.or_false, Bool.or_true, Bool.false_or, Bool.true_or, mj_kne, eq_self, Int32.reduceLT, Int32.reduceLE, Int32.reduceAdd, Int32.reduceSub, Int32.reduceMul, not_true_eq_false, not_false_eq_true, false_implies, true_implies, D_X10_lowestToServe, mj_F_aload_n_k, mj_F_baload, mj_F_getfield_i, mj_F_goto_off, mj_F_iaload, mj_F_iconst_n, mj_F_ifCond_eq_off, mj_F_ifCond_ne_off, mj_F_if_icmp_ge_off, mj_F_iinc_k_n, mj_F_iload_n_k, mj_F_invokevirtual_i, mj_F_ireturn, mj_F_istore_n_k, mj_set, mj_set0, mj_unk, mj_c2, mj_kc, FT_X10, L_X10_lowestToServe, List.take_succ_cons, List.take_zero, List.drop_succ_cons, List.drop_zero, List.reverse_cons, List.reverse_nil, List.length_cons, List.length_nil, gS_C45, gCf10_3, gS_C35, gCf5_1, gCf5_9, gS_C43, sS_Ca_43, gCf10_0, gCf5_2, gS_C36, sS_Ca_36, gS_C1, J_X10_lowestToServe]
  exact hG.2 _ _ _ _ _ _ _ _ _ (by refine ⟨Or.inr rfl, ?_⟩; refine ⟨Or.inr rfl, ?_⟩; refine ⟨Or.inr rfl, ?_⟩; exact trivial) (Nat.zero_le _) (Nat.zero_le _) (g_X10_lowestToServe_2 hG  hw :)

def c_X10_lowestToServe : mj_S := fun as h k => ∃ (v1 : Int32) (s : St), as = [.ref 45, .int v1] ∧ h = mkCs s ∧ ok (F_X10_lowestToServe v1 s) (fun p => k (some (.int p)) (mkCs s))
theorem c_X10_lowestToServe_in {v1 : Int32} {s : St} {k : Option Value → mj_H → Prop} (hw : ok (F_X10_lowestToServe v1 s) (fun p => k (some (.int p)) (mkCs s))) : c_X10_lowestToServe [.ref 45, .int v1] (mkCs s) k := ⟨v1, s, rfl, rfl, hw⟩
theorem m_X10_lowestToServe (l : Launch) : mj_Met l yX10_lowestToServe cX10_lowestToServe 4 ((some FieldType.int)) 3 0 0 c_X10_lowestToServe := by
  refine mj_body2 false (TbX10 4 ((some FieldType.int)) ct_X10_lowestToServe) (by decide) rfl rfl (fun h => nomatch h) (tfX10 _ (List.forall_mem_cons.mpr ⟨cfX10_109 (m_X2_isShutWet l) (by decide), List.forall_mem_cons.mpr ⟨cfX10_112 (m_X10_canBeServed l) (by decide), fun _ h => nomatch h⟩⟩)) ?_
  rintro as h k ⟨v1, s, rfl, rfl, hw⟩
  exact ⟨rfl, fun G hG => g_X10_lowestToServe hG hw⟩
def B_X10_unload_5 (v1 : Int32) : Int32 × Int32 × St → Option ((Int32 × Int32 × St) ⊕ ((St)))
  | (v3, v4, s) =>
  if 5 ≤ v4 then
    some (.inr s)
  else
    (rd s 1011 5 v4).bind fun x1 =>
    (rd s 1012 100 ((v1 * 5) + v4)).bind fun x2 =>
    (rd s 1011 5 v4).bind fun x3 =>
    (wr s 1011 5 v4 (x3 - (zmn v3 (zmn x1 x2)))).bind fun s4 =>
    (rd s4 1012 100 ((v1 * 5) + v4)).bind fun x5 =>
    (wr s4 1012 100 ((v1 * 5) + v4) (x5 - (zmn v3 (zmn x1 x2)))).bind fun s6 =>
    some (.inl ((v3 - (zmn v3 (zmn x1 x2))), (v4 + 1), s6))
def F_X10_unload_77 (s : St) : Option (St) :=
  some s
def F_X10_unload_5 (v1 : Int32) (v3 : Int32) (v4 : Int32) (s : St) : Option (St) :=
  (lp (B_X10_unload_5 v1) FU (v3, v4, s)).bind (fun y => F_X10_unload_77 y)
def F_X10_unload (v1 : Int32) (v2 : Int32) (s : St) : Option (St) :=
  F_X10_unload_5 v1 v2 0 s
theorem J_X10_unload : mj_t 8 69 = 77 ∧ mj_t 74 (-69) = 5 ∧ (0 ≤ ((8 : Nat) : Int) + 69) = True ∧ (0 ≤ ((74 : Nat) : Int) + (-69)) = True := by and_intros <;> first | rfl | exact eq_true (by decide)
set_option maxHeartbeats 4000000 in
set_option maxRecDepth 20000 in
theorem b_X10_unload_5 {k : Option Value → mj_H → Prop} {G : mj_K} (hG : mj_cl2 cX10_unload (TbX10 6 (none) []) k G) (hM : mj_ml cX10_unload yX10_unload.cls G) {v1 : Int32} {P : Int32 × Int32 × St → Prop} {K : (St) → Prop} (hP : ∀ x, P x → G 5 [.ref 45, .int v1, mj_unk, .int x.1, .int x.2.1] [] (mkCs x.2.2) 0 0) (hK0 : ∀ y, K y → G 77 [] [] (mkCs y) 0 0) {v3 : Int32} {v4 : Int32} {s : St} (hw : ok (B_X10_unload_5 v1 (v3, v4, s)) (Sum.elim P K)) : G 5 [.ref 45, .int v1, mj_unk, .int v3, .int v4] [] (mkCs s) 0 0 := by
  unfold B_X10_unload_5 at hw
  refine mj_run hG.1 (fun pc => pc == 5 || pc == 30 || pc == 33 || pc == 77) 4000 ?_
  simp only [mj_step, mj_W_s, mj_fin, List.getElem?_cons_zero, List.getElem?_cons_succ, mj_go, Nat.reduceAdd, Nat.reduceSub, Nat.reduceLT, Nat.reduceLeDiff, Nat.zero_add, Nat.reduceEqDiff, Nat.reduceBEq, ↓reduceIte, Bool.false_eq_true, List.append_nil, List.nil_append, List.cons_append, Option.toList, and_true, true_and, true_or, or_true, reduceCtorEq, List.map_nil, bI_eq0, bI_eq1, bool_ft, pk_us, vnar0, vnar1, Bool.or_false, Bool.or_true, Bool.false_or, Bool.true_or, mj_kne, eq_self, Int32.reduceLT, Int32.reduceLE, Int32.reduceAdd, Int32.reduceSub, Int32.reduceMul, not_true_eq_false, not_false_eq_true, false_implies, true_implies, D_X10_unload, mj_F_aload_n_k, mj_F_dup2, mj_F_getfield_i, mj_F_goto_off, mj_F_iadd, mj_F_iaload, mj_F_iastore, mj_F_iconst_n, mj_F_if_icmp_ge_off, mj_F_iinc_k_n, mj_F_iload_k, mj_F_iload_n_k, mj_F_imul, mj_F_invokestatic_i, mj_F_istore_k, mj_F_istore_n_k, mj_F_isub, mj_F_return_, mj_set, mj_set0, mj_unk, mj_c2, mj_kc, FT_X10, List.take_succ_cons, List.take_zero, List.drop_succ_cons, List.drop_zero, List.reverse_cons, List.reverse_nil, List.length_cons, List.length_nil, gS_C45, gCf10_11, gS_C51, sS_Ca_51, gCf10_12, gS_C52, sS_Ca_52, J_X10_unload]
  refine ⟨fun c => ?_, fun c => ?_⟩
  · replace hw := ok_t hw c
    exact hG.2 _ _ _ _ _ _ _ _ _ (by exact trivial) (Nat.zero_le _) (Nat.zero_le _) (hK0 _ (ok_some hw :) :)
  · replace hw := ok_f hw c
    refine ⟨(ok_rd hw).1, ?_⟩
    replace hw := (ok_rd hw).2
    refine ⟨(ok_rd hw).1, ?_⟩
    replace hw := (ok_rd hw).2
    refine hM 30 115 0 _ _ _ _ _ _ _ _ (by simp only [D_X10_unload]) (lkX10_115) rfl (Nat.le_of_ble_eq_true rfl) ?_
    refine hM 33 115 0 _ _ _ _ _ _ _ _ (by simp only [D_X10_unload]) (lkX10_115) rfl (Nat.le_of_ble_eq_true rfl) ?_
    refine mj_run hG.1 (fun pc => pc == 5 || pc == 30 || pc == 33 || pc == 77) 4000 ?_
    simp only [mj_step, mj_W_s, mj_fin, List.getElem?_cons_zero, List.getElem?_cons_succ, mj_go, Nat.reduceAdd, Nat.reduceSub, Nat.reduceLT, Nat.reduceLeDiff, Nat.zero_add, Nat.reduceEqDiff, Nat.reduceBEq, ↓reduceIte, Bool.false_eq_true, List.append_nil, List.nil_append, List.cons_append, Option.toList, and_true, true_and, true_or, or_true, reduceCtorEq, List.map_nil, bI_eq0, bI_eq1, bool_ft, pk_us, vnar0, vnar1, Bool.or_false, Bool.or_true, Bool.false_or, Bool.true_or, mj_kne, eq_self, Int32.reduceLT, Int32.reduceLE, Int32.reduceAdd, Int32.reduceSub, Int32.reduceMul, not_true_eq_false, not_false_eq_true, false_implies, true_implies, D_X10_unload, mj_F_aload_n_k, mj_F_dup2, mj_F_getfield_i, mj_F_goto_off, mj_F_iadd, mj_F_iaload, mj_F_iastore, mj_F_iconst_n, mj_F_if_icmp_ge_off, mj_F_iinc_k_n, mj_F_iload_k, mj_F_iload_n_k, mj_F_imul, mj_F_invokestatic_i, mj_F_istore_k, mj_F_istore_n_k, mj_F_isub, mj_F_return_, mj_set, mj_set0, mj_unk, mj_c2, mj_kc, FT_X10, List.take_succ_cons, List.take_zero, List.drop_succ_cons, List.drop_zero, List.reverse_cons, List.reverse_nil, List.length_cons, List.length_nil, gS_C45, gCf10_11, gS_C51, sS_Ca_51, gCf10_12, gS_C52, sS_Ca_52, J_X10_unload]
    refine ⟨(ok_rd hw).1, ?_⟩
    replace hw := (ok_rd hw).2
    refine ⟨(ok_wr hw).1, ?_⟩
    replace hw := (ok_wr hw).2
    refine ⟨(ok_rd hw).1, ?_⟩
    replace hw := (ok_rd hw).2
    refine ⟨(ok_wr hw).1, ?_⟩
    replace hw := (ok_wr hw).2
    exact hG.2 _ _ _ _ _ _ _ _ _ (by refine ⟨Or.inr rfl, ?_⟩; refine ⟨Or.inr rfl, ?_⟩; refine ⟨Or.inl rfl, ?_⟩; refine ⟨Or.inr rfl, ?_⟩; refine ⟨Or.inr rfl, ?_⟩; exact trivial) (Nat.zero_le _) (Nat.zero_le _) (hP _ (ok_some hw :) :)

set_option maxHeartbeats 4000000 in
set_option maxRecDepth 20000 in
theorem g_X10_unload_77 {k : Option Value → mj_H → Prop} {G : mj_K} (hG : mj_cl2 cX10_unload (TbX10 6 (none) []) k G) (hM : mj_ml cX10_unload yX10_unload.cls G)   {s : St} (hw : ok (F_X10_unload_77 s) (fun p => k none (mkCs p))) : G 77 [] [] (mkCs s) 0 0 := by
  unfold F_X10_unload_77 at hw
  refine mj_run hG.1 (fun pc => pc == 5 || pc == 30 || pc == 33 || pc == 77) 4000 ?_
  simp only [mj_step, mj_W_s, mj_fin, List.getElem?_cons_zero, List.getElem?_cons_succ, mj_go, Nat.reduceAdd, Nat.reduceSub, Nat.reduceLT, Nat.reduceLeDiff, Nat.zero_add, Nat.reduceEqDiff, Nat.reduceBEq, ↓reduceIte, Bool.false_eq_true, List.append_nil, List.nil_append, List.cons_append, Option.toList, and_true, true_and, true_or, or_true, reduceCtorEq, List.map_nil, bI_eq0, bI_eq1, bool_ft, pk_us, vnar0, vnar1, Bool.or_false, Bool.or_true, Bool.false_or, Bool.true_or, mj_kne, eq_self, Int32.reduceLT, Int32.reduceLE, Int32.reduceAdd, Int32.reduceSub, Int32.reduceMul, not_true_eq_false, not_false_eq_true, false_implies, true_implies, D_X10_unload, mj_F_aload_n_k, mj_F_dup2, mj_F_getfield_i, mj_F_goto_off, mj_F_iadd, mj_F_iaload, mj_F_iastore, mj_F_iconst_n, mj_F_if_icmp_ge_off, mj_F_iinc_k_n, mj_F_iload_k, mj_F_iload_n_k, mj_F_imul, mj_F_invokestatic_i, mj_F_istore_k, mj_F_istore_n_k, mj_F_isub, mj_F_return_, mj_set, mj_set0, mj_unk, mj_c2, mj_kc, FT_X10, List.take_succ_cons, List.take_zero, List.drop_succ_cons, List.drop_zero, List.reverse_cons, List.reverse_nil, List.length_cons, List.length_nil, gS_C45, gCf10_11, gS_C51, sS_Ca_51, gCf10_12, gS_C52, sS_Ca_52, J_X10_unload]
  exact (ok_some hw :)

set_option maxHeartbeats 4000000 in
theorem g_X10_unload_5 {k : Option Value → mj_H → Prop} {G : mj_K} (hG : mj_cl2 cX10_unload (TbX10 6 (none) []) k G) (hM : mj_ml cX10_unload yX10_unload.cls G)   {v1 : Int32} {v3 : Int32} {v4 : Int32} {s : St} (hw : ok (F_X10_unload_5 v1 v3 v4 s) (fun p => k none (mkCs p))) : G 5 [.ref 45, .int v1, mj_unk, .int v3, .int v4] [] (mkCs s) 0 0 := by
  unfold F_X10_unload_5 at hw
  refine lp_ok (B_X10_unload_5 v1) (fun x => G 5 [.ref 45, .int v1, mj_unk, .int x.1, .int x.2.1] [] (mkCs x.2.2) 0 0) _ ?_ _ _ (ok_bind hw)
  rintro ⟨v3, v4, s⟩ hb
  exact b_X10_unload_5 hG hM (fun _ z => z) (fun y hw => by exact hG.2 _ _ _ _ _ _ _ _ _ (by exact trivial) (Nat.zero_le _) (Nat.zero_le _) (g_X10_unload_77 hG hM  hw :)) hb

set_option maxHeartbeats 4000000 in
set_option maxRecDepth 20000 in
theorem g_X10_unload {k : Option Value → mj_H → Prop} {G : mj_K} (hG : mj_cl2 cX10_unload (TbX10 6 (none) []) k G) (hM : mj_ml cX10_unload yX10_unload.cls G) {v1 : Int32} {v2 : Int32} {s : St} (hw : ok (F_X10_unload v1 v2 s) (fun p => k none (mkCs p))) : G 0 [.ref 45, .int v1, .int v2] [] (mkCs s) 0 0 := by
  unfold F_X10_unload at hw
  refine mj_run hG.1 (fun pc => pc == 5 || pc == 30 || pc == 33 || pc == 77) 4000 ?_
  simp only [mj_step, mj_W_s, mj_fin, List.getElem?_cons_zero, List.getElem?_cons_succ, mj_go, Nat.reduceAdd, Nat.reduceSub, Nat.reduceLT, Nat.reduceLeDiff, Nat.zero_add, Nat.reduceEqDiff, Nat.reduceBEq, ↓reduceIte, Bool.false_eq_true, List.append_nil, List.nil_append, List.cons_append, Option.toList, and_true, true_and, true_or, or_true, reduceCtorEq, List.map_nil, bI_eq0, bI_eq1, bool_ft, pk_us, vnar0, vnar1, Bool.or_false, Bool.or_true, Bool.false_or, Bool.true_or, mj_kne, eq_self, Int32.reduceLT, Int32.reduceLE, Int32.reduceAdd, Int32.reduceSub, Int32.reduceMul, not_true_eq_false, not_false_eq_true, false_implies, true_implies, D_X10_unload, mj_F_aload_n_k, mj_F_dup2, mj_F_getfield_i, mj_F_goto_off, mj_F_iadd, mj_F_iaload, mj_F_iastore, mj_F_iconst_n, mj_F_if_icmp_ge_off, mj_F_iinc_k_n, mj_F_iload_k, mj_F_iload_n_k, mj_F_imul, mj_F_invokestatic_i, mj_F_istore_k, mj_F_istore_n_k, mj_F_isub, mj_F_return_, mj_set, mj_set0, mj_unk, mj_c2, mj_kc, FT_X10, List.take_succ_cons, List.take_zero, List.drop_succ_cons, List.drop_zero, List.reverse_cons, List.reverse_nil, List.length_cons, List.length_nil, gS_C45, gCf10_11, gS_C51, sS_Ca_51, gCf10_12, gS_C52, sS_Ca_52, J_X10_unload]
  exact hG.2 _ _ _ _ _ _ _ _ _ (by refine ⟨Or.inr rfl, ?_⟩; refine ⟨Or.inr rfl, ?_⟩; refine ⟨Or.inl rfl, ?_⟩; refine ⟨Or.inr rfl, ?_⟩; refine ⟨Or.inr rfl, ?_⟩; exact trivial) (Nat.zero_le _) (Nat.zero_le _) (g_X10_unload_5 hG hM  hw :)

def c_X10_unload : mj_S := fun as h k => ∃ (v1 : Int32) (v2 : Int32) (s : St), as = [.ref 45, .int v1, .int v2] ∧ h = mkCs s ∧ ok (F_X10_unload v1 v2 s) (fun p => k none (mkCs p))
theorem c_X10_unload_in {v1 : Int32} {v2 : Int32} {s : St} {k : Option Value → mj_H → Prop} (hw : ok (F_X10_unload v1 v2 s) (fun p => k none (mkCs p))) : c_X10_unload [.ref 45, .int v1, .int v2] (mkCs s) k := ⟨v1, v2, s, rfl, rfl, hw⟩
theorem m_X10_unload (l : Launch) : mj_Met l yX10_unload cX10_unload 6 (none) 1 0 0 c_X10_unload := by
  refine mj_body3 false (TbX10 6 (none) []) (by decide) (by decide) rfl rfl (fun h => nomatch h) (tfX10 _ (fun _ h => nomatch h)) ?_
  rintro as h k ⟨v1, v2, s, rfl, rfl, hw⟩
  exact ⟨rfl, fun G hG hM => g_X10_unload hG hM hw⟩
def B_X10_drive_11 (v2 : Int32) : Int32 × St → Option ((Int32 × St) ⊕ ((St) ⊕ (St)))
  | (v3, s) =>
  if (s.1 1009) ≤ v3 then
    some (.inr (.inl s))
  else
    (F_X10_lowestToServe v2 s).bind fun r2 =>
    if r2 = (-1) then
      some (.inr (.inr s))
    else
      (rd s 1010 10 v3).bind fun x3 =>
      (F_X10_unload r2 x3 s).bind fun s4 =>
      some (.inl ((v3 + 1), s4))
def F_X10_drive_51 (s : St) : Option (St) :=
  some s
def F_X10_drive_32 (s : St) : Option (St) :=
  some s
def F_X10_drive_11 (v2 : Int32) (v3 : Int32) (s : St) : Option (St) :=
  (lp (B_X10_drive_11 v2) FU (v3, s)).bind (Sum.elim (fun y => F_X10_drive_51 y) (fun y => F_X10_drive_32 y))
def F_X10_drive (v1 : Int32) (s : St) : Option (St) :=
  (F_X2_isWet v1 s).bind fun r1 =>
  F_X10_drive_11 r1 0 s
theorem J_X10_drive : mj_t 16 35 = 51 ∧ mj_t 29 4 = 33 ∧ mj_t 48 (-37) = 11 ∧ (0 ≤ ((16 : Nat) : Int) + 35) = True ∧ (0 ≤ ((29 : Nat) : Int) + 4) = True ∧ (0 ≤ ((48 : Nat) : Int) + (-37)) = True := by and_intros <;> first | rfl | exact eq_true (by decide)
def ct_X10_drive : List (Nat × mj_Cs) := [(73, 0, 2, 2, 0, 0, c_X2_isWet), (79, 0, 2, 10, 0, 0, c_X10_lowestToServe), (83, 0, 3, 10, 0, 0, c_X10_unload)]
theorem L_X10_drive : mj_lk ct_X10_drive 73 = some (0, 2, 2, 0, 0, c_X2_isWet) ∧ mj_lk ct_X10_drive 79 = some (0, 2, 10, 0, 0, c_X10_lowestToServe) ∧ mj_lk ct_X10_drive 83 = some (0, 3, 10, 0, 0, c_X10_unload) := ⟨rfl, rfl, rfl⟩
set_option maxHeartbeats 4000000 in
set_option maxRecDepth 20000 in
theorem b_X10_drive_11 {k : Option Value → mj_H → Prop} {G : mj_K} (hG : mj_cl2 cX10_drive (TbX10 5 (none) ct_X10_drive) k G) {v2 : Int32} {P : Int32 × St → Prop} {K : (St) ⊕ (St) → Prop} (hP : ∀ x, P x → G 11 [.ref 45, mj_unk, .int v2, .int x.1] [] (mkCs x.2) 0 0) (hK0 : ∀ y, K (.inl y) → G 51 [] [] (mkCs y) 0 0) (hK1 : ∀ y, K (.inr y) → G 32 [] [] (mkCs y) 0 0) {v3 : Int32} {s : St} (hw : ok (B_X10_drive_11 v2 (v3, s)) (Sum.elim P K)) : G 11 [.ref 45, mj_unk, .int v2, .int v3] [] (mkCs s) 0 0 := by
  unfold B_X10_drive_11 at hw
  refine mj_run hG.1 (fun pc => pc == 8 || pc == 11 || pc == 24 || pc == 32 || pc == 45 || pc == 51) 4000 ?_
  simp only [mj_step, mj_W_s, mj_fin, List.getElem?_cons_zero, List.getElem?_cons_succ, mj_go, Nat.reduceAdd, Nat.reduceSub, Nat.reduceLT, Nat.reduceLeDiff, Nat.zero_add, Nat.reduceEqDiff, Nat.reduceBEq, ↓reduceIte, Bool.false_eq_true, List.append_nil, List.nil_append, List.cons_append, Option.toList, and_true, true_and, true_or, or_true, reduceCtorEq, List.map_nil, bI_eq0, bI_eq1, bool_ft, pk_us, vnar0, vnar1, Bool.or_false, Bool.or_true, Bool.false_or, Bool.true_or, mj_kne, eq_self, Int32.reduceLT, Int32.reduceLE, Int32.reduceAdd, Int32.reduceSub, Int32.reduceMul, not_true_eq_false, not_false_eq_true, false_implies, true_implies, D_X10_drive, mj_F_aload_n_k, mj_F_getfield_i, mj_F_goto_off, mj_F_iaload, mj_F_iconst_n, mj_F_if_icmp_ge_off, mj_F_if_icmp_ne_off, mj_F_iinc_k_n, mj_F_iload_k, mj_F_iload_n_k, mj_F_invokevirtual_i, mj_F_istore_k, mj_F_istore_n_k, mj_F_return_, mj_set, mj_set0, mj_unk, mj_c2, mj_kc, FT_X10, L_X10_drive, List.take_succ_cons, List.take_zero, List.drop_succ_cons, List.drop_zero, List.reverse_cons, List.reverse_nil, List.length_cons, List.length_nil, gS_C45, gCf10_0, gCf10_9, gCf10_10, gS_C50, sS_Ca_50, gS_C1, J_X10_drive]
  refine ⟨fun c => ?_, fun c => ?_⟩
  · replace hw := ok_t hw c
    exact hG.2 _ _ _ _ _ _ _ _ _ (by exact trivial) (Nat.zero_le _) (Nat.zero_le _) (hK0 _ (ok_some hw :) :)
  · replace hw := ok_f hw c
    refine c_X10_lowestToServe_in (ok_imp (ok_bind hw) ?_)
    intro p hw
    simp only [Option.toList, List.nil_append, List.cons_append, Nat.reduceSub]
    refine mj_run hG.1 (fun pc => pc == 8 || pc == 11 || pc == 24 || pc == 32 || pc == 45 || pc == 51) 4000 ?_
    simp only [mj_step, mj_W_s, mj_fin, List.getElem?_cons_zero, List.getElem?_cons_succ, mj_go, Nat.reduceAdd, Nat.reduceSub, Nat.reduceLT, Nat.reduceLeDiff, Nat.zero_add, Nat.reduceEqDiff, Nat.reduceBEq, ↓reduceIte, Bool.false_eq_true, List.append_nil, List.nil_append, List.cons_append, Option.toList, and_true, true_and, true_or, or_true, reduceCtorEq, List.map_nil, bI_eq0, bI_eq1, bool_ft, pk_us, vnar0, vnar1, Bool.or_false, Bool.or_true, Bool.false_or, Bool.true_or, mj_kne, eq_self, Int32.reduceLT, Int32.reduceLE, Int32.reduceAdd, Int32.reduceSub, Int32.reduceMul, not_true_eq_false, not_false_eq_true, false_implies, true_implies, D_X10_drive, mj_F_aload_n_k, mj_F_getfield_i, mj_F_goto_off, mj_F_iaload, mj_F_iconst_n, mj_F_if_icmp_ge_off, mj_F_if_icmp_ne_off, mj_F_iinc_k_n, mj_F_iload_k, mj_F_iload_n_k, mj_F_invokevirtual_i, mj_F_istore_k, mj_F_istore_n_k, mj_F_return_, mj_set, mj_set0, mj_unk, mj_c2, mj_kc, FT_X10, L_X10_drive, List.take_succ_cons, List.take_zero, List.drop_succ_cons, List.drop_zero, List.reverse_cons, List.reverse_nil, List.length_cons, List.length_nil, gS_C45, gCf10_0, gCf10_9, gCf10_10, gS_C50, sS_Ca_50, gS_C1, J_X10_drive]
    refine ⟨fun c => ?_, fun c => ?_⟩
    · replace hw := ok_f hw c
      refine ⟨(ok_rd hw).1, ?_⟩
      replace hw := (ok_rd hw).2
      refine c_X10_unload_in (ok_imp (ok_bind hw) ?_)
      intro p hw
      simp only [Option.toList, List.nil_append, List.cons_append, Nat.reduceSub]
      refine mj_run hG.1 (fun pc => pc == 8 || pc == 11 || pc == 24 || pc == 32 || pc == 45 || pc == 51) 4000 ?_
      simp only [mj_step, mj_W_s, mj_fin, List.getElem?_cons_zero, List.getElem?_cons_succ, mj_go, Nat.reduceAdd, Nat.reduceSub, Nat.reduceLT, Nat.reduceLeDiff, Nat.zero_add, Nat.reduceEqDiff, Nat.reduceBEq, ↓reduceIte, Bool.false_eq_true, List.append_nil, List.nil_append, List.cons_append, Option.toList, and_true, true_and, true_or, or_true, reduceCtorEq, List.map_nil, bI_eq0, bI_eq1, bool_ft, pk_us, vnar0, vnar1, Bool.or_false, Bool.or_true, Bool.false_or, Bool.true_or, mj_kne, eq_self, Int32.reduceLT, Int32.reduceLE, Int32.reduceAdd, Int32.reduceSub, Int32.reduceMul, not_true_eq_false, not_false_eq_true, false_implies, true_implies, D_X10_drive, mj_F_aload_n_k, mj_F_getfield_i, mj_F_goto_off, mj_F_iaload, mj_F_iconst_n, mj_F_if_icmp_ge_off, mj_F_if_icmp_ne_off, mj_F_iinc_k_n, mj_F_iload_k, mj_F_iload_n_k, mj_F_invokevirtual_i, mj_F_istore_k, mj_F_istore_n_k, mj_F_return_, mj_set, mj_set0, mj_unk, mj_c2, mj_kc, FT_X10, L_X10_drive, List.take_succ_cons, List.take_zero, List.drop_succ_cons, List.drop_zero, List.reverse_cons, List.reverse_nil, List.length_cons, List.length_nil, gS_C45, gCf10_0, gCf10_9, gCf10_10, gS_C50, sS_Ca_50, gS_C1, J_X10_drive]
      exact hG.2 _ _ _ _ _ _ _ _ _ (by refine ⟨Or.inr rfl, ?_⟩; refine ⟨Or.inl rfl, ?_⟩; refine ⟨Or.inr rfl, ?_⟩; refine ⟨Or.inr rfl, ?_⟩; exact trivial) (Nat.zero_le _) (Nat.zero_le _) (hP _ (ok_some hw :) :)
    · replace hw := ok_t hw c
      exact hG.2 _ _ _ _ _ _ _ _ _ (by exact trivial) (Nat.zero_le _) (Nat.zero_le _) (hK1 _ (ok_some hw :) :)

set_option maxHeartbeats 4000000 in
set_option maxRecDepth 20000 in
theorem g_X10_drive_51 {k : Option Value → mj_H → Prop} {G : mj_K} (hG : mj_cl2 cX10_drive (TbX10 5 (none) ct_X10_drive) k G)   {s : St} (hw : ok (F_X10_drive_51 s) (fun p => k none (mkCs p))) : G 51 [] [] (mkCs s) 0 0 := by
  unfold F_X10_drive_51 at hw
  refine mj_run hG.1 (fun pc => pc == 8 || pc == 11 || pc == 24 || pc == 32 || pc == 45 || pc == 51) 4000 ?_
  simp only [mj_step, mj_W_s, mj_fin, List.getElem?_cons_zero, List.getElem?_cons_succ, mj_go, Nat.reduceAdd, Nat.reduceSub, Nat.reduceLT, Nat.reduceLeDiff, Nat.zero_add, Nat.reduceEqDiff, Nat.reduceBEq, ↓reduceIte, Bool.false_eq_true, List.append_nil, List.nil_append, List.cons_append, Option.toList, and_true, true_and, true_or, or_true, reduceCtorEq, List.map_nil, bI_eq0, bI_eq1, bool_ft, pk_us, vnar0, vnar1, Bool.or_false, Bool.or_true, Bool.false_or, Bool.true_or, mj_kne, eq_self, Int32.reduceLT, Int32.reduceLE, Int32.reduceAdd, Int32.reduceSub, Int32.reduceMul, not_true_eq_false, not_false_eq_true, false_implies, true_implies, D_X10_drive, mj_F_aload_n_k, mj_F_getfield_i, mj_F_goto_off, mj_F_iaload, mj_F_iconst_n, mj_F_if_icmp_ge_off, mj_F_if_icmp_ne_off, mj_F_iinc_k_n, mj_F_iload_k, mj_F_iload_n_k, mj_F_invokevirtual_i, mj_F_istore_k, mj_F_istore_n_k, mj_F_return_, mj_set, mj_set0, mj_unk, mj_c2, mj_kc, FT_X10, L_X10_drive, List.take_succ_cons, List.take_zero, List.drop_succ_cons, List.drop_zero, List.reverse_cons, List.reverse_nil, List.length_cons, List.length_nil, gS_C45, gCf10_0, gCf10_9, gCf10_10, gS_C50, sS_Ca_50, gS_C1, J_X10_drive]
  exact (ok_some hw :)

set_option maxHeartbeats 4000000 in
set_option maxRecDepth 20000 in
theorem g_X10_drive_32 {k : Option Value → mj_H → Prop} {G : mj_K} (hG : mj_cl2 cX10_drive (TbX10 5 (none) ct_X10_drive) k G)   {s : St} (hw : ok (F_X10_drive_32 s) (fun p => k none (mkCs p))) : G 32 [] [] (mkCs s) 0 0 := by
  unfold F_X10_drive_32 at hw
  refine mj_run hG.1 (fun pc => pc == 8 || pc == 11 || pc == 24 || pc == 32 || pc == 45 || pc == 51) 4000 ?_
  simp only [mj_step, mj_W_s, mj_fin, List.getElem?_cons_zero, List.getElem?_cons_succ, mj_go, Nat.reduceAdd, Nat.reduceSub, Nat.reduceLT, Nat.reduceLeDiff, Nat.zero_add, Nat.reduceEqDiff, Nat.reduceBEq, ↓reduceIte, Bool.false_eq_true, List.append_nil, List.nil_append, List.cons_append, Option.toList, and_true, true_and, true_or, or_true, reduceCtorEq, List.map_nil, bI_eq0, bI_eq1, bool_ft, pk_us, vnar0, vnar1, Bool.or_false, Bool.or_true, Bool.false_or, Bool.true_or, mj_kne, eq_self, Int32.reduceLT, Int32.reduceLE, Int32.reduceAdd, Int32.reduceSub, Int32.reduceMul, not_true_eq_false, not_false_eq_true, false_implies, true_implies, D_X10_drive, mj_F_aload_n_k, mj_F_getfield_i, mj_F_goto_off, mj_F_iaload, mj_F_iconst_n, mj_F_if_icmp_ge_off, mj_F_if_icmp_ne_off, mj_F_iinc_k_n, mj_F_iload_k, mj_F_iload_n_k, mj_F_invokevirtual_i, mj_F_istore_k, mj_F_istore_n_k, mj_F_return_, mj_set, mj_set0, mj_unk, mj_c2, mj_kc, FT_X10, L_X10_drive, List.take_succ_cons, List.take_zero, List.drop_succ_cons, List.drop_zero, List.reverse_cons, List.reverse_nil, List.length_cons, List.length_nil, gS_C45, gCf10_0, gCf10_9, gCf10_10, gS_C50, sS_Ca_50, gS_C1, J_X10_drive]
  exact (ok_some hw :)

set_option maxHeartbeats 4000000 in
theorem g_X10_drive_11 {k : Option Value → mj_H → Prop} {G : mj_K} (hG : mj_cl2 cX10_drive (TbX10 5 (none) ct_X10_drive) k G)   {v2 : Int32} {v3 : Int32} {s : St} (hw : ok (F_X10_drive_11 v2 v3 s) (fun p => k none (mkCs p))) : G 11 [.ref 45, mj_unk, .int v2, .int v3] [] (mkCs s) 0 0 := by
  unfold F_X10_drive_11 at hw
  refine lp_ok (B_X10_drive_11 v2) (fun x => G 11 [.ref 45, mj_unk, .int v2, .int x.1] [] (mkCs x.2) 0 0) _ ?_ _ _ (ok_bind hw)
  rintro ⟨v3, s⟩ hb
  exact b_X10_drive_11 hG (fun _ z => z) (fun y hw => by exact hG.2 _ _ _ _ _ _ _ _ _ (by exact trivial) (Nat.zero_le _) (Nat.zero_le _) (g_X10_drive_51 hG  hw :)) (fun y hw => by exact hG.2 _ _ _ _ _ _ _ _ _ (by exact trivial) (Nat.zero_le _) (Nat.zero_le _) (g_X10_drive_32 hG  hw :)) hb

set_option maxHeartbeats 4000000 in
set_option maxRecDepth 20000 in
theorem g_X10_drive {k : Option Value → mj_H → Prop} {G : mj_K} (hG : mj_cl2 cX10_drive (TbX10 5 (none) ct_X10_drive) k G) {v1 : Int32} {s : St} (hw : ok (F_X10_drive v1 s) (fun p => k none (mkCs p))) : G 0 [.ref 45, .int v1] [] (mkCs s) 0 0 := by
  unfold F_X10_drive at hw
  refine mj_run hG.1 (fun pc => pc == 8 || pc == 11 || pc == 24 || pc == 32 || pc == 45 || pc == 51) 4000 ?_
  simp only [mj_step, mj_W_s, mj_fin, List.getElem?_cons_zero, List.getElem?_cons_succ, mj_go, Nat.reduceAdd, Nat.reduceSub, Nat.reduceLT, Nat.reduceLeDiff, Nat.zero_add, Nat.reduceEqDiff, Nat.reduceBEq, ↓reduceIte, Bool.false_eq_true, List.append_nil, List.nil_append, List.cons_append, Option.toList, and_true, true_and, true_or, or_true, reduceCtorEq, List.map_nil, bI_eq0, bI_eq1, bool_ft, pk_us, vnar0, vnar1, Bool.or_false, Bool.or_true, Bool.false_or, Bool.true_or, mj_kne, eq_self, Int32.reduceLT, Int32.reduceLE, Int32.reduceAdd, Int32.reduceSub, Int32.reduceMul, not_true_eq_false, not_false_eq_true, false_implies, true_implies, D_X10_drive, mj_F_aload_n_k, mj_F_getfield_i, mj_F_goto_off, mj_F_iaload, mj_F_iconst_n, mj_F_if_icmp_ge_off, mj_F_if_icmp_ne_off, mj_F_iinc_k_n, mj_F_iload_k, mj_F_iload_n_k, mj_F_invokevirtual_i, mj_F_istore_k, mj_F_istore_n_k, mj_F_return_, mj_set, mj_set0, mj_unk, mj_c2, mj_kc, FT_X10, L_X10_drive, List.take_succ_cons, List.take_zero, List.drop_succ_cons, List.drop_zero, List.reverse_cons, List.reverse_nil, List.length_cons, List.length_nil, gS_C45, gCf10_0, gCf10_9, gCf10_10, gS_C50, sS_Ca_50, gS_C1, J_X10_drive]
  refine c_X2_isWet_in (ok_imp (ok_bind hw) ?_)
  intro p hw
  simp only [Option.toList, List.nil_append, List.cons_append, Nat.reduceSub]
  refine mj_run hG.1 (fun pc => pc == 8 || pc == 11 || pc == 24 || pc == 32 || pc == 45 || pc == 51) 4000 ?_
  simp only [mj_step, mj_W_s, mj_fin, List.getElem?_cons_zero, List.getElem?_cons_succ, mj_go, Nat.reduceAdd, Nat.reduceSub, Nat.reduceLT, Nat.reduceLeDiff, Nat.zero_add, Nat.reduceEqDiff, Nat.reduceBEq, ↓reduceIte, Bool.false_eq_true, List.append_nil, List.nil_append, List.cons_append, Option.toList, and_true, true_and, true_or, or_true, reduceCtorEq, List.map_nil, bI_eq0, bI_eq1, bool_ft, pk_us, vnar0, vnar1, Bool.or_false, Bool.or_true, Bool.false_or, Bool.true_or, mj_kne, eq_self, Int32.reduceLT, Int32.reduceLE, Int32.reduceAdd, Int32.reduceSub, Int32.reduceMul, not_true_eq_false, not_false_eq_true, false_implies, true_implies, D_X10_drive, mj_F_aload_n_k, mj_F_getfield_i, mj_F_goto_off, mj_F_iaload, mj_F_iconst_n, mj_F_if_icmp_ge_off, mj_F_if_icmp_ne_off, mj_F_iinc_k_n, mj_F_iload_k, mj_F_iload_n_k, mj_F_invokevirtual_i, mj_F_istore_k, mj_F_istore_n_k, mj_F_return_, mj_set, mj_set0, mj_unk, mj_c2, mj_kc, FT_X10, L_X10_drive, List.take_succ_cons, List.take_zero, List.drop_succ_cons, List.drop_zero, List.reverse_cons, List.reverse_nil, List.length_cons, List.length_nil, gS_C45, gCf10_0, gCf10_9, gCf10_10, gS_C50, sS_Ca_50, gS_C1, J_X10_drive]
  exact hG.2 _ _ _ _ _ _ _ _ _ (by refine ⟨Or.inr rfl, ?_⟩; refine ⟨Or.inl rfl, ?_⟩; refine ⟨Or.inr rfl, ?_⟩; refine ⟨Or.inr rfl, ?_⟩; exact trivial) (Nat.zero_le _) (Nat.zero_le _) (g_X10_drive_11 hG  hw :)

def c_X10_drive : mj_S := fun as h k => ∃ (v1 : Int32) (s : St), as = [.ref 45, .int v1] ∧ h = mkCs s ∧ ok (F_X10_drive v1 s) (fun p => k none (mkCs p))
theorem c_X10_drive_in {v1 : Int32} {s : St} {k : Option Value → mj_H → Prop} (hw : ok (F_X10_drive v1 s) (fun p => k none (mkCs p))) : c_X10_drive [.ref 45, .int v1] (mkCs s) k := ⟨v1, s, rfl, rfl, hw⟩
theorem m_X10_drive (l : Launch) : mj_Met l yX10_drive cX10_drive 5 (none) 4 0 0 c_X10_drive := by
  refine mj_body2 false (TbX10 5 (none) ct_X10_drive) (by decide) rfl rfl (fun h => nomatch h) (tfX10 _ (List.forall_mem_cons.mpr ⟨cfX10_73 (m_X2_isWet l) (by decide), List.forall_mem_cons.mpr ⟨cfX10_79 (m_X10_lowestToServe l) (by decide), List.forall_mem_cons.mpr ⟨cfX10_83 (m_X10_unload l) (by decide), fun _ h => nomatch h⟩⟩⟩)) ?_
  rintro as h k ⟨v1, s, rfl, rfl, hw⟩
  exact ⟨rfl, fun G hG => g_X10_drive hG hw⟩
def B_X10_lowestNeed_2 (v1 : Int32) (s : St) : Int32 → Option ((Int32) ⊕ ((Unit) ⊕ (Int32)))
  | v2 =>
  if 5 ≤ v2 then
    some (.inr (.inl ()))
  else
    (rd s 1012 100 ((v1 * 5) + v2)).bind fun x1 =>
    if x1 ≤ 0 then
      some (.inl (v2 + 1))
    else
      some (.inr (.inr v2))
def F_X10_lowestNeed_28 (s : St) : Option (Int32) :=
  some (-1)
def F_X10_lowestNeed_20 (v2 : Int32) (s : St) : Option (Int32) :=
  some v2
def F_X10_lowestNeed_2 (v1 : Int32) (v2 : Int32) (s : St) : Option (Int32) :=
  (lp (B_X10_lowestNeed_2 v1 s) FU v2).bind (Sum.elim (fun _ => F_X10_lowestNeed_28 s) (fun y => F_X10_lowestNeed_20 y s))
def F_X10_lowestNeed (v1 : Int32) (s : St) : Option (Int32) :=
  F_X10_lowestNeed_2 v1 0 s
theorem J_X10_lowestNeed : mj_t 4 24 = 28 ∧ mj_t 17 5 = 22 ∧ mj_t 25 (-23) = 2 ∧ (0 ≤ ((4 : Nat) : Int) + 24) = True ∧ (0 ≤ ((17 : Nat) : Int) + 5) = True ∧ (0 ≤ ((25 : Nat) : Int) + (-23)) = True := by and_intros <;> first | rfl | exact eq_true (by decide)
set_option maxHeartbeats 4000000 in
set_option maxRecDepth 20000 in
theorem b_X10_lowestNeed_2 {k : Option Value → mj_H → Prop} {G : mj_K} (hG : mj_cl2 cX10_lowestNeed (TbX10 3 ((some FieldType.int)) []) k G) {v1 : Int32} {s : St} {P : Int32 → Prop} {K : (Unit) ⊕ (Int32) → Prop} (hP : ∀ x, P x → G 2 [.ref 45, .int v1, .int x] [] (mkCs s) 0 0) (hK0 : ∀ y, K (.inl y) → G 28 [] [] (mkCs s) 0 0) (hK1 : ∀ y, K (.inr y) → G 20 [mj_unk, mj_unk, .int y] [] (mkCs s) 0 0) {v2 : Int32} (hw : ok (B_X10_lowestNeed_2 v1 s v2) (Sum.elim P K)) : G 2 [.ref 45, .int v1, .int v2] [] (mkCs s) 0 0 := by
  unfold B_X10_lowestNeed_2 at hw
  refine mj_run hG.1 (fun pc => pc == 2 || pc == 20 || pc == 28) 4000 ?_
  simp only [mj_step, mj_W_s, mj_fin, List.getElem?_cons_zero, List.getElem?_cons_succ, mj_go, Nat.reduceAdd, Nat.reduceSub, Nat.reduceLT, Nat.reduceLeDiff, Nat.zero_add, Nat.reduceEqDiff, Nat.reduceBEq, ↓reduceIte, Bool.false_eq_true, List.append_nil, List.nil_append, List.cons_append, Option.toList, and_true, true_and, true_or, or_true, reduceCtorEq, List.map_nil, bI_eq0, bI_eq1, bool_ft, pk_us, vnar0, vnar1, Bool.or_false, Bool.or_true, Bool.false_or, Bool.true_or, mj_kne, eq_self, Int32.reduceLT, Int32.reduceLE, Int32.reduceAdd, Int32.reduceSub, Int32.reduceMul, not_true_eq_false, not_false_eq_true, false_implies, true_implies, D_X10_lowestNeed, mj_F_aload_n_k, mj_F_getfield_i, mj_F_goto_off, mj_F_iadd, mj_F_iaload, mj_F_iconst_n, mj_F_ifCond_le_off, mj_F_if_icmp_ge_off, mj_F_iinc_k_n, mj_F_iload_n_k, mj_F_imul, mj_F_ireturn, mj_F_istore_n_k, mj_set, mj_set0, mj_unk, mj_c2, mj_kc, FT_X10, gS_C45, gCf10_12, gS_C52, sS_Ca_52, J_X10_lowestNeed]
  refine ⟨fun c => ?_, fun c => ?_⟩
  · replace hw := ok_t hw c
    exact hG.2 _ _ _ _ _ _ _ _ _ (by exact trivial) (Nat.zero_le _) (Nat.zero_le _) (hK0 _ (ok_some hw :) :)
  · replace hw := ok_f hw c
    refine ⟨(ok_rd hw).1, ?_⟩
    replace hw := (ok_rd hw).2
    refine ⟨fun c => ?_, fun c => ?_⟩
    · replace hw := ok_t hw c
      exact hG.2 _ _ _ _ _ _ _ _ _ (by refine ⟨Or.inr rfl, ?_⟩; refine ⟨Or.inr rfl, ?_⟩; refine ⟨Or.inr rfl, ?_⟩; exact trivial) (Nat.zero_le _) (Nat.zero_le _) (hP _ (ok_some hw :) :)
    · replace hw := ok_f hw c
      exact hG.2 _ _ _ _ _ _ _ _ _ (by refine ⟨Or.inl rfl, ?_⟩; refine ⟨Or.inl rfl, ?_⟩; refine ⟨Or.inr rfl, ?_⟩; exact trivial) (Nat.zero_le _) (Nat.zero_le _) (hK1 _ (ok_some hw :) :)

set_option maxHeartbeats 4000000 in
set_option maxRecDepth 20000 in
theorem g_X10_lowestNeed_28 {k : Option Value → mj_H → Prop} {G : mj_K} (hG : mj_cl2 cX10_lowestNeed (TbX10 3 ((some FieldType.int)) []) k G)   {s : St} (hw : ok (F_X10_lowestNeed_28 s) (fun p => k (some (.int p)) (mkCs s))) : G 28 [] [] (mkCs s) 0 0 := by
  unfold F_X10_lowestNeed_28 at hw
  refine mj_run hG.1 (fun pc => pc == 2 || pc == 20 || pc == 28) 4000 ?_
  simp only [mj_step, mj_W_s, mj_fin, List.getElem?_cons_zero, List.getElem?_cons_succ, mj_go, Nat.reduceAdd, Nat.reduceSub, Nat.reduceLT, Nat.reduceLeDiff, Nat.zero_add, Nat.reduceEqDiff, Nat.reduceBEq, ↓reduceIte, Bool.false_eq_true, List.append_nil, List.nil_append, List.cons_append, Option.toList, and_true, true_and, true_or, or_true, reduceCtorEq, List.map_nil, bI_eq0, bI_eq1, bool_ft, pk_us, vnar0, vnar1, Bool.or_false, Bool.or_true, Bool.false_or, Bool.true_or, mj_kne, eq_self, Int32.reduceLT, Int32.reduceLE, Int32.reduceAdd, Int32.reduceSub, Int32.reduceMul, not_true_eq_false, not_false_eq_true, false_implies, true_implies, D_X10_lowestNeed, mj_F_aload_n_k, mj_F_getfield_i, mj_F_goto_off, mj_F_iadd, mj_F_iaload, mj_F_iconst_n, mj_F_ifCond_le_off, mj_F_if_icmp_ge_off, mj_F_iinc_k_n, mj_F_iload_n_k, mj_F_imul, mj_F_ireturn, mj_F_istore_n_k, mj_set, mj_set0, mj_unk, mj_c2, mj_kc, FT_X10, gS_C45, gCf10_12, gS_C52, sS_Ca_52, J_X10_lowestNeed]
  exact (ok_some hw :)

set_option maxHeartbeats 4000000 in
set_option maxRecDepth 20000 in
theorem g_X10_lowestNeed_20 {k : Option Value → mj_H → Prop} {G : mj_K} (hG : mj_cl2 cX10_lowestNeed (TbX10 3 ((some FieldType.int)) []) k G)   {v2 : Int32} {s : St} (hw : ok (F_X10_lowestNeed_20 v2 s) (fun p => k (some (.int p)) (mkCs s))) : G 20 [mj_unk, mj_unk, .int v2] [] (mkCs s) 0 0 := by
  unfold F_X10_lowestNeed_20 at hw
  refine mj_run hG.1 (fun pc => pc == 2 || pc == 20 || pc == 28) 4000 ?_
  simp only [mj_step, mj_W_s, mj_fin, List.getElem?_cons_zero, List.getElem?_cons_succ, mj_go, Nat.reduceAdd, Nat.reduceSub, Nat.reduceLT, Nat.reduceLeDiff, Nat.zero_add, Nat.reduceEqDiff, Nat.reduceBEq, ↓reduceIte, Bool.false_eq_true, List.append_nil, List.nil_append, List.cons_append, Option.toList, and_true, true_and, true_or, or_true, reduceCtorEq, List.map_nil, bI_eq0, bI_eq1, bool_ft, pk_us, vnar0, vnar1, Bool.or_false, Bool.or_true, Bool.false_or, Bool.true_or, mj_kne, eq_self, Int32.reduceLT, Int32.reduceLE, Int32.reduceAdd, Int32.reduceSub, Int32.reduceMul, not_true_eq_false, not_false_eq_true, false_implies, true_implies, D_X10_lowestNeed, mj_F_aload_n_k, mj_F_getfield_i, mj_F_goto_off, mj_F_iadd, mj_F_iaload, mj_F_iconst_n, mj_F_ifCond_le_off, mj_F_if_icmp_ge_off, mj_F_iinc_k_n, mj_F_iload_n_k, mj_F_imul, mj_F_ireturn, mj_F_istore_n_k, mj_set, mj_set0, mj_unk, mj_c2, mj_kc, FT_X10, gS_C45, gCf10_12, gS_C52, sS_Ca_52, J_X10_lowestNeed]
  exact (ok_some hw :)

set_option maxHeartbeats 4000000 in
theorem g_X10_lowestNeed_2 {k : Option Value → mj_H → Prop} {G : mj_K} (hG : mj_cl2 cX10_lowestNeed (TbX10 3 ((some FieldType.int)) []) k G)   {v1 : Int32} {v2 : Int32} {s : St} (hw : ok (F_X10_lowestNeed_2 v1 v2 s) (fun p => k (some (.int p)) (mkCs s))) : G 2 [.ref 45, .int v1, .int v2] [] (mkCs s) 0 0 := by
  unfold F_X10_lowestNeed_2 at hw
  refine lp_ok (B_X10_lowestNeed_2 v1 s) (fun x => G 2 [.ref 45, .int v1, .int x] [] (mkCs s) 0 0) _ ?_ _ _ (ok_bind hw)
  rintro v2 hb
  exact b_X10_lowestNeed_2 hG (fun _ z => z) (fun y hw => by exact hG.2 _ _ _ _ _ _ _ _ _ (by exact trivial) (Nat.zero_le _) (Nat.zero_le _) (g_X10_lowestNeed_28 hG  hw :)) (fun y hw => by exact hG.2 _ _ _ _ _ _ _ _ _ (by refine ⟨Or.inl rfl, ?_⟩; refine ⟨Or.inl rfl, ?_⟩; refine ⟨Or.inr rfl, ?_⟩; exact trivial) (Nat.zero_le _) (Nat.zero_le _) (g_X10_lowestNeed_20 hG  hw :)) hb

set_option maxHeartbeats 4000000 in
set_option maxRecDepth 20000 in
theorem g_X10_lowestNeed {k : Option Value → mj_H → Prop} {G : mj_K} (hG : mj_cl2 cX10_lowestNeed (TbX10 3 ((some FieldType.int)) []) k G) {v1 : Int32} {s : St} (hw : ok (F_X10_lowestNeed v1 s) (fun p => k (some (.int p)) (mkCs s))) : G 0 [.ref 45, .int v1] [] (mkCs s) 0 0 := by
  unfold F_X10_lowestNeed at hw
  refine mj_run hG.1 (fun pc => pc == 2 || pc == 20 || pc == 28) 4000 ?_
  simp only [mj_step, mj_W_s, mj_fin, List.getElem?_cons_zero, List.getElem?_cons_succ, mj_go, Nat.reduceAdd, Nat.reduceSub, Nat.reduceLT, Nat.reduceLeDiff, Nat.zero_add, Nat.reduceEqDiff, Nat.reduceBEq, ↓reduceIte, Bool.false_eq_true, List.append_nil, List.nil_append, List.cons_append, Option.toList, and_true, true_and, true_or, or_true, reduceCtorEq, List.map_nil, bI_eq0, bI_eq1, bool_ft, pk_us, vnar0, vnar1, Bool.or_false, Bool.or_true, Bool.false_or, Bool.true_or, mj_kne, eq_self, Int32.reduceLT, Int32.reduceLE, Int32.reduceAdd, Int32.reduceSub, Int32.reduceMul, not_true_eq_false, not_false_eq_true, false_implies, true_implies, D_X10_lowestNeed, mj_F_aload_n_k, mj_F_getfield_i, mj_F_goto_off, mj_F_iadd, mj_F_iaload, mj_F_iconst_n, mj_F_ifCond_le_off, mj_F_if_icmp_ge_off, mj_F_iinc_k_n, mj_F_iload_n_k, mj_F_imul, mj_F_ireturn, mj_F_istore_n_k, mj_set, mj_set0, mj_unk, mj_c2, mj_kc, FT_X10, gS_C45, gCf10_12, gS_C52, sS_Ca_52, J_X10_lowestNeed]
  exact hG.2 _ _ _ _ _ _ _ _ _ (by refine ⟨Or.inr rfl, ?_⟩; refine ⟨Or.inr rfl, ?_⟩; refine ⟨Or.inr rfl, ?_⟩; exact trivial) (Nat.zero_le _) (Nat.zero_le _) (g_X10_lowestNeed_2 hG  hw :)

def c_X10_lowestNeed : mj_S := fun as h k => ∃ (v1 : Int32) (s : St), as = [.ref 45, .int v1] ∧ h = mkCs s ∧ ok (F_X10_lowestNeed v1 s) (fun p => k (some (.int p)) (mkCs s))
theorem c_X10_lowestNeed_in {v1 : Int32} {s : St} {k : Option Value → mj_H → Prop} (hw : ok (F_X10_lowestNeed v1 s) (fun p => k (some (.int p)) (mkCs s))) : c_X10_lowestNeed [.ref 45, .int v1] (mkCs s) k := ⟨v1, s, rfl, rfl, hw⟩
theorem m_X10_lowestNeed (l : Launch) : mj_Met l yX10_lowestNeed cX10_lowestNeed 3 ((some FieldType.int)) 0 0 0 c_X10_lowestNeed := by
  refine mj_body2 false (TbX10 3 ((some FieldType.int)) []) (by decide) rfl rfl (fun h => nomatch h) (tfX10 _ (fun _ h => nomatch h)) ?_
  rintro as h k ⟨v1, s, rfl, rfl, hw⟩
  exact ⟨rfl, fun G hG => g_X10_lowestNeed hG hw⟩
def B_X1_countOf_9 (v1 : Int32) (v2 : Int32) (v3 : Int32) (s : St) : Int32 × Int32 × Int32 → Option ((Int32 × Int32 × Int32) ⊕ ((Int32)))
  | (v4, v5, v6) =>
  if (s.1 107) ≤ v6 then
    some (.inr v4)
  else
    (rd s 108 200 v6).bind fun x1 =>
    if x1 = v1 then
      (rd s 110 200 v6).bind fun x2 =>
      if v3 < x2 then
        some (.inl (v4, v5, (v6 + 1)))
      else
        (rd s 109 200 v6).bind fun x3 =>
        if v2 < x3 then
          some (.inl (v4, v5, (v6 + 1)))
        else
          (rd s 109 200 v6).bind fun x4 =>
          if x4 < v5 then
            some (.inl (v4, v5, (v6 + 1)))
          else
            (rd s 109 200 v6).bind fun x5 =>
            some (.inl (v6, x5, (v6 + 1)))
    else
      some (.inl (v4, v5, (v6 + 1)))
def F_X1_countOf_82 (v4 : Int32) (s : St) : Option (Int32) :=
  some v4
def F_X1_countOf_9 (v1 : Int32) (v2 : Int32) (v3 : Int32) (v4 : Int32) (v5 : Int32) (v6 : Int32) (s : St) : Option (Int32) :=
  (lp (B_X1_countOf_9 v1 v2 v3 s) FU (v4, v5, v6)).bind (fun y => F_X1_countOf_82 y s)
def F_X1_countOf (v1 : Int32) (v2 : Int32) (v3 : Int32) (s : St) : Option (Int32) :=
  F_X1_countOf_9 v1 v2 v3 (-1) 0 0 s
theorem J_X1_countOf : mj_t 15 67 = 82 ∧ mj_t 26 50 = 76 ∧ mj_t 37 39 = 76 ∧ mj_t 48 28 = 76 ∧ mj_t 60 16 = 76 ∧ mj_t 79 (-70) = 9 ∧ (0 ≤ ((15 : Nat) : Int) + 67) = True ∧ (0 ≤ ((26 : Nat) : Int) + 50) = True ∧ (0 ≤ ((37 : Nat) : Int) + 39) = True ∧ (0 ≤ ((48 : Nat) : Int) + 28) = True ∧ (0 ≤ ((60 : Nat) : Int) + 16) = True ∧ (0 ≤ ((79 : Nat) : Int) + (-70)) = True := by and_intros <;> first | rfl | exact eq_true (by decide)
set_option maxHeartbeats 4000000 in
set_option maxRecDepth 20000 in
theorem b_X1_countOf_9 {k : Option Value → mj_H → Prop} {G : mj_K} (hG : mj_cl2 cX1_countOf (TbX1 7 ((some FieldType.int)) []) k G) {v1 : Int32} {v2 : Int32} {v3 : Int32} {s : St} {P : Int32 × Int32 × Int32 → Prop} {K : (Int32) → Prop} (hP : ∀ x, P x → G 9 [.ref 20, .int v1, .int v2, .int v3, .int x.1, .int x.2.1, .int x.2.2] [] (mkCs s) 0 0) (hK0 : ∀ y, K y → G 82 [mj_unk, mj_unk, mj_unk, mj_unk, .int y] [] (mkCs s) 0 0) {v4 : Int32} {v5 : Int32} {v6 : Int32} (hw : ok (B_X1_countOf_9 v1 v2 v3 s (v4, v5, v6)) (Sum.elim P K)) : G 9 [.ref 20, .int v1, .int v2, .int v3, .int v4, .int v5, .int v6] [] (mkCs s) 0 0 := by
  unfold B_X1_countOf_9 at hw
  refine mj_run hG.1 (fun pc => pc == 9 || pc == 82) 4000 ?_
  simp only [mj_step, mj_W_s, mj_fin, List.getElem?_cons_zero, List.getElem?_cons_succ, mj_go, Nat.reduceAdd, Nat.reduceSub, Nat.reduceLT, Nat.reduceLeDiff, Nat.zero_add, Nat.reduceEqDiff, Nat.reduceBEq, ↓reduceIte, Bool.false_eq_true, List.append_nil, List.nil_append, List.cons_append, Option.toList, and_true, true_and, true_or, or_true, reduceCtorEq, List.map_nil, bI_eq0, bI_eq1, bool_ft, pk_us, vnar0, vnar1, Bool.or_false, Bool.or_true, Bool.false_or, Bool.true_or, mj_kne, eq_self, Int32.reduceLT, Int32.reduceLE, Int32.reduceAdd, Int32.reduceSub, Int32.reduceMul, not_true_eq_false, not_false_eq_true, false_implies, true_implies, D_X1_countOf, mj_F_aload_n_k, mj_F_getfield_i, mj_F_goto_off, mj_F_iaload, mj_F_iconst_n, mj_F_if_icmp_ge_off, mj_F_if_icmp_gt_off, mj_F_if_icmp_lt_off, mj_F_if_icmp_ne_off, mj_F_iinc_k_n, mj_F_iload_k, mj_F_iload_n_k, mj_F_ireturn, mj_F_istore_k, mj_set, mj_set0, mj_unk, mj_c2, mj_kc, FT_X1, gS_C20, gCf1_7, gCf1_8, gS_C26, sS_Ca_26, gCf1_10, gS_C28, sS_Ca_28, gCf1_9, gS_C27, sS_Ca_27, J_X1_countOf]
  refine ⟨fun c => ?_, fun c => ?_⟩
  · replace hw := ok_t hw c
    exact hG.2 _ _ _ _ _ _ _ _ _ (by refine ⟨Or.inl rfl, ?_⟩; refine ⟨Or.inl rfl, ?_⟩; refine ⟨Or.inl rfl, ?_⟩; refine ⟨Or.inl rfl, ?_⟩; refine ⟨Or.inr rfl, ?_⟩; exact trivial) (Nat.zero_le _) (Nat.zero_le _) (hK0 _ (ok_some hw :) :)
  · replace hw := ok_f hw c
    refine ⟨(ok_rd hw).1, ?_⟩
    replace hw := (ok_rd hw).2
    refine ⟨fun c => ?_, fun c => ?_⟩
    · replace hw := ok_f hw c
      exact hG.2 _ _ _ _ _ _ _ _ _ (by refine ⟨Or.inr rfl, ?_⟩; refine ⟨Or.inr rfl, ?_⟩; refine ⟨Or.inr rfl, ?_⟩; refine ⟨Or.inr rfl, ?_⟩; refine ⟨Or.inr rfl, ?_⟩; refine ⟨Or.inr rfl, ?_⟩; refine ⟨Or.inr rfl, ?_⟩; exact trivial) (Nat.zero_le _) (Nat.zero_le _) (hP _ (ok_some hw :) :)
    · replace hw := ok_t hw c
      refine ⟨(ok_rd hw).1, ?_⟩
      replace hw := (ok_rd hw).2
      refine ⟨fun c => ?_, fun c => ?_⟩
      · replace hw := ok_t hw c
        exact hG.2 _ _ _ _ _ _ _ _ _ (by refine ⟨Or.inr rfl, ?_⟩; refine ⟨Or.inr rfl, ?_⟩; refine ⟨Or.inr rfl, ?_⟩; refine ⟨Or.inr rfl, ?_⟩; refine ⟨Or.inr rfl, ?_⟩; refine ⟨Or.inr rfl, ?_⟩; refine ⟨Or.inr rfl, ?_⟩; exact trivial) (Nat.zero_le _) (Nat.zero_le _) (hP _ (ok_some hw :) :)
      · replace hw := ok_f hw c
        refine ⟨(ok_rd hw).1, ?_⟩
        replace hw := (ok_rd hw).2
        refine ⟨fun c => ?_, fun c => ?_⟩
        · replace hw := ok_t hw c
          exact hG.2 _ _ _ _ _ _ _ _ _ (by refine ⟨Or.inr rfl, ?_⟩; refine ⟨Or.inr rfl, ?_⟩; refine ⟨Or.inr rfl, ?_⟩; refine ⟨Or.inr rfl, ?_⟩; refine ⟨Or.inr rfl, ?_⟩; refine ⟨Or.inr rfl, ?_⟩; refine ⟨Or.inr rfl, ?_⟩; exact trivial) (Nat.zero_le _) (Nat.zero_le _) (hP _ (ok_some hw :) :)
        · replace hw := ok_f hw c
          refine ⟨(ok_rd hw).1, ?_⟩
          replace hw := (ok_rd hw).2
          refine ⟨fun c => ?_, fun c => ?_⟩
          · replace hw := ok_t hw c
            exact hG.2 _ _ _ _ _ _ _ _ _ (by refine ⟨Or.inr rfl, ?_⟩; refine ⟨Or.inr rfl, ?_⟩; refine ⟨Or.inr rfl, ?_⟩; refine ⟨Or.inr rfl, ?_⟩; refine ⟨Or.inr rfl, ?_⟩; refine ⟨Or.inr rfl, ?_⟩; refine ⟨Or.inr rfl, ?_⟩; exact trivial) (Nat.zero_le _) (Nat.zero_le _) (hP _ (ok_some hw :) :)
          · replace hw := ok_f hw c
            refine ⟨(ok_rd hw).1, ?_⟩
            replace hw := (ok_rd hw).2
            exact hG.2 _ _ _ _ _ _ _ _ _ (by refine ⟨Or.inr rfl, ?_⟩; refine ⟨Or.inr rfl, ?_⟩; refine ⟨Or.inr rfl, ?_⟩; refine ⟨Or.inr rfl, ?_⟩; refine ⟨Or.inr rfl, ?_⟩; refine ⟨Or.inr rfl, ?_⟩; refine ⟨Or.inr rfl, ?_⟩; exact trivial) (Nat.zero_le _) (Nat.zero_le _) (hP _ (ok_some hw :) :)

set_option maxHeartbeats 4000000 in
set_option maxRecDepth 20000 in
theorem g_X1_countOf_82 {k : Option Value → mj_H → Prop} {G : mj_K} (hG : mj_cl2 cX1_countOf (TbX1 7 ((some FieldType.int)) []) k G)   {v4 : Int32} {s : St} (hw : ok (F_X1_countOf_82 v4 s) (fun p => k (some (.int p)) (mkCs s))) : G 82 [mj_unk, mj_unk, mj_unk, mj_unk, .int v4] [] (mkCs s) 0 0 := by
  unfold F_X1_countOf_82 at hw
  refine mj_run hG.1 (fun pc => pc == 9 || pc == 82) 4000 ?_
  simp only [mj_step, mj_W_s, mj_fin, List.getElem?_cons_zero, List.getElem?_cons_succ, mj_go, Nat.reduceAdd, Nat.reduceSub, Nat.reduceLT, Nat.reduceLeDiff, Nat.zero_add, Nat.reduceEqDiff, Nat.reduceBEq, ↓reduceIte, Bool.false_eq_true, List.append_nil, List.nil_append, List.cons_append, Option.toList, and_true, true_and, true_or, or_true, reduceCtorEq, List.map_nil, bI_eq0, bI_eq1, bool_ft, pk_us, vnar0, vnar1, Bool.or_false, Bool.or_true, Bool.false_or, Bool.true_or, mj_kne, eq_self, Int32.reduceLT, Int32.reduceLE, Int32.reduceAdd, Int32.reduceSub, Int32.reduceMul, not_true_eq_false, not_false_eq_true, false_implies, true_implies, D_X1_countOf, mj_F_aload_n_k, mj_F_getfield_i, mj_F_goto_off, mj_F_iaload, mj_F_iconst_n, mj_F_if_icmp_ge_off, mj_F_if_icmp_gt_off, mj_F_if_icmp_lt_off, mj_F_if_icmp_ne_off, mj_F_iinc_k_n, mj_F_iload_k, mj_F_iload_n_k, mj_F_ireturn, mj_F_istore_k, mj_set, mj_set0, mj_unk, mj_c2, mj_kc, FT_X1, gS_C20, gCf1_7, gCf1_8, gS_C26, sS_Ca_26, gCf1_10, gS_C28, sS_Ca_28, gCf1_9, gS_C27, sS_Ca_27, J_X1_countOf]
  exact (ok_some hw :)

set_option maxHeartbeats 4000000 in
theorem g_X1_countOf_9 {k : Option Value → mj_H → Prop} {G : mj_K} (hG : mj_cl2 cX1_countOf (TbX1 7 ((some FieldType.int)) []) k G)   {v1 : Int32} {v2 : Int32} {v3 : Int32} {v4 : Int32} {v5 : Int32} {v6 : Int32} {s : St} (hw : ok (F_X1_countOf_9 v1 v2 v3 v4 v5 v6 s) (fun p => k (some (.int p)) (mkCs s))) : G 9 [.ref 20, .int v1, .int v2, .int v3, .int v4, .int v5, .int v6] [] (mkCs s) 0 0 := by
  unfold F_X1_countOf_9 at hw
  refine lp_ok (B_X1_countOf_9 v1 v2 v3 s) (fun x => G 9 [.ref 20, .int v1, .int v2, .int v3, .int x.1, .int x.2.1, .int x.2.2] [] (mkCs s) 0 0) _ ?_ _ _ (ok_bind hw)
  rintro ⟨v4, v5, v6⟩ hb
  exact b_X1_countOf_9 hG (fun _ z => z) (fun y hw => by exact hG.2 _ _ _ _ _ _ _ _ _ (by refine ⟨Or.inl rfl, ?_⟩; refine ⟨Or.inl rfl, ?_⟩; refine ⟨Or.inl rfl, ?_⟩; refine ⟨Or.inl rfl, ?_⟩; refine ⟨Or.inr rfl, ?_⟩; exact trivial) (Nat.zero_le _) (Nat.zero_le _) (g_X1_countOf_82 hG  hw :)) hb

set_option maxHeartbeats 4000000 in
set_option maxRecDepth 20000 in
theorem g_X1_countOf {k : Option Value → mj_H → Prop} {G : mj_K} (hG : mj_cl2 cX1_countOf (TbX1 7 ((some FieldType.int)) []) k G) {v1 : Int32} {v2 : Int32} {v3 : Int32} {s : St} (hw : ok (F_X1_countOf v1 v2 v3 s) (fun p => k (some (.int p)) (mkCs s))) : G 0 [.ref 20, .int v1, .int v2, .int v3] [] (mkCs s) 0 0 := by
  unfold F_X1_countOf at hw
  refine mj_run hG.1 (fun pc => pc == 9 || pc == 82) 4000 ?_
  simp only [mj_step, mj_W_s, mj_fin, List.getElem?_cons_zero, List.getElem?_cons_succ, mj_go, Nat.reduceAdd, Nat.reduceSub, Nat.reduceLT, Nat.reduceLeDiff, Nat.zero_add, Nat.reduceEqDiff, Nat.reduceBEq, ↓reduceIte, Bool.false_eq_true, List.append_nil, List.nil_append, List.cons_append, Option.toList, and_true, true_and, true_or, or_true, reduceCtorEq, List.map_nil, bI_eq0, bI_eq1, bool_ft, pk_us, vnar0, vnar1, Bool.or_false, Bool.or_true, Bool.false_or, Bool.true_or, mj_kne, eq_self, Int32.reduceLT, Int32.reduceLE, Int32.reduceAdd, Int32.reduceSub, Int32.reduceMul, not_true_eq_false, not_false_eq_true, false_implies, true_implies, D_X1_countOf, mj_F_aload_n_k, mj_F_getfield_i, mj_F_goto_off, mj_F_iaload, mj_F_iconst_n, mj_F_if_icmp_ge_off, mj_F_if_icmp_gt_off, mj_F_if_icmp_lt_off, mj_F_if_icmp_ne_off, mj_F_iinc_k_n, mj_F_iload_k, mj_F_iload_n_k, mj_F_ireturn, mj_F_istore_k, mj_set, mj_set0, mj_unk, mj_c2, mj_kc, FT_X1, gS_C20, gCf1_7, gCf1_8, gS_C26, sS_Ca_26, gCf1_10, gS_C28, sS_Ca_28, gCf1_9, gS_C27, sS_Ca_27, J_X1_countOf]
  exact hG.2 _ _ _ _ _ _ _ _ _ (by refine ⟨Or.inr rfl, ?_⟩; refine ⟨Or.inr rfl, ?_⟩; refine ⟨Or.inr rfl, ?_⟩; refine ⟨Or.inr rfl, ?_⟩; refine ⟨Or.inr rfl, ?_⟩; refine ⟨Or.inr rfl, ?_⟩; refine ⟨Or.inr rfl, ?_⟩; exact trivial) (Nat.zero_le _) (Nat.zero_le _) (g_X1_countOf_9 hG  hw :)

def c_X1_countOf : mj_S := fun as h k => ∃ (v1 : Int32) (v2 : Int32) (v3 : Int32) (s : St), as = [.ref 20, .int v1, .int v2, .int v3] ∧ h = mkCs s ∧ ok (F_X1_countOf v1 v2 v3 s) (fun p => k (some (.int p)) (mkCs s))
theorem c_X1_countOf_in {v1 : Int32} {v2 : Int32} {v3 : Int32} {s : St} {k : Option Value → mj_H → Prop} (hw : ok (F_X1_countOf v1 v2 v3 s) (fun p => k (some (.int p)) (mkCs s))) : c_X1_countOf [.ref 20, .int v1, .int v2, .int v3] (mkCs s) k := ⟨v1, v2, v3, s, rfl, rfl, hw⟩
theorem m_X1_countOf (l : Launch) : mj_Met l yX1_countOf cX1_countOf 7 ((some FieldType.int)) 0 0 0 c_X1_countOf := by
  refine mj_body2 false (TbX1 7 ((some FieldType.int)) []) (by decide) rfl rfl (fun h => nomatch h) (tfX1 _ (fun _ h => nomatch h)) ?_
  rintro as h k ⟨v1, v2, v3, s, rfl, rfl, hw⟩
  exact ⟨rfl, fun G hG => g_X1_countOf hG hw⟩
def F_X1_childrenOf (v1 : Int32) (v2 : Int32) (v3 : Int32) (s : St) : Option (Int32) :=
  (F_X1_countOf v1 v2 v3 s).bind fun r1 =>
  if r1 = (-1) then
    some 0
  else
    (rd s 111 200 r1).bind fun x2 =>
    (rd s 112 200 r1).bind fun x3 =>
    some (x2 + x3)
theorem J_X1_childrenOf : mj_t 12 7 = 19 ∧ mj_t 16 18 = 34 ∧ (0 ≤ ((12 : Nat) : Int) + 7) = True ∧ (0 ≤ ((16 : Nat) : Int) + 18) = True := by and_intros <;> first | rfl | exact eq_true (by decide)
def ct_X1_childrenOf : List (Nat × mj_Cs) := [(74, 0, 4, 1, 0, 0, c_X1_countOf)]
theorem L_X1_childrenOf : mj_lk ct_X1_childrenOf 74 = some (0, 4, 1, 0, 0, c_X1_countOf) := rfl
set_option maxHeartbeats 4000000 in
set_option maxRecDepth 20000 in
theorem g_X1_childrenOf {k : Option Value → mj_H → Prop} {G : mj_K} (hG : mj_cl2 cX1_childrenOf (TbX1 5 ((some FieldType.int)) ct_X1_childrenOf) k G) {v1 : Int32} {v2 : Int32} {v3 : Int32} {s : St} (hw : ok (F_X1_childrenOf v1 v2 v3 s) (fun p => k (some (.int p)) (mkCs s))) : G 0 [.ref 20, .int v1, .int v2, .int v3] [] (mkCs s) 0 0 := by
  unfold F_X1_childrenOf at hw
  refine mj_run hG.1 (fun pc => pc == 7) 4000 ?_
  simp only [mj_step, mj_W_s, mj_fin, List.getElem?_cons_zero, List.getElem?_cons_succ, mj_go, Nat.reduceAdd, Nat.reduceSub, Nat.reduceLT, Nat.reduceLeDiff, Nat.zero_add, Nat.reduceEqDiff, Nat.reduceBEq, ↓reduceIte, Bool.false_eq_true, List.append_nil, List.nil_append, List.cons_append, Option.toList, and_true, true_and, true_or, or_true, reduceCtorEq, List.map_nil, bI_eq0, bI_eq1, bool_ft, pk_us, vnar0, vnar1, Bool.or_false, Bool.or_true, Bool.false_or, Bool.true_or, mj_kne, eq_self, Int32.reduceLT, Int32.reduceLE, Int32.reduceAdd, Int32.reduceSub, Int32.reduceMul, not_true_eq_false, not_false_eq_true, false_implies, true_implies, D_X1_childrenOf, mj_F_aload_n_k, mj_F_getfield_i, mj_F_goto_off, mj_F_iadd, mj_F_iaload, mj_F_iconst_n, mj_F_if_icmp_ne_off, mj_F_iload_k, mj_F_iload_n_k, mj_F_invokevirtual_i, mj_F_ireturn, mj_F_istore_k, mj_set, mj_set0, mj_unk, mj_c2, mj_kc, FT_X1, L_X1_childrenOf, List.take_succ_cons, List.take_zero, List.drop_succ_cons, List.drop_zero, List.reverse_cons, List.reverse_nil, List.length_cons, List.length_nil, gS_C20, gCf1_11, gS_C29, sS_Ca_29, gCf1_12, gS_C30, sS_Ca_30, J_X1_childrenOf]
  refine c_X1_countOf_in (ok_imp (ok_bind hw) ?_)
  intro p hw
  simp only [Option.toList, List.nil_append, List.cons_append, Nat.reduceSub]
  refine mj_run hG.1 (fun pc => pc == 7) 4000 ?_
  simp only [mj_step, mj_W_s, mj_fin, List.getElem?_cons_zero, List.getElem?_cons_succ, mj_go, Nat.reduceAdd, Nat.reduceSub, Nat.reduceLT, Nat.reduceLeDiff, Nat.zero_add, Nat.reduceEqDiff, Nat.reduceBEq, ↓reduceIte, Bool.false_eq_true, List.append_nil, List.nil_append, List.cons_append, Option.toList, and_true, true_and, true_or, or_true, reduceCtorEq, List.map_nil, bI_eq0, bI_eq1, bool_ft, pk_us, vnar0, vnar1, Bool.or_false, Bool.or_true, Bool.false_or, Bool.true_or, mj_kne, eq_self, Int32.reduceLT, Int32.reduceLE, Int32.reduceAdd, Int32.reduceSub, Int32.reduceMul, not_true_eq_false, not_false_eq_true, false_implies, true_implies, D_X1_childrenOf, mj_F_aload_n_k, mj_F_getfield_i, mj_F_goto_off, mj_F_iadd, mj_F_iaload, mj_F_iconst_n, mj_F_if_icmp_ne_off, mj_F_iload_k, mj_F_iload_n_k, mj_F_invokevirtual_i, mj_F_ireturn, mj_F_istore_k, mj_set, mj_set0, mj_unk, mj_c2, mj_kc, FT_X1, L_X1_childrenOf, List.take_succ_cons, List.take_zero, List.drop_succ_cons, List.drop_zero, List.reverse_cons, List.reverse_nil, List.length_cons, List.length_nil, gS_C20, gCf1_11, gS_C29, sS_Ca_29, gCf1_12, gS_C30, sS_Ca_30, J_X1_childrenOf]
  refine ⟨fun c => ?_, fun c => ?_⟩
  · replace hw := ok_f hw c
    refine ⟨(ok_rd hw).1, ?_⟩
    replace hw := (ok_rd hw).2
    refine ⟨(ok_rd hw).1, ?_⟩
    replace hw := (ok_rd hw).2
    exact (ok_some hw :)
  · replace hw := ok_t hw c
    exact (ok_some hw :)

def c_X1_childrenOf : mj_S := fun as h k => ∃ (v1 : Int32) (v2 : Int32) (v3 : Int32) (s : St), as = [.ref 20, .int v1, .int v2, .int v3] ∧ h = mkCs s ∧ ok (F_X1_childrenOf v1 v2 v3 s) (fun p => k (some (.int p)) (mkCs s))
theorem c_X1_childrenOf_in {v1 : Int32} {v2 : Int32} {v3 : Int32} {s : St} {k : Option Value → mj_H → Prop} (hw : ok (F_X1_childrenOf v1 v2 v3 s) (fun p => k (some (.int p)) (mkCs s))) : c_X1_childrenOf [.ref 20, .int v1, .int v2, .int v3] (mkCs s) k := ⟨v1, v2, v3, s, rfl, rfl, hw⟩
theorem m_X1_childrenOf (l : Launch) : mj_Met l yX1_childrenOf cX1_childrenOf 5 ((some FieldType.int)) 1 0 0 c_X1_childrenOf := by
  refine mj_body2 false (TbX1 5 ((some FieldType.int)) ct_X1_childrenOf) (by decide) rfl rfl (fun h => nomatch h) (tfX1 _ (List.forall_mem_cons.mpr ⟨cfX1_74 (m_X1_countOf l) (by decide), fun _ h => nomatch h⟩)) ?_
  rintro as h k ⟨v1, v2, v3, s, rfl, rfl, hw⟩
  exact ⟨rfl, fun G hG => g_X1_childrenOf hG hw⟩
def F_X0_spell (v1 : Int32) (v2 : Int32) (v3 : Int32) (v4 : Int32) (s : St) : Option (St) :=
  (wr s 7 6 2 v1).bind fun s1 =>
  (wr s1 7 6 3 v2).bind fun s2 =>
  (wr s2 7 6 4 v3).bind fun s3 =>
  (wr s3 7 6 5 v4).bind fun s4 =>
  some s4
set_option maxHeartbeats 4000000 in
set_option maxRecDepth 20000 in
theorem g_X0_spell {k : Option Value → mj_H → Prop} {G : mj_K} (hG : mj_cl2 cX0_spell (TbX0 5 (none) []) k G) {v1 : Int32} {v2 : Int32} {v3 : Int32} {v4 : Int32} {s : St} (hw : ok (F_X0_spell v1 v2 v3 v4 s) (fun p => k none (mkCs p))) : G 0 [.ref 11, .int v1, .int v2, .int v3, .int v4] [] (mkCs s) 0 0 := by
  unfold F_X0_spell at hw
  refine mj_run hG.1 (fun _ => false) 4000 ?_
  simp only [mj_step, mj_W_s, mj_fin, List.getElem?_cons_zero, List.getElem?_cons_succ, mj_go, Nat.reduceAdd, Nat.reduceSub, Nat.reduceLT, Nat.reduceLeDiff, Nat.zero_add, Nat.reduceEqDiff, Nat.reduceBEq, ↓reduceIte, Bool.false_eq_true, List.append_nil, List.nil_append, List.cons_append, Option.toList, and_true, true_and, true_or, or_true, reduceCtorEq, List.map_nil, bI_eq0, bI_eq1, bool_ft, pk_us, vnar0, vnar1, Bool.or_false, Bool.or_true, Bool.false_or, Bool.true_or, mj_kne, eq_self, Int32.reduceLT, Int32.reduceLE, Int32.reduceAdd, Int32.reduceSub, Int32.reduceMul, not_true_eq_false, not_false_eq_true, false_implies, true_implies, D_X0_spell, mj_F_aload_n_k, mj_F_getfield_i, mj_F_iastore, mj_F_iconst_n, mj_F_iload_k, mj_F_iload_n_k, mj_F_return_, mj_kc, FT_X0, gS_C11, gCf0_7, gS_C18, sS_Ca_18]
  refine ⟨(ok_wr hw).1, ?_⟩
  replace hw := (ok_wr hw).2
  refine ⟨(ok_wr hw).1, ?_⟩
  replace hw := (ok_wr hw).2
  refine ⟨(ok_wr hw).1, ?_⟩
  replace hw := (ok_wr hw).2
  refine ⟨(ok_wr hw).1, ?_⟩
  replace hw := (ok_wr hw).2
  exact (ok_some hw :)

def c_X0_spell : mj_S := fun as h k => ∃ (v1 : Int32) (v2 : Int32) (v3 : Int32) (v4 : Int32) (s : St), as = [.ref 11, .int v1, .int v2, .int v3, .int v4] ∧ h = mkCs s ∧ ok (F_X0_spell v1 v2 v3 v4 s) (fun p => k none (mkCs p))
theorem c_X0_spell_in {v1 : Int32} {v2 : Int32} {v3 : Int32} {v4 : Int32} {s : St} {k : Option Value → mj_H → Prop} (hw : ok (F_X0_spell v1 v2 v3 v4 s) (fun p => k none (mkCs p))) : c_X0_spell [.ref 11, .int v1, .int v2, .int v3, .int v4] (mkCs s) k := ⟨v1, v2, v3, v4, s, rfl, rfl, hw⟩
theorem m_X0_spell (l : Launch) : mj_Met l yX0_spell cX0_spell 5 (none) 0 0 0 c_X0_spell := by
  refine mj_body2 false (TbX0 5 (none) []) (by decide) rfl rfl (fun h => nomatch h) (tfX0 _ (fun _ h => nomatch h)) ?_
  rintro as h k ⟨v1, v2, v3, v4, s, rfl, rfl, hw⟩
  exact ⟨rfl, fun G hG => g_X0_spell hG hw⟩
def F_X0_binds (v1 : Int32) (v2 : Int32) (v3 : Int32) (s : St) : Option (Int32) :=
  (rd s 1 20 v1).bind fun x1 =>
  if x1 = (-1) then
    if v3 = 2 then
      some 0
    else
      some 1
  else
    (rd s 1 20 v1).bind fun x2 =>
    if x2 = v2 then
      if v3 = 1 then
        some 0
      else
        some 1
    else
      some 0
theorem J_X0_binds : mj_t 7 7 = 14 ∧ mj_t 11 4 = 15 ∧ mj_t 19 16 = 35 ∧ mj_t 24 7 = 31 ∧ mj_t 28 27 = 55 ∧ mj_t 32 23 = 55 ∧ mj_t 42 12 = 54 ∧ mj_t 47 7 = 54 ∧ mj_t 51 4 = 55 ∧ (0 ≤ ((7 : Nat) : Int) + 7) = True ∧ (0 ≤ ((11 : Nat) : Int) + 4) = True ∧ (0 ≤ ((19 : Nat) : Int) + 16) = True ∧ (0 ≤ ((24 : Nat) : Int) + 7) = True ∧ (0 ≤ ((28 : Nat) : Int) + 27) = True ∧ (0 ≤ ((32 : Nat) : Int) + 23) = True ∧ (0 ≤ ((42 : Nat) : Int) + 12) = True ∧ (0 ≤ ((47 : Nat) : Int) + 7) = True ∧ (0 ≤ ((51 : Nat) : Int) + 4) = True := by and_intros <;> first | rfl | exact eq_true (by decide)
set_option maxHeartbeats 4000000 in
set_option maxRecDepth 20000 in
theorem g_X0_binds {k : Option Value → mj_H → Prop} {G : mj_K} (hG : mj_cl2 cX0_binds (TbX0 5 ((some FieldType.boolean)) []) k G) {v1 : Int32} {v2 : Int32} {v3 : Int32} {s : St} (hw : ok (F_X0_binds v1 v2 v3 s) (fun p => k (some (.int p)) (mkCs s))) : G 0 [.ref 11, .int v1, .int v2, .int v3] [] (mkCs s) 0 0 := by
  unfold F_X0_binds at hw
  refine mj_run hG.1 (fun _ => false) 4000 ?_
  simp only [mj_step, mj_W_s, mj_fin, List.getElem?_cons_zero, List.getElem?_cons_succ, mj_go, Nat.reduceAdd, Nat.reduceSub, Nat.reduceLT, Nat.reduceLeDiff, Nat.zero_add, Nat.reduceEqDiff, Nat.reduceBEq, ↓reduceIte, Bool.false_eq_true, List.append_nil, List.nil_append, List.cons_append, Option.toList, and_true, true_and, true_or, or_true, reduceCtorEq, List.map_nil, bI_eq0, bI_eq1, bool_ft, pk_us, vnar0, vnar1, Bool.or_false, Bool.or_true, Bool.false_or, Bool.true_or, mj_kne, eq_self, Int32.reduceLT, Int32.reduceLE, Int32.reduceAdd, Int32.reduceSub, Int32.reduceMul, not_true_eq_false, not_false_eq_true, false_implies, true_implies, D_X0_binds, mj_F_aload_n_k, mj_F_getfield_i, mj_F_goto_off, mj_F_iaload, mj_F_iconst_n, mj_F_ifCond_eq_off, mj_F_if_icmp_eq_off, mj_F_if_icmp_ne_off, mj_F_iload_k, mj_F_iload_n_k, mj_F_ireturn, mj_F_istore_k, mj_set, mj_set0, mj_unk, mj_c2, mj_kc, FT_X0, gS_C11, gCf0_1, gS_C12, sS_Ca_12, J_X0_binds]
  refine ⟨(ok_rd hw).1, ?_⟩
  replace hw := (ok_rd hw).2
  refine ⟨fun c => ?_, fun c => ?_⟩
  · replace hw := ok_f hw c
    refine ⟨(ok_rd hw).1, ?_⟩
    replace hw := (ok_rd hw).2
    refine ⟨fun c => ?_, fun c => ?_⟩
    · replace hw := ok_f hw c
      exact (ok_some hw :)
    · replace hw := ok_t hw c
      refine ⟨fun c => ?_, fun c => ?_⟩
      · replace hw := ok_t hw c
        exact (ok_some hw :)
      · replace hw := ok_f hw c
        exact (ok_some hw :)
  · replace hw := ok_t hw c
    refine ⟨fun c => ?_, fun c => ?_⟩
    · replace hw := ok_t hw c
      exact (ok_some hw :)
    · replace hw := ok_f hw c
      exact (ok_some hw :)

def c_X0_binds : mj_S := fun as h k => ∃ (v1 : Int32) (v2 : Int32) (v3 : Int32) (s : St), as = [.ref 11, .int v1, .int v2, .int v3] ∧ h = mkCs s ∧ ok (F_X0_binds v1 v2 v3 s) (fun p => k (some (.int p)) (mkCs s))
theorem c_X0_binds_in {v1 : Int32} {v2 : Int32} {v3 : Int32} {s : St} {k : Option Value → mj_H → Prop} (hw : ok (F_X0_binds v1 v2 v3 s) (fun p => k (some (.int p)) (mkCs s))) : c_X0_binds [.ref 11, .int v1, .int v2, .int v3] (mkCs s) k := ⟨v1, v2, v3, s, rfl, rfl, hw⟩
theorem m_X0_binds (l : Launch) : mj_Met l yX0_binds cX0_binds 5 ((some FieldType.boolean)) 0 0 0 c_X0_binds := by
  refine mj_body2 false (TbX0 5 ((some FieldType.boolean)) []) (by decide) rfl rfl (fun h => nomatch h) (tfX0 _ (fun _ h => nomatch h)) ?_
  rintro as h k ⟨v1, v2, v3, s, rfl, rfl, hw⟩
  exact ⟨rfl, fun G hG => g_X0_binds hG hw⟩
def F_X0_letterAt (v1 : Int32) (s : St) : Option (Int32) :=
  if v1 < 0 then
    some 0
  else
    if 6 ≤ v1 then
      some 0
    else
      (rd s 7 6 v1).bind fun x1 =>
      some x1
theorem J_X0_letterAt : mj_t 1 21 = 22 ∧ mj_t 10 12 = 22 ∧ mj_t 19 4 = 23 ∧ (0 ≤ ((1 : Nat) : Int) + 21) = True ∧ (0 ≤ ((10 : Nat) : Int) + 12) = True ∧ (0 ≤ ((19 : Nat) : Int) + 4) = True := by and_intros <;> first | rfl | exact eq_true (by decide)
set_option maxHeartbeats 4000000 in
set_option maxRecDepth 20000 in
theorem g_X0_letterAt {k : Option Value → mj_H → Prop} {G : mj_K} (hG : mj_cl2 cX0_letterAt (TbX0 2 ((some FieldType.int)) []) k G) {v1 : Int32} {s : St} (hw : ok (F_X0_letterAt v1 s) (fun p => k (some (.int p)) (mkCs s))) : G 0 [.ref 11, .int v1] [] (mkCs s) 0 0 := by
  unfold F_X0_letterAt at hw
  refine mj_run hG.1 (fun _ => false) 4000 ?_
  simp only [mj_step, mj_W_s, mj_fin, List.getElem?_cons_zero, List.getElem?_cons_succ, mj_go, Nat.reduceAdd, Nat.reduceSub, Nat.reduceLT, Nat.reduceLeDiff, Nat.zero_add, Nat.reduceEqDiff, Nat.reduceBEq, ↓reduceIte, Bool.false_eq_true, List.append_nil, List.nil_append, List.cons_append, Option.toList, and_true, true_and, true_or, or_true, reduceCtorEq, List.map_nil, bI_eq0, bI_eq1, bool_ft, pk_us, vnar0, vnar1, Bool.or_false, Bool.or_true, Bool.false_or, Bool.true_or, mj_kne, eq_self, Int32.reduceLT, Int32.reduceLE, Int32.reduceAdd, Int32.reduceSub, Int32.reduceMul, not_true_eq_false, not_false_eq_true, false_implies, true_implies, D_X0_letterAt, mj_F_aload_n_k, mj_F_arraylength, mj_F_getfield_i, mj_F_goto_off, mj_F_iaload, mj_F_iconst_n, mj_F_ifCond_lt_off, mj_F_if_icmp_ge_off, mj_F_iload_n_k, mj_F_ireturn, mj_kc, FT_X0, gS_C11, gCf0_7, gS_C18, sS_Ca_18, mj_nk, mj_isA, J_X0_letterAt]
  refine ⟨fun c => ?_, fun c => ?_⟩
  · replace hw := ok_t hw c
    exact (ok_some hw :)
  · replace hw := ok_f hw c
    refine ⟨fun c => ?_, fun c => ?_⟩
    · replace hw := ok_t hw c
      exact (ok_some hw :)
    · replace hw := ok_f hw c
      refine ⟨(ok_rd hw).1, ?_⟩
      replace hw := (ok_rd hw).2
      exact (ok_some hw :)

def c_X0_letterAt : mj_S := fun as h k => ∃ (v1 : Int32) (s : St), as = [.ref 11, .int v1] ∧ h = mkCs s ∧ ok (F_X0_letterAt v1 s) (fun p => k (some (.int p)) (mkCs s))
theorem c_X0_letterAt_in {v1 : Int32} {s : St} {k : Option Value → mj_H → Prop} (hw : ok (F_X0_letterAt v1 s) (fun p => k (some (.int p)) (mkCs s))) : c_X0_letterAt [.ref 11, .int v1] (mkCs s) k := ⟨v1, s, rfl, rfl, hw⟩
theorem m_X0_letterAt (l : Launch) : mj_Met l yX0_letterAt cX0_letterAt 2 ((some FieldType.int)) 0 0 0 c_X0_letterAt := by
  refine mj_body2 false (TbX0 2 ((some FieldType.int)) []) (by decide) rfl rfl (fun h => nomatch h) (tfX0 _ (fun _ h => nomatch h)) ?_
  rintro as h k ⟨v1, s, rfl, rfl, hw⟩
  exact ⟨rfl, fun G hG => g_X0_letterAt hG hw⟩
def F_X0_joined (v0 : Int32) (v1 : Int64) (v3 : Int64) : Option (Int32) :=
  if v0 = 38 then
    if (lg_cmp v1 0) = 0 then
      some 0
    else
      if (lg_cmp v3 0) = 0 then
        some 0
      else
        some 1
  else
  if v0 = 60 then
    if 0 ≤ (lg_cmp v1 v3) then
      some 0
    else
      some 1
  else
  if v0 = 61 then
    if (lg_cmp v1 v3) = 0 then
      some 1
    else
      some 0
  else
  if v0 = 62 then
    if (lg_cmp v1 v3) ≤ 0 then
      some 0
    else
      some 1
  else
  if v0 = 124 then
    if (lg_cmp v1 0) = 0 then
      if (lg_cmp v3 0) = 0 then
        some 0
      else
        some 1
    else
      some 1
  else
  if v0 = 43 then
    if (lg_cmp (v1 + v3) 1000000) ≤ 0 then
      if 0 ≤ (lg_cmp (v1 + v3) (-1000000)) then
        some (Int64.toInt32 (v1 + v3))
      else
        some (-1000000)
    else
      some 1000000
  else
    if v0 = 45 then
      if (lg_cmp (v1 - v3) 1000000) ≤ 0 then
        if 0 ≤ (lg_cmp (v1 - v3) (-1000000)) then
          some (Int64.toInt32 (v1 - v3))
        else
          some (-1000000)
      else
        some 1000000
    else
      if v0 = 42 then
        if (lg_cmp (v1 * v3) 1000000) ≤ 0 then
          if 0 ≤ (lg_cmp (v1 * v3) (-1000000)) then
            some (Int64.toInt32 (v1 * v3))
          else
            some (-1000000)
        else
          some 1000000
      else
        if (lg_cmp v3 0) = 0 then
          if (lg_cmp 0 1000000) ≤ 0 then
            if 0 ≤ (lg_cmp 0 (-1000000)) then
              some (Int64.toInt32 0)
            else
              some (-1000000)
          else
            some 1000000
        else
          (nzl v3).bind fun _ =>
          if (lg_cmp (v1 / v3) 1000000) ≤ 0 then
            if 0 ≤ (lg_cmp (v1 / v3) (-1000000)) then
              some (Int64.toInt32 (v1 / v3))
            else
              some (-1000000)
          else
            some 1000000
theorem J_X0_joined : mj_t 1 51 = 52 ∧ mj_t 1 63 = 64 ∧ mj_t 1 75 = 76 ∧ mj_t 1 87 = 88 ∧ mj_t 1 105 = 106 ∧ mj_t 1 123 = 124 ∧ mj_t 55 7 = 62 ∧ mj_t 59 4 = 63 ∧ mj_t 67 7 = 74 ∧ mj_t 71 4 = 75 ∧ mj_t 79 7 = 86 ∧ mj_t 83 4 = 87 ∧ mj_t 91 13 = 104 ∧ mj_t 97 7 = 104 ∧ mj_t 101 4 = 105 ∧ mj_t 109 9 = 118 ∧ mj_t 115 7 = 122 ∧ mj_t 119 4 = 123 ∧ mj_t 127 9 = 136 ∧ mj_t 133 40 = 173 ∧ mj_t 139 9 = 148 ∧ mj_t 145 28 = 173 ∧ mj_t 151 9 = 160 ∧ mj_t 157 16 = 173 ∧ mj_t 163 7 = 170 ∧ mj_t 167 6 = 173 ∧ mj_t 181 8 = 189 ∧ mj_t 186 20 = 206 ∧ mj_t 195 8 = 203 ∧ mj_t 200 6 = 206 ∧ (0 ≤ ((1 : Nat) : Int) + 51) = True ∧ (0 ≤ ((1 : Nat) : Int) + 63) = True ∧ (0 ≤ ((1 : Nat) : Int) + 75) = True ∧ (0 ≤ ((1 : Nat) : Int) + 87) = True ∧ (0 ≤ ((1 : Nat) : Int) + 105) = True ∧ (0 ≤ ((1 : Nat) : Int) + 123) = True ∧ (0 ≤ ((55 : Nat) : Int) + 7) = True ∧ (0 ≤ ((59 : Nat) : Int) + 4) = True ∧ (0 ≤ ((67 : Nat) : Int) + 7) = True ∧ (0 ≤ ((71 : Nat) : Int) + 4) = True ∧ (0 ≤ ((79 : Nat) : Int) + 7) = True ∧ (0 ≤ ((83 : Nat) : Int) + 4) = True ∧ (0 ≤ ((91 : Nat) : Int) + 13) = True ∧ (0 ≤ ((97 : Nat) : Int) + 7) = True ∧ (0 ≤ ((101 : Nat) : Int) + 4) = True ∧ (0 ≤ ((109 : Nat) : Int) + 9) = True ∧ (0 ≤ ((115 : Nat) : Int) + 7) = True ∧ (0 ≤ ((119 : Nat) : Int) + 4) = True ∧ (0 ≤ ((127 : Nat) : Int) + 9) = True ∧ (0 ≤ ((133 : Nat) : Int) + 40) = True ∧ (0 ≤ ((139 : Nat) : Int) + 9) = True ∧ (0 ≤ ((145 : Nat) : Int) + 28) = True ∧ (0 ≤ ((151 : Nat) : Int) + 9) = True ∧ (0 ≤ ((157 : Nat) : Int) + 16) = True ∧ (0 ≤ ((163 : Nat) : Int) + 7) = True ∧ (0 ≤ ((167 : Nat) : Int) + 6) = True ∧ (0 ≤ ((181 : Nat) : Int) + 8) = True ∧ (0 ≤ ((186 : Nat) : Int) + 20) = True ∧ (0 ≤ ((195 : Nat) : Int) + 8) = True ∧ (0 ≤ ((200 : Nat) : Int) + 6) = True := by and_intros <;> first | rfl | exact eq_true (by decide)
set_option maxHeartbeats 4000000 in
set_option maxRecDepth 20000 in
theorem g_X0_joined {k : Option Value → mj_H → Prop} {G : mj_K} (hG : mj_cl2 cX0_joined (TbX0 7 ((some FieldType.int)) []) k G) {h : mj_H} {v0 : Int32} {v1 : Int64} {v3 : Int64} (hw : ok (F_X0_joined v0 v1 v3) (fun p => k (some (.int p)) h)) : G 0 [.int v0, .long v1, mj_unk, .long v3, mj_unk] [] h 0 0 := by
  unfold F_X0_joined at hw
  refine mj_run hG.1 (fun _ => false) 4000 ?_
  simp only [mj_step, mj_W_s, mj_fin, List.getElem?_cons_zero, List.getElem?_cons_succ, mj_go, Nat.reduceAdd, Nat.reduceSub, Nat.reduceLT, Nat.reduceLeDiff, Nat.zero_add, Nat.reduceEqDiff, Nat.reduceBEq, ↓reduceIte, Bool.false_eq_true, List.append_nil, List.nil_append, List.cons_append, Option.toList, and_true, true_and, true_or, or_true, reduceCtorEq, List.map_nil, bI_eq0, bI_eq1, bool_ft, pk_us, vnar0, vnar1, Bool.or_false, Bool.or_true, Bool.false_or, Bool.true_or, mj_kne, eq_self, Int32.reduceLT, Int32.reduceLE, Int32.reduceAdd, Int32.reduceSub, Int32.reduceMul, not_true_eq_false, not_false_eq_true, false_implies, true_implies, D_X0_joined_0, D_X0_joined_1, mj_F_bipush_n, mj_F_goto_off, mj_F_iconst_n, mj_F_ifCond_eq_off, mj_F_ifCond_ge_off, mj_F_ifCond_le_off, mj_F_ifCond_ne_off, mj_F_if_icmp_ne_off, mj_F_iload_n_k, mj_F_ireturn, mj_F_l2i, mj_F_ladd, mj_F_lcmp, mj_F_lconst_n, mj_F_ldc2_w_i, mj_F_ldc_i, mj_F_ldiv, mj_F_lload_k, mj_F_lload_n_k, mj_F_lmul, mj_F_lstore_k, mj_F_lsub, mj_set, mj_set0, mj_unk, mj_c2, mj_kc, KT_X0, J_X0_joined]
  by_cases c1 : v0 = 38
  · replace hw := ok_t hw c1
    have c := c1
    refine mj_lsw 87 (by rw [show v0 = 38 from c]; rfl) rfl (by decide) ?_
    simp only [mj_step, mj_W_s, mj_fin, List.getElem?_cons_zero, List.getElem?_cons_succ, mj_go, Nat.reduceAdd, Nat.reduceSub, Nat.reduceLT, Nat.reduceLeDiff, Nat.zero_add, Nat.reduceEqDiff, Nat.reduceBEq, ↓reduceIte, Bool.false_eq_true, List.append_nil, List.nil_append, List.cons_append, Option.toList, and_true, true_and, true_or, or_true, reduceCtorEq, List.map_nil, bI_eq0, bI_eq1, bool_ft, pk_us, vnar0, vnar1, Bool.or_false, Bool.or_true, Bool.false_or, Bool.true_or, mj_kne, eq_self, Int32.reduceLT, Int32.reduceLE, Int32.reduceAdd, Int32.reduceSub, Int32.reduceMul, not_true_eq_false, not_false_eq_true, false_implies, true_implies, D_X0_joined_0, D_X0_joined_1, mj_F_bipush_n, mj_F_goto_off, mj_F_iconst_n, mj_F_ifCond_eq_off, mj_F_ifCond_ge_off, mj_F_ifCond_le_off, mj_F_ifCond_ne_off, mj_F_if_icmp_ne_off, mj_F_iload_n_k, mj_F_ireturn, mj_F_l2i, mj_F_ladd, mj_F_lcmp, mj_F_lconst_n, mj_F_ldc2_w_i, mj_F_ldc_i, mj_F_ldiv, mj_F_lload_k, mj_F_lload_n_k, mj_F_lmul, mj_F_lstore_k, mj_F_lsub, mj_set, mj_set0, mj_unk, mj_c2, mj_kc, KT_X0, J_X0_joined]
    refine ⟨fun c => ?_, fun c => ?_⟩
    · replace hw := ok_t hw c
      exact (ok_some hw :)
    · replace hw := ok_f hw c
      refine ⟨fun c => ?_, fun c => ?_⟩
      · replace hw := ok_t hw c
        exact (ok_some hw :)
      · replace hw := ok_f hw c
        exact (ok_some hw :)
  replace hw := ok_f hw c1
  by_cases c2 : v0 = 60
  · replace hw := ok_t hw c2
    have c := c2
    refine mj_lsw 63 (by rw [show v0 = 60 from c]; rfl) rfl (by decide) ?_
    simp only [mj_step, mj_W_s, mj_fin, List.getElem?_cons_zero, List.getElem?_cons_succ, mj_go, Nat.reduceAdd, Nat.reduceSub, Nat.reduceLT, Nat.reduceLeDiff, Nat.zero_add, Nat.reduceEqDiff, Nat.reduceBEq, ↓reduceIte, Bool.false_eq_true, List.append_nil, List.nil_append, List.cons_append, Option.toList, and_true, true_and, true_or, or_true, reduceCtorEq, List.map_nil, bI_eq0, bI_eq1, bool_ft, pk_us, vnar0, vnar1, Bool.or_false, Bool.or_true, Bool.false_or, Bool.true_or, mj_kne, eq_self, Int32.reduceLT, Int32.reduceLE, Int32.reduceAdd, Int32.reduceSub, Int32.reduceMul, not_true_eq_false, not_false_eq_true, false_implies, true_implies, D_X0_joined_0, D_X0_joined_1, mj_F_bipush_n, mj_F_goto_off, mj_F_iconst_n, mj_F_ifCond_eq_off, mj_F_ifCond_ge_off, mj_F_ifCond_le_off, mj_F_ifCond_ne_off, mj_F_if_icmp_ne_off, mj_F_iload_n_k, mj_F_ireturn, mj_F_l2i, mj_F_ladd, mj_F_lcmp, mj_F_lconst_n, mj_F_ldc2_w_i, mj_F_ldc_i, mj_F_ldiv, mj_F_lload_k, mj_F_lload_n_k, mj_F_lmul, mj_F_lstore_k, mj_F_lsub, mj_set, mj_set0, mj_unk, mj_c2, mj_kc, KT_X0, J_X0_joined]
    refine ⟨fun c => ?_, fun c => ?_⟩
    · replace hw := ok_t hw c
      exact (ok_some hw :)
    · replace hw := ok_f hw c
      exact (ok_some hw :)
  replace hw := ok_f hw c2
  by_cases c3 : v0 = 61
  · replace hw := ok_t hw c3
    have c := c3
    refine mj_lsw 51 (by rw [show v0 = 61 from c]; rfl) rfl (by decide) ?_
    simp only [mj_step, mj_W_s, mj_fin, List.getElem?_cons_zero, List.getElem?_cons_succ, mj_go, Nat.reduceAdd, Nat.reduceSub, Nat.reduceLT, Nat.reduceLeDiff, Nat.zero_add, Nat.reduceEqDiff, Nat.reduceBEq, ↓reduceIte, Bool.false_eq_true, List.append_nil, List.nil_append, List.cons_append, Option.toList, and_true, true_and, true_or, or_true, reduceCtorEq, List.map_nil, bI_eq0, bI_eq1, bool_ft, pk_us, vnar0, vnar1, Bool.or_false, Bool.or_true, Bool.false_or, Bool.true_or, mj_kne, eq_self, Int32.reduceLT, Int32.reduceLE, Int32.reduceAdd, Int32.reduceSub, Int32.reduceMul, not_true_eq_false, not_false_eq_true, false_implies, true_implies, D_X0_joined_0, D_X0_joined_1, mj_F_bipush_n, mj_F_goto_off, mj_F_iconst_n, mj_F_ifCond_eq_off, mj_F_ifCond_ge_off, mj_F_ifCond_le_off, mj_F_ifCond_ne_off, mj_F_if_icmp_ne_off, mj_F_iload_n_k, mj_F_ireturn, mj_F_l2i, mj_F_ladd, mj_F_lcmp, mj_F_lconst_n, mj_F_ldc2_w_i, mj_F_ldc_i, mj_F_ldiv, mj_F_lload_k, mj_F_lload_n_k, mj_F_lmul, mj_F_lstore_k, mj_F_lsub, mj_set, mj_set0, mj_unk, mj_c2, mj_kc, KT_X0, J_X0_joined]
    refine ⟨fun c => ?_, fun c => ?_⟩
    · replace hw := ok_f hw c
      exact (ok_some hw :)
    · replace hw := ok_t hw c
      exact (ok_some hw :)
  replace hw := ok_f hw c3
  by_cases c4 : v0 = 62
  · replace hw := ok_t hw c4
    have c := c4
    refine mj_lsw 75 (by rw [show v0 = 62 from c]; rfl) rfl (by decide) ?_
    simp only [mj_step, mj_W_s, mj_fin, List.getElem?_cons_zero, List.getElem?_cons_succ, mj_go, Nat.reduceAdd, Nat.reduceSub, Nat.reduceLT, Nat.reduceLeDiff, Nat.zero_add, Nat.reduceEqDiff, Nat.reduceBEq, ↓reduceIte, Bool.false_eq_true, List.append_nil, List.nil_append, List.cons_append, Option.toList, and_true, true_and, true_or, or_true, reduceCtorEq, List.map_nil, bI_eq0, bI_eq1, bool_ft, pk_us, vnar0, vnar1, Bool.or_false, Bool.or_true, Bool.false_or, Bool.true_or, mj_kne, eq_self, Int32.reduceLT, Int32.reduceLE, Int32.reduceAdd, Int32.reduceSub, Int32.reduceMul, not_true_eq_false, not_false_eq_true, false_implies, true_implies, D_X0_joined_0, D_X0_joined_1, mj_F_bipush_n, mj_F_goto_off, mj_F_iconst_n, mj_F_ifCond_eq_off, mj_F_ifCond_ge_off, mj_F_ifCond_le_off, mj_F_ifCond_ne_off, mj_F_if_icmp_ne_off, mj_F_iload_n_k, mj_F_ireturn, mj_F_l2i, mj_F_ladd, mj_F_lcmp, mj_F_lconst_n, mj_F_ldc2_w_i, mj_F_ldc_i, mj_F_ldiv, mj_F_lload_k, mj_F_lload_n_k, mj_F_lmul, mj_F_lstore_k, mj_F_lsub, mj_set, mj_set0, mj_unk, mj_c2, mj_kc, KT_X0, J_X0_joined]
    refine ⟨fun c => ?_, fun c => ?_⟩
    · replace hw := ok_t hw c
      exact (ok_some hw :)
    · replace hw := ok_f hw c
      exact (ok_some hw :)
  replace hw := ok_f hw c4
  by_cases c5 : v0 = 124
  · replace hw := ok_t hw c5
    have c := c5
    refine mj_lsw 105 (by rw [show v0 = 124 from c]; rfl) rfl (by decide) ?_
    simp only [mj_step, mj_W_s, mj_fin, List.getElem?_cons_zero, List.getElem?_cons_succ, mj_go, Nat.reduceAdd, Nat.reduceSub, Nat.reduceLT, Nat.reduceLeDiff, Nat.zero_add, Nat.reduceEqDiff, Nat.reduceBEq, ↓reduceIte, Bool.false_eq_true, List.append_nil, List.nil_append, List.cons_append, Option.toList, and_true, true_and, true_or, or_true, reduceCtorEq, List.map_nil, bI_eq0, bI_eq1, bool_ft, pk_us, vnar0, vnar1, Bool.or_false, Bool.or_true, Bool.false_or, Bool.true_or, mj_kne, eq_self, Int32.reduceLT, Int32.reduceLE, Int32.reduceAdd, Int32.reduceSub, Int32.reduceMul, not_true_eq_false, not_false_eq_true, false_implies, true_implies, D_X0_joined_0, D_X0_joined_1, mj_F_bipush_n, mj_F_goto_off, mj_F_iconst_n, mj_F_ifCond_eq_off, mj_F_ifCond_ge_off, mj_F_ifCond_le_off, mj_F_ifCond_ne_off, mj_F_if_icmp_ne_off, mj_F_iload_n_k, mj_F_ireturn, mj_F_l2i, mj_F_ladd, mj_F_lcmp, mj_F_lconst_n, mj_F_ldc2_w_i, mj_F_ldc_i, mj_F_ldiv, mj_F_lload_k, mj_F_lload_n_k, mj_F_lmul, mj_F_lstore_k, mj_F_lsub, mj_set, mj_set0, mj_unk, mj_c2, mj_kc, KT_X0, J_X0_joined]
    refine ⟨fun c => ?_, fun c => ?_⟩
    · replace hw := ok_f hw c
      exact (ok_some hw :)
    · replace hw := ok_t hw c
      refine ⟨fun c => ?_, fun c => ?_⟩
      · replace hw := ok_t hw c
        exact (ok_some hw :)
      · replace hw := ok_f hw c
        exact (ok_some hw :)
  replace hw := ok_f hw c5
  refine mj_lsw 123 (mj_lsd (show ∀ k ∈ [(38 : Int), (60 : Int), (61 : Int), (62 : Int), (124 : Int)], _ ≠ k from List.forall_mem_cons.mpr ⟨mj_nt c1 rfl, List.forall_mem_cons.mpr ⟨mj_nt c2 rfl, List.forall_mem_cons.mpr ⟨mj_nt c3 rfl, List.forall_mem_cons.mpr ⟨mj_nt c4 rfl, List.forall_mem_cons.mpr ⟨mj_nt c5 rfl, fun _ h => (nomatch h)⟩⟩⟩⟩⟩)) rfl (by decide) ?_
  simp only [mj_step, mj_W_s, mj_fin, List.getElem?_cons_zero, List.getElem?_cons_succ, mj_go, Nat.reduceAdd, Nat.reduceSub, Nat.reduceLT, Nat.reduceLeDiff, Nat.zero_add, Nat.reduceEqDiff, Nat.reduceBEq, ↓reduceIte, Bool.false_eq_true, List.append_nil, List.nil_append, List.cons_append, Option.toList, and_true, true_and, true_or, or_true, reduceCtorEq, List.map_nil, bI_eq0, bI_eq1, bool_ft, pk_us, vnar0, vnar1, Bool.or_false, Bool.or_true, Bool.false_or, Bool.true_or, mj_kne, eq_self, Int32.reduceLT, Int32.reduceLE, Int32.reduceAdd, Int32.reduceSub, Int32.reduceMul, not_true_eq_false, not_false_eq_true, false_implies, true_implies, D_X0_joined_0, D_X0_joined_1, mj_F_bipush_n, mj_F_goto_off, mj_F_iconst_n, mj_F_ifCond_eq_off, mj_F_ifCond_ge_off, mj_F_ifCond_le_off, mj_F_ifCond_ne_off, mj_F_if_icmp_ne_off, mj_F_iload_n_k, mj_F_ireturn, mj_F_l2i, mj_F_ladd, mj_F_lcmp, mj_F_lconst_n, mj_F_ldc2_w_i, mj_F_ldc_i, mj_F_ldiv, mj_F_lload_k, mj_F_lload_n_k, mj_F_lmul, mj_F_lstore_k, mj_F_lsub, mj_set, mj_set0, mj_unk, mj_c2, mj_kc, KT_X0, J_X0_joined]
  refine ⟨fun c => ?_, fun c => ?_⟩
  · replace hw := ok_f hw c
    refine ⟨fun c => ?_, fun c => ?_⟩
    · replace hw := ok_f hw c
      refine ⟨fun c => ?_, fun c => ?_⟩
      · replace hw := ok_f hw c
        refine ⟨fun c => ?_, fun c => ?_⟩
        · replace hw := ok_f hw c
          refine ⟨(ok_nzl hw).1, ?_⟩
          replace hw := (ok_nzl hw).2
          refine ⟨fun c => ?_, fun c => ?_⟩
          · replace hw := ok_t hw c
            refine ⟨fun c => ?_, fun c => ?_⟩
            · replace hw := ok_t hw c
              exact (ok_some hw :)
            · replace hw := ok_f hw c
              exact (ok_some hw :)
          · replace hw := ok_f hw c
            exact (ok_some hw :)
        · replace hw := ok_t hw c
          refine ⟨fun c => ?_, fun c => ?_⟩
          · replace hw := ok_t hw c
            refine ⟨fun c => ?_, fun c => ?_⟩
            · replace hw := ok_t hw c
              exact (ok_some hw :)
            · replace hw := ok_f hw c
              exact (ok_some hw :)
          · replace hw := ok_f hw c
            exact (ok_some hw :)
      · replace hw := ok_t hw c
        refine ⟨fun c => ?_, fun c => ?_⟩
        · replace hw := ok_t hw c
          refine ⟨fun c => ?_, fun c => ?_⟩
          · replace hw := ok_t hw c
            exact (ok_some hw :)
          · replace hw := ok_f hw c
            exact (ok_some hw :)
        · replace hw := ok_f hw c
          exact (ok_some hw :)
    · replace hw := ok_t hw c
      refine ⟨fun c => ?_, fun c => ?_⟩
      · replace hw := ok_t hw c
        refine ⟨fun c => ?_, fun c => ?_⟩
        · replace hw := ok_t hw c
          exact (ok_some hw :)
        · replace hw := ok_f hw c
          exact (ok_some hw :)
      · replace hw := ok_f hw c
        exact (ok_some hw :)
  · replace hw := ok_t hw c
    refine ⟨fun c => ?_, fun c => ?_⟩
    · replace hw := ok_t hw c
      refine ⟨fun c => ?_, fun c => ?_⟩
      · replace hw := ok_t hw c
        exact (ok_some hw :)
      · replace hw := ok_f hw c
        exact (ok_some hw :)
    · replace hw := ok_f hw c
      exact (ok_some hw :)

def c_X0_joined : mj_S := fun as h k => ∃ (v0 : Int32) (v1 : Int64) (v3 : Int64), as = [.int v0, .long v1, .long v3] ∧ ok (F_X0_joined v0 v1 v3) (fun p => k (some (.int p)) h)
theorem c_X0_joined_in {v0 : Int32} {v1 : Int64} {v3 : Int64} {h : mj_H} {k : Option Value → mj_H → Prop} (hw : ok (F_X0_joined v0 v1 v3) (fun p => k (some (.int p)) h)) : c_X0_joined [.int v0, .long v1, .long v3] h k := ⟨v0, v1, v3, rfl, hw⟩
theorem m_X0_joined (l : Launch) : mj_Met l yX0_joined cX0_joined 7 ((some FieldType.int)) 0 0 0 c_X0_joined := by
  refine mj_body2 false (TbX0 7 ((some FieldType.int)) []) (by decide) rfl rfl (fun h => nomatch h) (tfX0 _ (fun _ h => nomatch h)) ?_
  rintro as h k ⟨v0, v1, v3, rfl, hw⟩
  exact ⟨rfl, fun G hG => g_X0_joined hG hw⟩
def B_X0_run_16 (v1 : Nat) (v3 : Int32) : Int32 × Int32 × St → Option ((Int32 × Int32 × St) ⊕ ((St)))
  | (v4, v5, s) =>
  if v3 ≤ v5 then
    some (.inr s)
  else
    (la s v1).bind fun n1 =>
    if n1 ≤ v5 then
      some (.inr s)
    else
      (ra s v1 v5).bind fun x2 =>
      if 20000 ≤ x2 then
        if x2 = 20033 then
          if v4 ≤ 0 then
            some (.inl (v4, (v5 + 1), s))
          else
            (rd s 8 64 (v4 - 1)).bind fun x7 =>
            if x7 = 0 then
              (wr s 8 64 (v4 - 1) 1).bind fun s9 =>
              some (.inl (v4, (v5 + 1), s9))
            else
              (wr s 8 64 (v4 - 1) 0).bind fun s8 =>
              some (.inl (v4, (v5 + 1), s8))
        else
          if v4 ≤ 1 then
            some (.inl (v4, (v5 + 1), s))
          else
            (rd s 8 64 ((v4 + (-1)) - 1)).bind fun x3 =>
            (rd s 8 64 (v4 + (-1))).bind fun x4 =>
            (F_X0_joined (x2 - 20000) (Int32.toInt64 x3) (Int32.toInt64 x4)).bind fun r5 =>
            (wr s 8 64 ((v4 + (-1)) - 1) r5).bind fun s6 =>
            some (.inl ((v4 + (-1)), (v5 + 1), s6))
      else
        if 64 ≤ v4 then
          some (.inl (v4, (v5 + 1), s))
        else
          if 10000 ≤ x2 then
            (F_X0_letterAt (x2 - 10000) s).bind fun r10 =>
            (wr s 8 64 v4 r10).bind fun s11 =>
            some (.inl ((v4 + 1), (v5 + 1), s11))
          else
            (wr s 8 64 v4 x2).bind fun s12 =>
            some (.inl ((v4 + 1), (v5 + 1), s12))
def F_X0_run_182 (s : St) : Option (Int32 × St) :=
  (rd s 8 64 0).bind fun x15 =>
  some (x15, s)
def F_X0_run_16 (v1 : Nat) (v3 : Int32) (v4 : Int32) (v5 : Int32) (s : St) : Option (Int32 × St) :=
  (lp (B_X0_run_16 v1 v3) FU (v4, v5, s)).bind (fun y => F_X0_run_182 y)
def F_X0_run (v1 : Nat) (v2 : Int32) (v3 : Int32) (s : St) : Option (Int32 × St) :=
  if 0 ≤ v2 then
    F_X0_run_16 v1 v3 0 v2 s
  else
    some (0, s)
theorem J_X0_run : mj_t 1 7 = 8 ∧ mj_t 5 5 = 10 ∧ mj_t 19 163 = 182 ∧ mj_t 26 156 = 182 ∧ mj_t 40 49 = 89 ∧ mj_t 50 126 = 176 ∧ mj_t 64 8 = 72 ∧ mj_t 69 13 = 82 ∧ mj_t 86 90 = 176 ∧ mj_t 94 37 = 131 ∧ mj_t 99 77 = 176 ∧ mj_t 119 7 = 126 ∧ mj_t 123 4 = 127 ∧ mj_t 128 48 = 176 ∧ mj_t 134 42 = 176 ∧ mj_t 179 (-163) = 16 ∧ (0 ≤ ((1 : Nat) : Int) + 7) = True ∧ (0 ≤ ((5 : Nat) : Int) + 5) = True ∧ (0 ≤ ((19 : Nat) : Int) + 163) = True ∧ (0 ≤ ((26 : Nat) : Int) + 156) = True ∧ (0 ≤ ((40 : Nat) : Int) + 49) = True ∧ (0 ≤ ((50 : Nat) : Int) + 126) = True ∧ (0 ≤ ((64 : Nat) : Int) + 8) = True ∧ (0 ≤ ((69 : Nat) : Int) + 13) = True ∧ (0 ≤ ((86 : Nat) : Int) + 90) = True ∧ (0 ≤ ((94 : Nat) : Int) + 37) = True ∧ (0 ≤ ((99 : Nat) : Int) + 77) = True ∧ (0 ≤ ((119 : Nat) : Int) + 7) = True ∧ (0 ≤ ((123 : Nat) : Int) + 4) = True ∧ (0 ≤ ((128 : Nat) : Int) + 48) = True ∧ (0 ≤ ((134 : Nat) : Int) + 42) = True ∧ (0 ≤ ((179 : Nat) : Int) + (-163)) = True := by and_intros <;> first | rfl | exact eq_true (by decide)
def ct_X0_run : List (Nat × mj_Cs) := [(93, 0, 2, 0, 0, 0, c_X0_letterAt), (97, 2, 3, 0, 0, 0, c_X0_joined)]
theorem L_X0_run : mj_lk ct_X0_run 93 = some (0, 2, 0, 0, 0, c_X0_letterAt) ∧ mj_lk ct_X0_run 97 = some (2, 3, 0, 0, 0, c_X0_joined) := ⟨rfl, rfl⟩
set_option maxHeartbeats 4000000 in
set_option maxRecDepth 20000 in
theorem b_X0_run_16 {k : Option Value → mj_H → Prop} {G : mj_K} (hG : mj_cl2 cX0_run (TbX0 7 ((some FieldType.int)) ct_X0_run) k G) {v1 : Nat} {v3 : Int32} {P : Int32 × Int32 × St → Prop} {K : (St) → Prop} (hP : ∀ x, P x → G 16 [.ref 11, .ref v1, mj_unk, .int v3, .int x.1, .int x.2.1] [] (mkCs x.2.2) 0 0) (hK0 : ∀ y, K y → G 182 [.ref 11] [] (mkCs y) 0 0) {v4 : Int32} {v5 : Int32} {s : St} (hw : ok (B_X0_run_16 v1 v3 (v4, v5, s)) (Sum.elim P K)) : G 16 [.ref 11, .ref v1, mj_unk, .int v3, .int v4, .int v5] [] (mkCs s) 0 0 := by
  unfold B_X0_run_16 at hw
  refine mj_run hG.1 (fun pc => pc == 16 || pc == 25 || pc == 32 || pc == 82 || pc == 175 || pc == 182) 4000 ?_
  simp only [mj_step, mj_W_s, mj_fin, List.getElem?_cons_zero, List.getElem?_cons_succ, mj_go, Nat.reduceAdd, Nat.reduceSub, Nat.reduceLT, Nat.reduceLeDiff, Nat.zero_add, Nat.reduceEqDiff, Nat.reduceBEq, ↓reduceIte, Bool.false_eq_true, List.append_nil, List.nil_append, List.cons_append, Option.toList, and_true, true_and, true_or, or_true, reduceCtorEq, List.map_nil, bI_eq0, bI_eq1, bool_ft, pk_us, vnar0, vnar1, Bool.or_false, Bool.or_true, Bool.false_or, Bool.true_or, mj_kne, eq_self, Int32.reduceLT, Int32.reduceLE, Int32.reduceAdd, Int32.reduceSub, Int32.reduceMul, not_true_eq_false, not_false_eq_true, false_implies, true_implies, D_X0_run_0, D_X0_run_1, mj_F_aload_n_k, mj_F_arraylength, mj_F_getfield_i, mj_F_goto_off, mj_F_i2l, mj_F_iaload, mj_F_iastore, mj_F_iconst_n, mj_F_ifCond_ge_off, mj_F_ifCond_le_off, mj_F_ifCond_ne_off, mj_F_if_icmp_ge_off, mj_F_if_icmp_le_off, mj_F_if_icmp_ne_off, mj_F_ifnull_off, mj_F_iinc_k_n, mj_F_iload_k, mj_F_iload_n_k, mj_F_invokestatic_i, mj_F_invokevirtual_i, mj_F_ireturn, mj_F_istore_k, mj_F_isub, mj_F_sipush_n, mj_set, mj_set0, mj_unk, mj_c2, mj_kc, FT_X0, L_X0_run, List.take_succ_cons, List.take_zero, List.drop_succ_cons, List.drop_zero, List.reverse_cons, List.reverse_nil, List.length_cons, List.length_nil, gS_C11, gCf0_8, gS_C19, sS_Ca_19, mj_nk, mj_isA, J_X0_run]
  refine ⟨fun c => ?_, fun c => ?_⟩
  · replace hw := ok_t hw c
    exact hG.2 _ _ _ _ _ _ _ _ _ (by refine ⟨Or.inr rfl, ?_⟩; exact trivial) (Nat.zero_le _) (Nat.zero_le _) (hK0 _ (ok_some hw :) :)
  · replace hw := ok_f hw c
    obtain ⟨_, _, e13, hw⟩ := ok_la hw
    refine mj_run hG.1 (fun pc => pc == 16 || pc == 25 || pc == 32 || pc == 82 || pc == 175 || pc == 182) 4000 ?_
    simp only [e13, mj_isA, mj_step, mj_W_s, mj_fin, List.getElem?_cons_zero, List.getElem?_cons_succ, mj_go, Nat.reduceAdd, Nat.reduceSub, Nat.reduceLT, Nat.reduceLeDiff, Nat.zero_add, Nat.reduceEqDiff, Nat.reduceBEq, ↓reduceIte, Bool.false_eq_true, List.append_nil, List.nil_append, List.cons_append, Option.toList, and_true, true_and, true_or, or_true, reduceCtorEq, List.map_nil, bI_eq0, bI_eq1, bool_ft, pk_us, vnar0, vnar1, Bool.or_false, Bool.or_true, Bool.false_or, Bool.true_or, mj_kne, eq_self, Int32.reduceLT, Int32.reduceLE, Int32.reduceAdd, Int32.reduceSub, Int32.reduceMul, not_true_eq_false, not_false_eq_true, false_implies, true_implies, D_X0_run_0, D_X0_run_1, mj_F_aload_n_k, mj_F_arraylength, mj_F_getfield_i, mj_F_goto_off, mj_F_i2l, mj_F_iaload, mj_F_iastore, mj_F_iconst_n, mj_F_ifCond_ge_off, mj_F_ifCond_le_off, mj_F_ifCond_ne_off, mj_F_if_icmp_ge_off, mj_F_if_icmp_le_off, mj_F_if_icmp_ne_off, mj_F_ifnull_off, mj_F_iinc_k_n, mj_F_iload_k, mj_F_iload_n_k, mj_F_invokestatic_i, mj_F_invokevirtual_i, mj_F_ireturn, mj_F_istore_k, mj_F_isub, mj_F_sipush_n, mj_set, mj_set0, mj_unk, mj_c2, mj_kc, FT_X0, L_X0_run, List.take_succ_cons, List.take_zero, List.drop_succ_cons, List.drop_zero, List.reverse_cons, List.reverse_nil, List.length_cons, List.length_nil, gS_C11, gCf0_8, gS_C19, sS_Ca_19, mj_nk, mj_isA, J_X0_run]
    refine ⟨fun c => ?_, fun c => ?_⟩
    · replace hw := ok_t hw c
      exact hG.2 _ _ _ _ _ _ _ _ _ (by refine ⟨Or.inr rfl, ?_⟩; exact trivial) (Nat.zero_le _) (Nat.zero_le _) (hK0 _ (ok_some hw :) :)
    · replace hw := ok_f hw c
      obtain ⟨_, _, e14, z, hw⟩ := ok_ra hw
      refine mj_run hG.1 (fun pc => pc == 16 || pc == 25 || pc == 32 || pc == 82 || pc == 175 || pc == 182) 4000 ?_
      simp only [e14, mj_step, mj_W_s, mj_fin, List.getElem?_cons_zero, List.getElem?_cons_succ, mj_go, Nat.reduceAdd, Nat.reduceSub, Nat.reduceLT, Nat.reduceLeDiff, Nat.zero_add, Nat.reduceEqDiff, Nat.reduceBEq, ↓reduceIte, Bool.false_eq_true, List.append_nil, List.nil_append, List.cons_append, Option.toList, and_true, true_and, true_or, or_true, reduceCtorEq, List.map_nil, bI_eq0, bI_eq1, bool_ft, pk_us, vnar0, vnar1, Bool.or_false, Bool.or_true, Bool.false_or, Bool.true_or, mj_kne, eq_self, Int32.reduceLT, Int32.reduceLE, Int32.reduceAdd, Int32.reduceSub, Int32.reduceMul, not_true_eq_false, not_false_eq_true, false_implies, true_implies, D_X0_run_0, D_X0_run_1, mj_F_aload_n_k, mj_F_arraylength, mj_F_getfield_i, mj_F_goto_off, mj_F_i2l, mj_F_iaload, mj_F_iastore, mj_F_iconst_n, mj_F_ifCond_ge_off, mj_F_ifCond_le_off, mj_F_ifCond_ne_off, mj_F_if_icmp_ge_off, mj_F_if_icmp_le_off, mj_F_if_icmp_ne_off, mj_F_ifnull_off, mj_F_iinc_k_n, mj_F_iload_k, mj_F_iload_n_k, mj_F_invokestatic_i, mj_F_invokevirtual_i, mj_F_ireturn, mj_F_istore_k, mj_F_isub, mj_F_sipush_n, mj_set, mj_set0, mj_unk, mj_c2, mj_kc, FT_X0, L_X0_run, List.take_succ_cons, List.take_zero, List.drop_succ_cons, List.drop_zero, List.reverse_cons, List.reverse_nil, List.length_cons, List.length_nil, gS_C11, gCf0_8, gS_C19, sS_Ca_19, mj_nk, mj_isA, J_X0_run]
      refine ⟨z, ?_⟩
      refine ⟨fun c => ?_, fun c => ?_⟩
      · replace hw := ok_t hw c
        refine ⟨fun c => ?_, fun c => ?_⟩
        · replace hw := ok_f hw c
          refine ⟨fun c => ?_, fun c => ?_⟩
          · replace hw := ok_t hw c
            exact hG.2 _ _ _ _ _ _ _ _ _ (by refine ⟨Or.inr rfl, ?_⟩; refine ⟨Or.inr rfl, ?_⟩; refine ⟨Or.inl rfl, ?_⟩; refine ⟨Or.inr rfl, ?_⟩; refine ⟨Or.inr rfl, ?_⟩; refine ⟨Or.inr rfl, ?_⟩; exact trivial) (Nat.zero_le _) (Nat.zero_le _) (hP _ (ok_some hw :) :)
          · replace hw := ok_f hw c
            refine ⟨(ok_rd hw).1, ?_⟩
            replace hw := (ok_rd hw).2
            refine ⟨(ok_rd hw).1, ?_⟩
            replace hw := (ok_rd hw).2
            refine c_X0_joined_in (ok_imp (ok_bind hw) ?_)
            intro p hw
            simp only [Option.toList, List.nil_append, List.cons_append, Nat.reduceSub]
            refine mj_run hG.1 (fun pc => pc == 16 || pc == 25 || pc == 32 || pc == 82 || pc == 175 || pc == 182) 4000 ?_
            simp only [mj_step, mj_W_s, mj_fin, List.getElem?_cons_zero, List.getElem?_cons_succ, mj_go, Nat.reduceAdd, Nat.reduceSub, Nat.reduceLT, Nat.reduceLeDiff, Nat.zero_add, Nat.reduceEqDiff, Nat.reduceBEq, ↓reduceIte, Bool.false_eq_true, List.append_nil, List.nil_append, List.cons_append, Option.toList, and_true, true_and, true_or, or_true, reduceCtorEq, List.map_nil, bI_eq0, bI_eq1, bool_ft, pk_us, vnar0, vnar1, Bool.or_false, Bool.or_true, Bool.false_or, Bool.true_or, mj_kne, eq_self, Int32.reduceLT, Int32.reduceLE, Int32.reduceAdd, Int32.reduceSub, Int32.reduceMul, not_true_eq_false, not_false_eq_true, false_implies, true_implies, D_X0_run_0, D_X0_run_1, mj_F_aload_n_k, mj_F_arraylength, mj_F_getfield_i, mj_F_goto_off, mj_F_i2l, mj_F_iaload, mj_F_iastore, mj_F_iconst_n, mj_F_ifCond_ge_off, mj_F_ifCond_le_off, mj_F_ifCond_ne_off, mj_F_if_icmp_ge_off, mj_F_if_icmp_le_off, mj_F_if_icmp_ne_off, mj_F_ifnull_off, mj_F_iinc_k_n, mj_F_iload_k, mj_F_iload_n_k, mj_F_invokestatic_i, mj_F_invokevirtual_i, mj_F_ireturn, mj_F_istore_k, mj_F_isub, mj_F_sipush_n, mj_set, mj_set0, mj_unk, mj_c2, mj_kc, FT_X0, L_X0_run, List.take_succ_cons, List.take_zero, List.drop_succ_cons, List.drop_zero, List.reverse_cons, List.reverse_nil, List.length_cons, List.length_nil, gS_C11, gCf0_8, gS_C19, sS_Ca_19, mj_nk, mj_isA, J_X0_run]
            refine ⟨(ok_wr hw).1, ?_⟩
            replace hw := (ok_wr hw).2
            exact hG.2 _ _ _ _ _ _ _ _ _ (by refine ⟨Or.inr rfl, ?_⟩; refine ⟨Or.inr rfl, ?_⟩; refine ⟨Or.inl rfl, ?_⟩; refine ⟨Or.inr rfl, ?_⟩; refine ⟨Or.inr rfl, ?_⟩; refine ⟨Or.inr rfl, ?_⟩; exact trivial) (Nat.zero_le _) (Nat.zero_le _) (hP _ (ok_some hw :) :)
        · replace hw := ok_t hw c
          refine ⟨fun c => ?_, fun c => ?_⟩
          · replace hw := ok_t hw c
            exact hG.2 _ _ _ _ _ _ _ _ _ (by refine ⟨Or.inr rfl, ?_⟩; refine ⟨Or.inr rfl, ?_⟩; refine ⟨Or.inl rfl, ?_⟩; refine ⟨Or.inr rfl, ?_⟩; refine ⟨Or.inr rfl, ?_⟩; refine ⟨Or.inr rfl, ?_⟩; exact trivial) (Nat.zero_le _) (Nat.zero_le _) (hP _ (ok_some hw :) :)
          · replace hw := ok_f hw c
            refine ⟨(ok_rd hw).1, ?_⟩
            replace hw := (ok_rd hw).2
            refine ⟨fun c => ?_, fun c => ?_⟩
            · replace hw := ok_f hw c
              refine ⟨(ok_wr hw).1, ?_⟩
              replace hw := (ok_wr hw).2
              exact hG.2 _ _ _ _ _ _ _ _ _ (by refine ⟨Or.inr rfl, ?_⟩; refine ⟨Or.inr rfl, ?_⟩; refine ⟨Or.inl rfl, ?_⟩; refine ⟨Or.inr rfl, ?_⟩; refine ⟨Or.inr rfl, ?_⟩; refine ⟨Or.inr rfl, ?_⟩; exact trivial) (Nat.zero_le _) (Nat.zero_le _) (hP _ (ok_some hw :) :)
            · replace hw := ok_t hw c
              refine ⟨(ok_wr hw).1, ?_⟩
              replace hw := (ok_wr hw).2
              exact hG.2 _ _ _ _ _ _ _ _ _ (by refine ⟨Or.inr rfl, ?_⟩; refine ⟨Or.inr rfl, ?_⟩; refine ⟨Or.inl rfl, ?_⟩; refine ⟨Or.inr rfl, ?_⟩; refine ⟨Or.inr rfl, ?_⟩; refine ⟨Or.inr rfl, ?_⟩; exact trivial) (Nat.zero_le _) (Nat.zero_le _) (hP _ (ok_some hw :) :)
      · replace hw := ok_f hw c
        refine ⟨fun c => ?_, fun c => ?_⟩
        · replace hw := ok_t hw c
          exact hG.2 _ _ _ _ _ _ _ _ _ (by refine ⟨Or.inr rfl, ?_⟩; refine ⟨Or.inr rfl, ?_⟩; refine ⟨Or.inl rfl, ?_⟩; refine ⟨Or.inr rfl, ?_⟩; refine ⟨Or.inr rfl, ?_⟩; refine ⟨Or.inr rfl, ?_⟩; exact trivial) (Nat.zero_le _) (Nat.zero_le _) (hP _ (ok_some hw :) :)
        · replace hw := ok_f hw c
          refine ⟨fun c => ?_, fun c => ?_⟩
          · replace hw := ok_t hw c
            refine c_X0_letterAt_in (ok_imp (ok_bind hw) ?_)
            intro p hw
            simp only [Option.toList, List.nil_append, List.cons_append, Nat.reduceSub]
            refine mj_run hG.1 (fun pc => pc == 16 || pc == 25 || pc == 32 || pc == 82 || pc == 175 || pc == 182) 4000 ?_
            simp only [mj_step, mj_W_s, mj_fin, List.getElem?_cons_zero, List.getElem?_cons_succ, mj_go, Nat.reduceAdd, Nat.reduceSub, Nat.reduceLT, Nat.reduceLeDiff, Nat.zero_add, Nat.reduceEqDiff, Nat.reduceBEq, ↓reduceIte, Bool.false_eq_true, List.append_nil, List.nil_append, List.cons_append, Option.toList, and_true, true_and, true_or, or_true, reduceCtorEq, List.map_nil, bI_eq0, bI_eq1, bool_ft, pk_us, vnar0, vnar1, Bool.or_false, Bool.or_true, Bool.false_or, Bool.true_or, mj_kne, eq_self, Int32.reduceLT, Int32.reduceLE, Int32.reduceAdd, Int32.reduceSub, Int32.reduceMul, not_true_eq_false, not_false_eq_true, false_implies, true_implies, D_X0_run_0, D_X0_run_1, mj_F_aload_n_k, mj_F_arraylength, mj_F_getfield_i, mj_F_goto_off, mj_F_i2l, mj_F_iaload, mj_F_iastore, mj_F_iconst_n, mj_F_ifCond_ge_off, mj_F_ifCond_le_off, mj_F_ifCond_ne_off, mj_F_if_icmp_ge_off, mj_F_if_icmp_le_off, mj_F_if_icmp_ne_off, mj_F_ifnull_off, mj_F_iinc_k_n, mj_F_iload_k, mj_F_iload_n_k, mj_F_invokestatic_i, mj_F_invokevirtual_i, mj_F_ireturn, mj_F_istore_k, mj_F_isub, mj_F_sipush_n, mj_set, mj_set0, mj_unk, mj_c2, mj_kc, FT_X0, L_X0_run, List.take_succ_cons, List.take_zero, List.drop_succ_cons, List.drop_zero, List.reverse_cons, List.reverse_nil, List.length_cons, List.length_nil, gS_C11, gCf0_8, gS_C19, sS_Ca_19, mj_nk, mj_isA, J_X0_run]
            refine ⟨(ok_wr hw).1, ?_⟩
            replace hw := (ok_wr hw).2
            exact hG.2 _ _ _ _ _ _ _ _ _ (by refine ⟨Or.inr rfl, ?_⟩; refine ⟨Or.inr rfl, ?_⟩; refine ⟨Or.inl rfl, ?_⟩; refine ⟨Or.inr rfl, ?_⟩; refine ⟨Or.inr rfl, ?_⟩; refine ⟨Or.inr rfl, ?_⟩; exact trivial) (Nat.zero_le _) (Nat.zero_le _) (hP _ (ok_some hw :) :)
          · replace hw := ok_f hw c
            refine mj_run hG.1 (fun pc => pc == 16 || pc == 25 || pc == 32 || pc == 82 || pc == 175 || pc == 182) 4000 ?_
            simp only [mj_step, mj_W_s, mj_fin, List.getElem?_cons_zero, List.getElem?_cons_succ, mj_go, Nat.reduceAdd, Nat.reduceSub, Nat.reduceLT, Nat.reduceLeDiff, Nat.zero_add, Nat.reduceEqDiff, Nat.reduceBEq, ↓reduceIte, Bool.false_eq_true, List.append_nil, List.nil_append, List.cons_append, Option.toList, and_true, true_and, true_or, or_true, reduceCtorEq, List.map_nil, bI_eq0, bI_eq1, bool_ft, pk_us, vnar0, vnar1, Bool.or_false, Bool.or_true, Bool.false_or, Bool.true_or, mj_kne, eq_self, Int32.reduceLT, Int32.reduceLE, Int32.reduceAdd, Int32.reduceSub, Int32.reduceMul, not_true_eq_false, not_false_eq_true, false_implies, true_implies, D_X0_run_0, D_X0_run_1, mj_F_aload_n_k, mj_F_arraylength, mj_F_getfield_i, mj_F_goto_off, mj_F_i2l, mj_F_iaload, mj_F_iastore, mj_F_iconst_n, mj_F_ifCond_ge_off, mj_F_ifCond_le_off, mj_F_ifCond_ne_off, mj_F_if_icmp_ge_off, mj_F_if_icmp_le_off, mj_F_if_icmp_ne_off, mj_F_ifnull_off, mj_F_iinc_k_n, mj_F_iload_k, mj_F_iload_n_k, mj_F_invokestatic_i, mj_F_invokevirtual_i, mj_F_ireturn, mj_F_istore_k, mj_F_isub, mj_F_sipush_n, mj_set, mj_set0, mj_unk, mj_c2, mj_kc, FT_X0, L_X0_run, List.take_succ_cons, List.take_zero, List.drop_succ_cons, List.drop_zero, List.reverse_cons, List.reverse_nil, List.length_cons, List.length_nil, gS_C11, gCf0_8, gS_C19, sS_Ca_19, mj_nk, mj_isA, J_X0_run]
            refine ⟨(ok_wr hw).1, ?_⟩
            replace hw := (ok_wr hw).2
            exact hG.2 _ _ _ _ _ _ _ _ _ (by refine ⟨Or.inr rfl, ?_⟩; refine ⟨Or.inr rfl, ?_⟩; refine ⟨Or.inl rfl, ?_⟩; refine ⟨Or.inr rfl, ?_⟩; refine ⟨Or.inr rfl, ?_⟩; refine ⟨Or.inr rfl, ?_⟩; exact trivial) (Nat.zero_le _) (Nat.zero_le _) (hP _ (ok_some hw :) :)

set_option maxHeartbeats 4000000 in
set_option maxRecDepth 20000 in
theorem g_X0_run_182 {k : Option Value → mj_H → Prop} {G : mj_K} (hG : mj_cl2 cX0_run (TbX0 7 ((some FieldType.int)) ct_X0_run) k G)   {s : St} (hw : ok (F_X0_run_182 s) (fun p => k (some (.int p.1)) (mkCs p.2))) : G 182 [.ref 11] [] (mkCs s) 0 0 := by
  unfold F_X0_run_182 at hw
  refine mj_run hG.1 (fun pc => pc == 16 || pc == 25 || pc == 32 || pc == 82 || pc == 175 || pc == 182) 4000 ?_
  simp only [mj_step, mj_W_s, mj_fin, List.getElem?_cons_zero, List.getElem?_cons_succ, mj_go, Nat.reduceAdd, Nat.reduceSub, Nat.reduceLT, Nat.reduceLeDiff, Nat.zero_add, Nat.reduceEqDiff, Nat.reduceBEq, ↓reduceIte, Bool.false_eq_true, List.append_nil, List.nil_append, List.cons_append, Option.toList, and_true, true_and, true_or, or_true, reduceCtorEq, List.map_nil, bI_eq0, bI_eq1, bool_ft, pk_us, vnar0, vnar1, Bool.or_false, Bool.or_true, Bool.false_or, Bool.true_or, mj_kne, eq_self, Int32.reduceLT, Int32.reduceLE, Int32.reduceAdd, Int32.reduceSub, Int32.reduceMul, not_true_eq_false, not_false_eq_true, false_implies, true_implies, D_X0_run_0, D_X0_run_1, mj_F_aload_n_k, mj_F_arraylength, mj_F_getfield_i, mj_F_goto_off, mj_F_i2l, mj_F_iaload, mj_F_iastore, mj_F_iconst_n, mj_F_ifCond_ge_off, mj_F_ifCond_le_off, mj_F_ifCond_ne_off, mj_F_if_icmp_ge_off, mj_F_if_icmp_le_off, mj_F_if_icmp_ne_off, mj_F_ifnull_off, mj_F_iinc_k_n, mj_F_iload_k, mj_F_iload_n_k, mj_F_invokestatic_i, mj_F_invokevirtual_i, mj_F_ireturn, mj_F_istore_k, mj_F_isub, mj_F_sipush_n, mj_set, mj_set0, mj_unk, mj_c2, mj_kc, FT_X0, L_X0_run, List.take_succ_cons, List.take_zero, List.drop_succ_cons, List.drop_zero, List.reverse_cons, List.reverse_nil, List.length_cons, List.length_nil, gS_C11, gCf0_8, gS_C19, sS_Ca_19, mj_nk, mj_isA, J_X0_run]
  refine ⟨(ok_rd hw).1, ?_⟩
  replace hw := (ok_rd hw).2
  exact (ok_some hw :)

set_option maxHeartbeats 4000000 in
theorem g_X0_run_16 {k : Option Value → mj_H → Prop} {G : mj_K} (hG : mj_cl2 cX0_run (TbX0 7 ((some FieldType.int)) ct_X0_run) k G)   {v1 : Nat} {v3 : Int32} {v4 : Int32} {v5 : Int32} {s : St} (hw : ok (F_X0_run_16 v1 v3 v4 v5 s) (fun p => k (some (.int p.1)) (mkCs p.2))) : G 16 [.ref 11, .ref v1, mj_unk, .int v3, .int v4, .int v5] [] (mkCs s) 0 0 := by
  unfold F_X0_run_16 at hw
  refine lp_ok (B_X0_run_16 v1 v3) (fun x => G 16 [.ref 11, .ref v1, mj_unk, .int v3, .int x.1, .int x.2.1] [] (mkCs x.2.2) 0 0) _ ?_ _ _ (ok_bind hw)
  rintro ⟨v4, v5, s⟩ hb
  exact b_X0_run_16 hG (fun _ z => z) (fun y hw => by exact hG.2 _ _ _ _ _ _ _ _ _ (by refine ⟨Or.inr rfl, ?_⟩; exact trivial) (Nat.zero_le _) (Nat.zero_le _) (g_X0_run_182 hG  hw :)) hb

set_option maxHeartbeats 4000000 in
set_option maxRecDepth 20000 in
theorem g_X0_run {k : Option Value → mj_H → Prop} {G : mj_K} (hG : mj_cl2 cX0_run (TbX0 7 ((some FieldType.int)) ct_X0_run) k G) {v1 : Nat} {v2 : Int32} {v3 : Int32} {s : St} (hw : ok (F_X0_run v1 v2 v3 s) (fun p => k (some (.int p.1)) (mkCs p.2))) : G 0 [.ref 11, .ref v1, .int v2, .int v3] [] (mkCs s) 0 0 := by
  unfold F_X0_run at hw
  refine mj_run hG.1 (fun pc => pc == 16 || pc == 25 || pc == 32 || pc == 82 || pc == 175 || pc == 182) 4000 ?_
  simp only [mj_step, mj_W_s, mj_fin, List.getElem?_cons_zero, List.getElem?_cons_succ, mj_go, Nat.reduceAdd, Nat.reduceSub, Nat.reduceLT, Nat.reduceLeDiff, Nat.zero_add, Nat.reduceEqDiff, Nat.reduceBEq, ↓reduceIte, Bool.false_eq_true, List.append_nil, List.nil_append, List.cons_append, Option.toList, and_true, true_and, true_or, or_true, reduceCtorEq, List.map_nil, bI_eq0, bI_eq1, bool_ft, pk_us, vnar0, vnar1, Bool.or_false, Bool.or_true, Bool.false_or, Bool.true_or, mj_kne, eq_self, Int32.reduceLT, Int32.reduceLE, Int32.reduceAdd, Int32.reduceSub, Int32.reduceMul, not_true_eq_false, not_false_eq_true, false_implies, true_implies, D_X0_run_0, D_X0_run_1, mj_F_aload_n_k, mj_F_arraylength, mj_F_getfield_i, mj_F_goto_off, mj_F_i2l, mj_F_iaload, mj_F_iastore, mj_F_iconst_n, mj_F_ifCond_ge_off, mj_F_ifCond_le_off, mj_F_ifCond_ne_off, mj_F_if_icmp_ge_off, mj_F_if_icmp_le_off, mj_F_if_icmp_ne_off, mj_F_ifnull_off, mj_F_iinc_k_n, mj_F_iload_k, mj_F_iload_n_k, mj_F_invokestatic_i, mj_F_invokevirtual_i, mj_F_ireturn, mj_F_istore_k, mj_F_isub, mj_F_sipush_n, mj_set, mj_set0, mj_unk, mj_c2, mj_kc, FT_X0, L_X0_run, List.take_succ_cons, List.take_zero, List.drop_succ_cons, List.drop_zero, List.reverse_cons, List.reverse_nil, List.length_cons, List.length_nil, gS_C11, gCf0_8, gS_C19, sS_Ca_19, mj_nk, mj_isA, J_X0_run]
  refine ⟨fun c => ?_, fun c => ?_⟩
  · replace hw := ok_t hw c
    exact hG.2 _ _ _ _ _ _ _ _ _ (by refine ⟨Or.inr rfl, ?_⟩; refine ⟨Or.inr rfl, ?_⟩; refine ⟨Or.inl rfl, ?_⟩; refine ⟨Or.inr rfl, ?_⟩; refine ⟨Or.inr rfl, ?_⟩; refine ⟨Or.inr rfl, ?_⟩; exact trivial) (Nat.zero_le _) (Nat.zero_le _) (g_X0_run_16 hG  hw :)
  · replace hw := ok_f hw c
    exact (ok_some hw :)

def c_X0_run : mj_S := fun as h k => ∃ (v1 : Nat) (v2 : Int32) (v3 : Int32) (s : St), as = [.ref 11, .ref v1, .int v2, .int v3] ∧ h = mkCs s ∧ ok (F_X0_run v1 v2 v3 s) (fun p => k (some (.int p.1)) (mkCs p.2))
theorem c_X0_run_in {v1 : Nat} {v2 : Int32} {v3 : Int32} {s : St} {k : Option Value → mj_H → Prop} (hw : ok (F_X0_run v1 v2 v3 s) (fun p => k (some (.int p.1)) (mkCs p.2))) : c_X0_run [.ref 11, .ref v1, .int v2, .int v3] (mkCs s) k := ⟨v1, v2, v3, s, rfl, rfl, hw⟩
theorem m_X0_run (l : Launch) : mj_Met l yX0_run cX0_run 7 ((some FieldType.int)) 1 0 0 c_X0_run := by
  refine mj_body2 false (TbX0 7 ((some FieldType.int)) ct_X0_run) (by decide) rfl rfl (fun h => nomatch h) (tfX0 _ (List.forall_mem_cons.mpr ⟨cfX0_93 (m_X0_letterAt l) (by decide), List.forall_mem_cons.mpr ⟨cfX0_97 (m_X0_joined l) (by decide), fun _ h => nomatch h⟩⟩)) ?_
  rintro as h k ⟨v1, v2, v3, s, rfl, rfl, hw⟩
  exact ⟨rfl, fun G hG => g_X0_run hG hw⟩
def B_X0_clauseThatHolds_16 (v1 : Int32) (v2 : Int32) (v3 : Nat) : Int32 × St → Option ((Int32 × St) ⊕ ((St) ⊕ (Int32 × St)))
  | (v4, s) =>
  (la s v3).bind fun n2 =>
  if n2 ≤ (v4 + 3) then
    some (.inr (.inl s))
  else
    (ra s v3 (v4 + 1)).bind fun x3 =>
    (ra s v3 (v4 + 2)).bind fun x4 =>
    if x3 = x4 then
      (ra s v3 v4).bind fun x12 =>
      if x12 = v2 then
        some (.inr (.inr (v4, s)))
      else
        some (.inl ((v4 + 4), s))
    else
      (ra s v3 v4).bind fun x5 =>
      if x5 = v2 then
        rr s 5 20 v1 (
          (ra s v3 (v4 + 1)).bind fun x7 =>
          (ra s v3 (v4 + 2)).bind fun x8 =>
          none) fun a6 =>
        (ra s v3 (v4 + 1)).bind fun x9 =>
        (ra s v3 (v4 + 2)).bind fun x10 =>
        (F_X0_run a6 x9 x10 s).bind fun r11 =>
        if r11.1 = 0 then
          some (.inl ((v4 + 4), r11.2))
        else
          some (.inr (.inr (v4, r11.2)))
      else
        some (.inl ((v4 + 4), s))
def F_X0_clauseThatHolds_94 (s : St) : Option (Int32 × St) :=
  some ((-1), s)
def F_X0_clauseThatHolds_85 (v4 : Int32) (s : St) : Option (Int32 × St) :=
  some (v4, s)
def F_X0_clauseThatHolds_16 (v1 : Int32) (v2 : Int32) (v3 : Nat) (v4 : Int32) (s : St) : Option (Int32 × St) :=
  (lp (B_X0_clauseThatHolds_16 v1 v2 v3) FU (v4, s)).bind (Sum.elim (fun y => F_X0_clauseThatHolds_94 y) (fun y => F_X0_clauseThatHolds_85 y.1 y.2))
def F_X0_clauseThatHolds (v1 : Int32) (v2 : Int32) (s : St) : Option (Int32 × St) :=
  rr s 6 20 v1 (
    some ((-1), s)) fun a1 =>
  F_X0_clauseThatHolds_16 v1 v2 a1 0 s
theorem J_X0_clauseThatHolds : mj_t 8 5 = 13 ∧ mj_t 22 72 = 94 ∧ mj_t 37 7 = 44 ∧ mj_t 41 4 = 45 ∧ mj_t 52 36 = 88 ∧ mj_t 57 28 = 85 ∧ mj_t 82 6 = 88 ∧ mj_t 91 (-75) = 16 ∧ (0 ≤ ((8 : Nat) : Int) + 5) = True ∧ (0 ≤ ((22 : Nat) : Int) + 72) = True ∧ (0 ≤ ((37 : Nat) : Int) + 7) = True ∧ (0 ≤ ((41 : Nat) : Int) + 4) = True ∧ (0 ≤ ((52 : Nat) : Int) + 36) = True ∧ (0 ≤ ((57 : Nat) : Int) + 28) = True ∧ (0 ≤ ((82 : Nat) : Int) + 6) = True ∧ (0 ≤ ((91 : Nat) : Int) + (-75)) = True := by and_intros <;> first | rfl | exact eq_true (by decide)
def ct_X0_clauseThatHolds : List (Nat × mj_Cs) := [(81, 0, 4, 0, 0, 0, c_X0_run)]
theorem L_X0_clauseThatHolds : mj_lk ct_X0_clauseThatHolds 81 = some (0, 4, 0, 0, 0, c_X0_run) := rfl
set_option maxHeartbeats 4000000 in
set_option maxRecDepth 20000 in
theorem b_X0_clauseThatHolds_16 {k : Option Value → mj_H → Prop} {G : mj_K} (hG : mj_cl2 cX0_clauseThatHolds (TbX0 6 ((some FieldType.int)) ct_X0_clauseThatHolds) k G) {v1 : Int32} {v2 : Int32} {v3 : Nat} {P : Int32 × St → Prop} {K : (St) ⊕ (Int32 × St) → Prop} (hP : ∀ x, P x → G 16 [.ref 11, .int v1, .int v2, .ref v3, .int x.1] [] (mkCs x.2) 0 0) (hK0 : ∀ y, K (.inl y) → G 94 [] [] (mkCs y) 0 0) (hK1 : ∀ y, K (.inr y) → G 85 [mj_unk, mj_unk, mj_unk, mj_unk, .int y.1] [] (mkCs y.2) 0 0) {v4 : Int32} {s : St} (hw : ok (B_X0_clauseThatHolds_16 v1 v2 v3 (v4, s)) (Sum.elim P K)) : G 16 [.ref 11, .int v1, .int v2, .ref v3, .int v4] [] (mkCs s) 0 0 := by
  unfold B_X0_clauseThatHolds_16 at hw
  refine mj_run hG.1 (fun pc => pc == 6 || pc == 16 || pc == 21 || pc == 30 || pc == 36 || pc == 50 || pc == 67 || pc == 72 || pc == 78 || pc == 82 || pc == 85 || pc == 94) 4000 ?_
  simp only [mj_step, mj_W_s, mj_fin, List.getElem?_cons_zero, List.getElem?_cons_succ, mj_go, Nat.reduceAdd, Nat.reduceSub, Nat.reduceLT, Nat.reduceLeDiff, Nat.zero_add, Nat.reduceEqDiff, Nat.reduceBEq, ↓reduceIte, Bool.false_eq_true, List.append_nil, List.nil_append, List.cons_append, Option.toList, and_true, true_and, true_or, or_true, reduceCtorEq, List.map_nil, bI_eq0, bI_eq1, bool_ft, pk_us, vnar0, vnar1, Bool.or_false, Bool.or_true, Bool.false_or, Bool.true_or, mj_kne, eq_self, Int32.reduceLT, Int32.reduceLE, Int32.reduceAdd, Int32.reduceSub, Int32.reduceMul, not_true_eq_false, not_false_eq_true, false_implies, true_implies, D_X0_clauseThatHolds_0, D_X0_clauseThatHolds_1, mj_F_aaload, mj_F_aload_n_k, mj_F_arraylength, mj_F_astore_n_k, mj_F_getfield_i, mj_F_goto_off, mj_F_iadd, mj_F_iaload, mj_F_iconst_n, mj_F_ifCond_eq_off, mj_F_ifCond_ne_off, mj_F_if_icmp_ge_off, mj_F_if_icmp_ne_off, mj_F_ifnonnull_off, mj_F_iinc_k_n, mj_F_iload_k, mj_F_iload_n_k, mj_F_invokevirtual_i, mj_F_ireturn, mj_F_istore_k, mj_set, mj_set0, mj_unk, mj_c2, mj_kc, FT_X0, L_X0_clauseThatHolds, List.take_succ_cons, List.take_zero, List.drop_succ_cons, List.drop_zero, List.reverse_cons, List.reverse_nil, List.length_cons, List.length_nil, gS_C11, gCf0_6, gS_C17, sS_Cr_17, gCf0_5, gS_C16, sS_Cr_16, mj_nk, mj_isA, J_X0_clauseThatHolds]
  obtain ⟨_, _, e13, hw⟩ := ok_la hw
  refine mj_run hG.1 (fun pc => pc == 6 || pc == 16 || pc == 21 || pc == 30 || pc == 36 || pc == 50 || pc == 67 || pc == 72 || pc == 78 || pc == 82 || pc == 85 || pc == 94) 4000 ?_
  simp only [e13, mj_isA, mj_step, mj_W_s, mj_fin, List.getElem?_cons_zero, List.getElem?_cons_succ, mj_go, Nat.reduceAdd, Nat.reduceSub, Nat.reduceLT, Nat.reduceLeDiff, Nat.zero_add, Nat.reduceEqDiff, Nat.reduceBEq, ↓reduceIte, Bool.false_eq_true, List.append_nil, List.nil_append, List.cons_append, Option.toList, and_true, true_and, true_or, or_true, reduceCtorEq, List.map_nil, bI_eq0, bI_eq1, bool_ft, pk_us, vnar0, vnar1, Bool.or_false, Bool.or_true, Bool.false_or, Bool.true_or, mj_kne, eq_self, Int32.reduceLT, Int32.reduceLE, Int32.reduceAdd, Int32.reduceSub, Int32.reduceMul, not_true_eq_false, not_false_eq_true, false_implies, true_implies, D_X0_clauseThatHolds_0, D_X0_clauseThatHolds_1, mj_F_aaload, mj_F_aload_n_k, mj_F_arraylength, mj_F_astore_n_k, mj_F_getfield_i, mj_F_goto_off, mj_F_iadd, mj_F_iaload, mj_F_iconst_n, mj_F_ifCond_eq_off, mj_F_ifCond_ne_off, mj_F_if_icmp_ge_off, mj_F_if_icmp_ne_off, mj_F_ifnonnull_off, mj_F_iinc_k_n, mj_F_iload_k, mj_F_iload_n_k, mj_F_invokevirtual_i, mj_F_ireturn, mj_F_istore_k, mj_set, mj_set0, mj_unk, mj_c2, mj_kc, FT_X0, L_X0_clauseThatHolds, List.take_succ_cons, List.take_zero, List.drop_succ_cons, List.drop_zero, List.reverse_cons, List.reverse_nil, List.length_cons, List.length_nil, gS_C11, gCf0_6, gS_C17, sS_Cr_17, gCf0_5, gS_C16, sS_Cr_16, mj_nk, mj_isA, J_X0_clauseThatHolds]
  refine ⟨fun c => ?_, fun c => ?_⟩
  · replace hw := ok_t hw c
    exact hG.2 _ _ _ _ _ _ _ _ _ (by exact trivial) (Nat.zero_le _) (Nat.zero_le _) (hK0 _ (ok_some hw :) :)
  · replace hw := ok_f hw c
    obtain ⟨_, _, e14, z, hw⟩ := ok_ra hw
    refine mj_run hG.1 (fun pc => pc == 6 || pc == 16 || pc == 21 || pc == 30 || pc == 36 || pc == 50 || pc == 67 || pc == 72 || pc == 78 || pc == 82 || pc == 85 || pc == 94) 4000 ?_
    simp only [e14, mj_step, mj_W_s, mj_fin, List.getElem?_cons_zero, List.getElem?_cons_succ, mj_go, Nat.reduceAdd, Nat.reduceSub, Nat.reduceLT, Nat.reduceLeDiff, Nat.zero_add, Nat.reduceEqDiff, Nat.reduceBEq, ↓reduceIte, Bool.false_eq_true, List.append_nil, List.nil_append, List.cons_append, Option.toList, and_true, true_and, true_or, or_true, reduceCtorEq, List.map_nil, bI_eq0, bI_eq1, bool_ft, pk_us, vnar0, vnar1, Bool.or_false, Bool.or_true, Bool.false_or, Bool.true_or, mj_kne, eq_self, Int32.reduceLT, Int32.reduceLE, Int32.reduceAdd, Int32.reduceSub, Int32.reduceMul, not_true_eq_false, not_false_eq_true, false_implies, true_implies, D_X0_clauseThatHolds_0, D_X0_clauseThatHolds_1, mj_F_aaload, mj_F_aload_n_k, mj_F_arraylength, mj_F_astore_n_k, mj_F_getfield_i, mj_F_goto_off, mj_F_iadd, mj_F_iaload, mj_F_iconst_n, mj_F_ifCond_eq_off, mj_F_ifCond_ne_off, mj_F_if_icmp_ge_off, mj_F_if_icmp_ne_off, mj_F_ifnonnull_off, mj_F_iinc_k_n, mj_F_iload_k, mj_F_iload_n_k, mj_F_invokevirtual_i, mj_F_ireturn, mj_F_istore_k, mj_set, mj_set0, mj_unk, mj_c2, mj_kc, FT_X0, L_X0_clauseThatHolds, List.take_succ_cons, List.take_zero, List.drop_succ_cons, List.drop_zero, List.reverse_cons, List.reverse_nil, List.length_cons, List.length_nil, gS_C11, gCf0_6, gS_C17, sS_Cr_17, gCf0_5, gS_C16, sS_Cr_16, mj_nk, mj_isA, J_X0_clauseThatHolds]
    refine ⟨z, ?_⟩
    obtain ⟨_, _, e15, z, hw⟩ := ok_ra hw
    refine mj_run hG.1 (fun pc => pc == 6 || pc == 16 || pc == 21 || pc == 30 || pc == 36 || pc == 50 || pc == 67 || pc == 72 || pc == 78 || pc == 82 || pc == 85 || pc == 94) 4000 ?_
    simp only [e15, mj_step, mj_W_s, mj_fin, List.getElem?_cons_zero, List.getElem?_cons_succ, mj_go, Nat.reduceAdd, Nat.reduceSub, Nat.reduceLT, Nat.reduceLeDiff, Nat.zero_add, Nat.reduceEqDiff, Nat.reduceBEq, ↓reduceIte, Bool.false_eq_true, List.append_nil, List.nil_append, List.cons_append, Option.toList, and_true, true_and, true_or, or_true, reduceCtorEq, List.map_nil, bI_eq0, bI_eq1, bool_ft, pk_us, vnar0, vnar1, Bool.or_false, Bool.or_true, Bool.false_or, Bool.true_or, mj_kne, eq_self, Int32.reduceLT, Int32.reduceLE, Int32.reduceAdd, Int32.reduceSub, Int32.reduceMul, not_true_eq_false, not_false_eq_true, false_implies, true_implies, D_X0_clauseThatHolds_0, D_X0_clauseThatHolds_1, mj_F_aaload, mj_F_aload_n_k, mj_F_arraylength, mj_F_astore_n_k, mj_F_getfield_i, mj_F_goto_off, mj_F_iadd, mj_F_iaload, mj_F_iconst_n, mj_F_ifCond_eq_off, mj_F_ifCond_ne_off, mj_F_if_icmp_ge_off, mj_F_if_icmp_ne_off, mj_F_ifnonnull_off, mj_F_iinc_k_n, mj_F_iload_k, mj_F_iload_n_k, mj_F_invokevirtual_i, mj_F_ireturn, mj_F_istore_k, mj_set, mj_set0, mj_unk, mj_c2, mj_kc, FT_X0, L_X0_clauseThatHolds, List.take_succ_cons, List.take_zero, List.drop_succ_cons, List.drop_zero, List.reverse_cons, List.reverse_nil, List.length_cons, List.length_nil, gS_C11, gCf0_6, gS_C17, sS_Cr_17, gCf0_5, gS_C16, sS_Cr_16, mj_nk, mj_isA, J_X0_clauseThatHolds]
    refine ⟨z, ?_⟩
    refine ⟨fun c => ?_, fun c => ?_⟩
    · replace hw := ok_f hw c
      obtain ⟨_, _, e17, z, hw⟩ := ok_ra hw
      refine mj_run hG.1 (fun pc => pc == 6 || pc == 16 || pc == 21 || pc == 30 || pc == 36 || pc == 50 || pc == 67 || pc == 72 || pc == 78 || pc == 82 || pc == 85 || pc == 94) 4000 ?_
      simp only [e17, mj_step, mj_W_s, mj_fin, List.getElem?_cons_zero, List.getElem?_cons_succ, mj_go, Nat.reduceAdd, Nat.reduceSub, Nat.reduceLT, Nat.reduceLeDiff, Nat.zero_add, Nat.reduceEqDiff, Nat.reduceBEq, ↓reduceIte, Bool.false_eq_true, List.append_nil, List.nil_append, List.cons_append, Option.toList, and_true, true_and, true_or, or_true, reduceCtorEq, List.map_nil, bI_eq0, bI_eq1, bool_ft, pk_us, vnar0, vnar1, Bool.or_false, Bool.or_true, Bool.false_or, Bool.true_or, mj_kne, eq_self, Int32.reduceLT, Int32.reduceLE, Int32.reduceAdd, Int32.reduceSub, Int32.reduceMul, not_true_eq_false, not_false_eq_true, false_implies, true_implies, D_X0_clauseThatHolds_0, D_X0_clauseThatHolds_1, mj_F_aaload, mj_F_aload_n_k, mj_F_arraylength, mj_F_astore_n_k, mj_F_getfield_i, mj_F_goto_off, mj_F_iadd, mj_F_iaload, mj_F_iconst_n, mj_F_ifCond_eq_off, mj_F_ifCond_ne_off, mj_F_if_icmp_ge_off, mj_F_if_icmp_ne_off, mj_F_ifnonnull_off, mj_F_iinc_k_n, mj_F_iload_k, mj_F_iload_n_k, mj_F_invokevirtual_i, mj_F_ireturn, mj_F_istore_k, mj_set, mj_set0, mj_unk, mj_c2, mj_kc, FT_X0, L_X0_clauseThatHolds, List.take_succ_cons, List.take_zero, List.drop_succ_cons, List.drop_zero, List.reverse_cons, List.reverse_nil, List.length_cons, List.length_nil, gS_C11, gCf0_6, gS_C17, sS_Cr_17, gCf0_5, gS_C16, sS_Cr_16, mj_nk, mj_isA, J_X0_clauseThatHolds]
      refine ⟨z, ?_⟩
      refine ⟨fun c => ?_, fun c => ?_⟩
      · replace hw := ok_f hw c
        exact hG.2 _ _ _ _ _ _ _ _ _ (by refine ⟨Or.inr rfl, ?_⟩; refine ⟨Or.inr rfl, ?_⟩; refine ⟨Or.inr rfl, ?_⟩; refine ⟨Or.inr rfl, ?_⟩; refine ⟨Or.inr rfl, ?_⟩; exact trivial) (Nat.zero_le _) (Nat.zero_le _) (hP _ (ok_some hw :) :)
      · replace hw := ok_t hw c
        refine ⟨(ok_rr hw).1, ?_⟩
        rcases (ok_rr hw).2 with ⟨e18, hw⟩ | ⟨_, e18, hw⟩
        · simp only [e18, va_rf]
          refine mj_run hG.1 (fun pc => pc == 6 || pc == 16 || pc == 21 || pc == 30 || pc == 36 || pc == 50 || pc == 67 || pc == 72 || pc == 78 || pc == 82 || pc == 85 || pc == 94) 4000 ?_
          simp only [mj_step, mj_W_s, mj_fin, List.getElem?_cons_zero, List.getElem?_cons_succ, mj_go, Nat.reduceAdd, Nat.reduceSub, Nat.reduceLT, Nat.reduceLeDiff, Nat.zero_add, Nat.reduceEqDiff, Nat.reduceBEq, ↓reduceIte, Bool.false_eq_true, List.append_nil, List.nil_append, List.cons_append, Option.toList, and_true, true_and, true_or, or_true, reduceCtorEq, List.map_nil, bI_eq0, bI_eq1, bool_ft, pk_us, vnar0, vnar1, Bool.or_false, Bool.or_true, Bool.false_or, Bool.true_or, mj_kne, eq_self, Int32.reduceLT, Int32.reduceLE, Int32.reduceAdd, Int32.reduceSub, Int32.reduceMul, not_true_eq_false, not_false_eq_true, false_implies, true_implies, D_X0_clauseThatHolds_0, D_X0_clauseThatHolds_1, mj_F_aaload, mj_F_aload_n_k, mj_F_arraylength, mj_F_astore_n_k, mj_F_getfield_i, mj_F_goto_off, mj_F_iadd, mj_F_iaload, mj_F_iconst_n, mj_F_ifCond_eq_off, mj_F_ifCond_ne_off, mj_F_if_icmp_ge_off, mj_F_if_icmp_ne_off, mj_F_ifnonnull_off, mj_F_iinc_k_n, mj_F_iload_k, mj_F_iload_n_k, mj_F_invokevirtual_i, mj_F_ireturn, mj_F_istore_k, mj_set, mj_set0, mj_unk, mj_c2, mj_kc, FT_X0, L_X0_clauseThatHolds, List.take_succ_cons, List.take_zero, List.drop_succ_cons, List.drop_zero, List.reverse_cons, List.reverse_nil, List.length_cons, List.length_nil, gS_C11, gCf0_6, gS_C17, sS_Cr_17, gCf0_5, gS_C16, sS_Cr_16, mj_nk, mj_isA, J_X0_clauseThatHolds]
          obtain ⟨_, _, e19, z, hw⟩ := ok_ra hw
          refine mj_run hG.1 (fun pc => pc == 6 || pc == 16 || pc == 21 || pc == 30 || pc == 36 || pc == 50 || pc == 67 || pc == 72 || pc == 78 || pc == 82 || pc == 85 || pc == 94) 4000 ?_
          simp only [e19, mj_step, mj_W_s, mj_fin, List.getElem?_cons_zero, List.getElem?_cons_succ, mj_go, Nat.reduceAdd, Nat.reduceSub, Nat.reduceLT, Nat.reduceLeDiff, Nat.zero_add, Nat.reduceEqDiff, Nat.reduceBEq, ↓reduceIte, Bool.false_eq_true, List.append_nil, List.nil_append, List.cons_append, Option.toList, and_true, true_and, true_or, or_true, reduceCtorEq, List.map_nil, bI_eq0, bI_eq1, bool_ft, pk_us, vnar0, vnar1, Bool.or_false, Bool.or_true, Bool.false_or, Bool.true_or, mj_kne, eq_self, Int32.reduceLT, Int32.reduceLE, Int32.reduceAdd, Int32.reduceSub, Int32.reduceMul, not_true_eq_false, not_false_eq_true, false_implies, true_implies, D_X0_clauseThatHolds_0, D_X0_clauseThatHolds_1, mj_F_aaload, mj_F_aload_n_k, mj_F_arraylength, mj_F_astore_n_k, mj_F_getfield_i, mj_F_goto_off, mj_F_iadd, mj_F_iaload, mj_F_iconst_n, mj_F_ifCond_eq_off, mj_F_ifCond_ne_off, mj_F_if_icmp_ge_off, mj_F_if_icmp_ne_off, mj_F_ifnonnull_off, mj_F_iinc_k_n, mj_F_iload_k, mj_F_iload_n_k, mj_F_invokevirtual_i, mj_F_ireturn, mj_F_istore_k, mj_set, mj_set0, mj_unk, mj_c2, mj_kc, FT_X0, L_X0_clauseThatHolds, List.take_succ_cons, List.take_zero, List.drop_succ_cons, List.drop_zero, List.reverse_cons, List.reverse_nil, List.length_cons, List.length_nil, gS_C11, gCf0_6, gS_C17, sS_Cr_17, gCf0_5, gS_C16, sS_Cr_16, mj_nk, mj_isA, J_X0_clauseThatHolds]
          refine ⟨z, ?_⟩
          obtain ⟨_, _, e20, z, hw⟩ := ok_ra hw
          refine mj_run hG.1 (fun pc => pc == 6 || pc == 16 || pc == 21 || pc == 30 || pc == 36 || pc == 50 || pc == 67 || pc == 72 || pc == 78 || pc == 82 || pc == 85 || pc == 94) 4000 ?_
          simp only [e20, mj_step, mj_W_s, mj_fin, List.getElem?_cons_zero, List.getElem?_cons_succ, mj_go, Nat.reduceAdd, Nat.reduceSub, Nat.reduceLT, Nat.reduceLeDiff, Nat.zero_add, Nat.reduceEqDiff, Nat.reduceBEq, ↓reduceIte, Bool.false_eq_true, List.append_nil, List.nil_append, List.cons_append, Option.toList, and_true, true_and, true_or, or_true, reduceCtorEq, List.map_nil, bI_eq0, bI_eq1, bool_ft, pk_us, vnar0, vnar1, Bool.or_false, Bool.or_true, Bool.false_or, Bool.true_or, mj_kne, eq_self, Int32.reduceLT, Int32.reduceLE, Int32.reduceAdd, Int32.reduceSub, Int32.reduceMul, not_true_eq_false, not_false_eq_true, false_implies, true_implies, D_X0_clauseThatHolds_0, D_X0_clauseThatHolds_1, mj_F_aaload, mj_F_aload_n_k, mj_F_arraylength, mj_F_astore_n_k, mj_F_getfield_i, mj_F_goto_off, mj_F_iadd, mj_F_iaload, mj_F_iconst_n, mj_F_ifCond_eq_off, mj_F_ifCond_ne_off, mj_F_if_icmp_ge_off, mj_F_if_icmp_ne_off, mj_F_ifnonnull_off, mj_F_iinc_k_n, mj_F_iload_k, mj_F_iload_n_k, mj_F_invokevirtual_i, mj_F_ireturn, mj_F_istore_k, mj_set, mj_set0, mj_unk, mj_c2, mj_kc, FT_X0, L_X0_clauseThatHolds, List.take_succ_cons, List.take_zero, List.drop_succ_cons, List.drop_zero, List.reverse_cons, List.reverse_nil, List.length_cons, List.length_nil, gS_C11, gCf0_6, gS_C17, sS_Cr_17, gCf0_5, gS_C16, sS_Cr_16, mj_nk, mj_isA, J_X0_clauseThatHolds]
          refine ⟨z, ?_⟩
          exact absurd hw ok_none
        · simp only [e18, va_rf]
          refine mj_run hG.1 (fun pc => pc == 6 || pc == 16 || pc == 21 || pc == 30 || pc == 36 || pc == 50 || pc == 67 || pc == 72 || pc == 78 || pc == 82 || pc == 85 || pc == 94) 4000 ?_
          simp only [mj_step, mj_W_s, mj_fin, List.getElem?_cons_zero, List.getElem?_cons_succ, mj_go, Nat.reduceAdd, Nat.reduceSub, Nat.reduceLT, Nat.reduceLeDiff, Nat.zero_add, Nat.reduceEqDiff, Nat.reduceBEq, ↓reduceIte, Bool.false_eq_true, List.append_nil, List.nil_append, List.cons_append, Option.toList, and_true, true_and, true_or, or_true, reduceCtorEq, List.map_nil, bI_eq0, bI_eq1, bool_ft, pk_us, vnar0, vnar1, Bool.or_false, Bool.or_true, Bool.false_or, Bool.true_or, mj_kne, eq_self, Int32.reduceLT, Int32.reduceLE, Int32.reduceAdd, Int32.reduceSub, Int32.reduceMul, not_true_eq_false, not_false_eq_true, false_implies, true_implies, D_X0_clauseThatHolds_0, D_X0_clauseThatHolds_1, mj_F_aaload, mj_F_aload_n_k, mj_F_arraylength, mj_F_astore_n_k, mj_F_getfield_i, mj_F_goto_off, mj_F_iadd, mj_F_iaload, mj_F_iconst_n, mj_F_ifCond_eq_off, mj_F_ifCond_ne_off, mj_F_if_icmp_ge_off, mj_F_if_icmp_ne_off, mj_F_ifnonnull_off, mj_F_iinc_k_n, mj_F_iload_k, mj_F_iload_n_k, mj_F_invokevirtual_i, mj_F_ireturn, mj_F_istore_k, mj_set, mj_set0, mj_unk, mj_c2, mj_kc, FT_X0, L_X0_clauseThatHolds, List.take_succ_cons, List.take_zero, List.drop_succ_cons, List.drop_zero, List.reverse_cons, List.reverse_nil, List.length_cons, List.length_nil, gS_C11, gCf0_6, gS_C17, sS_Cr_17, gCf0_5, gS_C16, sS_Cr_16, mj_nk, mj_isA, J_X0_clauseThatHolds]
          obtain ⟨_, _, e21, z, hw⟩ := ok_ra hw
          refine mj_run hG.1 (fun pc => pc == 6 || pc == 16 || pc == 21 || pc == 30 || pc == 36 || pc == 50 || pc == 67 || pc == 72 || pc == 78 || pc == 82 || pc == 85 || pc == 94) 4000 ?_
          simp only [e21, mj_step, mj_W_s, mj_fin, List.getElem?_cons_zero, List.getElem?_cons_succ, mj_go, Nat.reduceAdd, Nat.reduceSub, Nat.reduceLT, Nat.reduceLeDiff, Nat.zero_add, Nat.reduceEqDiff, Nat.reduceBEq, ↓reduceIte, Bool.false_eq_true, List.append_nil, List.nil_append, List.cons_append, Option.toList, and_true, true_and, true_or, or_true, reduceCtorEq, List.map_nil, bI_eq0, bI_eq1, bool_ft, pk_us, vnar0, vnar1, Bool.or_false, Bool.or_true, Bool.false_or, Bool.true_or, mj_kne, eq_self, Int32.reduceLT, Int32.reduceLE, Int32.reduceAdd, Int32.reduceSub, Int32.reduceMul, not_true_eq_false, not_false_eq_true, false_implies, true_implies, D_X0_clauseThatHolds_0, D_X0_clauseThatHolds_1, mj_F_aaload, mj_F_aload_n_k, mj_F_arraylength, mj_F_astore_n_k, mj_F_getfield_i, mj_F_goto_off, mj_F_iadd, mj_F_iaload, mj_F_iconst_n, mj_F_ifCond_eq_off, mj_F_ifCond_ne_off, mj_F_if_icmp_ge_off, mj_F_if_icmp_ne_off, mj_F_ifnonnull_off, mj_F_iinc_k_n, mj_F_iload_k, mj_F_iload_n_k, mj_F_invokevirtual_i, mj_F_ireturn, mj_F_istore_k, mj_set, mj_set0, mj_unk, mj_c2, mj_kc, FT_X0, L_X0_clauseThatHolds, List.take_succ_cons, List.take_zero, List.drop_succ_cons, List.drop_zero, List.reverse_cons, List.reverse_nil, List.length_cons, List.length_nil, gS_C11, gCf0_6, gS_C17, sS_Cr_17, gCf0_5, gS_C16, sS_Cr_16, mj_nk, mj_isA, J_X0_clauseThatHolds]
          refine ⟨z, ?_⟩
          obtain ⟨_, _, e22, z, hw⟩ := ok_ra hw
          refine mj_run hG.1 (fun pc => pc == 6 || pc == 16 || pc == 21 || pc == 30 || pc == 36 || pc == 50 || pc == 67 || pc == 72 || pc == 78 || pc == 82 || pc == 85 || pc == 94) 4000 ?_
          simp only [e22, mj_step, mj_W_s, mj_fin, List.getElem?_cons_zero, List.getElem?_cons_succ, mj_go, Nat.reduceAdd, Nat.reduceSub, Nat.reduceLT, Nat.reduceLeDiff, Nat.zero_add, Nat.reduceEqDiff, Nat.reduceBEq, ↓reduceIte, Bool.false_eq_true, List.append_nil, List.nil_append, List.cons_append, Option.toList, and_true, true_and, true_or, or_true, reduceCtorEq, List.map_nil, bI_eq0, bI_eq1, bool_ft, pk_us, vnar0, vnar1, Bool.or_false, Bool.or_true, Bool.false_or, Bool.true_or, mj_kne, eq_self, Int32.reduceLT, Int32.reduceLE, Int32.reduceAdd, Int32.reduceSub, Int32.reduceMul, not_true_eq_false, not_false_eq_true, false_implies, true_implies, D_X0_clauseThatHolds_0, D_X0_clauseThatHolds_1, mj_F_aaload, mj_F_aload_n_k, mj_F_arraylength, mj_F_astore_n_k, mj_F_getfield_i, mj_F_goto_off, mj_F_iadd, mj_F_iaload, mj_F_iconst_n, mj_F_ifCond_eq_off, mj_F_ifCond_ne_off, mj_F_if_icmp_ge_off, mj_F_if_icmp_ne_off, mj_F_ifnonnull_off, mj_F_iinc_k_n, mj_F_iload_k, mj_F_iload_n_k, mj_F_invokevirtual_i, mj_F_ireturn, mj_F_istore_k, mj_set, mj_set0, mj_unk, mj_c2, mj_kc, FT_X0, L_X0_clauseThatHolds, List.take_succ_cons, List.take_zero, List.drop_succ_cons, List.drop_zero, List.reverse_cons, List.reverse_nil, List.length_cons, List.length_nil, gS_C11, gCf0_6, gS_C17, sS_Cr_17, gCf0_5, gS_C16, sS_Cr_16, mj_nk, mj_isA, J_X0_clauseThatHolds]
          refine ⟨z, ?_⟩
          refine c_X0_run_in (ok_imp (ok_bind hw) ?_)
          intro p hw
          simp only [Option.toList, List.nil_append, List.cons_append, Nat.reduceSub]
          refine mj_run hG.1 (fun pc => pc == 6 || pc == 16 || pc == 21 || pc == 30 || pc == 36 || pc == 50 || pc == 67 || pc == 72 || pc == 78 || pc == 82 || pc == 85 || pc == 94) 4000 ?_
          simp only [mj_step, mj_W_s, mj_fin, List.getElem?_cons_zero, List.getElem?_cons_succ, mj_go, Nat.reduceAdd, Nat.reduceSub, Nat.reduceLT, Nat.reduceLeDiff, Nat.zero_add, Nat.reduceEqDiff, Nat.reduceBEq, ↓reduceIte, Bool.false_eq_true, List.append_nil, List.nil_append, List.cons_append, Option.toList, and_true, true_and, true_or, or_true, reduceCtorEq, List.map_nil, bI_eq0, bI_eq1, bool_ft, pk_us, vnar0, vnar1, Bool.or_false, Bool.or_true, Bool.false_or, Bool.true_or, mj_kne, eq_self, Int32.reduceLT, Int32.reduceLE, Int32.reduceAdd, Int32.reduceSub, Int32.reduceMul, not_true_eq_false, not_false_eq_true, false_implies, true_implies, D_X0_clauseThatHolds_0, D_X0_clauseThatHolds_1, mj_F_aaload, mj_F_aload_n_k, mj_F_arraylength, mj_F_astore_n_k, mj_F_getfield_i, mj_F_goto_off, mj_F_iadd, mj_F_iaload, mj_F_iconst_n, mj_F_ifCond_eq_off, mj_F_ifCond_ne_off, mj_F_if_icmp_ge_off, mj_F_if_icmp_ne_off, mj_F_ifnonnull_off, mj_F_iinc_k_n, mj_F_iload_k, mj_F_iload_n_k, mj_F_invokevirtual_i, mj_F_ireturn, mj_F_istore_k, mj_set, mj_set0, mj_unk, mj_c2, mj_kc, FT_X0, L_X0_clauseThatHolds, List.take_succ_cons, List.take_zero, List.drop_succ_cons, List.drop_zero, List.reverse_cons, List.reverse_nil, List.length_cons, List.length_nil, gS_C11, gCf0_6, gS_C17, sS_Cr_17, gCf0_5, gS_C16, sS_Cr_16, mj_nk, mj_isA, J_X0_clauseThatHolds]
          refine ⟨fun c => ?_, fun c => ?_⟩
          · replace hw := ok_t hw c
            exact hG.2 _ _ _ _ _ _ _ _ _ (by refine ⟨Or.inr rfl, ?_⟩; refine ⟨Or.inr rfl, ?_⟩; refine ⟨Or.inr rfl, ?_⟩; refine ⟨Or.inr rfl, ?_⟩; refine ⟨Or.inr rfl, ?_⟩; exact trivial) (Nat.zero_le _) (Nat.zero_le _) (hP _ (ok_some hw :) :)
          · replace hw := ok_f hw c
            exact hG.2 _ _ _ _ _ _ _ _ _ (by refine ⟨Or.inl rfl, ?_⟩; refine ⟨Or.inl rfl, ?_⟩; refine ⟨Or.inl rfl, ?_⟩; refine ⟨Or.inl rfl, ?_⟩; refine ⟨Or.inr rfl, ?_⟩; exact trivial) (Nat.zero_le _) (Nat.zero_le _) (hK1 _ (ok_some hw :) :)
    · replace hw := ok_t hw c
      obtain ⟨_, _, e16, z, hw⟩ := ok_ra hw
      refine mj_run hG.1 (fun pc => pc == 6 || pc == 16 || pc == 21 || pc == 30 || pc == 36 || pc == 50 || pc == 67 || pc == 72 || pc == 78 || pc == 82 || pc == 85 || pc == 94) 4000 ?_
      simp only [e16, mj_step, mj_W_s, mj_fin, List.getElem?_cons_zero, List.getElem?_cons_succ, mj_go, Nat.reduceAdd, Nat.reduceSub, Nat.reduceLT, Nat.reduceLeDiff, Nat.zero_add, Nat.reduceEqDiff, Nat.reduceBEq, ↓reduceIte, Bool.false_eq_true, List.append_nil, List.nil_append, List.cons_append, Option.toList, and_true, true_and, true_or, or_true, reduceCtorEq, List.map_nil, bI_eq0, bI_eq1, bool_ft, pk_us, vnar0, vnar1, Bool.or_false, Bool.or_true, Bool.false_or, Bool.true_or, mj_kne, eq_self, Int32.reduceLT, Int32.reduceLE, Int32.reduceAdd, Int32.reduceSub, Int32.reduceMul, not_true_eq_false, not_false_eq_true, false_implies, true_implies, D_X0_clauseThatHolds_0, D_X0_clauseThatHolds_1, mj_F_aaload, mj_F_aload_n_k, mj_F_arraylength, mj_F_astore_n_k, mj_F_getfield_i, mj_F_goto_off, mj_F_iadd, mj_F_iaload, mj_F_iconst_n, mj_F_ifCond_eq_off, mj_F_ifCond_ne_off, mj_F_if_icmp_ge_off, mj_F_if_icmp_ne_off, mj_F_ifnonnull_off, mj_F_iinc_k_n, mj_F_iload_k, mj_F_iload_n_k, mj_F_invokevirtual_i, mj_F_ireturn, mj_F_istore_k, mj_set, mj_set0, mj_unk, mj_c2, mj_kc, FT_X0, L_X0_clauseThatHolds, List.take_succ_cons, List.take_zero, List.drop_succ_cons, List.drop_zero, List.reverse_cons, List.reverse_nil, List.length_cons, List.length_nil, gS_C11, gCf0_6, gS_C17, sS_Cr_17, gCf0_5, gS_C16, sS_Cr_16, mj_nk, mj_isA, J_X0_clauseThatHolds]
      refine ⟨z, ?_⟩
      refine ⟨fun c => ?_, fun c => ?_⟩
      · replace hw := ok_f hw c
        exact hG.2 _ _ _ _ _ _ _ _ _ (by refine ⟨Or.inr rfl, ?_⟩; refine ⟨Or.inr rfl, ?_⟩; refine ⟨Or.inr rfl, ?_⟩; refine ⟨Or.inr rfl, ?_⟩; refine ⟨Or.inr rfl, ?_⟩; exact trivial) (Nat.zero_le _) (Nat.zero_le _) (hP _ (ok_some hw :) :)
      · replace hw := ok_t hw c
        exact hG.2 _ _ _ _ _ _ _ _ _ (by refine ⟨Or.inl rfl, ?_⟩; refine ⟨Or.inl rfl, ?_⟩; refine ⟨Or.inl rfl, ?_⟩; refine ⟨Or.inl rfl, ?_⟩; refine ⟨Or.inr rfl, ?_⟩; exact trivial) (Nat.zero_le _) (Nat.zero_le _) (hK1 _ (ok_some hw :) :)

set_option maxHeartbeats 4000000 in
set_option maxRecDepth 20000 in
theorem g_X0_clauseThatHolds_94 {k : Option Value → mj_H → Prop} {G : mj_K} (hG : mj_cl2 cX0_clauseThatHolds (TbX0 6 ((some FieldType.int)) ct_X0_clauseThatHolds) k G)   {s : St} (hw : ok (F_X0_clauseThatHolds_94 s) (fun p => k (some (.int p.1)) (mkCs p.2))) : G 94 [] [] (mkCs s) 0 0 := by
  unfold F_X0_clauseThatHolds_94 at hw
  refine mj_run hG.1 (fun pc => pc == 6 || pc == 16 || pc == 21 || pc == 30 || pc == 36 || pc == 50 || pc == 67 || pc == 72 || pc == 78 || pc == 82 || pc == 85 || pc == 94) 4000 ?_
  simp only [mj_step, mj_W_s, mj_fin, List.getElem?_cons_zero, List.getElem?_cons_succ, mj_go, Nat.reduceAdd, Nat.reduceSub, Nat.reduceLT, Nat.reduceLeDiff, Nat.zero_add, Nat.reduceEqDiff, Nat.reduceBEq, ↓reduceIte, Bool.false_eq_true, List.append_nil, List.nil_append, List.cons_append, Option.toList, and_true, true_and, true_or, or_true, reduceCtorEq, List.map_nil, bI_eq0, bI_eq1, bool_ft, pk_us, vnar0, vnar1, Bool.or_false, Bool.or_true, Bool.false_or, Bool.true_or, mj_kne, eq_self, Int32.reduceLT, Int32.reduceLE, Int32.reduceAdd, Int32.reduceSub, Int32.reduceMul, not_true_eq_false, not_false_eq_true, false_implies, true_implies, D_X0_clauseThatHolds_0, D_X0_clauseThatHolds_1, mj_F_aaload, mj_F_aload_n_k, mj_F_arraylength, mj_F_astore_n_k, mj_F_getfield_i, mj_F_goto_off, mj_F_iadd, mj_F_iaload, mj_F_iconst_n, mj_F_ifCond_eq_off, mj_F_ifCond_ne_off, mj_F_if_icmp_ge_off, mj_F_if_icmp_ne_off, mj_F_ifnonnull_off, mj_F_iinc_k_n, mj_F_iload_k, mj_F_iload_n_k, mj_F_invokevirtual_i, mj_F_ireturn, mj_F_istore_k, mj_set, mj_set0, mj_unk, mj_c2, mj_kc, FT_X0, L_X0_clauseThatHolds, List.take_succ_cons, List.take_zero, List.drop_succ_cons, List.drop_zero, List.reverse_cons, List.reverse_nil, List.length_cons, List.length_nil, gS_C11, gCf0_6, gS_C17, sS_Cr_17, gCf0_5, gS_C16, sS_Cr_16, mj_nk, mj_isA, J_X0_clauseThatHolds]
  exact (ok_some hw :)

set_option maxHeartbeats 4000000 in
set_option maxRecDepth 20000 in
theorem g_X0_clauseThatHolds_85 {k : Option Value → mj_H → Prop} {G : mj_K} (hG : mj_cl2 cX0_clauseThatHolds (TbX0 6 ((some FieldType.int)) ct_X0_clauseThatHolds) k G)   {v4 : Int32} {s : St} (hw : ok (F_X0_clauseThatHolds_85 v4 s) (fun p => k (some (.int p.1)) (mkCs p.2))) : G 85 [mj_unk, mj_unk, mj_unk, mj_unk, .int v4] [] (mkCs s) 0 0 := by
  unfold F_X0_clauseThatHolds_85 at hw
  refine mj_run hG.1 (fun pc => pc == 6 || pc == 16 || pc == 21 || pc == 30 || pc == 36 || pc == 50 || pc == 67 || pc == 72 || pc == 78 || pc == 82 || pc == 85 || pc == 94) 4000 ?_
  simp only [mj_step, mj_W_s, mj_fin, List.getElem?_cons_zero, List.getElem?_cons_succ, mj_go, Nat.reduceAdd, Nat.reduceSub, Nat.reduceLT, Nat.reduceLeDiff, Nat.zero_add, Nat.reduceEqDiff, Nat.reduceBEq, ↓reduceIte, Bool.false_eq_true, List.append_nil, List.nil_append, List.cons_append, Option.toList, and_true, true_and, true_or, or_true, reduceCtorEq, List.map_nil, bI_eq0, bI_eq1, bool_ft, pk_us, vnar0, vnar1, Bool.or_false, Bool.or_true, Bool.false_or, Bool.true_or, mj_kne, eq_self, Int32.reduceLT, Int32.reduceLE, Int32.reduceAdd, Int32.reduceSub, Int32.reduceMul, not_true_eq_false, not_false_eq_true, false_implies, true_implies, D_X0_clauseThatHolds_0, D_X0_clauseThatHolds_1, mj_F_aaload, mj_F_aload_n_k, mj_F_arraylength, mj_F_astore_n_k, mj_F_getfield_i, mj_F_goto_off, mj_F_iadd, mj_F_iaload, mj_F_iconst_n, mj_F_ifCond_eq_off, mj_F_ifCond_ne_off, mj_F_if_icmp_ge_off, mj_F_if_icmp_ne_off, mj_F_ifnonnull_off, mj_F_iinc_k_n, mj_F_iload_k, mj_F_iload_n_k, mj_F_invokevirtual_i, mj_F_ireturn, mj_F_istore_k, mj_set, mj_set0, mj_unk, mj_c2, mj_kc, FT_X0, L_X0_clauseThatHolds, List.take_succ_cons, List.take_zero, List.drop_succ_cons, List.drop_zero, List.reverse_cons, List.reverse_nil, List.length_cons, List.length_nil, gS_C11, gCf0_6, gS_C17, sS_Cr_17, gCf0_5, gS_C16, sS_Cr_16, mj_nk, mj_isA, J_X0_clauseThatHolds]
  exact (ok_some hw :)

set_option maxHeartbeats 4000000 in
theorem g_X0_clauseThatHolds_16 {k : Option Value → mj_H → Prop} {G : mj_K} (hG : mj_cl2 cX0_clauseThatHolds (TbX0 6 ((some FieldType.int)) ct_X0_clauseThatHolds) k G)   {v1 : Int32} {v2 : Int32} {v3 : Nat} {v4 : Int32} {s : St} (hw : ok (F_X0_clauseThatHolds_16 v1 v2 v3 v4 s) (fun p => k (some (.int p.1)) (mkCs p.2))) : G 16 [.ref 11, .int v1, .int v2, .ref v3, .int v4] [] (mkCs s) 0 0 := by
  unfold F_X0_clauseThatHolds_16 at hw
  refine lp_ok (B_X0_clauseThatHolds_16 v1 v2 v3) (fun x => G 16 [.ref 11, .int v1, .int v2, .ref v3, .int x.1] [] (mkCs x.2) 0 0) _ ?_ _ _ (ok_bind hw)
  rintro ⟨v4, s⟩ hb
  exact b_X0_clauseThatHolds_16 hG (fun _ z => z) (fun y hw => by exact hG.2 _ _ _ _ _ _ _ _ _ (by exact trivial) (Nat.zero_le _) (Nat.zero_le _) (g_X0_clauseThatHolds_94 hG  hw :)) (fun y hw => by exact hG.2 _ _ _ _ _ _ _ _ _ (by refine ⟨Or.inl rfl, ?_⟩; refine ⟨Or.inl rfl, ?_⟩; refine ⟨Or.inl rfl, ?_⟩; refine ⟨Or.inl rfl, ?_⟩; refine ⟨Or.inr rfl, ?_⟩; exact trivial) (Nat.zero_le _) (Nat.zero_le _) (g_X0_clauseThatHolds_85 hG  hw :)) hb

set_option maxHeartbeats 4000000 in
set_option maxRecDepth 20000 in
theorem g_X0_clauseThatHolds {k : Option Value → mj_H → Prop} {G : mj_K} (hG : mj_cl2 cX0_clauseThatHolds (TbX0 6 ((some FieldType.int)) ct_X0_clauseThatHolds) k G) {v1 : Int32} {v2 : Int32} {s : St} (hw : ok (F_X0_clauseThatHolds v1 v2 s) (fun p => k (some (.int p.1)) (mkCs p.2))) : G 0 [.ref 11, .int v1, .int v2] [] (mkCs s) 0 0 := by
  unfold F_X0_clauseThatHolds at hw
  refine mj_run hG.1 (fun pc => pc == 6 || pc == 16 || pc == 21 || pc == 30 || pc == 36 || pc == 50 || pc == 67 || pc == 72 || pc == 78 || pc == 82 || pc == 85 || pc == 94) 4000 ?_
  simp only [mj_step, mj_W_s, mj_fin, List.getElem?_cons_zero, List.getElem?_cons_succ, mj_go, Nat.reduceAdd, Nat.reduceSub, Nat.reduceLT, Nat.reduceLeDiff, Nat.zero_add, Nat.reduceEqDiff, Nat.reduceBEq, ↓reduceIte, Bool.false_eq_true, List.append_nil, List.nil_append, List.cons_append, Option.toList, and_true, true_and, true_or, or_true, reduceCtorEq, List.map_nil, bI_eq0, bI_eq1, bool_ft, pk_us, vnar0, vnar1, Bool.or_false, Bool.or_true, Bool.false_or, Bool.true_or, mj_kne, eq_self, Int32.reduceLT, Int32.reduceLE, Int32.reduceAdd, Int32.reduceSub, Int32.reduceMul, not_true_eq_false, not_false_eq_true, false_implies, true_implies, D_X0_clauseThatHolds_0, D_X0_clauseThatHolds_1, mj_F_aaload, mj_F_aload_n_k, mj_F_arraylength, mj_F_astore_n_k, mj_F_getfield_i, mj_F_goto_off, mj_F_iadd, mj_F_iaload, mj_F_iconst_n, mj_F_ifCond_eq_off, mj_F_ifCond_ne_off, mj_F_if_icmp_ge_off, mj_F_if_icmp_ne_off, mj_F_ifnonnull_off, mj_F_iinc_k_n, mj_F_iload_k, mj_F_iload_n_k, mj_F_invokevirtual_i, mj_F_ireturn, mj_F_istore_k, mj_set, mj_set0, mj_unk, mj_c2, mj_kc, FT_X0, L_X0_clauseThatHolds, List.take_succ_cons, List.take_zero, List.drop_succ_cons, List.drop_zero, List.reverse_cons, List.reverse_nil, List.length_cons, List.length_nil, gS_C11, gCf0_6, gS_C17, sS_Cr_17, gCf0_5, gS_C16, sS_Cr_16, mj_nk, mj_isA, J_X0_clauseThatHolds]
  refine ⟨(ok_rr hw).1, ?_⟩
  rcases (ok_rr hw).2 with ⟨e23, hw⟩ | ⟨_, e23, hw⟩
  · simp only [e23, va_rf]
    refine mj_run hG.1 (fun pc => pc == 6 || pc == 16 || pc == 21 || pc == 30 || pc == 36 || pc == 50 || pc == 67 || pc == 72 || pc == 78 || pc == 82 || pc == 85 || pc == 94) 4000 ?_
    simp only [mj_step, mj_W_s, mj_fin, List.getElem?_cons_zero, List.getElem?_cons_succ, mj_go, Nat.reduceAdd, Nat.reduceSub, Nat.reduceLT, Nat.reduceLeDiff, Nat.zero_add, Nat.reduceEqDiff, Nat.reduceBEq, ↓reduceIte, Bool.false_eq_true, List.append_nil, List.nil_append, List.cons_append, Option.toList, and_true, true_and, true_or, or_true, reduceCtorEq, List.map_nil, bI_eq0, bI_eq1, bool_ft, pk_us, vnar0, vnar1, Bool.or_false, Bool.or_true, Bool.false_or, Bool.true_or, mj_kne, eq_self, Int32.reduceLT, Int32.reduceLE, Int32.reduceAdd, Int32.reduceSub, Int32.reduceMul, not_true_eq_false, not_false_eq_true, false_implies, true_implies, D_X0_clauseThatHolds_0, D_X0_clauseThatHolds_1, mj_F_aaload, mj_F_aload_n_k, mj_F_arraylength, mj_F_astore_n_k, mj_F_getfield_i, mj_F_goto_off, mj_F_iadd, mj_F_iaload, mj_F_iconst_n, mj_F_ifCond_eq_off, mj_F_ifCond_ne_off, mj_F_if_icmp_ge_off, mj_F_if_icmp_ne_off, mj_F_ifnonnull_off, mj_F_iinc_k_n, mj_F_iload_k, mj_F_iload_n_k, mj_F_invokevirtual_i, mj_F_ireturn, mj_F_istore_k, mj_set, mj_set0, mj_unk, mj_c2, mj_kc, FT_X0, L_X0_clauseThatHolds, List.take_succ_cons, List.take_zero, List.drop_succ_cons, List.drop_zero, List.reverse_cons, List.reverse_nil, List.length_cons, List.length_nil, gS_C11, gCf0_6, gS_C17, sS_Cr_17, gCf0_5, gS_C16, sS_Cr_16, mj_nk, mj_isA, J_X0_clauseThatHolds]
    exact (ok_some hw :)
  · simp only [e23, va_rf]
    refine mj_run hG.1 (fun pc => pc == 6 || pc == 16 || pc == 21 || pc == 30 || pc == 36 || pc == 50 || pc == 67 || pc == 72 || pc == 78 || pc == 82 || pc == 85 || pc == 94) 4000 ?_
    simp only [mj_step, mj_W_s, mj_fin, List.getElem?_cons_zero, List.getElem?_cons_succ, mj_go, Nat.reduceAdd, Nat.reduceSub, Nat.reduceLT, Nat.reduceLeDiff, Nat.zero_add, Nat.reduceEqDiff, Nat.reduceBEq, ↓reduceIte, Bool.false_eq_true, List.append_nil, List.nil_append, List.cons_append, Option.toList, and_true, true_and, true_or, or_true, reduceCtorEq, List.map_nil, bI_eq0, bI_eq1, bool_ft, pk_us, vnar0, vnar1, Bool.or_false, Bool.or_true, Bool.false_or, Bool.true_or, mj_kne, eq_self, Int32.reduceLT, Int32.reduceLE, Int32.reduceAdd, Int32.reduceSub, Int32.reduceMul, not_true_eq_false, not_false_eq_true, false_implies, true_implies, D_X0_clauseThatHolds_0, D_X0_clauseThatHolds_1, mj_F_aaload, mj_F_aload_n_k, mj_F_arraylength, mj_F_astore_n_k, mj_F_getfield_i, mj_F_goto_off, mj_F_iadd, mj_F_iaload, mj_F_iconst_n, mj_F_ifCond_eq_off, mj_F_ifCond_ne_off, mj_F_if_icmp_ge_off, mj_F_if_icmp_ne_off, mj_F_ifnonnull_off, mj_F_iinc_k_n, mj_F_iload_k, mj_F_iload_n_k, mj_F_invokevirtual_i, mj_F_ireturn, mj_F_istore_k, mj_set, mj_set0, mj_unk, mj_c2, mj_kc, FT_X0, L_X0_clauseThatHolds, List.take_succ_cons, List.take_zero, List.drop_succ_cons, List.drop_zero, List.reverse_cons, List.reverse_nil, List.length_cons, List.length_nil, gS_C11, gCf0_6, gS_C17, sS_Cr_17, gCf0_5, gS_C16, sS_Cr_16, mj_nk, mj_isA, J_X0_clauseThatHolds]
    exact hG.2 _ _ _ _ _ _ _ _ _ (by refine ⟨Or.inr rfl, ?_⟩; refine ⟨Or.inr rfl, ?_⟩; refine ⟨Or.inr rfl, ?_⟩; refine ⟨Or.inr rfl, ?_⟩; refine ⟨Or.inr rfl, ?_⟩; exact trivial) (Nat.zero_le _) (Nat.zero_le _) (g_X0_clauseThatHolds_16 hG  hw :)

def c_X0_clauseThatHolds : mj_S := fun as h k => ∃ (v1 : Int32) (v2 : Int32) (s : St), as = [.ref 11, .int v1, .int v2] ∧ h = mkCs s ∧ ok (F_X0_clauseThatHolds v1 v2 s) (fun p => k (some (.int p.1)) (mkCs p.2))
theorem c_X0_clauseThatHolds_in {v1 : Int32} {v2 : Int32} {s : St} {k : Option Value → mj_H → Prop} (hw : ok (F_X0_clauseThatHolds v1 v2 s) (fun p => k (some (.int p.1)) (mkCs p.2))) : c_X0_clauseThatHolds [.ref 11, .int v1, .int v2] (mkCs s) k := ⟨v1, v2, s, rfl, rfl, hw⟩
theorem m_X0_clauseThatHolds (l : Launch) : mj_Met l yX0_clauseThatHolds cX0_clauseThatHolds 6 ((some FieldType.int)) 2 0 0 c_X0_clauseThatHolds := by
  refine mj_body2 false (TbX0 6 ((some FieldType.int)) ct_X0_clauseThatHolds) (by decide) rfl rfl (fun h => nomatch h) (tfX0 _ (List.forall_mem_cons.mpr ⟨cfX0_81 (m_X0_run l) (by decide), fun _ h => nomatch h⟩)) ?_
  rintro as h k ⟨v1, v2, s, rfl, rfl, hw⟩
  exact ⟨rfl, fun G hG => g_X0_clauseThatHolds hG hw⟩
def B_X0_worthOf_28 (v1 : Int32) (v2 : Int32) (v3 : Int32) (v4 : Int32) (v5 : Int32) : Int32 × Int32 × Int32 × St → Option ((Int32 × Int32 × Int32 × St) ⊕ ((Int32 × St)))
  | (v6, v7, v8, s) =>
  if (s.1 0) ≤ v8 then
    some (.inr (v6, s))
  else
    (rd s 3 20 v8).bind fun x4 =>
    if v4 < x4 then
      some (.inl (v6, v7, (v8 + 1), s))
    else
      (rd s 4 20 v8).bind fun x5 =>
      if ((x5 >>> (v1 &&& 31)) &&& 1) = 1 then
        (F_X0_binds v8 v2 v5 s).bind fun r6 =>
        if r6 = 0 then
          some (.inl (v6, v7, (v8 + 1), s))
        else
          (rd s 2 20 v8).bind fun x7 =>
          if v3 < x7 then
            some (.inl (v6, v7, (v8 + 1), s))
          else
            (rd s 2 20 v8).bind fun x8 =>
            if v7 ≤ x8 then
              (F_X0_clauseThatHolds v8 v1 s).bind fun r9 =>
              if r9.1 = (-1) then
                some (.inl (v6, v7, (v8 + 1), r9.2))
              else
                (wI r9.2 9 v8).bind fun s10 =>
                (rd s10 2 20 v8).bind fun x11 =>
                some (.inl (r9.1, x11, (v8 + 1), s10))
            else
              some (.inl (v6, v7, (v8 + 1), s))
      else
        some (.inl (v6, v7, (v8 + 1), s))
def F_X0_worthOf_154 (v1 : Int32) (v6 : Int32) (s : St) : Option (Int32 × St) :=
  if (s.1 9) = (-1) then
    if inb v1 0 6 = false then
      some (0, s)
    else
      (rs 1 7 v1).bind fun x22 =>
      some (x22, s)
  else
    rr s 6 20 (s.1 9) (
      if inb v1 0 6 = false then
        some (0, s)
      else
        (rs 1 7 v1).bind fun x13 =>
        some (x13, s)) fun a12 =>
    (la s a12).bind fun n14 =>
    if inb v6 0 (n14 - 4) = false then
      if inb v1 0 6 = false then
        some (0, s)
      else
        (rs 1 7 v1).bind fun x21 =>
        some (x21, s)
    else
      rr s 5 20 (s.1 9) (
        (ra s a12 (v6 + 2)).bind fun x16 =>
        (ra s a12 (v6 + 3)).bind fun x17 =>
        none) fun a15 =>
      (ra s a12 (v6 + 2)).bind fun x18 =>
      (ra s a12 (v6 + 3)).bind fun x19 =>
      (F_X0_run a15 x18 x19 s).bind fun r20 =>
      some (r20.1, r20.2)
def F_X0_worthOf_28 (v1 : Int32) (v2 : Int32) (v3 : Int32) (v4 : Int32) (v5 : Int32) (v6 : Int32) (v7 : Int32) (v8 : Int32) (s : St) : Option (Int32 × St) :=
  (lp (B_X0_worthOf_28 v1 v2 v3 v4 v5) FU (v6, v7, v8, s)).bind (fun y => F_X0_worthOf_154 v1 y.1 y.2)
def F_X0_worthOf (v1 : Int32) (v2 : Int32) (v3 : Int32) (v4 : Int32) (v5 : Int32) (s : St) : Option (Int32 × St) :=
  (wr s 7 6 0 v3).bind fun s1 =>
  (wr s1 7 6 1 v2).bind fun s2 =>
  (wI s2 9 (-1)).bind fun s3 =>
  F_X0_worthOf_28 v1 v2 v3 v4 v5 (-1) 0 0 s3
theorem J_X0_worthOf : mj_t 34 120 = 154 ∧ mj_t 46 34 = 80 ∧ mj_t 61 19 = 80 ∧ mj_t 73 7 = 80 ∧ mj_t 77 4 = 81 ∧ mj_t 85 63 = 148 ∧ mj_t 96 52 = 148 ∧ mj_t 108 6 = 114 ∧ mj_t 111 37 = 148 ∧ mj_t 126 22 = 148 ∧ mj_t 151 (-123) = 28 ∧ mj_t 159 7 = 166 ∧ mj_t 163 12 = 175 ∧ mj_t 179 17 = 196 ∧ mj_t 193 27 = 220 ∧ mj_t 207 11 = 218 ∧ mj_t 215 4 = 219 ∧ (0 ≤ ((34 : Nat) : Int) + 120) = True ∧ (0 ≤ ((46 : Nat) : Int) + 34) = True ∧ (0 ≤ ((61 : Nat) : Int) + 19) = True ∧ (0 ≤ ((73 : Nat) : Int) + 7) = True ∧ (0 ≤ ((77 : Nat) : Int) + 4) = True ∧ (0 ≤ ((85 : Nat) : Int) + 63) = True ∧ (0 ≤ ((96 : Nat) : Int) + 52) = True ∧ (0 ≤ ((108 : Nat) : Int) + 6) = True ∧ (0 ≤ ((111 : Nat) : Int) + 37) = True ∧ (0 ≤ ((126 : Nat) : Int) + 22) = True ∧ (0 ≤ ((151 : Nat) : Int) + (-123)) = True ∧ (0 ≤ ((159 : Nat) : Int) + 7) = True ∧ (0 ≤ ((163 : Nat) : Int) + 12) = True ∧ (0 ≤ ((179 : Nat) : Int) + 17) = True ∧ (0 ≤ ((193 : Nat) : Int) + 27) = True ∧ (0 ≤ ((207 : Nat) : Int) + 11) = True ∧ (0 ≤ ((215 : Nat) : Int) + 4) = True := by and_intros <;> first | rfl | exact eq_true (by decide)
def ct_X0_worthOf : List (Nat × mj_Cs) := [(67, 0, 4, 0, 0, 0, c_X0_binds), (71, 0, 3, 0, 0, 0, c_X0_clauseThatHolds), (75, 3, 3, 11, 0, 0, c_in), (81, 0, 4, 0, 0, 0, c_X0_run)]
theorem L_X0_worthOf : mj_lk ct_X0_worthOf 67 = some (0, 4, 0, 0, 0, c_X0_binds) ∧ mj_lk ct_X0_worthOf 71 = some (0, 3, 0, 0, 0, c_X0_clauseThatHolds) ∧ mj_lk ct_X0_worthOf 75 = some (3, 3, 11, 0, 0, c_in) ∧ mj_lk ct_X0_worthOf 81 = some (0, 4, 0, 0, 0, c_X0_run) := ⟨rfl, rfl, rfl, rfl⟩
set_option maxHeartbeats 4000000 in
set_option maxRecDepth 20000 in
theorem b_X0_worthOf_28 {k : Option Value → mj_H → Prop} {G : mj_K} (hG : mj_cl2 cX0_worthOf (TbX0 11 ((some FieldType.int)) ct_X0_worthOf) k G) {v1 : Int32} {v2 : Int32} {v3 : Int32} {v4 : Int32} {v5 : Int32} {P : Int32 × Int32 × Int32 × St → Prop} {K : (Int32 × St) → Prop} (hP : ∀ x, P x → G 28 [.ref 11, .int v1, .int v2, .int v3, .int v4, .int v5, .int x.1, .int x.2.1, .int x.2.2.1] [] (mkCs x.2.2.2) 0 0) (hK0 : ∀ y, K y → G 154 [.ref 11, .int v1, mj_unk, mj_unk, mj_unk, mj_unk, .int y.1] [] (mkCs y.2) 0 0) {v6 : Int32} {v7 : Int32} {v8 : Int32} {s : St} (hw : ok (B_X0_worthOf_28 v1 v2 v3 v4 v5 (v6, v7, v8, s)) (Sum.elim P K)) : G 28 [.ref 11, .int v1, .int v2, .int v3, .int v4, .int v5, .int v6, .int v7, .int v8] [] (mkCs s) 0 0 := by
  unfold B_X0_worthOf_28 at hw
  refine mj_run hG.1 (fun pc => pc == 28 || pc == 73 || pc == 121 || pc == 154 || pc == 175 || pc == 187 || pc == 230 || pc == 236 || pc == 243 || pc == 247) 4000 ?_
  simp only [mj_step, mj_W_s, mj_fin, List.getElem?_cons_zero, List.getElem?_cons_succ, mj_go, Nat.reduceAdd, Nat.reduceSub, Nat.reduceLT, Nat.reduceLeDiff, Nat.zero_add, Nat.reduceEqDiff, Nat.reduceBEq, ↓reduceIte, Bool.false_eq_true, List.append_nil, List.nil_append, List.cons_append, Option.toList, and_true, true_and, true_or, or_true, reduceCtorEq, List.map_nil, bI_eq0, bI_eq1, bool_ft, pk_us, vnar0, vnar1, Bool.or_false, Bool.or_true, Bool.false_or, Bool.true_or, mj_kne, eq_self, Int32.reduceLT, Int32.reduceLE, Int32.reduceAdd, Int32.reduceSub, Int32.reduceMul, not_true_eq_false, not_false_eq_true, false_implies, true_implies, D_X0_worthOf_0, D_X0_worthOf_1, D_X0_worthOf_2, mj_F_aaload, mj_F_aconst_null, mj_F_aload_k, mj_F_aload_n_k, mj_F_arraylength, mj_F_astore_k, mj_F_getfield_i, mj_F_getstatic_i, mj_F_goto_off, mj_F_iadd, mj_F_iaload, mj_F_iand, mj_F_iastore, mj_F_iconst_n, mj_F_ifCond_eq_off, mj_F_ifCond_ne_off, mj_F_if_icmp_eq_off, mj_F_if_icmp_ge_off, mj_F_if_icmp_gt_off, mj_F_if_icmp_ne_off, mj_F_ifnull_off, mj_F_iinc_k_n, mj_F_iload_k, mj_F_iload_n_k, mj_F_invokestatic_i, mj_F_invokevirtual_i, mj_F_ireturn, mj_F_ishr, mj_F_istore_k, mj_F_isub, mj_F_putfield_i, mj_set, mj_set0, mj_unk, mj_c2, mj_kc, FT_X0, PT_X0, glX0, mj_st0, mj_st1, mj_st2, L_X0_worthOf, mj_lk_hit, mj_lk_miss, List.take_succ_cons, List.take_zero, List.drop_succ_cons, List.drop_zero, List.reverse_cons, List.reverse_nil, List.length_cons, List.length_nil, gS_C11, gCf0_7, gS_C18, sS_Ca_18, gCf0_9, sS_Cf_0_9, gCf0len, gCf0_0, gCf0_3, gS_C14, sS_Ca_14, gCf0_4, gS_C15, sS_Ca_15, gCf0_2, gS_C13, sS_Ca_13, gCf0_6, gS_C17, sS_Cr_17, gCf0_5, gS_C16, sS_Cr_16, c_in_eq, mj_nk, mj_isA, J_X0_worthOf]
  refine ⟨fun c => ?_, fun c => ?_⟩
  · replace hw := ok_t hw c
    exact hG.2 _ _ _ _ _ _ _ _ _ (by refine ⟨Or.inr rfl, ?_⟩; refine ⟨Or.inr rfl, ?_⟩; refine ⟨Or.inl rfl, ?_⟩; refine ⟨Or.inl rfl, ?_⟩; refine ⟨Or.inl rfl, ?_⟩; refine ⟨Or.inl rfl, ?_⟩; refine ⟨Or.inr rfl, ?_⟩; exact trivial) (Nat.zero_le _) (Nat.zero_le _) (hK0 _ (ok_some hw :) :)
  · replace hw := ok_f hw c
    refine ⟨(ok_rd hw).1, ?_⟩
    replace hw := (ok_rd hw).2
    refine ⟨fun c => ?_, fun c => ?_⟩
    · replace hw := ok_t hw c
      exact hG.2 _ _ _ _ _ _ _ _ _ (by refine ⟨Or.inr rfl, ?_⟩; refine ⟨Or.inr rfl, ?_⟩; refine ⟨Or.inr rfl, ?_⟩; refine ⟨Or.inr rfl, ?_⟩; refine ⟨Or.inr rfl, ?_⟩; refine ⟨Or.inr rfl, ?_⟩; refine ⟨Or.inr rfl, ?_⟩; refine ⟨Or.inr rfl, ?_⟩; refine ⟨Or.inr rfl, ?_⟩; exact trivial) (Nat.zero_le _) (Nat.zero_le _) (hP _ (ok_some hw :) :)
    · replace hw := ok_f hw c
      refine ⟨(ok_rd hw).1, ?_⟩
      replace hw := (ok_rd hw).2
      refine ⟨fun c => ?_, fun c => ?_⟩
      · replace hw := ok_f hw c
        exact hG.2 _ _ _ _ _ _ _ _ _ (by refine ⟨Or.inr rfl, ?_⟩; refine ⟨Or.inr rfl, ?_⟩; refine ⟨Or.inr rfl, ?_⟩; refine ⟨Or.inr rfl, ?_⟩; refine ⟨Or.inr rfl, ?_⟩; refine ⟨Or.inr rfl, ?_⟩; refine ⟨Or.inr rfl, ?_⟩; refine ⟨Or.inr rfl, ?_⟩; refine ⟨Or.inr rfl, ?_⟩; exact trivial) (Nat.zero_le _) (Nat.zero_le _) (hP _ (ok_some hw :) :)
      · replace hw := ok_t hw c
        refine c_X0_binds_in (ok_imp (ok_bind hw) ?_)
        intro p hw
        simp only [Option.toList, List.nil_append, List.cons_append, Nat.reduceSub]
        refine mj_run hG.1 (fun pc => pc == 28 || pc == 73 || pc == 121 || pc == 154 || pc == 175 || pc == 187 || pc == 230 || pc == 236 || pc == 243 || pc == 247) 4000 ?_
        simp only [mj_step, mj_W_s, mj_fin, List.getElem?_cons_zero, List.getElem?_cons_succ, mj_go, Nat.reduceAdd, Nat.reduceSub, Nat.reduceLT, Nat.reduceLeDiff, Nat.zero_add, Nat.reduceEqDiff, Nat.reduceBEq, ↓reduceIte, Bool.false_eq_true, List.append_nil, List.nil_append, List.cons_append, Option.toList, and_true, true_and, true_or, or_true, reduceCtorEq, List.map_nil, bI_eq0, bI_eq1, bool_ft, pk_us, vnar0, vnar1, Bool.or_false, Bool.or_true, Bool.false_or, Bool.true_or, mj_kne, eq_self, Int32.reduceLT, Int32.reduceLE, Int32.reduceAdd, Int32.reduceSub, Int32.reduceMul, not_true_eq_false, not_false_eq_true, false_implies, true_implies, D_X0_worthOf_0, D_X0_worthOf_1, D_X0_worthOf_2, mj_F_aaload, mj_F_aconst_null, mj_F_aload_k, mj_F_aload_n_k, mj_F_arraylength, mj_F_astore_k, mj_F_getfield_i, mj_F_getstatic_i, mj_F_goto_off, mj_F_iadd, mj_F_iaload, mj_F_iand, mj_F_iastore, mj_F_iconst_n, mj_F_ifCond_eq_off, mj_F_ifCond_ne_off, mj_F_if_icmp_eq_off, mj_F_if_icmp_ge_off, mj_F_if_icmp_gt_off, mj_F_if_icmp_ne_off, mj_F_ifnull_off, mj_F_iinc_k_n, mj_F_iload_k, mj_F_iload_n_k, mj_F_invokestatic_i, mj_F_invokevirtual_i, mj_F_ireturn, mj_F_ishr, mj_F_istore_k, mj_F_isub, mj_F_putfield_i, mj_set, mj_set0, mj_unk, mj_c2, mj_kc, FT_X0, PT_X0, glX0, mj_st0, mj_st1, mj_st2, L_X0_worthOf, mj_lk_hit, mj_lk_miss, List.take_succ_cons, List.take_zero, List.drop_succ_cons, List.drop_zero, List.reverse_cons, List.reverse_nil, List.length_cons, List.length_nil, gS_C11, gCf0_7, gS_C18, sS_Ca_18, gCf0_9, sS_Cf_0_9, gCf0len, gCf0_0, gCf0_3, gS_C14, sS_Ca_14, gCf0_4, gS_C15, sS_Ca_15, gCf0_2, gS_C13, sS_Ca_13, gCf0_6, gS_C17, sS_Cr_17, gCf0_5, gS_C16, sS_Cr_16, c_in_eq, mj_nk, mj_isA, J_X0_worthOf]
        refine ⟨fun c => ?_, fun c => ?_⟩
        · replace hw := ok_t hw c
          exact hG.2 _ _ _ _ _ _ _ _ _ (by refine ⟨Or.inr rfl, ?_⟩; refine ⟨Or.inr rfl, ?_⟩; refine ⟨Or.inr rfl, ?_⟩; refine ⟨Or.inr rfl, ?_⟩; refine ⟨Or.inr rfl, ?_⟩; refine ⟨Or.inr rfl, ?_⟩; refine ⟨Or.inr rfl, ?_⟩; refine ⟨Or.inr rfl, ?_⟩; refine ⟨Or.inr rfl, ?_⟩; exact trivial) (Nat.zero_le _) (Nat.zero_le _) (hP _ (ok_some hw :) :)
        · replace hw := ok_f hw c
          refine ⟨(ok_rd hw).1, ?_⟩
          replace hw := (ok_rd hw).2
          refine ⟨fun c => ?_, fun c => ?_⟩
          · replace hw := ok_t hw c
            exact hG.2 _ _ _ _ _ _ _ _ _ (by refine ⟨Or.inr rfl, ?_⟩; refine ⟨Or.inr rfl, ?_⟩; refine ⟨Or.inr rfl, ?_⟩; refine ⟨Or.inr rfl, ?_⟩; refine ⟨Or.inr rfl, ?_⟩; refine ⟨Or.inr rfl, ?_⟩; refine ⟨Or.inr rfl, ?_⟩; refine ⟨Or.inr rfl, ?_⟩; refine ⟨Or.inr rfl, ?_⟩; exact trivial) (Nat.zero_le _) (Nat.zero_le _) (hP _ (ok_some hw :) :)
          · replace hw := ok_f hw c
            refine ⟨(ok_rd hw).1, ?_⟩
            replace hw := (ok_rd hw).2
            refine ⟨fun c => ?_, fun c => ?_⟩
            · replace hw := ok_t hw c
              refine c_X0_clauseThatHolds_in (ok_imp (ok_bind hw) ?_)
              intro p hw
              simp only [Option.toList, List.nil_append, List.cons_append, Nat.reduceSub]
              refine mj_run hG.1 (fun pc => pc == 28 || pc == 73 || pc == 121 || pc == 154 || pc == 175 || pc == 187 || pc == 230 || pc == 236 || pc == 243 || pc == 247) 4000 ?_
              simp only [mj_step, mj_W_s, mj_fin, List.getElem?_cons_zero, List.getElem?_cons_succ, mj_go, Nat.reduceAdd, Nat.reduceSub, Nat.reduceLT, Nat.reduceLeDiff, Nat.zero_add, Nat.reduceEqDiff, Nat.reduceBEq, ↓reduceIte, Bool.false_eq_true, List.append_nil, List.nil_append, List.cons_append, Option.toList, and_true, true_and, true_or, or_true, reduceCtorEq, List.map_nil, bI_eq0, bI_eq1, bool_ft, pk_us, vnar0, vnar1, Bool.or_false, Bool.or_true, Bool.false_or, Bool.true_or, mj_kne, eq_self, Int32.reduceLT, Int32.reduceLE, Int32.reduceAdd, Int32.reduceSub, Int32.reduceMul, not_true_eq_false, not_false_eq_true, false_implies, true_implies, D_X0_worthOf_0, D_X0_worthOf_1, D_X0_worthOf_2, mj_F_aaload, mj_F_aconst_null, mj_F_aload_k, mj_F_aload_n_k, mj_F_arraylength, mj_F_astore_k, mj_F_getfield_i, mj_F_getstatic_i, mj_F_goto_off, mj_F_iadd, mj_F_iaload, mj_F_iand, mj_F_iastore, mj_F_iconst_n, mj_F_ifCond_eq_off, mj_F_ifCond_ne_off, mj_F_if_icmp_eq_off, mj_F_if_icmp_ge_off, mj_F_if_icmp_gt_off, mj_F_if_icmp_ne_off, mj_F_ifnull_off, mj_F_iinc_k_n, mj_F_iload_k, mj_F_iload_n_k, mj_F_invokestatic_i, mj_F_invokevirtual_i, mj_F_ireturn, mj_F_ishr, mj_F_istore_k, mj_F_isub, mj_F_putfield_i, mj_set, mj_set0, mj_unk, mj_c2, mj_kc, FT_X0, PT_X0, glX0, mj_st0, mj_st1, mj_st2, L_X0_worthOf, mj_lk_hit, mj_lk_miss, List.take_succ_cons, List.take_zero, List.drop_succ_cons, List.drop_zero, List.reverse_cons, List.reverse_nil, List.length_cons, List.length_nil, gS_C11, gCf0_7, gS_C18, sS_Ca_18, gCf0_9, sS_Cf_0_9, gCf0len, gCf0_0, gCf0_3, gS_C14, sS_Ca_14, gCf0_4, gS_C15, sS_Ca_15, gCf0_2, gS_C13, sS_Ca_13, gCf0_6, gS_C17, sS_Cr_17, gCf0_5, gS_C16, sS_Cr_16, c_in_eq, mj_nk, mj_isA, J_X0_worthOf]
              refine ⟨fun c => ?_, fun c => ?_⟩
              · replace hw := ok_t hw c
                exact hG.2 _ _ _ _ _ _ _ _ _ (by refine ⟨Or.inr rfl, ?_⟩; refine ⟨Or.inr rfl, ?_⟩; refine ⟨Or.inr rfl, ?_⟩; refine ⟨Or.inr rfl, ?_⟩; refine ⟨Or.inr rfl, ?_⟩; refine ⟨Or.inr rfl, ?_⟩; refine ⟨Or.inr rfl, ?_⟩; refine ⟨Or.inr rfl, ?_⟩; refine ⟨Or.inr rfl, ?_⟩; exact trivial) (Nat.zero_le _) (Nat.zero_le _) (hP _ (ok_some hw :) :)
              · replace hw := ok_f hw c
                replace hw := ok_wI hw
                refine ⟨(ok_rd hw).1, ?_⟩
                replace hw := (ok_rd hw).2
                exact hG.2 _ _ _ _ _ _ _ _ _ (by refine ⟨Or.inr rfl, ?_⟩; refine ⟨Or.inr rfl, ?_⟩; refine ⟨Or.inr rfl, ?_⟩; refine ⟨Or.inr rfl, ?_⟩; refine ⟨Or.inr rfl, ?_⟩; refine ⟨Or.inr rfl, ?_⟩; refine ⟨Or.inr rfl, ?_⟩; refine ⟨Or.inr rfl, ?_⟩; refine ⟨Or.inr rfl, ?_⟩; exact trivial) (Nat.zero_le _) (Nat.zero_le _) (hP _ (ok_some hw :) :)
            · replace hw := ok_f hw c
              exact hG.2 _ _ _ _ _ _ _ _ _ (by refine ⟨Or.inr rfl, ?_⟩; refine ⟨Or.inr rfl, ?_⟩; refine ⟨Or.inr rfl, ?_⟩; refine ⟨Or.inr rfl, ?_⟩; refine ⟨Or.inr rfl, ?_⟩; refine ⟨Or.inr rfl, ?_⟩; refine ⟨Or.inr rfl, ?_⟩; refine ⟨Or.inr rfl, ?_⟩; refine ⟨Or.inr rfl, ?_⟩; exact trivial) (Nat.zero_le _) (Nat.zero_le _) (hP _ (ok_some hw :) :)

set_option maxHeartbeats 4000000 in
set_option maxRecDepth 20000 in
theorem g_X0_worthOf_154 {k : Option Value → mj_H → Prop} {G : mj_K} (hG : mj_cl2 cX0_worthOf (TbX0 11 ((some FieldType.int)) ct_X0_worthOf) k G)   {v1 : Int32} {v6 : Int32} {s : St} (hw : ok (F_X0_worthOf_154 v1 v6 s) (fun p => k (some (.int p.1)) (mkCs p.2))) : G 154 [.ref 11, .int v1, mj_unk, mj_unk, mj_unk, mj_unk, .int v6] [] (mkCs s) 0 0 := by
  unfold F_X0_worthOf_154 at hw
  refine mj_run hG.1 (fun pc => pc == 28 || pc == 73 || pc == 121 || pc == 154 || pc == 175 || pc == 187 || pc == 230 || pc == 236 || pc == 243 || pc == 247) 4000 ?_
  simp only [mj_step, mj_W_s, mj_fin, List.getElem?_cons_zero, List.getElem?_cons_succ, mj_go, Nat.reduceAdd, Nat.reduceSub, Nat.reduceLT, Nat.reduceLeDiff, Nat.zero_add, Nat.reduceEqDiff, Nat.reduceBEq, ↓reduceIte, Bool.false_eq_true, List.append_nil, List.nil_append, List.cons_append, Option.toList, and_true, true_and, true_or, or_true, reduceCtorEq, List.map_nil, bI_eq0, bI_eq1, bool_ft, pk_us, vnar0, vnar1, Bool.or_false, Bool.or_true, Bool.false_or, Bool.true_or, mj_kne, eq_self, Int32.reduceLT, Int32.reduceLE, Int32.reduceAdd, Int32.reduceSub, Int32.reduceMul, not_true_eq_false, not_false_eq_true, false_implies, true_implies, D_X0_worthOf_0, D_X0_worthOf_1, D_X0_worthOf_2, mj_F_aaload, mj_F_aconst_null, mj_F_aload_k, mj_F_aload_n_k, mj_F_arraylength, mj_F_astore_k, mj_F_getfield_i, mj_F_getstatic_i, mj_F_goto_off, mj_F_iadd, mj_F_iaload, mj_F_iand, mj_F_iastore, mj_F_iconst_n, mj_F_ifCond_eq_off, mj_F_ifCond_ne_off, mj_F_if_icmp_eq_off, mj_F_if_icmp_ge_off, mj_F_if_icmp_gt_off, mj_F_if_icmp_ne_off, mj_F_ifnull_off, mj_F_iinc_k_n, mj_F_iload_k, mj_F_iload_n_k, mj_F_invokestatic_i, mj_F_invokevirtual_i, mj_F_ireturn, mj_F_ishr, mj_F_istore_k, mj_F_isub, mj_F_putfield_i, mj_set, mj_set0, mj_unk, mj_c2, mj_kc, FT_X0, PT_X0, glX0, mj_st0, mj_st1, mj_st2, L_X0_worthOf, mj_lk_hit, mj_lk_miss, List.take_succ_cons, List.take_zero, List.drop_succ_cons, List.drop_zero, List.reverse_cons, List.reverse_nil, List.length_cons, List.length_nil, gS_C11, gCf0_7, gS_C18, sS_Ca_18, gCf0_9, sS_Cf_0_9, gCf0len, gCf0_0, gCf0_3, gS_C14, sS_Ca_14, gCf0_4, gS_C15, sS_Ca_15, gCf0_2, gS_C13, sS_Ca_13, gCf0_6, gS_C17, sS_Cr_17, gCf0_5, gS_C16, sS_Cr_16, c_in_eq, mj_nk, mj_isA, J_X0_worthOf]
  refine ⟨fun c => ?_, fun c => ?_⟩
  · replace hw := ok_f hw c
    refine ⟨(ok_rr hw).1, ?_⟩
    rcases (ok_rr hw).2 with ⟨e23, hw⟩ | ⟨_, e23, hw⟩
    · simp only [e23, va_rf]
      refine mj_run hG.1 (fun pc => pc == 28 || pc == 73 || pc == 121 || pc == 154 || pc == 175 || pc == 187 || pc == 230 || pc == 236 || pc == 243 || pc == 247) 4000 ?_
      simp only [mj_step, mj_W_s, mj_fin, List.getElem?_cons_zero, List.getElem?_cons_succ, mj_go, Nat.reduceAdd, Nat.reduceSub, Nat.reduceLT, Nat.reduceLeDiff, Nat.zero_add, Nat.reduceEqDiff, Nat.reduceBEq, ↓reduceIte, Bool.false_eq_true, List.append_nil, List.nil_append, List.cons_append, Option.toList, and_true, true_and, true_or, or_true, reduceCtorEq, List.map_nil, bI_eq0, bI_eq1, bool_ft, pk_us, vnar0, vnar1, Bool.or_false, Bool.or_true, Bool.false_or, Bool.true_or, mj_kne, eq_self, Int32.reduceLT, Int32.reduceLE, Int32.reduceAdd, Int32.reduceSub, Int32.reduceMul, not_true_eq_false, not_false_eq_true, false_implies, true_implies, D_X0_worthOf_0, D_X0_worthOf_1, D_X0_worthOf_2, mj_F_aaload, mj_F_aconst_null, mj_F_aload_k, mj_F_aload_n_k, mj_F_arraylength, mj_F_astore_k, mj_F_getfield_i, mj_F_getstatic_i, mj_F_goto_off, mj_F_iadd, mj_F_iaload, mj_F_iand, mj_F_iastore, mj_F_iconst_n, mj_F_ifCond_eq_off, mj_F_ifCond_ne_off, mj_F_if_icmp_eq_off, mj_F_if_icmp_ge_off, mj_F_if_icmp_gt_off, mj_F_if_icmp_ne_off, mj_F_ifnull_off, mj_F_iinc_k_n, mj_F_iload_k, mj_F_iload_n_k, mj_F_invokestatic_i, mj_F_invokevirtual_i, mj_F_ireturn, mj_F_ishr, mj_F_istore_k, mj_F_isub, mj_F_putfield_i, mj_set, mj_set0, mj_unk, mj_c2, mj_kc, FT_X0, PT_X0, glX0, mj_st0, mj_st1, mj_st2, L_X0_worthOf, mj_lk_hit, mj_lk_miss, List.take_succ_cons, List.take_zero, List.drop_succ_cons, List.drop_zero, List.reverse_cons, List.reverse_nil, List.length_cons, List.length_nil, gS_C11, gCf0_7, gS_C18, sS_Ca_18, gCf0_9, sS_Cf_0_9, gCf0len, gCf0_0, gCf0_3, gS_C14, sS_Ca_14, gCf0_4, gS_C15, sS_Ca_15, gCf0_2, gS_C13, sS_Ca_13, gCf0_6, gS_C17, sS_Cr_17, gCf0_5, gS_C16, sS_Cr_16, c_in_eq, mj_nk, mj_isA, J_X0_worthOf]
      refine ⟨fun c => ?_, fun c => ?_⟩
      · replace hw := ok_t hw c
        exact (ok_some hw :)
      · replace hw := ok_f hw c
        refine ⟨(ok_rs hw).1, ?_⟩
        replace hw := (ok_rs hw).2
        exact (ok_some hw :)
    · simp only [e23, va_rf]
      refine mj_run hG.1 (fun pc => pc == 28 || pc == 73 || pc == 121 || pc == 154 || pc == 175 || pc == 187 || pc == 230 || pc == 236 || pc == 243 || pc == 247) 4000 ?_
      simp only [mj_step, mj_W_s, mj_fin, List.getElem?_cons_zero, List.getElem?_cons_succ, mj_go, Nat.reduceAdd, Nat.reduceSub, Nat.reduceLT, Nat.reduceLeDiff, Nat.zero_add, Nat.reduceEqDiff, Nat.reduceBEq, ↓reduceIte, Bool.false_eq_true, List.append_nil, List.nil_append, List.cons_append, Option.toList, and_true, true_and, true_or, or_true, reduceCtorEq, List.map_nil, bI_eq0, bI_eq1, bool_ft, pk_us, vnar0, vnar1, Bool.or_false, Bool.or_true, Bool.false_or, Bool.true_or, mj_kne, eq_self, Int32.reduceLT, Int32.reduceLE, Int32.reduceAdd, Int32.reduceSub, Int32.reduceMul, not_true_eq_false, not_false_eq_true, false_implies, true_implies, D_X0_worthOf_0, D_X0_worthOf_1, D_X0_worthOf_2, mj_F_aaload, mj_F_aconst_null, mj_F_aload_k, mj_F_aload_n_k, mj_F_arraylength, mj_F_astore_k, mj_F_getfield_i, mj_F_getstatic_i, mj_F_goto_off, mj_F_iadd, mj_F_iaload, mj_F_iand, mj_F_iastore, mj_F_iconst_n, mj_F_ifCond_eq_off, mj_F_ifCond_ne_off, mj_F_if_icmp_eq_off, mj_F_if_icmp_ge_off, mj_F_if_icmp_gt_off, mj_F_if_icmp_ne_off, mj_F_ifnull_off, mj_F_iinc_k_n, mj_F_iload_k, mj_F_iload_n_k, mj_F_invokestatic_i, mj_F_invokevirtual_i, mj_F_ireturn, mj_F_ishr, mj_F_istore_k, mj_F_isub, mj_F_putfield_i, mj_set, mj_set0, mj_unk, mj_c2, mj_kc, FT_X0, PT_X0, glX0, mj_st0, mj_st1, mj_st2, L_X0_worthOf, mj_lk_hit, mj_lk_miss, List.take_succ_cons, List.take_zero, List.drop_succ_cons, List.drop_zero, List.reverse_cons, List.reverse_nil, List.length_cons, List.length_nil, gS_C11, gCf0_7, gS_C18, sS_Ca_18, gCf0_9, sS_Cf_0_9, gCf0len, gCf0_0, gCf0_3, gS_C14, sS_Ca_14, gCf0_4, gS_C15, sS_Ca_15, gCf0_2, gS_C13, sS_Ca_13, gCf0_6, gS_C17, sS_Cr_17, gCf0_5, gS_C16, sS_Cr_16, c_in_eq, mj_nk, mj_isA, J_X0_worthOf]
      obtain ⟨_, _, e24, hw⟩ := ok_la hw
      refine mj_run hG.1 (fun pc => pc == 28 || pc == 73 || pc == 121 || pc == 154 || pc == 175 || pc == 187 || pc == 230 || pc == 236 || pc == 243 || pc == 247) 4000 ?_
      simp only [e24, mj_isA, mj_step, mj_W_s, mj_fin, List.getElem?_cons_zero, List.getElem?_cons_succ, mj_go, Nat.reduceAdd, Nat.reduceSub, Nat.reduceLT, Nat.reduceLeDiff, Nat.zero_add, Nat.reduceEqDiff, Nat.reduceBEq, ↓reduceIte, Bool.false_eq_true, List.append_nil, List.nil_append, List.cons_append, Option.toList, and_true, true_and, true_or, or_true, reduceCtorEq, List.map_nil, bI_eq0, bI_eq1, bool_ft, pk_us, vnar0, vnar1, Bool.or_false, Bool.or_true, Bool.false_or, Bool.true_or, mj_kne, eq_self, Int32.reduceLT, Int32.reduceLE, Int32.reduceAdd, Int32.reduceSub, Int32.reduceMul, not_true_eq_false, not_false_eq_true, false_implies, true_implies, D_X0_worthOf_0, D_X0_worthOf_1, D_X0_worthOf_2, mj_F_aaload, mj_F_aconst_null, mj_F_aload_k, mj_F_aload_n_k, mj_F_arraylength, mj_F_astore_k, mj_F_getfield_i, mj_F_getstatic_i, mj_F_goto_off, mj_F_iadd, mj_F_iaload, mj_F_iand, mj_F_iastore, mj_F_iconst_n, mj_F_ifCond_eq_off, mj_F_ifCond_ne_off, mj_F_if_icmp_eq_off, mj_F_if_icmp_ge_off, mj_F_if_icmp_gt_off, mj_F_if_icmp_ne_off, mj_F_ifnull_off, mj_F_iinc_k_n, mj_F_iload_k, mj_F_iload_n_k, mj_F_invokestatic_i, mj_F_invokevirtual_i, mj_F_ireturn, mj_F_ishr, mj_F_istore_k, mj_F_isub, mj_F_putfield_i, mj_set, mj_set0, mj_unk, mj_c2, mj_kc, FT_X0, PT_X0, glX0, mj_st0, mj_st1, mj_st2, L_X0_worthOf, mj_lk_hit, mj_lk_miss, List.take_succ_cons, List.take_zero, List.drop_succ_cons, List.drop_zero, List.reverse_cons, List.reverse_nil, List.length_cons, List.length_nil, gS_C11, gCf0_7, gS_C18, sS_Ca_18, gCf0_9, sS_Cf_0_9, gCf0len, gCf0_0, gCf0_3, gS_C14, sS_Ca_14, gCf0_4, gS_C15, sS_Ca_15, gCf0_2, gS_C13, sS_Ca_13, gCf0_6, gS_C17, sS_Cr_17, gCf0_5, gS_C16, sS_Cr_16, c_in_eq, mj_nk, mj_isA, J_X0_worthOf]
      refine ⟨fun c => ?_, fun c => ?_⟩
      · replace hw := ok_f hw c
        refine ⟨(ok_rr hw).1, ?_⟩
        rcases (ok_rr hw).2 with ⟨e25, hw⟩ | ⟨_, e25, hw⟩
        · simp only [e25, va_rf]
          refine mj_run hG.1 (fun pc => pc == 28 || pc == 73 || pc == 121 || pc == 154 || pc == 175 || pc == 187 || pc == 230 || pc == 236 || pc == 243 || pc == 247) 4000 ?_
          simp only [mj_step, mj_W_s, mj_fin, List.getElem?_cons_zero, List.getElem?_cons_succ, mj_go, Nat.reduceAdd, Nat.reduceSub, Nat.reduceLT, Nat.reduceLeDiff, Nat.zero_add, Nat.reduceEqDiff, Nat.reduceBEq, ↓reduceIte, Bool.false_eq_true, List.append_nil, List.nil_append, List.cons_append, Option.toList, and_true, true_and, true_or, or_true, reduceCtorEq, List.map_nil, bI_eq0, bI_eq1, bool_ft, pk_us, vnar0, vnar1, Bool.or_false, Bool.or_true, Bool.false_or, Bool.true_or, mj_kne, eq_self, Int32.reduceLT, Int32.reduceLE, Int32.reduceAdd, Int32.reduceSub, Int32.reduceMul, not_true_eq_false, not_false_eq_true, false_implies, true_implies, D_X0_worthOf_0, D_X0_worthOf_1, D_X0_worthOf_2, mj_F_aaload, mj_F_aconst_null, mj_F_aload_k, mj_F_aload_n_k, mj_F_arraylength, mj_F_astore_k, mj_F_getfield_i, mj_F_getstatic_i, mj_F_goto_off, mj_F_iadd, mj_F_iaload, mj_F_iand, mj_F_iastore, mj_F_iconst_n, mj_F_ifCond_eq_off, mj_F_ifCond_ne_off, mj_F_if_icmp_eq_off, mj_F_if_icmp_ge_off, mj_F_if_icmp_gt_off, mj_F_if_icmp_ne_off, mj_F_ifnull_off, mj_F_iinc_k_n, mj_F_iload_k, mj_F_iload_n_k, mj_F_invokestatic_i, mj_F_invokevirtual_i, mj_F_ireturn, mj_F_ishr, mj_F_istore_k, mj_F_isub, mj_F_putfield_i, mj_set, mj_set0, mj_unk, mj_c2, mj_kc, FT_X0, PT_X0, glX0, mj_st0, mj_st1, mj_st2, L_X0_worthOf, mj_lk_hit, mj_lk_miss, List.take_succ_cons, List.take_zero, List.drop_succ_cons, List.drop_zero, List.reverse_cons, List.reverse_nil, List.length_cons, List.length_nil, gS_C11, gCf0_7, gS_C18, sS_Ca_18, gCf0_9, sS_Cf_0_9, gCf0len, gCf0_0, gCf0_3, gS_C14, sS_Ca_14, gCf0_4, gS_C15, sS_Ca_15, gCf0_2, gS_C13, sS_Ca_13, gCf0_6, gS_C17, sS_Cr_17, gCf0_5, gS_C16, sS_Cr_16, c_in_eq, mj_nk, mj_isA, J_X0_worthOf]
          obtain ⟨_, _, e26, z, hw⟩ := ok_ra hw
          refine mj_run hG.1 (fun pc => pc == 28 || pc == 73 || pc == 121 || pc == 154 || pc == 175 || pc == 187 || pc == 230 || pc == 236 || pc == 243 || pc == 247) 4000 ?_
          simp only [e26, mj_step, mj_W_s, mj_fin, List.getElem?_cons_zero, List.getElem?_cons_succ, mj_go, Nat.reduceAdd, Nat.reduceSub, Nat.reduceLT, Nat.reduceLeDiff, Nat.zero_add, Nat.reduceEqDiff, Nat.reduceBEq, ↓reduceIte, Bool.false_eq_true, List.append_nil, List.nil_append, List.cons_append, Option.toList, and_true, true_and, true_or, or_true, reduceCtorEq, List.map_nil, bI_eq0, bI_eq1, bool_ft, pk_us, vnar0, vnar1, Bool.or_false, Bool.or_true, Bool.false_or, Bool.true_or, mj_kne, eq_self, Int32.reduceLT, Int32.reduceLE, Int32.reduceAdd, Int32.reduceSub, Int32.reduceMul, not_true_eq_false, not_false_eq_true, false_implies, true_implies, D_X0_worthOf_0, D_X0_worthOf_1, D_X0_worthOf_2, mj_F_aaload, mj_F_aconst_null, mj_F_aload_k, mj_F_aload_n_k, mj_F_arraylength, mj_F_astore_k, mj_F_getfield_i, mj_F_getstatic_i, mj_F_goto_off, mj_F_iadd, mj_F_iaload, mj_F_iand, mj_F_iastore, mj_F_iconst_n, mj_F_ifCond_eq_off, mj_F_ifCond_ne_off, mj_F_if_icmp_eq_off, mj_F_if_icmp_ge_off, mj_F_if_icmp_gt_off, mj_F_if_icmp_ne_off, mj_F_ifnull_off, mj_F_iinc_k_n, mj_F_iload_k, mj_F_iload_n_k, mj_F_invokestatic_i, mj_F_invokevirtual_i, mj_F_ireturn, mj_F_ishr, mj_F_istore_k, mj_F_isub, mj_F_putfield_i, mj_set, mj_set0, mj_unk, mj_c2, mj_kc, FT_X0, PT_X0, glX0, mj_st0, mj_st1, mj_st2, L_X0_worthOf, mj_lk_hit, mj_lk_miss, List.take_succ_cons, List.take_zero, List.drop_succ_cons, List.drop_zero, List.reverse_cons, List.reverse_nil, List.length_cons, List.length_nil, gS_C11, gCf0_7, gS_C18, sS_Ca_18, gCf0_9, sS_Cf_0_9, gCf0len, gCf0_0, gCf0_3, gS_C14, sS_Ca_14, gCf0_4, gS_C15, sS_Ca_15, gCf0_2, gS_C13, sS_Ca_13, gCf0_6, gS_C17, sS_Cr_17, gCf0_5, gS_C16, sS_Cr_16, c_in_eq, mj_nk, mj_isA, J_X0_worthOf]
          refine ⟨z, ?_⟩
          obtain ⟨_, _, e27, z, hw⟩ := ok_ra hw
          refine mj_run hG.1 (fun pc => pc == 28 || pc == 73 || pc == 121 || pc == 154 || pc == 175 || pc == 187 || pc == 230 || pc == 236 || pc == 243 || pc == 247) 4000 ?_
          simp only [e27, mj_step, mj_W_s, mj_fin, List.getElem?_cons_zero, List.getElem?_cons_succ, mj_go, Nat.reduceAdd, Nat.reduceSub, Nat.reduceLT, Nat.reduceLeDiff, Nat.zero_add, Nat.reduceEqDiff, Nat.reduceBEq, ↓reduceIte, Bool.false_eq_true, List.append_nil, List.nil_append, List.cons_append, Option.toList, and_true, true_and, true_or, or_true, reduceCtorEq, List.map_nil, bI_eq0, bI_eq1, bool_ft, pk_us, vnar0, vnar1, Bool.or_false, Bool.or_true, Bool.false_or, Bool.true_or, mj_kne, eq_self, Int32.reduceLT, Int32.reduceLE, Int32.reduceAdd, Int32.reduceSub, Int32.reduceMul, not_true_eq_false, not_false_eq_true, false_implies, true_implies, D_X0_worthOf_0, D_X0_worthOf_1, D_X0_worthOf_2, mj_F_aaload, mj_F_aconst_null, mj_F_aload_k, mj_F_aload_n_k, mj_F_arraylength, mj_F_astore_k, mj_F_getfield_i, mj_F_getstatic_i, mj_F_goto_off, mj_F_iadd, mj_F_iaload, mj_F_iand, mj_F_iastore, mj_F_iconst_n, mj_F_ifCond_eq_off, mj_F_ifCond_ne_off, mj_F_if_icmp_eq_off, mj_F_if_icmp_ge_off, mj_F_if_icmp_gt_off, mj_F_if_icmp_ne_off, mj_F_ifnull_off, mj_F_iinc_k_n, mj_F_iload_k, mj_F_iload_n_k, mj_F_invokestatic_i, mj_F_invokevirtual_i, mj_F_ireturn, mj_F_ishr, mj_F_istore_k, mj_F_isub, mj_F_putfield_i, mj_set, mj_set0, mj_unk, mj_c2, mj_kc, FT_X0, PT_X0, glX0, mj_st0, mj_st1, mj_st2, L_X0_worthOf, mj_lk_hit, mj_lk_miss, List.take_succ_cons, List.take_zero, List.drop_succ_cons, List.drop_zero, List.reverse_cons, List.reverse_nil, List.length_cons, List.length_nil, gS_C11, gCf0_7, gS_C18, sS_Ca_18, gCf0_9, sS_Cf_0_9, gCf0len, gCf0_0, gCf0_3, gS_C14, sS_Ca_14, gCf0_4, gS_C15, sS_Ca_15, gCf0_2, gS_C13, sS_Ca_13, gCf0_6, gS_C17, sS_Cr_17, gCf0_5, gS_C16, sS_Cr_16, c_in_eq, mj_nk, mj_isA, J_X0_worthOf]
          refine ⟨z, ?_⟩
          exact absurd hw ok_none
        · simp only [e25, va_rf]
          refine mj_run hG.1 (fun pc => pc == 28 || pc == 73 || pc == 121 || pc == 154 || pc == 175 || pc == 187 || pc == 230 || pc == 236 || pc == 243 || pc == 247) 4000 ?_
          simp only [mj_step, mj_W_s, mj_fin, List.getElem?_cons_zero, List.getElem?_cons_succ, mj_go, Nat.reduceAdd, Nat.reduceSub, Nat.reduceLT, Nat.reduceLeDiff, Nat.zero_add, Nat.reduceEqDiff, Nat.reduceBEq, ↓reduceIte, Bool.false_eq_true, List.append_nil, List.nil_append, List.cons_append, Option.toList, and_true, true_and, true_or, or_true, reduceCtorEq, List.map_nil, bI_eq0, bI_eq1, bool_ft, pk_us, vnar0, vnar1, Bool.or_false, Bool.or_true, Bool.false_or, Bool.true_or, mj_kne, eq_self, Int32.reduceLT, Int32.reduceLE, Int32.reduceAdd, Int32.reduceSub, Int32.reduceMul, not_true_eq_false, not_false_eq_true, false_implies, true_implies, D_X0_worthOf_0, D_X0_worthOf_1, D_X0_worthOf_2, mj_F_aaload, mj_F_aconst_null, mj_F_aload_k, mj_F_aload_n_k, mj_F_arraylength, mj_F_astore_k, mj_F_getfield_i, mj_F_getstatic_i, mj_F_goto_off, mj_F_iadd, mj_F_iaload, mj_F_iand, mj_F_iastore, mj_F_iconst_n, mj_F_ifCond_eq_off, mj_F_ifCond_ne_off, mj_F_if_icmp_eq_off, mj_F_if_icmp_ge_off, mj_F_if_icmp_gt_off, mj_F_if_icmp_ne_off, mj_F_ifnull_off, mj_F_iinc_k_n, mj_F_iload_k, mj_F_iload_n_k, mj_F_invokestatic_i, mj_F_invokevirtual_i, mj_F_ireturn, mj_F_ishr, mj_F_istore_k, mj_F_isub, mj_F_putfield_i, mj_set, mj_set0, mj_unk, mj_c2, mj_kc, FT_X0, PT_X0, glX0, mj_st0, mj_st1, mj_st2, L_X0_worthOf, mj_lk_hit, mj_lk_miss, List.take_succ_cons, List.take_zero, List.drop_succ_cons, List.drop_zero, List.reverse_cons, List.reverse_nil, List.length_cons, List.length_nil, gS_C11, gCf0_7, gS_C18, sS_Ca_18, gCf0_9, sS_Cf_0_9, gCf0len, gCf0_0, gCf0_3, gS_C14, sS_Ca_14, gCf0_4, gS_C15, sS_Ca_15, gCf0_2, gS_C13, sS_Ca_13, gCf0_6, gS_C17, sS_Cr_17, gCf0_5, gS_C16, sS_Cr_16, c_in_eq, mj_nk, mj_isA, J_X0_worthOf]
          obtain ⟨_, _, e28, z, hw⟩ := ok_ra hw
          refine mj_run hG.1 (fun pc => pc == 28 || pc == 73 || pc == 121 || pc == 154 || pc == 175 || pc == 187 || pc == 230 || pc == 236 || pc == 243 || pc == 247) 4000 ?_
          simp only [e28, mj_step, mj_W_s, mj_fin, List.getElem?_cons_zero, List.getElem?_cons_succ, mj_go, Nat.reduceAdd, Nat.reduceSub, Nat.reduceLT, Nat.reduceLeDiff, Nat.zero_add, Nat.reduceEqDiff, Nat.reduceBEq, ↓reduceIte, Bool.false_eq_true, List.append_nil, List.nil_append, List.cons_append, Option.toList, and_true, true_and, true_or, or_true, reduceCtorEq, List.map_nil, bI_eq0, bI_eq1, bool_ft, pk_us, vnar0, vnar1, Bool.or_false, Bool.or_true, Bool.false_or, Bool.true_or, mj_kne, eq_self, Int32.reduceLT, Int32.reduceLE, Int32.reduceAdd, Int32.reduceSub, Int32.reduceMul, not_true_eq_false, not_false_eq_true, false_implies, true_implies, D_X0_worthOf_0, D_X0_worthOf_1, D_X0_worthOf_2, mj_F_aaload, mj_F_aconst_null, mj_F_aload_k, mj_F_aload_n_k, mj_F_arraylength, mj_F_astore_k, mj_F_getfield_i, mj_F_getstatic_i, mj_F_goto_off, mj_F_iadd, mj_F_iaload, mj_F_iand, mj_F_iastore, mj_F_iconst_n, mj_F_ifCond_eq_off, mj_F_ifCond_ne_off, mj_F_if_icmp_eq_off, mj_F_if_icmp_ge_off, mj_F_if_icmp_gt_off, mj_F_if_icmp_ne_off, mj_F_ifnull_off, mj_F_iinc_k_n, mj_F_iload_k, mj_F_iload_n_k, mj_F_invokestatic_i, mj_F_invokevirtual_i, mj_F_ireturn, mj_F_ishr, mj_F_istore_k, mj_F_isub, mj_F_putfield_i, mj_set, mj_set0, mj_unk, mj_c2, mj_kc, FT_X0, PT_X0, glX0, mj_st0, mj_st1, mj_st2, L_X0_worthOf, mj_lk_hit, mj_lk_miss, List.take_succ_cons, List.take_zero, List.drop_succ_cons, List.drop_zero, List.reverse_cons, List.reverse_nil, List.length_cons, List.length_nil, gS_C11, gCf0_7, gS_C18, sS_Ca_18, gCf0_9, sS_Cf_0_9, gCf0len, gCf0_0, gCf0_3, gS_C14, sS_Ca_14, gCf0_4, gS_C15, sS_Ca_15, gCf0_2, gS_C13, sS_Ca_13, gCf0_6, gS_C17, sS_Cr_17, gCf0_5, gS_C16, sS_Cr_16, c_in_eq, mj_nk, mj_isA, J_X0_worthOf]
          refine ⟨z, ?_⟩
          obtain ⟨_, _, e29, z, hw⟩ := ok_ra hw
          refine mj_run hG.1 (fun pc => pc == 28 || pc == 73 || pc == 121 || pc == 154 || pc == 175 || pc == 187 || pc == 230 || pc == 236 || pc == 243 || pc == 247) 4000 ?_
          simp only [e29, mj_step, mj_W_s, mj_fin, List.getElem?_cons_zero, List.getElem?_cons_succ, mj_go, Nat.reduceAdd, Nat.reduceSub, Nat.reduceLT, Nat.reduceLeDiff, Nat.zero_add, Nat.reduceEqDiff, Nat.reduceBEq, ↓reduceIte, Bool.false_eq_true, List.append_nil, List.nil_append, List.cons_append, Option.toList, and_true, true_and, true_or, or_true, reduceCtorEq, List.map_nil, bI_eq0, bI_eq1, bool_ft, pk_us, vnar0, vnar1, Bool.or_false, Bool.or_true, Bool.false_or, Bool.true_or, mj_kne, eq_self, Int32.reduceLT, Int32.reduceLE, Int32.reduceAdd, Int32.reduceSub, Int32.reduceMul, not_true_eq_false, not_false_eq_true, false_implies, true_implies, D_X0_worthOf_0, D_X0_worthOf_1, D_X0_worthOf_2, mj_F_aaload, mj_F_aconst_null, mj_F_aload_k, mj_F_aload_n_k, mj_F_arraylength, mj_F_astore_k, mj_F_getfield_i, mj_F_getstatic_i, mj_F_goto_off, mj_F_iadd, mj_F_iaload, mj_F_iand, mj_F_iastore, mj_F_iconst_n, mj_F_ifCond_eq_off, mj_F_ifCond_ne_off, mj_F_if_icmp_eq_off, mj_F_if_icmp_ge_off, mj_F_if_icmp_gt_off, mj_F_if_icmp_ne_off, mj_F_ifnull_off, mj_F_iinc_k_n, mj_F_iload_k, mj_F_iload_n_k, mj_F_invokestatic_i, mj_F_invokevirtual_i, mj_F_ireturn, mj_F_ishr, mj_F_istore_k, mj_F_isub, mj_F_putfield_i, mj_set, mj_set0, mj_unk, mj_c2, mj_kc, FT_X0, PT_X0, glX0, mj_st0, mj_st1, mj_st2, L_X0_worthOf, mj_lk_hit, mj_lk_miss, List.take_succ_cons, List.take_zero, List.drop_succ_cons, List.drop_zero, List.reverse_cons, List.reverse_nil, List.length_cons, List.length_nil, gS_C11, gCf0_7, gS_C18, sS_Ca_18, gCf0_9, sS_Cf_0_9, gCf0len, gCf0_0, gCf0_3, gS_C14, sS_Ca_14, gCf0_4, gS_C15, sS_Ca_15, gCf0_2, gS_C13, sS_Ca_13, gCf0_6, gS_C17, sS_Cr_17, gCf0_5, gS_C16, sS_Cr_16, c_in_eq, mj_nk, mj_isA, J_X0_worthOf]
          refine ⟨z, ?_⟩
          refine c_X0_run_in (ok_imp (ok_bind hw) ?_)
          intro p hw
          simp only [Option.toList, List.nil_append, List.cons_append, Nat.reduceSub]
          refine mj_run hG.1 (fun pc => pc == 28 || pc == 73 || pc == 121 || pc == 154 || pc == 175 || pc == 187 || pc == 230 || pc == 236 || pc == 243 || pc == 247) 4000 ?_
          simp only [mj_step, mj_W_s, mj_fin, List.getElem?_cons_zero, List.getElem?_cons_succ, mj_go, Nat.reduceAdd, Nat.reduceSub, Nat.reduceLT, Nat.reduceLeDiff, Nat.zero_add, Nat.reduceEqDiff, Nat.reduceBEq, ↓reduceIte, Bool.false_eq_true, List.append_nil, List.nil_append, List.cons_append, Option.toList, and_true, true_and, true_or, or_true, reduceCtorEq, List.map_nil, bI_eq0, bI_eq1, bool_ft, pk_us, vnar0, vnar1, Bool.or_false, Bool.or_true, Bool.false_or, Bool.true_or, mj_kne, eq_self, Int32.reduceLT, Int32.reduceLE, Int32.reduceAdd, Int32.reduceSub, Int32.reduceMul, not_true_eq_false, not_false_eq_true, false_implies, true_implies, D_X0_worthOf_0, D_X0_worthOf_1, D_X0_worthOf_2, mj_F_aaload, mj_F_aconst_null, mj_F_aload_k, mj_F_aload_n_k, mj_F_arraylength, mj_F_astore_k, mj_F_getfield_i, mj_F_getstatic_i, mj_F_goto_off, mj_F_iadd, mj_F_iaload, mj_F_iand, mj_F_iastore, mj_F_iconst_n, mj_F_ifCond_eq_off, mj_F_ifCond_ne_off, mj_F_if_icmp_eq_off, mj_F_if_icmp_ge_off, mj_F_if_icmp_gt_off, mj_F_if_icmp_ne_off, mj_F_ifnull_off, mj_F_iinc_k_n, mj_F_iload_k, mj_F_iload_n_k, mj_F_invokestatic_i, mj_F_invokevirtual_i, mj_F_ireturn, mj_F_ishr, mj_F_istore_k, mj_F_isub, mj_F_putfield_i, mj_set, mj_set0, mj_unk, mj_c2, mj_kc, FT_X0, PT_X0, glX0, mj_st0, mj_st1, mj_st2, L_X0_worthOf, mj_lk_hit, mj_lk_miss, List.take_succ_cons, List.take_zero, List.drop_succ_cons, List.drop_zero, List.reverse_cons, List.reverse_nil, List.length_cons, List.length_nil, gS_C11, gCf0_7, gS_C18, sS_Ca_18, gCf0_9, sS_Cf_0_9, gCf0len, gCf0_0, gCf0_3, gS_C14, sS_Ca_14, gCf0_4, gS_C15, sS_Ca_15, gCf0_2, gS_C13, sS_Ca_13, gCf0_6, gS_C17, sS_Cr_17, gCf0_5, gS_C16, sS_Cr_16, c_in_eq, mj_nk, mj_isA, J_X0_worthOf]
          exact (ok_some hw :)
      · replace hw := ok_t hw c
        refine ⟨fun c => ?_, fun c => ?_⟩
        · replace hw := ok_t hw c
          exact (ok_some hw :)
        · replace hw := ok_f hw c
          refine ⟨(ok_rs hw).1, ?_⟩
          replace hw := (ok_rs hw).2
          exact (ok_some hw :)
  · replace hw := ok_t hw c
    refine mj_run hG.1 (fun pc => pc == 28 || pc == 73 || pc == 121 || pc == 154 || pc == 175 || pc == 187 || pc == 230 || pc == 236 || pc == 243 || pc == 247) 4000 ?_
    simp only [mj_step, mj_W_s, mj_fin, List.getElem?_cons_zero, List.getElem?_cons_succ, mj_go, Nat.reduceAdd, Nat.reduceSub, Nat.reduceLT, Nat.reduceLeDiff, Nat.zero_add, Nat.reduceEqDiff, Nat.reduceBEq, ↓reduceIte, Bool.false_eq_true, List.append_nil, List.nil_append, List.cons_append, Option.toList, and_true, true_and, true_or, or_true, reduceCtorEq, List.map_nil, bI_eq0, bI_eq1, bool_ft, pk_us, vnar0, vnar1, Bool.or_false, Bool.or_true, Bool.false_or, Bool.true_or, mj_kne, eq_self, Int32.reduceLT, Int32.reduceLE, Int32.reduceAdd, Int32.reduceSub, Int32.reduceMul, not_true_eq_false, not_false_eq_true, false_implies, true_implies, D_X0_worthOf_0, D_X0_worthOf_1, D_X0_worthOf_2, mj_F_aaload, mj_F_aconst_null, mj_F_aload_k, mj_F_aload_n_k, mj_F_arraylength, mj_F_astore_k, mj_F_getfield_i, mj_F_getstatic_i, mj_F_goto_off, mj_F_iadd, mj_F_iaload, mj_F_iand, mj_F_iastore, mj_F_iconst_n, mj_F_ifCond_eq_off, mj_F_ifCond_ne_off, mj_F_if_icmp_eq_off, mj_F_if_icmp_ge_off, mj_F_if_icmp_gt_off, mj_F_if_icmp_ne_off, mj_F_ifnull_off, mj_F_iinc_k_n, mj_F_iload_k, mj_F_iload_n_k, mj_F_invokestatic_i, mj_F_invokevirtual_i, mj_F_ireturn, mj_F_ishr, mj_F_istore_k, mj_F_isub, mj_F_putfield_i, mj_set, mj_set0, mj_unk, mj_c2, mj_kc, FT_X0, PT_X0, glX0, mj_st0, mj_st1, mj_st2, L_X0_worthOf, mj_lk_hit, mj_lk_miss, List.take_succ_cons, List.take_zero, List.drop_succ_cons, List.drop_zero, List.reverse_cons, List.reverse_nil, List.length_cons, List.length_nil, gS_C11, gCf0_7, gS_C18, sS_Ca_18, gCf0_9, sS_Cf_0_9, gCf0len, gCf0_0, gCf0_3, gS_C14, sS_Ca_14, gCf0_4, gS_C15, sS_Ca_15, gCf0_2, gS_C13, sS_Ca_13, gCf0_6, gS_C17, sS_Cr_17, gCf0_5, gS_C16, sS_Cr_16, c_in_eq, mj_nk, mj_isA, J_X0_worthOf]
    refine ⟨fun c => ?_, fun c => ?_⟩
    · replace hw := ok_t hw c
      exact (ok_some hw :)
    · replace hw := ok_f hw c
      refine ⟨(ok_rs hw).1, ?_⟩
      replace hw := (ok_rs hw).2
      exact (ok_some hw :)

set_option maxHeartbeats 4000000 in
theorem g_X0_worthOf_28 {k : Option Value → mj_H → Prop} {G : mj_K} (hG : mj_cl2 cX0_worthOf (TbX0 11 ((some FieldType.int)) ct_X0_worthOf) k G)   {v1 : Int32} {v2 : Int32} {v3 : Int32} {v4 : Int32} {v5 : Int32} {v6 : Int32} {v7 : Int32} {v8 : Int32} {s : St} (hw : ok (F_X0_worthOf_28 v1 v2 v3 v4 v5 v6 v7 v8 s) (fun p => k (some (.int p.1)) (mkCs p.2))) : G 28 [.ref 11, .int v1, .int v2, .int v3, .int v4, .int v5, .int v6, .int v7, .int v8] [] (mkCs s) 0 0 := by
  unfold F_X0_worthOf_28 at hw
  refine lp_ok (B_X0_worthOf_28 v1 v2 v3 v4 v5) (fun x => G 28 [.ref 11, .int v1, .int v2, .int v3, .int v4, .int v5, .int x.1, .int x.2.1, .int x.2.2.1] [] (mkCs x.2.2.2) 0 0) _ ?_ _ _ (ok_bind hw)
  rintro ⟨v6, v7, v8, s⟩ hb
  exact b_X0_worthOf_28 hG (fun _ z => z) (fun y hw => by exact hG.2 _ _ _ _ _ _ _ _ _ (by refine ⟨Or.inr rfl, ?_⟩; refine ⟨Or.inr rfl, ?_⟩; refine ⟨Or.inl rfl, ?_⟩; refine ⟨Or.inl rfl, ?_⟩; refine ⟨Or.inl rfl, ?_⟩; refine ⟨Or.inl rfl, ?_⟩; refine ⟨Or.inr rfl, ?_⟩; exact trivial) (Nat.zero_le _) (Nat.zero_le _) (g_X0_worthOf_154 hG  hw :)) hb

set_option maxHeartbeats 4000000 in
set_option maxRecDepth 20000 in
theorem g_X0_worthOf {k : Option Value → mj_H → Prop} {G : mj_K} (hG : mj_cl2 cX0_worthOf (TbX0 11 ((some FieldType.int)) ct_X0_worthOf) k G) {v1 : Int32} {v2 : Int32} {v3 : Int32} {v4 : Int32} {v5 : Int32} {s : St} (hw : ok (F_X0_worthOf v1 v2 v3 v4 v5 s) (fun p => k (some (.int p.1)) (mkCs p.2))) : G 0 [.ref 11, .int v1, .int v2, .int v3, .int v4, .int v5] [] (mkCs s) 0 0 := by
  unfold F_X0_worthOf at hw
  refine mj_run hG.1 (fun pc => pc == 28 || pc == 73 || pc == 121 || pc == 154 || pc == 175 || pc == 187 || pc == 230 || pc == 236 || pc == 243 || pc == 247) 4000 ?_
  simp only [mj_step, mj_W_s, mj_fin, List.getElem?_cons_zero, List.getElem?_cons_succ, mj_go, Nat.reduceAdd, Nat.reduceSub, Nat.reduceLT, Nat.reduceLeDiff, Nat.zero_add, Nat.reduceEqDiff, Nat.reduceBEq, ↓reduceIte, Bool.false_eq_true, List.append_nil, List.nil_append, List.cons_append, Option.toList, and_true, true_and, true_or, or_true, reduceCtorEq, List.map_nil, bI_eq0, bI_eq1, bool_ft, pk_us, vnar0, vnar1, Bool.or_false, Bool.or_true, Bool.false_or, Bool.true_or, mj_kne, eq_self, Int32.reduceLT, Int32.reduceLE, Int32.reduceAdd, Int32.reduceSub, Int32.reduceMul, not_true_eq_false, not_false_eq_true, false_implies, true_implies, D_X0_worthOf_0, D_X0_worthOf_1, D_X0_worthOf_2, mj_F_aaload, mj_F_aconst_null, mj_F_aload_k, mj_F_aload_n_k, mj_F_arraylength, mj_F_astore_k, mj_F_getfield_i, mj_F_getstatic_i, mj_F_goto_off, mj_F_iadd, mj_F_iaload, mj_F_iand, mj_F_iastore, mj_F_iconst_n, mj_F_ifCond_eq_off, mj_F_ifCond_ne_off, mj_F_if_icmp_eq_off, mj_F_if_icmp_ge_off, mj_F_if_icmp_gt_off, mj_F_if_icmp_ne_off, mj_F_ifnull_off, mj_F_iinc_k_n, mj_F_iload_k, mj_F_iload_n_k, mj_F_invokestatic_i, mj_F_invokevirtual_i, mj_F_ireturn, mj_F_ishr, mj_F_istore_k, mj_F_isub, mj_F_putfield_i, mj_set, mj_set0, mj_unk, mj_c2, mj_kc, FT_X0, PT_X0, glX0, mj_st0, mj_st1, mj_st2, L_X0_worthOf, mj_lk_hit, mj_lk_miss, List.take_succ_cons, List.take_zero, List.drop_succ_cons, List.drop_zero, List.reverse_cons, List.reverse_nil, List.length_cons, List.length_nil, gS_C11, gCf0_7, gS_C18, sS_Ca_18, gCf0_9, sS_Cf_0_9, gCf0len, gCf0_0, gCf0_3, gS_C14, sS_Ca_14, gCf0_4, gS_C15, sS_Ca_15, gCf0_2, gS_C13, sS_Ca_13, gCf0_6, gS_C17, sS_Cr_17, gCf0_5, gS_C16, sS_Cr_16, c_in_eq, mj_nk, mj_isA, J_X0_worthOf]
  refine ⟨(ok_wr hw).1, ?_⟩
  replace hw := (ok_wr hw).2
  refine ⟨(ok_wr hw).1, ?_⟩
  replace hw := (ok_wr hw).2
  replace hw := ok_wI hw
  exact hG.2 _ _ _ _ _ _ _ _ _ (by refine ⟨Or.inr rfl, ?_⟩; refine ⟨Or.inr rfl, ?_⟩; refine ⟨Or.inr rfl, ?_⟩; refine ⟨Or.inr rfl, ?_⟩; refine ⟨Or.inr rfl, ?_⟩; refine ⟨Or.inr rfl, ?_⟩; refine ⟨Or.inr rfl, ?_⟩; refine ⟨Or.inr rfl, ?_⟩; refine ⟨Or.inr rfl, ?_⟩; exact trivial) (Nat.zero_le _) (Nat.zero_le _) (g_X0_worthOf_28 hG  hw :)

def c_X0_worthOf : mj_S := fun as h k => ∃ (v1 : Int32) (v2 : Int32) (v3 : Int32) (v4 : Int32) (v5 : Int32) (s : St), as = [.ref 11, .int v1, .int v2, .int v3, .int v4, .int v5] ∧ h = mkCs s ∧ ok (F_X0_worthOf v1 v2 v3 v4 v5 s) (fun p => k (some (.int p.1)) (mkCs p.2))
theorem c_X0_worthOf_in {v1 : Int32} {v2 : Int32} {v3 : Int32} {v4 : Int32} {v5 : Int32} {s : St} {k : Option Value → mj_H → Prop} (hw : ok (F_X0_worthOf v1 v2 v3 v4 v5 s) (fun p => k (some (.int p.1)) (mkCs p.2))) : c_X0_worthOf [.ref 11, .int v1, .int v2, .int v3, .int v4, .int v5] (mkCs s) k := ⟨v1, v2, v3, v4, v5, s, rfl, rfl, hw⟩
theorem m_X0_worthOf (l : Launch) : mj_Met l yX0_worthOf cX0_worthOf 11 ((some FieldType.int)) 3 0 0 c_X0_worthOf := by
  refine mj_body2 false (TbX0 11 ((some FieldType.int)) ct_X0_worthOf) (by decide) rfl rfl (fun h => nomatch h) (tfX0 _ (List.forall_mem_cons.mpr ⟨cfX0_67 (m_X0_binds l) (by decide), List.forall_mem_cons.mpr ⟨cfX0_71 (m_X0_clauseThatHolds l) (by decide), List.forall_mem_cons.mpr ⟨cfX0_75 (m_X11_within l) (by decide), List.forall_mem_cons.mpr ⟨cfX0_81 (m_X0_run l) (by decide), fun _ h => nomatch h⟩⟩⟩⟩)) ?_
  rintro as h k ⟨v1, v2, v3, v4, v5, s, rfl, rfl, hw⟩
  exact ⟨rfl, fun G hG => g_X0_worthOf hG hw⟩
