/-! functional pictures, and that the bytecode keeps them (c6) -/
def B_X4_worstMaker_4 (v1 : Int32) (s : St) : Int32 × Int32 → Option ((Int32 × Int32) ⊕ ((Int32)))
  | (v2, v3) =>
  if v1 ≤ v3 then
    some (.inr v2)
  else
    if 8 ≤ v3 then
      some (.inr v2)
    else
      if v2 = (-1) then
        (rd s 407 8 v3).bind fun x5 =>
        if x5 ≤ 0 then
          some (.inl (v2, (v3 + 1)))
        else
          some (.inl (v3, (v3 + 1)))
      else
        (rd s 407 8 v3).bind fun x1 =>
        (rd s 406 8 v2).bind fun x2 =>
        (rd s 407 8 v2).bind fun x3 =>
        (rd s 406 8 v3).bind fun x4 =>
        if (x1 * x2) ≤ (x3 * x4) then
          some (.inl (v2, (v3 + 1)))
        else
          some (.inl (v3, (v3 + 1)))
def F_X4_worstMaker_86 (v2 : Int32) (s : St) : Option (Int32) :=
  some v2
def F_X4_worstMaker_4 (v1 : Int32) (v2 : Int32) (v3 : Int32) (s : St) : Option (Int32) :=
  (lp (B_X4_worstMaker_4 v1 s) FU (v2, v3)).bind (fun y => F_X4_worstMaker_86 y s)
def F_X4_worstMaker (v1 : Int32) (s : St) : Option (Int32) :=
  F_X4_worstMaker_4 v1 (-1) 0 s
theorem J_X4_worstMaker : mj_t 6 80 = 86 ∧ mj_t 12 74 = 86 ∧ mj_t 17 20 = 37 ∧ mj_t 26 7 = 33 ∧ mj_t 30 41 = 71 ∧ mj_t 34 37 = 71 ∧ mj_t 63 7 = 70 ∧ mj_t 67 4 = 71 ∧ mj_t 75 5 = 80 ∧ mj_t 83 (-79) = 4 ∧ (0 ≤ ((6 : Nat) : Int) + 80) = True ∧ (0 ≤ ((12 : Nat) : Int) + 74) = True ∧ (0 ≤ ((17 : Nat) : Int) + 20) = True ∧ (0 ≤ ((26 : Nat) : Int) + 7) = True ∧ (0 ≤ ((30 : Nat) : Int) + 41) = True ∧ (0 ≤ ((34 : Nat) : Int) + 37) = True ∧ (0 ≤ ((63 : Nat) : Int) + 7) = True ∧ (0 ≤ ((67 : Nat) : Int) + 4) = True ∧ (0 ≤ ((75 : Nat) : Int) + 5) = True ∧ (0 ≤ ((83 : Nat) : Int) + (-79)) = True := by and_intros <;> first | rfl | exact eq_true (by decide)
set_option maxHeartbeats 4000000 in
set_option maxRecDepth 20000 in
theorem b_X4_worstMaker_4 {k : Option Value → mj_H → Prop} {G : mj_K} (hG : mj_cl2 cX4_worstMaker (TbX4 5 ((some FieldType.int)) []) k G) {v1 : Int32} {s : St} {P : Int32 × Int32 → Prop} {K : (Int32) → Prop} (hP : ∀ x, P x → G 4 [.ref 73, .int v1, .int x.1, .int x.2] [] (mkCs s) 0 0) (hK0 : ∀ y, K y → G 86 [mj_unk, mj_unk, .int y] [] (mkCs s) 0 0) {v2 : Int32} {v3 : Int32} (hw : ok (B_X4_worstMaker_4 v1 s (v2, v3)) (Sum.elim P K)) : G 4 [.ref 73, .int v1, .int v2, .int v3] [] (mkCs s) 0 0 := by
  unfold B_X4_worstMaker_4 at hw
  refine mj_run hG.1 (fun pc => pc == 4 || pc == 86) 4000 ?_
  simp only [mj_step, mj_W_s, mj_fin, List.getElem?_cons_zero, List.getElem?_cons_succ, mj_go, Nat.reduceAdd, Nat.reduceSub, Nat.reduceLT, Nat.reduceLeDiff, Nat.zero_add, Nat.reduceEqDiff, Nat.reduceBEq, ↓reduceIte, Bool.false_eq_true, List.append_nil, List.nil_append, List.cons_append, Option.toList, and_true, true_and, true_or, or_true, reduceCtorEq, List.map_nil, bI_eq0, bI_eq1, bool_ft, pk_us, vnar0, vnar1, Bool.or_false, Bool.or_true, Bool.false_or, Bool.true_or, mj_kne, eq_self, Int32.reduceLT, Int32.reduceLE, Int32.reduceAdd, Int32.reduceSub, Int32.reduceMul, not_true_eq_false, not_false_eq_true, false_implies, true_implies, D_X4_worstMaker_0, D_X4_worstMaker_1, mj_F_aload_n_k, mj_F_bipush_n, mj_F_getfield_i, mj_F_goto_off, mj_F_iaload, mj_F_iconst_n, mj_F_ifCond_eq_off, mj_F_ifCond_le_off, mj_F_if_icmp_ge_off, mj_F_if_icmp_le_off, mj_F_if_icmp_ne_off, mj_F_iinc_k_n, mj_F_iload_k, mj_F_iload_n_k, mj_F_imul, mj_F_ireturn, mj_F_istore_k, mj_F_istore_n_k, mj_set, mj_set0, mj_unk, mj_c2, mj_kc, FT_X4, gS_C73, gCf4_7, gS_C80, sS_Ca_80, gCf4_6, gS_C79, sS_Ca_79, J_X4_worstMaker]
  refine ⟨fun c => ?_, fun c => ?_⟩
  · replace hw := ok_t hw c
    exact hG.2 _ _ _ _ _ _ _ _ _ (by refine ⟨Or.inl rfl, ?_⟩; refine ⟨Or.inl rfl, ?_⟩; refine ⟨Or.inr rfl, ?_⟩; exact trivial) (Nat.zero_le _) (Nat.zero_le _) (hK0 _ (ok_some hw :) :)
  · replace hw := ok_f hw c
    refine ⟨fun c => ?_, fun c => ?_⟩
    · replace hw := ok_t hw c
      exact hG.2 _ _ _ _ _ _ _ _ _ (by refine ⟨Or.inl rfl, ?_⟩; refine ⟨Or.inl rfl, ?_⟩; refine ⟨Or.inr rfl, ?_⟩; exact trivial) (Nat.zero_le _) (Nat.zero_le _) (hK0 _ (ok_some hw :) :)
    · replace hw := ok_f hw c
      refine ⟨fun c => ?_, fun c => ?_⟩
      · replace hw := ok_f hw c
        refine ⟨(ok_rd hw).1, ?_⟩
        replace hw := (ok_rd hw).2
        refine ⟨(ok_rd hw).1, ?_⟩
        replace hw := (ok_rd hw).2
        refine ⟨(ok_rd hw).1, ?_⟩
        replace hw := (ok_rd hw).2
        refine ⟨(ok_rd hw).1, ?_⟩
        replace hw := (ok_rd hw).2
        refine ⟨fun c => ?_, fun c => ?_⟩
        · replace hw := ok_t hw c
          exact hG.2 _ _ _ _ _ _ _ _ _ (by refine ⟨Or.inr rfl, ?_⟩; refine ⟨Or.inr rfl, ?_⟩; refine ⟨Or.inr rfl, ?_⟩; refine ⟨Or.inr rfl, ?_⟩; exact trivial) (Nat.zero_le _) (Nat.zero_le _) (hP _ (ok_some hw :) :)
        · replace hw := ok_f hw c
          exact hG.2 _ _ _ _ _ _ _ _ _ (by refine ⟨Or.inr rfl, ?_⟩; refine ⟨Or.inr rfl, ?_⟩; refine ⟨Or.inr rfl, ?_⟩; refine ⟨Or.inr rfl, ?_⟩; exact trivial) (Nat.zero_le _) (Nat.zero_le _) (hP _ (ok_some hw :) :)
      · replace hw := ok_t hw c
        refine ⟨(ok_rd hw).1, ?_⟩
        replace hw := (ok_rd hw).2
        refine ⟨fun c => ?_, fun c => ?_⟩
        · replace hw := ok_t hw c
          exact hG.2 _ _ _ _ _ _ _ _ _ (by refine ⟨Or.inr rfl, ?_⟩; refine ⟨Or.inr rfl, ?_⟩; refine ⟨Or.inr rfl, ?_⟩; refine ⟨Or.inr rfl, ?_⟩; exact trivial) (Nat.zero_le _) (Nat.zero_le _) (hP _ (ok_some hw :) :)
        · replace hw := ok_f hw c
          exact hG.2 _ _ _ _ _ _ _ _ _ (by refine ⟨Or.inr rfl, ?_⟩; refine ⟨Or.inr rfl, ?_⟩; refine ⟨Or.inr rfl, ?_⟩; refine ⟨Or.inr rfl, ?_⟩; exact trivial) (Nat.zero_le _) (Nat.zero_le _) (hP _ (ok_some hw :) :)

set_option maxHeartbeats 4000000 in
set_option maxRecDepth 20000 in
theorem g_X4_worstMaker_86 {k : Option Value → mj_H → Prop} {G : mj_K} (hG : mj_cl2 cX4_worstMaker (TbX4 5 ((some FieldType.int)) []) k G)   {v2 : Int32} {s : St} (hw : ok (F_X4_worstMaker_86 v2 s) (fun p => k (some (.int p)) (mkCs s))) : G 86 [mj_unk, mj_unk, .int v2] [] (mkCs s) 0 0 := by
  unfold F_X4_worstMaker_86 at hw
  refine mj_run hG.1 (fun pc => pc == 4 || pc == 86) 4000 ?_
  simp only [mj_step, mj_W_s, mj_fin, List.getElem?_cons_zero, List.getElem?_cons_succ, mj_go, Nat.reduceAdd, Nat.reduceSub, Nat.reduceLT, Nat.reduceLeDiff, Nat.zero_add, Nat.reduceEqDiff, Nat.reduceBEq, ↓reduceIte, Bool.false_eq_true, List.append_nil, List.nil_append, List.cons_append, Option.toList, and_true, true_and, true_or, or_true, reduceCtorEq, List.map_nil, bI_eq0, bI_eq1, bool_ft, pk_us, vnar0, vnar1, Bool.or_false, Bool.or_true, Bool.false_or, Bool.true_or, mj_kne, eq_self, Int32.reduceLT, Int32.reduceLE, Int32.reduceAdd, Int32.reduceSub, Int32.reduceMul, not_true_eq_false, not_false_eq_true, false_implies, true_implies, D_X4_worstMaker_0, D_X4_worstMaker_1, mj_F_aload_n_k, mj_F_bipush_n, mj_F_getfield_i, mj_F_goto_off, mj_F_iaload, mj_F_iconst_n, mj_F_ifCond_eq_off, mj_F_ifCond_le_off, mj_F_if_icmp_ge_off, mj_F_if_icmp_le_off, mj_F_if_icmp_ne_off, mj_F_iinc_k_n, mj_F_iload_k, mj_F_iload_n_k, mj_F_imul, mj_F_ireturn, mj_F_istore_k, mj_F_istore_n_k, mj_set, mj_set0, mj_unk, mj_c2, mj_kc, FT_X4, gS_C73, gCf4_7, gS_C80, sS_Ca_80, gCf4_6, gS_C79, sS_Ca_79, J_X4_worstMaker]
  exact (ok_some hw :)

set_option maxHeartbeats 4000000 in
theorem g_X4_worstMaker_4 {k : Option Value → mj_H → Prop} {G : mj_K} (hG : mj_cl2 cX4_worstMaker (TbX4 5 ((some FieldType.int)) []) k G)   {v1 : Int32} {v2 : Int32} {v3 : Int32} {s : St} (hw : ok (F_X4_worstMaker_4 v1 v2 v3 s) (fun p => k (some (.int p)) (mkCs s))) : G 4 [.ref 73, .int v1, .int v2, .int v3] [] (mkCs s) 0 0 := by
  unfold F_X4_worstMaker_4 at hw
  refine lp_ok (B_X4_worstMaker_4 v1 s) (fun x => G 4 [.ref 73, .int v1, .int x.1, .int x.2] [] (mkCs s) 0 0) _ ?_ _ _ (ok_bind hw)
  rintro ⟨v2, v3⟩ hb
  exact b_X4_worstMaker_4 hG (fun _ z => z) (fun y hw => by exact hG.2 _ _ _ _ _ _ _ _ _ (by refine ⟨Or.inl rfl, ?_⟩; refine ⟨Or.inl rfl, ?_⟩; refine ⟨Or.inr rfl, ?_⟩; exact trivial) (Nat.zero_le _) (Nat.zero_le _) (g_X4_worstMaker_86 hG  hw :)) hb

set_option maxHeartbeats 4000000 in
set_option maxRecDepth 20000 in
theorem g_X4_worstMaker {k : Option Value → mj_H → Prop} {G : mj_K} (hG : mj_cl2 cX4_worstMaker (TbX4 5 ((some FieldType.int)) []) k G) {v1 : Int32} {s : St} (hw : ok (F_X4_worstMaker v1 s) (fun p => k (some (.int p)) (mkCs s))) : G 0 [.ref 73, .int v1] [] (mkCs s) 0 0 := by
  unfold F_X4_worstMaker at hw
  refine mj_run hG.1 (fun pc => pc == 4 || pc == 86) 4000 ?_
  simp only [mj_step, mj_W_s, mj_fin, List.getElem?_cons_zero, List.getElem?_cons_succ, mj_go, Nat.reduceAdd, Nat.reduceSub, Nat.reduceLT, Nat.reduceLeDiff, Nat.zero_add, Nat.reduceEqDiff, Nat.reduceBEq, ↓reduceIte, Bool.false_eq_true, List.append_nil, List.nil_append, List.cons_append, Option.toList, and_true, true_and, true_or, or_true, reduceCtorEq, List.map_nil, bI_eq0, bI_eq1, bool_ft, pk_us, vnar0, vnar1, Bool.or_false, Bool.or_true, Bool.false_or, Bool.true_or, mj_kne, eq_self, Int32.reduceLT, Int32.reduceLE, Int32.reduceAdd, Int32.reduceSub, Int32.reduceMul, not_true_eq_false, not_false_eq_true, false_implies, true_implies, D_X4_worstMaker_0, D_X4_worstMaker_1, mj_F_aload_n_k, mj_F_bipush_n, mj_F_getfield_i, mj_F_goto_off, mj_F_iaload, mj_F_iconst_n, mj_F_ifCond_eq_off, mj_F_ifCond_le_off, mj_F_if_icmp_ge_off, mj_F_if_icmp_le_off, mj_F_if_icmp_ne_off, mj_F_iinc_k_n, mj_F_iload_k, mj_F_iload_n_k, mj_F_imul, mj_F_ireturn, mj_F_istore_k, mj_F_istore_n_k, mj_set, mj_set0, mj_unk, mj_c2, mj_kc, FT_X4, gS_C73, gCf4_7, gS_C80, sS_Ca_80, gCf4_6, gS_C79, sS_Ca_79, J_X4_worstMaker]
  exact hG.2 _ _ _ _ _ _ _ _ _ (by refine ⟨Or.inr rfl, ?_⟩; refine ⟨Or.inr rfl, ?_⟩; refine ⟨Or.inr rfl, ?_⟩; refine ⟨Or.inr rfl, ?_⟩; exact trivial) (Nat.zero_le _) (Nat.zero_le _) (g_X4_worstMaker_4 hG  hw :)

def c_X4_worstMaker : mj_S := fun as h k => ∃ (v1 : Int32) (s : St), as = [.ref 73, .int v1] ∧ h = mkCs s ∧ ok (F_X4_worstMaker v1 s) (fun p => k (some (.int p)) (mkCs s))
theorem c_X4_worstMaker_in {v1 : Int32} {s : St} {k : Option Value → mj_H → Prop} (hw : ok (F_X4_worstMaker v1 s) (fun p => k (some (.int p)) (mkCs s))) : c_X4_worstMaker [.ref 73, .int v1] (mkCs s) k := ⟨v1, s, rfl, rfl, hw⟩
theorem m_X4_worstMaker (l : Launch) : mj_Met l yX4_worstMaker cX4_worstMaker 5 ((some FieldType.int)) 0 0 0 c_X4_worstMaker := by
  refine mj_body2 false (TbX4 5 ((some FieldType.int)) []) (by decide) rfl rfl (fun h => nomatch h) (tfX4 _ (fun _ h => nomatch h)) ?_
  rintro as h k ⟨v1, s, rfl, rfl, hw⟩
  exact ⟨rfl, fun G hG => g_X4_worstMaker hG hw⟩
def F_X11_blame (s : St) : Option (Int32) :=
  (F_X4_worstMaker (s.1 1004) s).bind fun r1 =>
  some r1
def ct_X11_blame : List (Nat × mj_Cs) := [(356, 0, 2, 4, 0, 0, c_X4_worstMaker)]
theorem L_X11_blame : mj_lk ct_X11_blame 356 = some (0, 2, 4, 0, 0, c_X4_worstMaker) := rfl
set_option maxHeartbeats 4000000 in
set_option maxRecDepth 20000 in
theorem g_X11_blame {k : Option Value → mj_H → Prop} {G : mj_K} (hG : mj_cl2 cX11_blame (TbX11 1 ((some FieldType.int)) ct_X11_blame) k G) {s : St} (hw : ok (F_X11_blame s) (fun p => k (some (.int p)) (mkCs s))) : G 0 [.ref 0] [] (mkCs s) 0 0 := by
  unfold F_X11_blame at hw
  refine mj_run hG.1 (fun pc => pc == 14) 4000 ?_
  simp only [mj_step, mj_W_s, mj_fin, List.getElem?_cons_zero, List.getElem?_cons_succ, mj_go, Nat.reduceAdd, Nat.reduceSub, Nat.reduceLT, Nat.reduceLeDiff, Nat.zero_add, Nat.reduceEqDiff, Nat.reduceBEq, ↓reduceIte, Bool.false_eq_true, List.append_nil, List.nil_append, List.cons_append, Option.toList, and_true, true_and, true_or, or_true, reduceCtorEq, List.map_nil, bI_eq0, bI_eq1, bool_ft, pk_us, vnar0, vnar1, Bool.or_false, Bool.or_true, Bool.false_or, Bool.true_or, mj_kne, eq_self, Int32.reduceLT, Int32.reduceLE, Int32.reduceAdd, Int32.reduceSub, Int32.reduceMul, not_true_eq_false, not_false_eq_true, false_implies, true_implies, D_X11_blame, mj_F_aload_n_k, mj_F_getfield_i, mj_F_invokevirtual_i, mj_F_ireturn, FT_X11, L_X11_blame, List.take_succ_cons, List.take_zero, List.drop_succ_cons, List.drop_zero, List.reverse_cons, List.reverse_nil, List.length_cons, List.length_nil, gS_C0, gCf11_9, gCf11_6, gS_C45, gCf10_4, gS_C73]
  refine c_X4_worstMaker_in (ok_imp (ok_bind hw) ?_)
  intro p hw
  simp only [Option.toList, List.nil_append, List.cons_append, Nat.reduceSub]
  refine mj_run hG.1 (fun pc => pc == 14) 4000 ?_
  simp only [mj_step, mj_W_s, mj_fin, List.getElem?_cons_zero, List.getElem?_cons_succ, mj_go, Nat.reduceAdd, Nat.reduceSub, Nat.reduceLT, Nat.reduceLeDiff, Nat.zero_add, Nat.reduceEqDiff, Nat.reduceBEq, ↓reduceIte, Bool.false_eq_true, List.append_nil, List.nil_append, List.cons_append, Option.toList, and_true, true_and, true_or, or_true, reduceCtorEq, List.map_nil, bI_eq0, bI_eq1, bool_ft, pk_us, vnar0, vnar1, Bool.or_false, Bool.or_true, Bool.false_or, Bool.true_or, mj_kne, eq_self, Int32.reduceLT, Int32.reduceLE, Int32.reduceAdd, Int32.reduceSub, Int32.reduceMul, not_true_eq_false, not_false_eq_true, false_implies, true_implies, D_X11_blame, mj_F_aload_n_k, mj_F_getfield_i, mj_F_invokevirtual_i, mj_F_ireturn, FT_X11, L_X11_blame, List.take_succ_cons, List.take_zero, List.drop_succ_cons, List.drop_zero, List.reverse_cons, List.reverse_nil, List.length_cons, List.length_nil, gS_C0, gCf11_9, gCf11_6, gS_C45, gCf10_4, gS_C73]
  exact (ok_some hw :)

def c_X11_blame : mj_S := fun as h k => ∃ (s : St), as = [.ref 0] ∧ h = mkCs s ∧ ok (F_X11_blame s) (fun p => k (some (.int p)) (mkCs s))
theorem c_X11_blame_in {s : St} {k : Option Value → mj_H → Prop} (hw : ok (F_X11_blame s) (fun p => k (some (.int p)) (mkCs s))) : c_X11_blame [.ref 0] (mkCs s) k := ⟨s, rfl, rfl, hw⟩
theorem m_X11_blame (l : Launch) : mj_Met l yX11_blame cX11_blame 1 ((some FieldType.int)) 1 0 0 c_X11_blame := by
  refine mj_body2 false (TbX11 1 ((some FieldType.int)) ct_X11_blame) (by decide) rfl rfl (fun h => nomatch h) (tfX11 _ (List.forall_mem_cons.mpr ⟨cfX11_356 (m_X4_worstMaker l) (by decide), fun _ h => nomatch h⟩)) ?_
  rintro as h k ⟨s, rfl, rfl, hw⟩
  exact ⟨rfl, fun G hG => g_X11_blame hG hw⟩
def F_X11_treat (v1 : Int32) (v2 : Int32) (s : St) : Option (Int32 × St) :=
  (F_X11_isVillage v1 s).bind fun r1 =>
  if r1 = 0 then
    some (0, s)
  else
    if inb v2 0 11 = false then
      some (0, s)
    else
      (rd s 105 24 v1).bind fun x2 =>
      if x2 = (-1) then
        (wr s 105 24 v1 v2).bind fun s3 =>
        (wr s3 106 24 v1 (s3.1 1100)).bind fun s4 =>
        some (1, s4)
      else
        some (0, s)
theorem J_X11_treat : mj_t 5 23 = 28 ∧ mj_t 12 16 = 28 ∧ mj_t 25 5 = 30 ∧ (0 ≤ ((5 : Nat) : Int) + 23) = True ∧ (0 ≤ ((12 : Nat) : Int) + 16) = True ∧ (0 ≤ ((25 : Nat) : Int) + 5) = True := by and_intros <;> first | rfl | exact eq_true (by decide)
def ct_X11_treat : List (Nat × mj_Cs) := [(138, 0, 2, 11, 0, 0, c_X11_isVillage), (141, 2, 1, 11, 0, 0, c_isYear)]
theorem L_X11_treat : mj_lk ct_X11_treat 138 = some (0, 2, 11, 0, 0, c_X11_isVillage) ∧ mj_lk ct_X11_treat 141 = some (2, 1, 11, 0, 0, c_isYear) := ⟨rfl, rfl⟩
set_option maxHeartbeats 4000000 in
set_option maxRecDepth 20000 in
theorem g_X11_treat {k : Option Value → mj_H → Prop} {G : mj_K} (hG : mj_cl2 cX11_treat (TbX11 3 ((some FieldType.boolean)) ct_X11_treat) k G) {v1 : Int32} {v2 : Int32} {s : St} (hw : ok (F_X11_treat v1 v2 s) (fun p => k (some (.int p.1)) (mkCs p.2))) : G 0 [.ref 0, .int v1, .int v2] [] (mkCs s) 0 0 := by
  unfold F_X11_treat at hw
  refine mj_run hG.1 (fun pc => pc == 5) 4000 ?_
  simp only [mj_step, mj_W_s, mj_fin, List.getElem?_cons_zero, List.getElem?_cons_succ, mj_go, Nat.reduceAdd, Nat.reduceSub, Nat.reduceLT, Nat.reduceLeDiff, Nat.zero_add, Nat.reduceEqDiff, Nat.reduceBEq, ↓reduceIte, Bool.false_eq_true, List.append_nil, List.nil_append, List.cons_append, Option.toList, and_true, true_and, true_or, or_true, reduceCtorEq, List.map_nil, bI_eq0, bI_eq1, bool_ft, pk_us, vnar0, vnar1, Bool.or_false, Bool.or_true, Bool.false_or, Bool.true_or, mj_kne, eq_self, Int32.reduceLT, Int32.reduceLE, Int32.reduceAdd, Int32.reduceSub, Int32.reduceMul, not_true_eq_false, not_false_eq_true, false_implies, true_implies, D_X11_treat, mj_F_aload_n_k, mj_F_getfield_i, mj_F_iaload, mj_F_iastore, mj_F_iconst_n, mj_F_ifCond_eq_off, mj_F_if_icmp_eq_off, mj_F_iload_n_k, mj_F_invokestatic_i, mj_F_invokevirtual_i, mj_F_ireturn, mj_kc, FT_X11, L_X11_treat, List.take_succ_cons, List.take_zero, List.drop_succ_cons, List.drop_zero, List.reverse_cons, List.reverse_nil, List.length_cons, List.length_nil, gS_C0, gCf11_4, gS_C20, gCf1_5, gS_C24, sS_Ca_24, gCf1_6, gS_C25, sS_Ca_25, gCf11_0, c_isYear_eq, J_X11_treat]
  refine c_X11_isVillage_in (ok_imp (ok_bind hw) ?_)
  intro p hw
  simp only [Option.toList, List.nil_append, List.cons_append, Nat.reduceSub]
  refine mj_run hG.1 (fun pc => pc == 5) 4000 ?_
  simp only [mj_step, mj_W_s, mj_fin, List.getElem?_cons_zero, List.getElem?_cons_succ, mj_go, Nat.reduceAdd, Nat.reduceSub, Nat.reduceLT, Nat.reduceLeDiff, Nat.zero_add, Nat.reduceEqDiff, Nat.reduceBEq, ↓reduceIte, Bool.false_eq_true, List.append_nil, List.nil_append, List.cons_append, Option.toList, and_true, true_and, true_or, or_true, reduceCtorEq, List.map_nil, bI_eq0, bI_eq1, bool_ft, pk_us, vnar0, vnar1, Bool.or_false, Bool.or_true, Bool.false_or, Bool.true_or, mj_kne, eq_self, Int32.reduceLT, Int32.reduceLE, Int32.reduceAdd, Int32.reduceSub, Int32.reduceMul, not_true_eq_false, not_false_eq_true, false_implies, true_implies, D_X11_treat, mj_F_aload_n_k, mj_F_getfield_i, mj_F_iaload, mj_F_iastore, mj_F_iconst_n, mj_F_ifCond_eq_off, mj_F_if_icmp_eq_off, mj_F_iload_n_k, mj_F_invokestatic_i, mj_F_invokevirtual_i, mj_F_ireturn, mj_kc, FT_X11, L_X11_treat, List.take_succ_cons, List.take_zero, List.drop_succ_cons, List.drop_zero, List.reverse_cons, List.reverse_nil, List.length_cons, List.length_nil, gS_C0, gCf11_4, gS_C20, gCf1_5, gS_C24, sS_Ca_24, gCf1_6, gS_C25, sS_Ca_25, gCf11_0, c_isYear_eq, J_X11_treat]
  refine ⟨fun c => ?_, fun c => ?_⟩
  · replace hw := ok_t hw c
    exact (ok_some hw :)
  · replace hw := ok_f hw c
    refine ⟨fun c => ?_, fun c => ?_⟩
    · replace hw := ok_t hw c
      exact (ok_some hw :)
    · replace hw := ok_f hw c
      refine ⟨(ok_rd hw).1, ?_⟩
      replace hw := (ok_rd hw).2
      refine ⟨fun c => ?_, fun c => ?_⟩
      · replace hw := ok_t hw c
        refine ⟨(ok_wr hw).1, ?_⟩
        replace hw := (ok_wr hw).2
        refine ⟨(ok_wr hw).1, ?_⟩
        replace hw := (ok_wr hw).2
        exact (ok_some hw :)
      · replace hw := ok_f hw c
        exact (ok_some hw :)

def c_X11_treat : mj_S := fun as h k => ∃ (v1 : Int32) (v2 : Int32) (s : St), as = [.ref 0, .int v1, .int v2] ∧ h = mkCs s ∧ ok (F_X11_treat v1 v2 s) (fun p => k (some (.int p.1)) (mkCs p.2))
theorem c_X11_treat_in {v1 : Int32} {v2 : Int32} {s : St} {k : Option Value → mj_H → Prop} (hw : ok (F_X11_treat v1 v2 s) (fun p => k (some (.int p.1)) (mkCs p.2))) : c_X11_treat [.ref 0, .int v1, .int v2] (mkCs s) k := ⟨v1, v2, s, rfl, rfl, hw⟩
theorem m_X11_treat (l : Launch) : mj_Met l yX11_treat cX11_treat 3 ((some FieldType.boolean)) 2 0 0 c_X11_treat := by
  refine mj_body2 false (TbX11 3 ((some FieldType.boolean)) ct_X11_treat) (by decide) rfl rfl (fun h => nomatch h) (tfX11 _ (List.forall_mem_cons.mpr ⟨cfX11_138 (m_X11_isVillage l) (by decide), List.forall_mem_cons.mpr ⟨cfX11_141 (m_X11_isYear l) (by decide), fun _ h => nomatch h⟩⟩)) ?_
  rintro as h k ⟨v1, v2, s, rfl, rfl, hw⟩
  exact ⟨rfl, fun G hG => g_X11_treat hG hw⟩
def F_X1_girlsInThousand (v1 : Int32) (v2 : Int32) (v3 : Int32) (s : St) : Option (Int32) :=
  (F_X1_childrenOf v1 v2 v3 s).bind fun r1 =>
  if r1 = 0 then
    some 0
  else
    (F_X1_girlsOf v1 v2 v3 s).bind fun r2 =>
    (nz r1).bind fun _ =>
    some ((1000 * r2) / r1)
theorem J_X1_girlsInThousand : mj_t 11 7 = 18 ∧ mj_t 15 17 = 32 ∧ (0 ≤ ((11 : Nat) : Int) + 7) = True ∧ (0 ≤ ((15 : Nat) : Int) + 17) = True := by and_intros <;> first | rfl | exact eq_true (by decide)
def ct_X1_girlsInThousand : List (Nat × mj_Cs) := [(78, 0, 4, 1, 0, 0, c_X1_childrenOf), (115, 0, 4, 1, 0, 0, c_X1_girlsOf)]
theorem L_X1_girlsInThousand : mj_lk ct_X1_girlsInThousand 78 = some (0, 4, 1, 0, 0, c_X1_childrenOf) ∧ mj_lk ct_X1_girlsInThousand 115 = some (0, 4, 1, 0, 0, c_X1_girlsOf) := ⟨rfl, rfl⟩
set_option maxHeartbeats 4000000 in
set_option maxRecDepth 20000 in
theorem g_X1_girlsInThousand {k : Option Value → mj_H → Prop} {G : mj_K} (hG : mj_cl2 cX1_girlsInThousand (TbX1 5 ((some FieldType.int)) ct_X1_girlsInThousand) k G) {v1 : Int32} {v2 : Int32} {v3 : Int32} {s : St} (hw : ok (F_X1_girlsInThousand v1 v2 v3 s) (fun p => k (some (.int p)) (mkCs s))) : G 0 [.ref 20, .int v1, .int v2, .int v3] [] (mkCs s) 0 0 := by
  unfold F_X1_girlsInThousand at hw
  refine mj_run hG.1 (fun pc => pc == 7 || pc == 28) 4000 ?_
  simp only [mj_step, mj_W_s, mj_fin, List.getElem?_cons_zero, List.getElem?_cons_succ, mj_go, Nat.reduceAdd, Nat.reduceSub, Nat.reduceLT, Nat.reduceLeDiff, Nat.zero_add, Nat.reduceEqDiff, Nat.reduceBEq, ↓reduceIte, Bool.false_eq_true, List.append_nil, List.nil_append, List.cons_append, Option.toList, and_true, true_and, true_or, or_true, reduceCtorEq, List.map_nil, bI_eq0, bI_eq1, bool_ft, pk_us, vnar0, vnar1, Bool.or_false, Bool.or_true, Bool.false_or, Bool.true_or, mj_kne, eq_self, Int32.reduceLT, Int32.reduceLE, Int32.reduceAdd, Int32.reduceSub, Int32.reduceMul, not_true_eq_false, not_false_eq_true, false_implies, true_implies, D_X1_girlsInThousand, mj_F_aload_n_k, mj_F_goto_off, mj_F_iconst_n, mj_F_idiv, mj_F_ifCond_ne_off, mj_F_iload_k, mj_F_iload_n_k, mj_F_imul, mj_F_invokevirtual_i, mj_F_ireturn, mj_F_istore_k, mj_F_sipush_n, mj_set, mj_set0, mj_unk, mj_c2, mj_kc, L_X1_girlsInThousand, List.take_succ_cons, List.take_zero, List.drop_succ_cons, List.drop_zero, List.reverse_cons, List.reverse_nil, List.length_cons, List.length_nil, gS_C20, J_X1_girlsInThousand]
  refine c_X1_childrenOf_in (ok_imp (ok_bind hw) ?_)
  intro p hw
  simp only [Option.toList, List.nil_append, List.cons_append, Nat.reduceSub]
  refine mj_run hG.1 (fun pc => pc == 7 || pc == 28) 4000 ?_
  simp only [mj_step, mj_W_s, mj_fin, List.getElem?_cons_zero, List.getElem?_cons_succ, mj_go, Nat.reduceAdd, Nat.reduceSub, Nat.reduceLT, Nat.reduceLeDiff, Nat.zero_add, Nat.reduceEqDiff, Nat.reduceBEq, ↓reduceIte, Bool.false_eq_true, List.append_nil, List.nil_append, List.cons_append, Option.toList, and_true, true_and, true_or, or_true, reduceCtorEq, List.map_nil, bI_eq0, bI_eq1, bool_ft, pk_us, vnar0, vnar1, Bool.or_false, Bool.or_true, Bool.false_or, Bool.true_or, mj_kne, eq_self, Int32.reduceLT, Int32.reduceLE, Int32.reduceAdd, Int32.reduceSub, Int32.reduceMul, not_true_eq_false, not_false_eq_true, false_implies, true_implies, D_X1_girlsInThousand, mj_F_aload_n_k, mj_F_goto_off, mj_F_iconst_n, mj_F_idiv, mj_F_ifCond_ne_off, mj_F_iload_k, mj_F_iload_n_k, mj_F_imul, mj_F_invokevirtual_i, mj_F_ireturn, mj_F_istore_k, mj_F_sipush_n, mj_set, mj_set0, mj_unk, mj_c2, mj_kc, L_X1_girlsInThousand, List.take_succ_cons, List.take_zero, List.drop_succ_cons, List.drop_zero, List.reverse_cons, List.reverse_nil, List.length_cons, List.length_nil, gS_C20, J_X1_girlsInThousand]
  refine ⟨fun c => ?_, fun c => ?_⟩
  · replace hw := ok_f hw c
    refine c_X1_girlsOf_in (ok_imp (ok_bind hw) ?_)
    intro p hw
    simp only [Option.toList, List.nil_append, List.cons_append, Nat.reduceSub]
    refine mj_run hG.1 (fun pc => pc == 7 || pc == 28) 4000 ?_
    simp only [mj_step, mj_W_s, mj_fin, List.getElem?_cons_zero, List.getElem?_cons_succ, mj_go, Nat.reduceAdd, Nat.reduceSub, Nat.reduceLT, Nat.reduceLeDiff, Nat.zero_add, Nat.reduceEqDiff, Nat.reduceBEq, ↓reduceIte, Bool.false_eq_true, List.append_nil, List.nil_append, List.cons_append, Option.toList, and_true, true_and, true_or, or_true, reduceCtorEq, List.map_nil, bI_eq0, bI_eq1, bool_ft, pk_us, vnar0, vnar1, Bool.or_false, Bool.or_true, Bool.false_or, Bool.true_or, mj_kne, eq_self, Int32.reduceLT, Int32.reduceLE, Int32.reduceAdd, Int32.reduceSub, Int32.reduceMul, not_true_eq_false, not_false_eq_true, false_implies, true_implies, D_X1_girlsInThousand, mj_F_aload_n_k, mj_F_goto_off, mj_F_iconst_n, mj_F_idiv, mj_F_ifCond_ne_off, mj_F_iload_k, mj_F_iload_n_k, mj_F_imul, mj_F_invokevirtual_i, mj_F_ireturn, mj_F_istore_k, mj_F_sipush_n, mj_set, mj_set0, mj_unk, mj_c2, mj_kc, L_X1_girlsInThousand, List.take_succ_cons, List.take_zero, List.drop_succ_cons, List.drop_zero, List.reverse_cons, List.reverse_nil, List.length_cons, List.length_nil, gS_C20, J_X1_girlsInThousand]
    refine ⟨(ok_nz hw).1, ?_⟩
    replace hw := (ok_nz hw).2
    exact (ok_some hw :)
  · replace hw := ok_t hw c
    exact (ok_some hw :)

def c_X1_girlsInThousand : mj_S := fun as h k => ∃ (v1 : Int32) (v2 : Int32) (v3 : Int32) (s : St), as = [.ref 20, .int v1, .int v2, .int v3] ∧ h = mkCs s ∧ ok (F_X1_girlsInThousand v1 v2 v3 s) (fun p => k (some (.int p)) (mkCs s))
theorem c_X1_girlsInThousand_in {v1 : Int32} {v2 : Int32} {v3 : Int32} {s : St} {k : Option Value → mj_H → Prop} (hw : ok (F_X1_girlsInThousand v1 v2 v3 s) (fun p => k (some (.int p)) (mkCs s))) : c_X1_girlsInThousand [.ref 20, .int v1, .int v2, .int v3] (mkCs s) k := ⟨v1, v2, v3, s, rfl, rfl, hw⟩
theorem m_X1_girlsInThousand (l : Launch) : mj_Met l yX1_girlsInThousand cX1_girlsInThousand 5 ((some FieldType.int)) 2 0 0 c_X1_girlsInThousand := by
  refine mj_body2 false (TbX1 5 ((some FieldType.int)) ct_X1_girlsInThousand) (by decide) rfl rfl (fun h => nomatch h) (tfX1 _ (List.forall_mem_cons.mpr ⟨cfX1_78 (m_X1_childrenOf l) (by decide), List.forall_mem_cons.mpr ⟨cfX1_115 (m_X1_girlsOf l) (by decide), fun _ h => nomatch h⟩⟩)) ?_
  rintro as h k ⟨v1, v2, v3, s, rfl, rfl, hw⟩
  exact ⟨rfl, fun G hG => g_X1_girlsInThousand hG hw⟩
def F_X1_isTreated (v1 : Int32) (v2 : Int32) (v3 : Int32) (s : St) : Option (Int32) :=
  (rd s 105 24 v1).bind fun x1 =>
  if x1 = (-1) then
    some 0
  else
    (rd s 105 24 v1).bind fun x2 =>
    if v2 < x2 then
      some 0
    else
      (rd s 106 24 v1).bind fun x3 =>
      if v3 < x3 then
        some 0
      else
        some 1
theorem J_X1_isTreated : mj_t 7 27 = 34 ∧ mj_t 17 17 = 34 ∧ mj_t 27 7 = 34 ∧ mj_t 31 4 = 35 ∧ (0 ≤ ((7 : Nat) : Int) + 27) = True ∧ (0 ≤ ((17 : Nat) : Int) + 17) = True ∧ (0 ≤ ((27 : Nat) : Int) + 7) = True ∧ (0 ≤ ((31 : Nat) : Int) + 4) = True := by and_intros <;> first | rfl | exact eq_true (by decide)
set_option maxHeartbeats 4000000 in
set_option maxRecDepth 20000 in
theorem g_X1_isTreated {k : Option Value → mj_H → Prop} {G : mj_K} (hG : mj_cl2 cX1_isTreated (TbX1 4 ((some FieldType.boolean)) []) k G) {v1 : Int32} {v2 : Int32} {v3 : Int32} {s : St} (hw : ok (F_X1_isTreated v1 v2 v3 s) (fun p => k (some (.int p)) (mkCs s))) : G 0 [.ref 20, .int v1, .int v2, .int v3] [] (mkCs s) 0 0 := by
  unfold F_X1_isTreated at hw
  refine mj_run hG.1 (fun _ => false) 4000 ?_
  simp only [mj_step, mj_W_s, mj_fin, List.getElem?_cons_zero, List.getElem?_cons_succ, mj_go, Nat.reduceAdd, Nat.reduceSub, Nat.reduceLT, Nat.reduceLeDiff, Nat.zero_add, Nat.reduceEqDiff, Nat.reduceBEq, ↓reduceIte, Bool.false_eq_true, List.append_nil, List.nil_append, List.cons_append, Option.toList, and_true, true_and, true_or, or_true, reduceCtorEq, List.map_nil, bI_eq0, bI_eq1, bool_ft, pk_us, vnar0, vnar1, Bool.or_false, Bool.or_true, Bool.false_or, Bool.true_or, mj_kne, eq_self, Int32.reduceLT, Int32.reduceLE, Int32.reduceAdd, Int32.reduceSub, Int32.reduceMul, not_true_eq_false, not_false_eq_true, false_implies, true_implies, D_X1_isTreated, mj_F_aload_n_k, mj_F_getfield_i, mj_F_goto_off, mj_F_iaload, mj_F_iconst_n, mj_F_if_icmp_eq_off, mj_F_if_icmp_gt_off, mj_F_iload_n_k, mj_F_ireturn, mj_kc, FT_X1, gS_C20, gCf1_5, gS_C24, sS_Ca_24, gCf1_6, gS_C25, sS_Ca_25, J_X1_isTreated]
  refine ⟨(ok_rd hw).1, ?_⟩
  replace hw := (ok_rd hw).2
  refine ⟨fun c => ?_, fun c => ?_⟩
  · replace hw := ok_t hw c
    exact (ok_some hw :)
  · replace hw := ok_f hw c
    refine ⟨(ok_rd hw).1, ?_⟩
    replace hw := (ok_rd hw).2
    refine ⟨fun c => ?_, fun c => ?_⟩
    · replace hw := ok_t hw c
      exact (ok_some hw :)
    · replace hw := ok_f hw c
      refine ⟨(ok_rd hw).1, ?_⟩
      replace hw := (ok_rd hw).2
      refine ⟨fun c => ?_, fun c => ?_⟩
      · replace hw := ok_t hw c
        exact (ok_some hw :)
      · replace hw := ok_f hw c
        exact (ok_some hw :)

def c_X1_isTreated : mj_S := fun as h k => ∃ (v1 : Int32) (v2 : Int32) (v3 : Int32) (s : St), as = [.ref 20, .int v1, .int v2, .int v3] ∧ h = mkCs s ∧ ok (F_X1_isTreated v1 v2 v3 s) (fun p => k (some (.int p)) (mkCs s))
theorem c_X1_isTreated_in {v1 : Int32} {v2 : Int32} {v3 : Int32} {s : St} {k : Option Value → mj_H → Prop} (hw : ok (F_X1_isTreated v1 v2 v3 s) (fun p => k (some (.int p)) (mkCs s))) : c_X1_isTreated [.ref 20, .int v1, .int v2, .int v3] (mkCs s) k := ⟨v1, v2, v3, s, rfl, rfl, hw⟩
theorem m_X1_isTreated (l : Launch) : mj_Met l yX1_isTreated cX1_isTreated 4 ((some FieldType.boolean)) 0 0 0 c_X1_isTreated := by
  refine mj_body2 false (TbX1 4 ((some FieldType.boolean)) []) (by decide) rfl rfl (fun h => nomatch h) (tfX1 _ (fun _ h => nomatch h)) ?_
  rintro as h k ⟨v1, v2, v3, s, rfl, rfl, hw⟩
  exact ⟨rfl, fun G hG => g_X1_isTreated hG hw⟩
def B_X1_difference_15 (v1 : Int32) (v2 : Int32) (v3 : Int32) (s : St) : Int32 × Int32 × Int32 × Int32 × Int32 → Option ((Int32 × Int32 × Int32 × Int32 × Int32) ⊕ ((Int32 × Int32 × Int32 × Int32)))
  | (v4, v5, v6, v7, v8) =>
  if (s.1 101) ≤ v8 then
    some (.inr (v4, v5, v6, v7))
  else
    (rd s 103 24 v8).bind fun x1 =>
    if x1 = v1 then
      (F_X1_childrenOf v8 v2 v3 s).bind fun r2 =>
      if r2 = 0 then
        some (.inl (v4, v5, v6, v7, (v8 + 1)))
      else
        (F_X1_childrenOf v8 (v2 - 1) v3 s).bind fun r3 =>
        if r3 = 0 then
          some (.inl (v4, v5, v6, v7, (v8 + 1)))
        else
          (F_X1_girlsInThousand v8 v2 v3 s).bind fun r4 =>
          (F_X1_girlsInThousand v8 (v2 - 1) v3 s).bind fun r5 =>
          (F_X1_isTreated v8 v2 v3 s).bind fun r6 =>
          if r6 = 0 then
            some (.inl (v4, v5, (v6 + (r4 - r5)), (v7 + 1), (v8 + 1)))
          else
            some (.inl ((v4 + (r4 - r5)), (v5 + 1), v6, v7, (v8 + 1)))
    else
      some (.inl (v4, v5, v6, v7, (v8 + 1)))
def F_X1_difference_123 (v4 : Int32) (v5 : Int32) (v6 : Int32) (v7 : Int32) (s : St) : Option (Int32) :=
  if v5 < 2 then
    some (-2000000)
  else
    if 2 ≤ v7 then
      (nz v5).bind fun _ =>
      (nz v7).bind fun _ =>
      some ((v4 / v5) - (v6 / v7))
    else
      some (-2000000)
def F_X1_difference_15 (v1 : Int32) (v2 : Int32) (v3 : Int32) (v4 : Int32) (v5 : Int32) (v6 : Int32) (v7 : Int32) (v8 : Int32) (s : St) : Option (Int32) :=
  (lp (B_X1_difference_15 v1 v2 v3 s) FU (v4, v5, v6, v7, v8)).bind (fun y => F_X1_difference_123 y.1 y.2.1 y.2.2.1 y.2.2.2 s)
def F_X1_difference (v1 : Int32) (v2 : Int32) (v3 : Int32) (s : St) : Option (Int32) :=
  F_X1_difference_15 v1 v2 v3 0 0 0 0 0 s
theorem J_X1_difference : mj_t 21 102 = 123 ∧ mj_t 32 85 = 117 ∧ mj_t 43 74 = 117 ∧ mj_t 56 6 = 62 ∧ mj_t 59 58 = 117 ∧ mj_t 91 16 = 107 ∧ mj_t 104 13 = 117 ∧ mj_t 120 (-105) = 15 ∧ mj_t 126 9 = 135 ∧ mj_t 132 8 = 140 ∧ mj_t 137 14 = 151 ∧ (0 ≤ ((21 : Nat) : Int) + 102) = True ∧ (0 ≤ ((32 : Nat) : Int) + 85) = True ∧ (0 ≤ ((43 : Nat) : Int) + 74) = True ∧ (0 ≤ ((56 : Nat) : Int) + 6) = True ∧ (0 ≤ ((59 : Nat) : Int) + 58) = True ∧ (0 ≤ ((91 : Nat) : Int) + 16) = True ∧ (0 ≤ ((104 : Nat) : Int) + 13) = True ∧ (0 ≤ ((120 : Nat) : Int) + (-105)) = True ∧ (0 ≤ ((126 : Nat) : Int) + 9) = True ∧ (0 ≤ ((132 : Nat) : Int) + 8) = True ∧ (0 ≤ ((137 : Nat) : Int) + 14) = True := by and_intros <;> first | rfl | exact eq_true (by decide)
def ct_X1_difference : List (Nat × mj_Cs) := [(78, 0, 4, 1, 0, 0, c_X1_childrenOf), (107, 0, 4, 1, 0, 0, c_X1_girlsInThousand), (110, 0, 4, 1, 0, 0, c_X1_isTreated)]
theorem L_X1_difference : mj_lk ct_X1_difference 78 = some (0, 4, 1, 0, 0, c_X1_childrenOf) ∧ mj_lk ct_X1_difference 107 = some (0, 4, 1, 0, 0, c_X1_girlsInThousand) ∧ mj_lk ct_X1_difference 110 = some (0, 4, 1, 0, 0, c_X1_isTreated) := ⟨rfl, rfl, rfl⟩
set_option maxHeartbeats 4000000 in
set_option maxRecDepth 20000 in
theorem b_X1_difference_15 {k : Option Value → mj_H → Prop} {G : mj_K} (hG : mj_cl2 cX1_difference (TbX1 10 ((some FieldType.int)) ct_X1_difference) k G) {v1 : Int32} {v2 : Int32} {v3 : Int32} {s : St} {P : Int32 × Int32 × Int32 × Int32 × Int32 → Prop} {K : (Int32 × Int32 × Int32 × Int32) → Prop} (hP : ∀ x, P x → G 15 [.ref 20, .int v1, .int v2, .int v3, .int x.1, .int x.2.1, .int x.2.2.1, .int x.2.2.2.1, .int x.2.2.2.2] [] (mkCs s) 0 0) (hK0 : ∀ y, K y → G 123 [mj_unk, mj_unk, mj_unk, mj_unk, .int y.1, .int y.2.1, .int y.2.2.1, .int y.2.2.2] [] (mkCs s) 0 0) {v4 : Int32} {v5 : Int32} {v6 : Int32} {v7 : Int32} {v8 : Int32} (hw : ok (B_X1_difference_15 v1 v2 v3 s (v4, v5, v6, v7, v8)) (Sum.elim P K)) : G 15 [.ref 20, .int v1, .int v2, .int v3, .int v4, .int v5, .int v6, .int v7, .int v8] [] (mkCs s) 0 0 := by
  unfold B_X1_difference_15 at hw
  refine mj_run hG.1 (fun pc => pc == 15 || pc == 43 || pc == 56 || pc == 70 || pc == 80 || pc == 91 || pc == 123) 4000 ?_
  simp only [mj_step, mj_W_s, mj_fin, List.getElem?_cons_zero, List.getElem?_cons_succ, mj_go, Nat.reduceAdd, Nat.reduceSub, Nat.reduceLT, Nat.reduceLeDiff, Nat.zero_add, Nat.reduceEqDiff, Nat.reduceBEq, ↓reduceIte, Bool.false_eq_true, List.append_nil, List.nil_append, List.cons_append, Option.toList, and_true, true_and, true_or, or_true, reduceCtorEq, List.map_nil, bI_eq0, bI_eq1, bool_ft, pk_us, vnar0, vnar1, Bool.or_false, Bool.or_true, Bool.false_or, Bool.true_or, mj_kne, eq_self, Int32.reduceLT, Int32.reduceLE, Int32.reduceAdd, Int32.reduceSub, Int32.reduceMul, not_true_eq_false, not_false_eq_true, false_implies, true_implies, D_X1_difference_0, D_X1_difference_1, mj_F_aload_n_k, mj_F_getfield_i, mj_F_goto_off, mj_F_iadd, mj_F_iaload, mj_F_iconst_n, mj_F_idiv, mj_F_ifCond_eq_off, mj_F_ifCond_ne_off, mj_F_if_icmp_ge_off, mj_F_if_icmp_lt_off, mj_F_if_icmp_ne_off, mj_F_iinc_k_n, mj_F_iload_k, mj_F_iload_n_k, mj_F_invokevirtual_i, mj_F_ireturn, mj_F_istore_k, mj_F_isub, mj_F_ldc_i, mj_set, mj_set0, mj_unk, mj_c2, mj_kc, FT_X1, KT_X1, L_X1_difference, List.take_succ_cons, List.take_zero, List.drop_succ_cons, List.drop_zero, List.reverse_cons, List.reverse_nil, List.length_cons, List.length_nil, gS_C20, gCf1_1, gCf1_3, gS_C22, sS_Ca_22, J_X1_difference]
  refine ⟨fun c => ?_, fun c => ?_⟩
  · replace hw := ok_t hw c
    exact hG.2 _ _ _ _ _ _ _ _ _ (by refine ⟨Or.inl rfl, ?_⟩; refine ⟨Or.inl rfl, ?_⟩; refine ⟨Or.inl rfl, ?_⟩; refine ⟨Or.inl rfl, ?_⟩; refine ⟨Or.inr rfl, ?_⟩; refine ⟨Or.inr rfl, ?_⟩; refine ⟨Or.inr rfl, ?_⟩; refine ⟨Or.inr rfl, ?_⟩; exact trivial) (Nat.zero_le _) (Nat.zero_le _) (hK0 _ (ok_some hw :) :)
  · replace hw := ok_f hw c
    refine ⟨(ok_rd hw).1, ?_⟩
    replace hw := (ok_rd hw).2
    refine ⟨fun c => ?_, fun c => ?_⟩
    · replace hw := ok_f hw c
      exact hG.2 _ _ _ _ _ _ _ _ _ (by refine ⟨Or.inr rfl, ?_⟩; refine ⟨Or.inr rfl, ?_⟩; refine ⟨Or.inr rfl, ?_⟩; refine ⟨Or.inr rfl, ?_⟩; refine ⟨Or.inr rfl, ?_⟩; refine ⟨Or.inr rfl, ?_⟩; refine ⟨Or.inr rfl, ?_⟩; refine ⟨Or.inr rfl, ?_⟩; refine ⟨Or.inr rfl, ?_⟩; exact trivial) (Nat.zero_le _) (Nat.zero_le _) (hP _ (ok_some hw :) :)
    · replace hw := ok_t hw c
      refine c_X1_childrenOf_in (ok_imp (ok_bind hw) ?_)
      intro p hw
      simp only [Option.toList, List.nil_append, List.cons_append, Nat.reduceSub]
      refine mj_run hG.1 (fun pc => pc == 15 || pc == 43 || pc == 56 || pc == 70 || pc == 80 || pc == 91 || pc == 123) 4000 ?_
      simp only [mj_step, mj_W_s, mj_fin, List.getElem?_cons_zero, List.getElem?_cons_succ, mj_go, Nat.reduceAdd, Nat.reduceSub, Nat.reduceLT, Nat.reduceLeDiff, Nat.zero_add, Nat.reduceEqDiff, Nat.reduceBEq, ↓reduceIte, Bool.false_eq_true, List.append_nil, List.nil_append, List.cons_append, Option.toList, and_true, true_and, true_or, or_true, reduceCtorEq, List.map_nil, bI_eq0, bI_eq1, bool_ft, pk_us, vnar0, vnar1, Bool.or_false, Bool.or_true, Bool.false_or, Bool.true_or, mj_kne, eq_self, Int32.reduceLT, Int32.reduceLE, Int32.reduceAdd, Int32.reduceSub, Int32.reduceMul, not_true_eq_false, not_false_eq_true, false_implies, true_implies, D_X1_difference_0, D_X1_difference_1, mj_F_aload_n_k, mj_F_getfield_i, mj_F_goto_off, mj_F_iadd, mj_F_iaload, mj_F_iconst_n, mj_F_idiv, mj_F_ifCond_eq_off, mj_F_ifCond_ne_off, mj_F_if_icmp_ge_off, mj_F_if_icmp_lt_off, mj_F_if_icmp_ne_off, mj_F_iinc_k_n, mj_F_iload_k, mj_F_iload_n_k, mj_F_invokevirtual_i, mj_F_ireturn, mj_F_istore_k, mj_F_isub, mj_F_ldc_i, mj_set, mj_set0, mj_unk, mj_c2, mj_kc, FT_X1, KT_X1, L_X1_difference, List.take_succ_cons, List.take_zero, List.drop_succ_cons, List.drop_zero, List.reverse_cons, List.reverse_nil, List.length_cons, List.length_nil, gS_C20, gCf1_1, gCf1_3, gS_C22, sS_Ca_22, J_X1_difference]
      refine ⟨fun c => ?_, fun c => ?_⟩
      · replace hw := ok_t hw c
        exact hG.2 _ _ _ _ _ _ _ _ _ (by refine ⟨Or.inr rfl, ?_⟩; refine ⟨Or.inr rfl, ?_⟩; refine ⟨Or.inr rfl, ?_⟩; refine ⟨Or.inr rfl, ?_⟩; refine ⟨Or.inr rfl, ?_⟩; refine ⟨Or.inr rfl, ?_⟩; refine ⟨Or.inr rfl, ?_⟩; refine ⟨Or.inr rfl, ?_⟩; refine ⟨Or.inr rfl, ?_⟩; exact trivial) (Nat.zero_le _) (Nat.zero_le _) (hP _ (ok_some hw :) :)
      · replace hw := ok_f hw c
        refine c_X1_childrenOf_in (ok_imp (ok_bind hw) ?_)
        intro p hw
        simp only [Option.toList, List.nil_append, List.cons_append, Nat.reduceSub]
        refine mj_run hG.1 (fun pc => pc == 15 || pc == 43 || pc == 56 || pc == 70 || pc == 80 || pc == 91 || pc == 123) 4000 ?_
        simp only [mj_step, mj_W_s, mj_fin, List.getElem?_cons_zero, List.getElem?_cons_succ, mj_go, Nat.reduceAdd, Nat.reduceSub, Nat.reduceLT, Nat.reduceLeDiff, Nat.zero_add, Nat.reduceEqDiff, Nat.reduceBEq, ↓reduceIte, Bool.false_eq_true, List.append_nil, List.nil_append, List.cons_append, Option.toList, and_true, true_and, true_or, or_true, reduceCtorEq, List.map_nil, bI_eq0, bI_eq1, bool_ft, pk_us, vnar0, vnar1, Bool.or_false, Bool.or_true, Bool.false_or, Bool.true_or, mj_kne, eq_self, Int32.reduceLT, Int32.reduceLE, Int32.reduceAdd, Int32.reduceSub, Int32.reduceMul, not_true_eq_false, not_false_eq_true, false_implies, true_implies, D_X1_difference_0, D_X1_difference_1, mj_F_aload_n_k, mj_F_getfield_i, mj_F_goto_off, mj_F_iadd, mj_F_iaload, mj_F_iconst_n, mj_F_idiv, mj_F_ifCond_eq_off, mj_F_ifCond_ne_off, mj_F_if_icmp_ge_off, mj_F_if_icmp_lt_off, mj_F_if_icmp_ne_off, mj_F_iinc_k_n, mj_F_iload_k, mj_F_iload_n_k, mj_F_invokevirtual_i, mj_F_ireturn, mj_F_istore_k, mj_F_isub, mj_F_ldc_i, mj_set, mj_set0, mj_unk, mj_c2, mj_kc, FT_X1, KT_X1, L_X1_difference, List.take_succ_cons, List.take_zero, List.drop_succ_cons, List.drop_zero, List.reverse_cons, List.reverse_nil, List.length_cons, List.length_nil, gS_C20, gCf1_1, gCf1_3, gS_C22, sS_Ca_22, J_X1_difference]
        refine ⟨fun c => ?_, fun c => ?_⟩
        · replace hw := ok_f hw c
          refine c_X1_girlsInThousand_in (ok_imp (ok_bind hw) ?_)
          intro p hw
          simp only [Option.toList, List.nil_append, List.cons_append, Nat.reduceSub]
          refine mj_run hG.1 (fun pc => pc == 15 || pc == 43 || pc == 56 || pc == 70 || pc == 80 || pc == 91 || pc == 123) 4000 ?_
          simp only [mj_step, mj_W_s, mj_fin, List.getElem?_cons_zero, List.getElem?_cons_succ, mj_go, Nat.reduceAdd, Nat.reduceSub, Nat.reduceLT, Nat.reduceLeDiff, Nat.zero_add, Nat.reduceEqDiff, Nat.reduceBEq, ↓reduceIte, Bool.false_eq_true, List.append_nil, List.nil_append, List.cons_append, Option.toList, and_true, true_and, true_or, or_true, reduceCtorEq, List.map_nil, bI_eq0, bI_eq1, bool_ft, pk_us, vnar0, vnar1, Bool.or_false, Bool.or_true, Bool.false_or, Bool.true_or, mj_kne, eq_self, Int32.reduceLT, Int32.reduceLE, Int32.reduceAdd, Int32.reduceSub, Int32.reduceMul, not_true_eq_false, not_false_eq_true, false_implies, true_implies, D_X1_difference_0, D_X1_difference_1, mj_F_aload_n_k, mj_F_getfield_i, mj_F_goto_off, mj_F_iadd, mj_F_iaload, mj_F_iconst_n, mj_F_idiv, mj_F_ifCond_eq_off, mj_F_ifCond_ne_off, mj_F_if_icmp_ge_off, mj_F_if_icmp_lt_off, mj_F_if_icmp_ne_off, mj_F_iinc_k_n, mj_F_iload_k, mj_F_iload_n_k, mj_F_invokevirtual_i, mj_F_ireturn, mj_F_istore_k, mj_F_isub, mj_F_ldc_i, mj_set, mj_set0, mj_unk, mj_c2, mj_kc, FT_X1, KT_X1, L_X1_difference, List.take_succ_cons, List.take_zero, List.drop_succ_cons, List.drop_zero, List.reverse_cons, List.reverse_nil, List.length_cons, List.length_nil, gS_C20, gCf1_1, gCf1_3, gS_C22, sS_Ca_22, J_X1_difference]
          refine c_X1_girlsInThousand_in (ok_imp (ok_bind hw) ?_)
          intro p hw
          simp only [Option.toList, List.nil_append, List.cons_append, Nat.reduceSub]
          refine mj_run hG.1 (fun pc => pc == 15 || pc == 43 || pc == 56 || pc == 70 || pc == 80 || pc == 91 || pc == 123) 4000 ?_
          simp only [mj_step, mj_W_s, mj_fin, List.getElem?_cons_zero, List.getElem?_cons_succ, mj_go, Nat.reduceAdd, Nat.reduceSub, Nat.reduceLT, Nat.reduceLeDiff, Nat.zero_add, Nat.reduceEqDiff, Nat.reduceBEq, ↓reduceIte, Bool.false_eq_true, List.append_nil, List.nil_append, List.cons_append, Option.toList, and_true, true_and, true_or, or_true, reduceCtorEq, List.map_nil, bI_eq0, bI_eq1, bool_ft, pk_us, vnar0, vnar1, Bool.or_false, Bool.or_true, Bool.false_or, Bool.true_or, mj_kne, eq_self, Int32.reduceLT, Int32.reduceLE, Int32.reduceAdd, Int32.reduceSub, Int32.reduceMul, not_true_eq_false, not_false_eq_true, false_implies, true_implies, D_X1_difference_0, D_X1_difference_1, mj_F_aload_n_k, mj_F_getfield_i, mj_F_goto_off, mj_F_iadd, mj_F_iaload, mj_F_iconst_n, mj_F_idiv, mj_F_ifCond_eq_off, mj_F_ifCond_ne_off, mj_F_if_icmp_ge_off, mj_F_if_icmp_lt_off, mj_F_if_icmp_ne_off, mj_F_iinc_k_n, mj_F_iload_k, mj_F_iload_n_k, mj_F_invokevirtual_i, mj_F_ireturn, mj_F_istore_k, mj_F_isub, mj_F_ldc_i, mj_set, mj_set0, mj_unk, mj_c2, mj_kc, FT_X1, KT_X1, L_X1_difference, List.take_succ_cons, List.take_zero, List.drop_succ_cons, List.drop_zero, List.reverse_cons, List.reverse_nil, List.length_cons, List.length_nil, gS_C20, gCf1_1, gCf1_3, gS_C22, sS_Ca_22, J_X1_difference]
          refine c_X1_isTreated_in (ok_imp (ok_bind hw) ?_)
          intro p hw
          simp only [Option.toList, List.nil_append, List.cons_append, Nat.reduceSub]
          refine mj_run hG.1 (fun pc => pc == 15 || pc == 43 || pc == 56 || pc == 70 || pc == 80 || pc == 91 || pc == 123) 4000 ?_
          simp only [mj_step, mj_W_s, mj_fin, List.getElem?_cons_zero, List.getElem?_cons_succ, mj_go, Nat.reduceAdd, Nat.reduceSub, Nat.reduceLT, Nat.reduceLeDiff, Nat.zero_add, Nat.reduceEqDiff, Nat.reduceBEq, ↓reduceIte, Bool.false_eq_true, List.append_nil, List.nil_append, List.cons_append, Option.toList, and_true, true_and, true_or, or_true, reduceCtorEq, List.map_nil, bI_eq0, bI_eq1, bool_ft, pk_us, vnar0, vnar1, Bool.or_false, Bool.or_true, Bool.false_or, Bool.true_or, mj_kne, eq_self, Int32.reduceLT, Int32.reduceLE, Int32.reduceAdd, Int32.reduceSub, Int32.reduceMul, not_true_eq_false, not_false_eq_true, false_implies, true_implies, D_X1_difference_0, D_X1_difference_1, mj_F_aload_n_k, mj_F_getfield_i, mj_F_goto_off, mj_F_iadd, mj_F_iaload, mj_F_iconst_n, mj_F_idiv, mj_F_ifCond_eq_off, mj_F_ifCond_ne_off, mj_F_if_icmp_ge_off, mj_F_if_icmp_lt_off, mj_F_if_icmp_ne_off, mj_F_iinc_k_n, mj_F_iload_k, mj_F_iload_n_k, mj_F_invokevirtual_i, mj_F_ireturn, mj_F_istore_k, mj_F_isub, mj_F_ldc_i, mj_set, mj_set0, mj_unk, mj_c2, mj_kc, FT_X1, KT_X1, L_X1_difference, List.take_succ_cons, List.take_zero, List.drop_succ_cons, List.drop_zero, List.reverse_cons, List.reverse_nil, List.length_cons, List.length_nil, gS_C20, gCf1_1, gCf1_3, gS_C22, sS_Ca_22, J_X1_difference]
          refine ⟨fun c => ?_, fun c => ?_⟩
          · replace hw := ok_t hw c
            exact hG.2 _ _ _ _ _ _ _ _ _ (by refine ⟨Or.inr rfl, ?_⟩; refine ⟨Or.inr rfl, ?_⟩; refine ⟨Or.inr rfl, ?_⟩; refine ⟨Or.inr rfl, ?_⟩; refine ⟨Or.inr rfl, ?_⟩; refine ⟨Or.inr rfl, ?_⟩; refine ⟨Or.inr rfl, ?_⟩; refine ⟨Or.inr rfl, ?_⟩; refine ⟨Or.inr rfl, ?_⟩; exact trivial) (Nat.zero_le _) (Nat.zero_le _) (hP _ (ok_some hw :) :)
          · replace hw := ok_f hw c
            exact hG.2 _ _ _ _ _ _ _ _ _ (by refine ⟨Or.inr rfl, ?_⟩; refine ⟨Or.inr rfl, ?_⟩; refine ⟨Or.inr rfl, ?_⟩; refine ⟨Or.inr rfl, ?_⟩; refine ⟨Or.inr rfl, ?_⟩; refine ⟨Or.inr rfl, ?_⟩; refine ⟨Or.inr rfl, ?_⟩; refine ⟨Or.inr rfl, ?_⟩; refine ⟨Or.inr rfl, ?_⟩; exact trivial) (Nat.zero_le _) (Nat.zero_le _) (hP _ (ok_some hw :) :)
        · replace hw := ok_t hw c
          exact hG.2 _ _ _ _ _ _ _ _ _ (by refine ⟨Or.inr rfl, ?_⟩; refine ⟨Or.inr rfl, ?_⟩; refine ⟨Or.inr rfl, ?_⟩; refine ⟨Or.inr rfl, ?_⟩; refine ⟨Or.inr rfl, ?_⟩; refine ⟨Or.inr rfl, ?_⟩; refine ⟨Or.inr rfl, ?_⟩; refine ⟨Or.inr rfl, ?_⟩; refine ⟨Or.inr rfl, ?_⟩; exact trivial) (Nat.zero_le _) (Nat.zero_le _) (hP _ (ok_some hw :) :)

set_option maxHeartbeats 4000000 in
set_option maxRecDepth 20000 in
theorem g_X1_difference_123 {k : Option Value → mj_H → Prop} {G : mj_K} (hG : mj_cl2 cX1_difference (TbX1 10 ((some FieldType.int)) ct_X1_difference) k G)   {v4 : Int32} {v5 : Int32} {v6 : Int32} {v7 : Int32} {s : St} (hw : ok (F_X1_difference_123 v4 v5 v6 v7 s) (fun p => k (some (.int p)) (mkCs s))) : G 123 [mj_unk, mj_unk, mj_unk, mj_unk, .int v4, .int v5, .int v6, .int v7] [] (mkCs s) 0 0 := by
  unfold F_X1_difference_123 at hw
  refine mj_run hG.1 (fun pc => pc == 15 || pc == 43 || pc == 56 || pc == 70 || pc == 80 || pc == 91 || pc == 123) 4000 ?_
  simp only [mj_step, mj_W_s, mj_fin, List.getElem?_cons_zero, List.getElem?_cons_succ, mj_go, Nat.reduceAdd, Nat.reduceSub, Nat.reduceLT, Nat.reduceLeDiff, Nat.zero_add, Nat.reduceEqDiff, Nat.reduceBEq, ↓reduceIte, Bool.false_eq_true, List.append_nil, List.nil_append, List.cons_append, Option.toList, and_true, true_and, true_or, or_true, reduceCtorEq, List.map_nil, bI_eq0, bI_eq1, bool_ft, pk_us, vnar0, vnar1, Bool.or_false, Bool.or_true, Bool.false_or, Bool.true_or, mj_kne, eq_self, Int32.reduceLT, Int32.reduceLE, Int32.reduceAdd, Int32.reduceSub, Int32.reduceMul, not_true_eq_false, not_false_eq_true, false_implies, true_implies, D_X1_difference_0, D_X1_difference_1, mj_F_aload_n_k, mj_F_getfield_i, mj_F_goto_off, mj_F_iadd, mj_F_iaload, mj_F_iconst_n, mj_F_idiv, mj_F_ifCond_eq_off, mj_F_ifCond_ne_off, mj_F_if_icmp_ge_off, mj_F_if_icmp_lt_off, mj_F_if_icmp_ne_off, mj_F_iinc_k_n, mj_F_iload_k, mj_F_iload_n_k, mj_F_invokevirtual_i, mj_F_ireturn, mj_F_istore_k, mj_F_isub, mj_F_ldc_i, mj_set, mj_set0, mj_unk, mj_c2, mj_kc, FT_X1, KT_X1, L_X1_difference, List.take_succ_cons, List.take_zero, List.drop_succ_cons, List.drop_zero, List.reverse_cons, List.reverse_nil, List.length_cons, List.length_nil, gS_C20, gCf1_1, gCf1_3, gS_C22, sS_Ca_22, J_X1_difference]
  refine ⟨fun c => ?_, fun c => ?_⟩
  · replace hw := ok_t hw c
    exact (ok_some hw :)
  · replace hw := ok_f hw c
    refine ⟨fun c => ?_, fun c => ?_⟩
    · replace hw := ok_t hw c
      refine ⟨(ok_nz hw).1, ?_⟩
      replace hw := (ok_nz hw).2
      refine ⟨(ok_nz hw).1, ?_⟩
      replace hw := (ok_nz hw).2
      exact (ok_some hw :)
    · replace hw := ok_f hw c
      exact (ok_some hw :)

set_option maxHeartbeats 4000000 in
theorem g_X1_difference_15 {k : Option Value → mj_H → Prop} {G : mj_K} (hG : mj_cl2 cX1_difference (TbX1 10 ((some FieldType.int)) ct_X1_difference) k G)   {v1 : Int32} {v2 : Int32} {v3 : Int32} {v4 : Int32} {v5 : Int32} {v6 : Int32} {v7 : Int32} {v8 : Int32} {s : St} (hw : ok (F_X1_difference_15 v1 v2 v3 v4 v5 v6 v7 v8 s) (fun p => k (some (.int p)) (mkCs s))) : G 15 [.ref 20, .int v1, .int v2, .int v3, .int v4, .int v5, .int v6, .int v7, .int v8] [] (mkCs s) 0 0 := by
  unfold F_X1_difference_15 at hw
  refine lp_ok (B_X1_difference_15 v1 v2 v3 s) (fun x => G 15 [.ref 20, .int v1, .int v2, .int v3, .int x.1, .int x.2.1, .int x.2.2.1, .int x.2.2.2.1, .int x.2.2.2.2] [] (mkCs s) 0 0) _ ?_ _ _ (ok_bind hw)
  rintro ⟨v4, v5, v6, v7, v8⟩ hb
  exact b_X1_difference_15 hG (fun _ z => z) (fun y hw => by exact hG.2 _ _ _ _ _ _ _ _ _ (by refine ⟨Or.inl rfl, ?_⟩; refine ⟨Or.inl rfl, ?_⟩; refine ⟨Or.inl rfl, ?_⟩; refine ⟨Or.inl rfl, ?_⟩; refine ⟨Or.inr rfl, ?_⟩; refine ⟨Or.inr rfl, ?_⟩; refine ⟨Or.inr rfl, ?_⟩; refine ⟨Or.inr rfl, ?_⟩; exact trivial) (Nat.zero_le _) (Nat.zero_le _) (g_X1_difference_123 hG  hw :)) hb

set_option maxHeartbeats 4000000 in
set_option maxRecDepth 20000 in
theorem g_X1_difference {k : Option Value → mj_H → Prop} {G : mj_K} (hG : mj_cl2 cX1_difference (TbX1 10 ((some FieldType.int)) ct_X1_difference) k G) {v1 : Int32} {v2 : Int32} {v3 : Int32} {s : St} (hw : ok (F_X1_difference v1 v2 v3 s) (fun p => k (some (.int p)) (mkCs s))) : G 0 [.ref 20, .int v1, .int v2, .int v3] [] (mkCs s) 0 0 := by
  unfold F_X1_difference at hw
  refine mj_run hG.1 (fun pc => pc == 15 || pc == 43 || pc == 56 || pc == 70 || pc == 80 || pc == 91 || pc == 123) 4000 ?_
  simp only [mj_step, mj_W_s, mj_fin, List.getElem?_cons_zero, List.getElem?_cons_succ, mj_go, Nat.reduceAdd, Nat.reduceSub, Nat.reduceLT, Nat.reduceLeDiff, Nat.zero_add, Nat.reduceEqDiff, Nat.reduceBEq, ↓reduceIte, Bool.false_eq_true, List.append_nil, List.nil_append, List.cons_append, Option.toList, and_true, true_and, true_or, or_true, reduceCtorEq, List.map_nil, bI_eq0, bI_eq1, bool_ft, pk_us, vnar0, vnar1, Bool.or_false, Bool.or_true, Bool.false_or, Bool.true_or, mj_kne, eq_self, Int32.reduceLT, Int32.reduceLE, Int32.reduceAdd, Int32.reduceSub, Int32.reduceMul, not_true_eq_false, not_false_eq_true, false_implies, true_implies, D_X1_difference_0, D_X1_difference_1, mj_F_aload_n_k, mj_F_getfield_i, mj_F_goto_off, mj_F_iadd, mj_F_iaload, mj_F_iconst_n, mj_F_idiv, mj_F_ifCond_eq_off, mj_F_ifCond_ne_off, mj_F_if_icmp_ge_off, mj_F_if_icmp_lt_off, mj_F_if_icmp_ne_off, mj_F_iinc_k_n, mj_F_iload_k, mj_F_iload_n_k, mj_F_invokevirtual_i, mj_F_ireturn, mj_F_istore_k, mj_F_isub, mj_F_ldc_i, mj_set, mj_set0, mj_unk, mj_c2, mj_kc, FT_X1, KT_X1, L_X1_difference, List.take_succ_cons, List.take_zero, List.drop_succ_cons, List.drop_zero, List.reverse_cons, List.reverse_nil, List.length_cons, List.length_nil, gS_C20, gCf1_1, gCf1_3, gS_C22, sS_Ca_22, J_X1_difference]
  exact hG.2 _ _ _ _ _ _ _ _ _ (by refine ⟨Or.inr rfl, ?_⟩; refine ⟨Or.inr rfl, ?_⟩; refine ⟨Or.inr rfl, ?_⟩; refine ⟨Or.inr rfl, ?_⟩; refine ⟨Or.inr rfl, ?_⟩; refine ⟨Or.inr rfl, ?_⟩; refine ⟨Or.inr rfl, ?_⟩; refine ⟨Or.inr rfl, ?_⟩; refine ⟨Or.inr rfl, ?_⟩; exact trivial) (Nat.zero_le _) (Nat.zero_le _) (g_X1_difference_15 hG  hw :)

def c_X1_difference : mj_S := fun as h k => ∃ (v1 : Int32) (v2 : Int32) (v3 : Int32) (s : St), as = [.ref 20, .int v1, .int v2, .int v3] ∧ h = mkCs s ∧ ok (F_X1_difference v1 v2 v3 s) (fun p => k (some (.int p)) (mkCs s))
theorem c_X1_difference_in {v1 : Int32} {v2 : Int32} {v3 : Int32} {s : St} {k : Option Value → mj_H → Prop} (hw : ok (F_X1_difference v1 v2 v3 s) (fun p => k (some (.int p)) (mkCs s))) : c_X1_difference [.ref 20, .int v1, .int v2, .int v3] (mkCs s) k := ⟨v1, v2, v3, s, rfl, rfl, hw⟩
theorem m_X1_difference (l : Launch) : mj_Met l yX1_difference cX1_difference 10 ((some FieldType.int)) 3 0 0 c_X1_difference := by
  refine mj_body2 false (TbX1 10 ((some FieldType.int)) ct_X1_difference) (by decide) rfl rfl (fun h => nomatch h) (tfX1 _ (List.forall_mem_cons.mpr ⟨cfX1_78 (m_X1_childrenOf l) (by decide), List.forall_mem_cons.mpr ⟨cfX1_107 (m_X1_girlsInThousand l) (by decide), List.forall_mem_cons.mpr ⟨cfX1_110 (m_X1_isTreated l) (by decide), fun _ h => nomatch h⟩⟩⟩)) ?_
  rintro as h k ⟨v1, v2, v3, s, rfl, rfl, hw⟩
  exact ⟨rfl, fun G hG => g_X1_difference hG hw⟩
def F_X11_stay (v1 : Int32) (v2 : Int32) (v3 : Int32) (s : St) : Option (Int32) :=
  if inb v1 0 3 = false then
    some (-2000000)
  else
    if inb v2 1 11 = false then
      some (-2000000)
    else
      (F_X11_isPast v3 s).bind fun r1 =>
      if r1 = 0 then
        some (-2000000)
      else
        (F_X1_difference v1 v2 v3 s).bind fun r2 =>
        some r2
theorem J_X11_stay : mj_t 4 21 = 25 ∧ mj_t 14 11 = 25 ∧ mj_t 22 6 = 28 ∧ (0 ≤ ((4 : Nat) : Int) + 21) = True ∧ (0 ≤ ((14 : Nat) : Int) + 11) = True ∧ (0 ≤ ((22 : Nat) : Int) + 6) = True := by and_intros <;> first | rfl | exact eq_true (by decide)
def ct_X11_stay : List (Nat × mj_Cs) := [(96, 2, 3, 11, 0, 0, c_in), (131, 2, 1, 11, 0, 0, c_isShire), (148, 0, 2, 11, 0, 0, c_X11_isPast), (365, 0, 4, 1, 0, 0, c_X1_difference)]
theorem L_X11_stay : mj_lk ct_X11_stay 96 = some (2, 3, 11, 0, 0, c_in) ∧ mj_lk ct_X11_stay 131 = some (2, 1, 11, 0, 0, c_isShire) ∧ mj_lk ct_X11_stay 148 = some (0, 2, 11, 0, 0, c_X11_isPast) ∧ mj_lk ct_X11_stay 365 = some (0, 4, 1, 0, 0, c_X1_difference) := ⟨rfl, rfl, rfl, rfl⟩
set_option maxHeartbeats 4000000 in
set_option maxRecDepth 20000 in
theorem g_X11_stay {k : Option Value → mj_H → Prop} {G : mj_K} (hG : mj_cl2 cX11_stay (TbX11 4 ((some FieldType.int)) ct_X11_stay) k G) {v1 : Int32} {v2 : Int32} {v3 : Int32} {s : St} (hw : ok (F_X11_stay v1 v2 v3 s) (fun p => k (some (.int p)) (mkCs s))) : G 0 [.ref 0, .int v1, .int v2, .int v3] [] (mkCs s) 0 0 := by
  unfold F_X11_stay at hw
  refine mj_run hG.1 (fun pc => pc == 22 || pc == 38) 4000 ?_
  simp only [mj_step, mj_W_s, mj_fin, List.getElem?_cons_zero, List.getElem?_cons_succ, mj_go, Nat.reduceAdd, Nat.reduceSub, Nat.reduceLT, Nat.reduceLeDiff, Nat.zero_add, Nat.reduceEqDiff, Nat.reduceBEq, ↓reduceIte, Bool.false_eq_true, List.append_nil, List.nil_append, List.cons_append, Option.toList, and_true, true_and, true_or, or_true, reduceCtorEq, List.map_nil, bI_eq0, bI_eq1, bool_ft, pk_us, vnar0, vnar1, Bool.or_false, Bool.or_true, Bool.false_or, Bool.true_or, mj_kne, eq_self, Int32.reduceLT, Int32.reduceLE, Int32.reduceAdd, Int32.reduceSub, Int32.reduceMul, not_true_eq_false, not_false_eq_true, false_implies, true_implies, D_X11_stay, mj_F_aload_n_k, mj_F_bipush_n, mj_F_getfield_i, mj_F_iconst_n, mj_F_ifCond_eq_off, mj_F_ifCond_ne_off, mj_F_iload_n_k, mj_F_invokestatic_i, mj_F_invokevirtual_i, mj_F_ireturn, mj_F_ldc_i, mj_kc, FT_X11, KT_X11, L_X11_stay, List.take_succ_cons, List.take_zero, List.drop_succ_cons, List.drop_zero, List.reverse_cons, List.reverse_nil, List.length_cons, List.length_nil, gS_C0, gCf11_4, c_isShire_eq, c_in_eq, gS_C20, J_X11_stay]
  refine ⟨fun c => ?_, fun c => ?_⟩
  · replace hw := ok_t hw c
    exact (ok_some hw :)
  · replace hw := ok_f hw c
    refine ⟨fun c => ?_, fun c => ?_⟩
    · replace hw := ok_t hw c
      exact (ok_some hw :)
    · replace hw := ok_f hw c
      refine c_X11_isPast_in (ok_imp (ok_bind hw) ?_)
      intro p hw
      simp only [Option.toList, List.nil_append, List.cons_append, Nat.reduceSub]
      refine mj_run hG.1 (fun pc => pc == 22 || pc == 38) 4000 ?_
      simp only [mj_step, mj_W_s, mj_fin, List.getElem?_cons_zero, List.getElem?_cons_succ, mj_go, Nat.reduceAdd, Nat.reduceSub, Nat.reduceLT, Nat.reduceLeDiff, Nat.zero_add, Nat.reduceEqDiff, Nat.reduceBEq, ↓reduceIte, Bool.false_eq_true, List.append_nil, List.nil_append, List.cons_append, Option.toList, and_true, true_and, true_or, or_true, reduceCtorEq, List.map_nil, bI_eq0, bI_eq1, bool_ft, pk_us, vnar0, vnar1, Bool.or_false, Bool.or_true, Bool.false_or, Bool.true_or, mj_kne, eq_self, Int32.reduceLT, Int32.reduceLE, Int32.reduceAdd, Int32.reduceSub, Int32.reduceMul, not_true_eq_false, not_false_eq_true, false_implies, true_implies, D_X11_stay, mj_F_aload_n_k, mj_F_bipush_n, mj_F_getfield_i, mj_F_iconst_n, mj_F_ifCond_eq_off, mj_F_ifCond_ne_off, mj_F_iload_n_k, mj_F_invokestatic_i, mj_F_invokevirtual_i, mj_F_ireturn, mj_F_ldc_i, mj_kc, FT_X11, KT_X11, L_X11_stay, List.take_succ_cons, List.take_zero, List.drop_succ_cons, List.drop_zero, List.reverse_cons, List.reverse_nil, List.length_cons, List.length_nil, gS_C0, gCf11_4, c_isShire_eq, c_in_eq, gS_C20, J_X11_stay]
      refine ⟨fun c => ?_, fun c => ?_⟩
      · replace hw := ok_f hw c
        refine c_X1_difference_in (ok_imp (ok_bind hw) ?_)
        intro p hw
        simp only [Option.toList, List.nil_append, List.cons_append, Nat.reduceSub]
        refine mj_run hG.1 (fun pc => pc == 22 || pc == 38) 4000 ?_
        simp only [mj_step, mj_W_s, mj_fin, List.getElem?_cons_zero, List.getElem?_cons_succ, mj_go, Nat.reduceAdd, Nat.reduceSub, Nat.reduceLT, Nat.reduceLeDiff, Nat.zero_add, Nat.reduceEqDiff, Nat.reduceBEq, ↓reduceIte, Bool.false_eq_true, List.append_nil, List.nil_append, List.cons_append, Option.toList, and_true, true_and, true_or, or_true, reduceCtorEq, List.map_nil, bI_eq0, bI_eq1, bool_ft, pk_us, vnar0, vnar1, Bool.or_false, Bool.or_true, Bool.false_or, Bool.true_or, mj_kne, eq_self, Int32.reduceLT, Int32.reduceLE, Int32.reduceAdd, Int32.reduceSub, Int32.reduceMul, not_true_eq_false, not_false_eq_true, false_implies, true_implies, D_X11_stay, mj_F_aload_n_k, mj_F_bipush_n, mj_F_getfield_i, mj_F_iconst_n, mj_F_ifCond_eq_off, mj_F_ifCond_ne_off, mj_F_iload_n_k, mj_F_invokestatic_i, mj_F_invokevirtual_i, mj_F_ireturn, mj_F_ldc_i, mj_kc, FT_X11, KT_X11, L_X11_stay, List.take_succ_cons, List.take_zero, List.drop_succ_cons, List.drop_zero, List.reverse_cons, List.reverse_nil, List.length_cons, List.length_nil, gS_C0, gCf11_4, c_isShire_eq, c_in_eq, gS_C20, J_X11_stay]
        exact (ok_some hw :)
      · replace hw := ok_t hw c
        exact (ok_some hw :)

def c_X11_stay : mj_S := fun as h k => ∃ (v1 : Int32) (v2 : Int32) (v3 : Int32) (s : St), as = [.ref 0, .int v1, .int v2, .int v3] ∧ h = mkCs s ∧ ok (F_X11_stay v1 v2 v3 s) (fun p => k (some (.int p)) (mkCs s))
theorem c_X11_stay_in {v1 : Int32} {v2 : Int32} {v3 : Int32} {s : St} {k : Option Value → mj_H → Prop} (hw : ok (F_X11_stay v1 v2 v3 s) (fun p => k (some (.int p)) (mkCs s))) : c_X11_stay [.ref 0, .int v1, .int v2, .int v3] (mkCs s) k := ⟨v1, v2, v3, s, rfl, rfl, hw⟩
theorem m_X11_stay (l : Launch) : mj_Met l yX11_stay cX11_stay 4 ((some FieldType.int)) 4 0 0 c_X11_stay := by
  refine mj_body2 false (TbX11 4 ((some FieldType.int)) ct_X11_stay) (by decide) rfl rfl (fun h => nomatch h) (tfX11 _ (List.forall_mem_cons.mpr ⟨cfX11_96 (m_X11_within l) (by decide), List.forall_mem_cons.mpr ⟨cfX11_131 (m_X11_isShire l) (by decide), List.forall_mem_cons.mpr ⟨cfX11_148 (m_X11_isPast l) (by decide), List.forall_mem_cons.mpr ⟨cfX11_365 (m_X1_difference l) (by decide), fun _ h => nomatch h⟩⟩⟩⟩)) ?_
  rintro as h k ⟨v1, v2, v3, s, rfl, rfl, hw⟩
  exact ⟨rfl, fun G hG => g_X11_stay hG hw⟩
def F_X3_open (v1 : Int32) (s : St) : Option (Int32 × St) :=
  if (s.1 301) < 4 then
    (wr s 302 4 (s.1 301) v1).bind fun s1 =>
    (wI s1 301 ((s1.1 301) + 1)).bind fun s2 =>
    some (((s2.1 301) - 1), s2)
  else
    some ((-1), s)
theorem J_X3_open : mj_t 5 5 = 10 ∧ (0 ≤ ((5 : Nat) : Int) + 5) = True := by and_intros <;> first | rfl | exact eq_true (by decide)
set_option maxHeartbeats 4000000 in
set_option maxRecDepth 20000 in
theorem g_X3_open {k : Option Value → mj_H → Prop} {G : mj_K} (hG : mj_cl2 cX3_open (TbX3 2 ((some FieldType.int)) []) k G) {v1 : Int32} {s : St} (hw : ok (F_X3_open v1 s) (fun p => k (some (.int p.1)) (mkCs p.2))) : G 0 [.ref 85, .int v1] [] (mkCs s) 0 0 := by
  unfold F_X3_open at hw
  refine mj_run hG.1 (fun _ => false) 4000 ?_
  simp only [mj_step, mj_W_s, mj_fin, List.getElem?_cons_zero, List.getElem?_cons_succ, mj_go, Nat.reduceAdd, Nat.reduceSub, Nat.reduceLT, Nat.reduceLeDiff, Nat.zero_add, Nat.reduceEqDiff, Nat.reduceBEq, ↓reduceIte, Bool.false_eq_true, List.append_nil, List.nil_append, List.cons_append, Option.toList, and_true, true_and, true_or, or_true, reduceCtorEq, List.map_nil, bI_eq0, bI_eq1, bool_ft, pk_us, vnar0, vnar1, Bool.or_false, Bool.or_true, Bool.false_or, Bool.true_or, mj_kne, eq_self, Int32.reduceLT, Int32.reduceLE, Int32.reduceAdd, Int32.reduceSub, Int32.reduceMul, not_true_eq_false, not_false_eq_true, false_implies, true_implies, D_X3_open, mj_F_aload_n_k, mj_F_dup, mj_F_getfield_i, mj_F_iadd, mj_F_iastore, mj_F_iconst_n, mj_F_if_icmp_lt_off, mj_F_iload_n_k, mj_F_ireturn, mj_F_isub, mj_F_putfield_i, mj_c2, mj_kc, FT_X3, PT_X3, gS_C85, gCf3_1, gCf3_2, gS_C86, sS_Ca_86, sS_Cf_3_1, gCf3len, J_X3_open]
  refine ⟨fun c => ?_, fun c => ?_⟩
  · replace hw := ok_t hw c
    refine ⟨(ok_wr hw).1, ?_⟩
    replace hw := (ok_wr hw).2
    replace hw := ok_wI hw
    exact (ok_some hw :)
  · replace hw := ok_f hw c
    exact (ok_some hw :)

def c_X3_open : mj_S := fun as h k => ∃ (v1 : Int32) (s : St), as = [.ref 85, .int v1] ∧ h = mkCs s ∧ ok (F_X3_open v1 s) (fun p => k (some (.int p.1)) (mkCs p.2))
theorem c_X3_open_in {v1 : Int32} {s : St} {k : Option Value → mj_H → Prop} (hw : ok (F_X3_open v1 s) (fun p => k (some (.int p.1)) (mkCs p.2))) : c_X3_open [.ref 85, .int v1] (mkCs s) k := ⟨v1, s, rfl, rfl, hw⟩
theorem m_X3_open (l : Launch) : mj_Met l yX3_open cX3_open 2 ((some FieldType.int)) 0 0 0 c_X3_open := by
  refine mj_body2 false (TbX3 2 ((some FieldType.int)) []) (by decide) rfl rfl (fun h => nomatch h) (tfX3 _ (fun _ h => nomatch h)) ?_
  rintro as h k ⟨v1, s, rfl, rfl, hw⟩
  exact ⟨rfl, fun G hG => g_X3_open hG hw⟩
def F_X11_lender (v1 : Int32) (s : St) : Option (Int32 × St) :=
  if inb v1 0 1000000 = false then
    some ((-1), s)
  else
    (F_X3_open v1 s).bind fun r1 =>
    some (r1.1, r1.2)
theorem J_X11_lender : mj_t 8 14 = 22 ∧ mj_t 19 4 = 23 ∧ (0 ≤ ((8 : Nat) : Int) + 14) = True ∧ (0 ≤ ((19 : Nat) : Int) + 4) = True := by and_intros <;> first | rfl | exact eq_true (by decide)
def ct_X11_lender : List (Nat × mj_Cs) := [(96, 2, 3, 11, 0, 0, c_in), (369, 0, 2, 3, 0, 0, c_X3_open)]
theorem L_X11_lender : mj_lk ct_X11_lender 96 = some (2, 3, 11, 0, 0, c_in) ∧ mj_lk ct_X11_lender 369 = some (0, 2, 3, 0, 0, c_X3_open) := ⟨rfl, rfl⟩
set_option maxHeartbeats 4000000 in
set_option maxRecDepth 20000 in
theorem g_X11_lender {k : Option Value → mj_H → Prop} {G : mj_K} (hG : mj_cl2 cX11_lender (TbX11 2 ((some FieldType.int)) ct_X11_lender) k G) {v1 : Int32} {s : St} (hw : ok (F_X11_lender v1 s) (fun p => k (some (.int p.1)) (mkCs p.2))) : G 0 [.ref 0, .int v1] [] (mkCs s) 0 0 := by
  unfold F_X11_lender at hw
  refine mj_run hG.1 (fun pc => pc == 19) 4000 ?_
  simp only [mj_step, mj_W_s, mj_fin, List.getElem?_cons_zero, List.getElem?_cons_succ, mj_go, Nat.reduceAdd, Nat.reduceSub, Nat.reduceLT, Nat.reduceLeDiff, Nat.zero_add, Nat.reduceEqDiff, Nat.reduceBEq, ↓reduceIte, Bool.false_eq_true, List.append_nil, List.nil_append, List.cons_append, Option.toList, and_true, true_and, true_or, or_true, reduceCtorEq, List.map_nil, bI_eq0, bI_eq1, bool_ft, pk_us, vnar0, vnar1, Bool.or_false, Bool.or_true, Bool.false_or, Bool.true_or, mj_kne, eq_self, Int32.reduceLT, Int32.reduceLE, Int32.reduceAdd, Int32.reduceSub, Int32.reduceMul, not_true_eq_false, not_false_eq_true, false_implies, true_implies, D_X11_lender, mj_F_aload_n_k, mj_F_getfield_i, mj_F_goto_off, mj_F_iconst_n, mj_F_ifCond_eq_off, mj_F_iload_n_k, mj_F_invokestatic_i, mj_F_invokevirtual_i, mj_F_ireturn, mj_F_ldc_w_i, mj_kc, FT_X11, KT_X11, L_X11_lender, List.take_succ_cons, List.take_zero, List.drop_succ_cons, List.drop_zero, List.reverse_cons, List.reverse_nil, List.length_cons, List.length_nil, gS_C0, gCf11_11, c_in_eq, gS_C85, J_X11_lender]
  refine ⟨fun c => ?_, fun c => ?_⟩
  · replace hw := ok_t hw c
    exact (ok_some hw :)
  · replace hw := ok_f hw c
    refine c_X3_open_in (ok_imp (ok_bind hw) ?_)
    intro p hw
    simp only [Option.toList, List.nil_append, List.cons_append, Nat.reduceSub]
    refine mj_run hG.1 (fun pc => pc == 19) 4000 ?_
    simp only [mj_step, mj_W_s, mj_fin, List.getElem?_cons_zero, List.getElem?_cons_succ, mj_go, Nat.reduceAdd, Nat.reduceSub, Nat.reduceLT, Nat.reduceLeDiff, Nat.zero_add, Nat.reduceEqDiff, Nat.reduceBEq, ↓reduceIte, Bool.false_eq_true, List.append_nil, List.nil_append, List.cons_append, Option.toList, and_true, true_and, true_or, or_true, reduceCtorEq, List.map_nil, bI_eq0, bI_eq1, bool_ft, pk_us, vnar0, vnar1, Bool.or_false, Bool.or_true, Bool.false_or, Bool.true_or, mj_kne, eq_self, Int32.reduceLT, Int32.reduceLE, Int32.reduceAdd, Int32.reduceSub, Int32.reduceMul, not_true_eq_false, not_false_eq_true, false_implies, true_implies, D_X11_lender, mj_F_aload_n_k, mj_F_getfield_i, mj_F_goto_off, mj_F_iconst_n, mj_F_ifCond_eq_off, mj_F_iload_n_k, mj_F_invokestatic_i, mj_F_invokevirtual_i, mj_F_ireturn, mj_F_ldc_w_i, mj_kc, FT_X11, KT_X11, L_X11_lender, List.take_succ_cons, List.take_zero, List.drop_succ_cons, List.drop_zero, List.reverse_cons, List.reverse_nil, List.length_cons, List.length_nil, gS_C0, gCf11_11, c_in_eq, gS_C85, J_X11_lender]
    exact (ok_some hw :)

def c_X11_lender : mj_S := fun as h k => ∃ (v1 : Int32) (s : St), as = [.ref 0, .int v1] ∧ h = mkCs s ∧ ok (F_X11_lender v1 s) (fun p => k (some (.int p.1)) (mkCs p.2))
theorem c_X11_lender_in {v1 : Int32} {s : St} {k : Option Value → mj_H → Prop} (hw : ok (F_X11_lender v1 s) (fun p => k (some (.int p.1)) (mkCs p.2))) : c_X11_lender [.ref 0, .int v1] (mkCs s) k := ⟨v1, s, rfl, rfl, hw⟩
theorem m_X11_lender (l : Launch) : mj_Met l yX11_lender cX11_lender 2 ((some FieldType.int)) 1 0 0 c_X11_lender := by
  refine mj_body2 false (TbX11 2 ((some FieldType.int)) ct_X11_lender) (by decide) rfl rfl (fun h => nomatch h) (tfX11 _ (List.forall_mem_cons.mpr ⟨cfX11_96 (m_X11_within l) (by decide), List.forall_mem_cons.mpr ⟨cfX11_369 (m_X3_open l) (by decide), fun _ h => nomatch h⟩⟩)) ?_
  rintro as h k ⟨v1, s, rfl, rfl, hw⟩
  exact ⟨rfl, fun G hG => g_X11_lender hG hw⟩
def F_X3_owe (v1 : Int32) (v2 : Int32) (s : St) : Option (Int32 × St) :=
  if (s.1 303) < 40 then
    (wI s 303 ((s.1 303) + 1)).bind fun s1 =>
    (rd s1 304 8 v1).bind fun x2 =>
    (wr s1 304 8 v1 (x2 + v2)).bind fun s3 =>
    some (1, s3)
  else
    some (0, s)
theorem J_X3_owe : mj_t 6 5 = 11 ∧ (0 ≤ ((6 : Nat) : Int) + 5) = True := by and_intros <;> first | rfl | exact eq_true (by decide)
set_option maxHeartbeats 4000000 in
set_option maxRecDepth 20000 in
theorem g_X3_owe {k : Option Value → mj_H → Prop} {G : mj_K} (hG : mj_cl2 cX3_owe (TbX3 3 ((some FieldType.boolean)) []) k G) {v1 : Int32} {v2 : Int32} {s : St} (hw : ok (F_X3_owe v1 v2 s) (fun p => k (some (.int p.1)) (mkCs p.2))) : G 0 [.ref 85, .int v1, .int v2] [] (mkCs s) 0 0 := by
  unfold F_X3_owe at hw
  refine mj_run hG.1 (fun _ => false) 4000 ?_
  simp only [mj_step, mj_W_s, mj_fin, List.getElem?_cons_zero, List.getElem?_cons_succ, mj_go, Nat.reduceAdd, Nat.reduceSub, Nat.reduceLT, Nat.reduceLeDiff, Nat.zero_add, Nat.reduceEqDiff, Nat.reduceBEq, ↓reduceIte, Bool.false_eq_true, List.append_nil, List.nil_append, List.cons_append, Option.toList, and_true, true_and, true_or, or_true, reduceCtorEq, List.map_nil, bI_eq0, bI_eq1, bool_ft, pk_us, vnar0, vnar1, Bool.or_false, Bool.or_true, Bool.false_or, Bool.true_or, mj_kne, eq_self, Int32.reduceLT, Int32.reduceLE, Int32.reduceAdd, Int32.reduceSub, Int32.reduceMul, not_true_eq_false, not_false_eq_true, false_implies, true_implies, D_X3_owe, mj_F_aload_n_k, mj_F_bipush_n, mj_F_dup, mj_F_dup2, mj_F_getfield_i, mj_F_iadd, mj_F_iaload, mj_F_iastore, mj_F_iconst_n, mj_F_if_icmp_lt_off, mj_F_iload_n_k, mj_F_ireturn, mj_F_putfield_i, mj_c2, mj_kc, FT_X3, PT_X3, gS_C85, gCf3_3, sS_Cf_3_3, gCf3len, gCf3_4, gS_C87, sS_Ca_87, J_X3_owe]
  refine ⟨fun c => ?_, fun c => ?_⟩
  · replace hw := ok_t hw c
    replace hw := ok_wI hw
    refine ⟨(ok_rd hw).1, ?_⟩
    replace hw := (ok_rd hw).2
    refine ⟨(ok_wr hw).1, ?_⟩
    replace hw := (ok_wr hw).2
    exact (ok_some hw :)
  · replace hw := ok_f hw c
    exact (ok_some hw :)

def c_X3_owe : mj_S := fun as h k => ∃ (v1 : Int32) (v2 : Int32) (s : St), as = [.ref 85, .int v1, .int v2] ∧ h = mkCs s ∧ ok (F_X3_owe v1 v2 s) (fun p => k (some (.int p.1)) (mkCs p.2))
theorem c_X3_owe_in {v1 : Int32} {v2 : Int32} {s : St} {k : Option Value → mj_H → Prop} (hw : ok (F_X3_owe v1 v2 s) (fun p => k (some (.int p.1)) (mkCs p.2))) : c_X3_owe [.ref 85, .int v1, .int v2] (mkCs s) k := ⟨v1, v2, s, rfl, rfl, hw⟩
theorem m_X3_owe (l : Launch) : mj_Met l yX3_owe cX3_owe 3 ((some FieldType.boolean)) 0 0 0 c_X3_owe := by
  refine mj_body2 false (TbX3 3 ((some FieldType.boolean)) []) (by decide) rfl rfl (fun h => nomatch h) (tfX3 _ (fun _ h => nomatch h)) ?_
  rintro as h k ⟨v1, v2, s, rfl, rfl, hw⟩
  exact ⟨rfl, fun G hG => g_X3_owe hG hw⟩
def F_X11_bill (v1 : Int32) (v2 : Int32) (s : St) : Option (Int32 × St) :=
  if inb v1 0 7 = false then
    some (0, s)
  else
    if inb v2 1 100000 = false then
      some (0, s)
    else
      (F_X3_owe v1 v2 s).bind fun r1 =>
      (bz r1.1).bind fun _ =>
      some (r1.1, r1.2)
theorem J_X11_bill : mj_t 7 14 = 21 ∧ mj_t 18 5 = 23 ∧ (0 ≤ ((7 : Nat) : Int) + 14) = True ∧ (0 ≤ ((18 : Nat) : Int) + 5) = True := by and_intros <;> first | rfl | exact eq_true (by decide)
def ct_X11_bill : List (Nat × mj_Cs) := [(96, 2, 3, 11, 0, 0, c_in), (373, 0, 3, 3, 0, 0, c_X3_owe)]
theorem L_X11_bill : mj_lk ct_X11_bill 96 = some (2, 3, 11, 0, 0, c_in) ∧ mj_lk ct_X11_bill 373 = some (0, 3, 3, 0, 0, c_X3_owe) := ⟨rfl, rfl⟩
set_option maxHeartbeats 4000000 in
set_option maxRecDepth 20000 in
theorem g_X11_bill {k : Option Value → mj_H → Prop} {G : mj_K} (hG : mj_cl2 cX11_bill (TbX11 3 ((some FieldType.boolean)) ct_X11_bill) k G) {v1 : Int32} {v2 : Int32} {s : St} (hw : ok (F_X11_bill v1 v2 s) (fun p => k (some (.int p.1)) (mkCs p.2))) : G 0 [.ref 0, .int v1, .int v2] [] (mkCs s) 0 0 := by
  unfold F_X11_bill at hw
  refine mj_run hG.1 (fun pc => pc == 32) 4000 ?_
  simp only [mj_step, mj_W_s, mj_fin, List.getElem?_cons_zero, List.getElem?_cons_succ, mj_go, Nat.reduceAdd, Nat.reduceSub, Nat.reduceLT, Nat.reduceLeDiff, Nat.zero_add, Nat.reduceEqDiff, Nat.reduceBEq, ↓reduceIte, Bool.false_eq_true, List.append_nil, List.nil_append, List.cons_append, Option.toList, and_true, true_and, true_or, or_true, reduceCtorEq, List.map_nil, bI_eq0, bI_eq1, bool_ft, pk_us, vnar0, vnar1, Bool.or_false, Bool.or_true, Bool.false_or, Bool.true_or, mj_kne, eq_self, Int32.reduceLT, Int32.reduceLE, Int32.reduceAdd, Int32.reduceSub, Int32.reduceMul, not_true_eq_false, not_false_eq_true, false_implies, true_implies, D_X11_bill, mj_F_aload_n_k, mj_F_bipush_n, mj_F_getfield_i, mj_F_iconst_n, mj_F_ifCond_eq_off, mj_F_ifCond_ne_off, mj_F_iload_n_k, mj_F_invokestatic_i, mj_F_invokevirtual_i, mj_F_ireturn, mj_F_ldc_w_i, mj_kc, FT_X11, KT_X11, L_X11_bill, List.take_succ_cons, List.take_zero, List.drop_succ_cons, List.drop_zero, List.reverse_cons, List.reverse_nil, List.length_cons, List.length_nil, gS_C0, gCf11_11, c_in_eq, gS_C85, J_X11_bill]
  refine ⟨fun c => ?_, fun c => ?_⟩
  · replace hw := ok_t hw c
    exact (ok_some hw :)
  · replace hw := ok_f hw c
    refine ⟨fun c => ?_, fun c => ?_⟩
    · replace hw := ok_f hw c
      refine c_X3_owe_in (ok_imp (ok_bind hw) ?_)
      intro p hw
      simp only [Option.toList, List.nil_append, List.cons_append, Nat.reduceSub]
      refine mj_run hG.1 (fun pc => pc == 32) 4000 ?_
      simp only [mj_step, mj_W_s, mj_fin, List.getElem?_cons_zero, List.getElem?_cons_succ, mj_go, Nat.reduceAdd, Nat.reduceSub, Nat.reduceLT, Nat.reduceLeDiff, Nat.zero_add, Nat.reduceEqDiff, Nat.reduceBEq, ↓reduceIte, Bool.false_eq_true, List.append_nil, List.nil_append, List.cons_append, Option.toList, and_true, true_and, true_or, or_true, reduceCtorEq, List.map_nil, bI_eq0, bI_eq1, bool_ft, pk_us, vnar0, vnar1, Bool.or_false, Bool.or_true, Bool.false_or, Bool.true_or, mj_kne, eq_self, Int32.reduceLT, Int32.reduceLE, Int32.reduceAdd, Int32.reduceSub, Int32.reduceMul, not_true_eq_false, not_false_eq_true, false_implies, true_implies, D_X11_bill, mj_F_aload_n_k, mj_F_bipush_n, mj_F_getfield_i, mj_F_iconst_n, mj_F_ifCond_eq_off, mj_F_ifCond_ne_off, mj_F_iload_n_k, mj_F_invokestatic_i, mj_F_invokevirtual_i, mj_F_ireturn, mj_F_ldc_w_i, mj_kc, FT_X11, KT_X11, L_X11_bill, List.take_succ_cons, List.take_zero, List.drop_succ_cons, List.drop_zero, List.reverse_cons, List.reverse_nil, List.length_cons, List.length_nil, gS_C0, gCf11_11, c_in_eq, gS_C85, J_X11_bill]
      refine ⟨(ok_bz hw).1, ?_⟩
      replace hw := (ok_bz hw).2
      exact (ok_some hw :)
    · replace hw := ok_t hw c
      exact (ok_some hw :)

def c_X11_bill : mj_S := fun as h k => ∃ (v1 : Int32) (v2 : Int32) (s : St), as = [.ref 0, .int v1, .int v2] ∧ h = mkCs s ∧ ok (F_X11_bill v1 v2 s) (fun p => k (some (.int p.1)) (mkCs p.2))
theorem c_X11_bill_in {v1 : Int32} {v2 : Int32} {s : St} {k : Option Value → mj_H → Prop} (hw : ok (F_X11_bill v1 v2 s) (fun p => k (some (.int p.1)) (mkCs p.2))) : c_X11_bill [.ref 0, .int v1, .int v2] (mkCs s) k := ⟨v1, v2, s, rfl, rfl, hw⟩
theorem m_X11_bill (l : Launch) : mj_Met l yX11_bill cX11_bill 3 ((some FieldType.boolean)) 1 0 0 c_X11_bill := by
  refine mj_body2 false (TbX11 3 ((some FieldType.boolean)) ct_X11_bill) (by decide) rfl rfl (fun h => nomatch h) (tfX11 _ (List.forall_mem_cons.mpr ⟨cfX11_96 (m_X11_within l) (by decide), List.forall_mem_cons.mpr ⟨cfX11_373 (m_X3_owe l) (by decide), fun _ h => nomatch h⟩⟩)) ?_
  rintro as h k ⟨v1, v2, s, rfl, rfl, hw⟩
  exact ⟨rfl, fun G hG => g_X11_bill hG hw⟩
def B_X3_ask_18 (v1 : Int32) (v2 : Int32) (v3 : Int32) : Int32 × St → Option ((Int32 × St) ⊕ ((St)))
  | (v4, s) =>
  if (s.1 301) ≤ v4 then
    some (.inr s)
  else
    (F_X0_spell v4 0 v3 0 s).bind fun s2 =>
    (F_X0_worthOf 5 0 v1 v2 0 s2).bind fun r3 =>
    if r3.1 = 0 then
      some (.inl ((v4 + 1), r3.2))
    else
      (rd r3.2 305 8 v3).bind fun x4 =>
      (wr r3.2 305 8 v3 (x4 ||| (1 <<< (v4 &&& 31)))).bind fun s5 =>
      some (.inl ((v4 + 1), s5))
def F_X3_ask_73 (v1 : Int32) (v2 : Int32) (v3 : Int32) (s : St) : Option ((Int32 × St) ⊕ ((St))) :=
  some (.inl ((v3 + 1), s))
def F_X3_ask_18 (v1 : Int32) (v2 : Int32) (v3 : Int32) (v4 : Int32) (s : St) : Option ((Int32 × St) ⊕ ((St))) :=
  (lp (B_X3_ask_18 v1 v2 v3) FU (v4, s)).bind (fun y => F_X3_ask_73 v1 v2 v3 y)
def B_X3_ask_2 (v1 : Int32) (v2 : Int32) : Int32 × St → Option ((Int32 × St) ⊕ ((St)))
  | (v3, s) =>
  if 8 ≤ v3 then
    some (.inr s)
  else
    (wr s 305 8 v3 0).bind fun s1 =>
    F_X3_ask_18 v1 v2 v3 0 s1
def F_X3_ask_79 (s : St) : Option (St) :=
  some s
def F_X3_ask_2 (v1 : Int32) (v2 : Int32) (v3 : Int32) (s : St) : Option (St) :=
  (lp (B_X3_ask_2 v1 v2) FU (v3, s)).bind (fun y => F_X3_ask_79 y)
def F_X3_ask (v1 : Int32) (v2 : Int32) (s : St) : Option (St) :=
  F_X3_ask_2 v1 v2 0 s
theorem J_X3_ask : mj_t 5 74 = 79 ∧ mj_t 24 49 = 73 ∧ mj_t 51 16 = 67 ∧ mj_t 70 (-52) = 18 ∧ mj_t 76 (-74) = 2 ∧ (0 ≤ ((5 : Nat) : Int) + 74) = True ∧ (0 ≤ ((24 : Nat) : Int) + 49) = True ∧ (0 ≤ ((51 : Nat) : Int) + 16) = True ∧ (0 ≤ ((70 : Nat) : Int) + (-52)) = True ∧ (0 ≤ ((76 : Nat) : Int) + (-74)) = True := by and_intros <;> first | rfl | exact eq_true (by decide)
def ct_X3_ask : List (Nat × mj_Cs) := [(32, 0, 5, 0, 0, 0, c_X0_spell), (38, 0, 6, 0, 0, 0, c_X0_worthOf)]
theorem L_X3_ask : mj_lk ct_X3_ask 32 = some (0, 5, 0, 0, 0, c_X0_spell) ∧ mj_lk ct_X3_ask 38 = some (0, 6, 0, 0, 0, c_X0_worthOf) := ⟨rfl, rfl⟩
set_option maxHeartbeats 4000000 in
set_option maxRecDepth 20000 in
theorem b_X3_ask_18 {k : Option Value → mj_H → Prop} {G : mj_K} (hG : mj_cl2 cX3_ask (TbX3 5 (none) ct_X3_ask) k G) {v1 : Int32} {v2 : Int32} {v3 : Int32} {P : Int32 × St → Prop} {K : (St) → Prop} (hP : ∀ x, P x → G 18 [.ref 85, .int v1, .int v2, .int v3, .int x.1] [] (mkCs x.2) 0 0) (hK0 : ∀ y, K y → G 73 [.ref 85, .int v1, .int v2, .int v3] [] (mkCs y) 0 0) {v4 : Int32} {s : St} (hw : ok (B_X3_ask_18 v1 v2 v3 (v4, s)) (Sum.elim P K)) : G 18 [.ref 85, .int v1, .int v2, .int v3, .int v4] [] (mkCs s) 0 0 := by
  unfold B_X3_ask_18 at hw
  refine mj_run hG.1 (fun pc => pc == 2 || pc == 18 || pc == 39 || pc == 51 || pc == 73 || pc == 79) 4000 ?_
  simp only [mj_step, mj_W_s, mj_fin, List.getElem?_cons_zero, List.getElem?_cons_succ, mj_go, Nat.reduceAdd, Nat.reduceSub, Nat.reduceLT, Nat.reduceLeDiff, Nat.zero_add, Nat.reduceEqDiff, Nat.reduceBEq, ↓reduceIte, Bool.false_eq_true, List.append_nil, List.nil_append, List.cons_append, Option.toList, and_true, true_and, true_or, or_true, reduceCtorEq, List.map_nil, bI_eq0, bI_eq1, bool_ft, pk_us, vnar0, vnar1, Bool.or_false, Bool.or_true, Bool.false_or, Bool.true_or, mj_kne, eq_self, Int32.reduceLT, Int32.reduceLE, Int32.reduceAdd, Int32.reduceSub, Int32.reduceMul, not_true_eq_false, not_false_eq_true, false_implies, true_implies, D_X3_ask, mj_F_aload_n_k, mj_F_bipush_n, mj_F_dup2, mj_F_getfield_i, mj_F_goto_off, mj_F_iaload, mj_F_iastore, mj_F_iconst_n, mj_F_ifCond_eq_off, mj_F_if_icmp_ge_off, mj_F_iinc_k_n, mj_F_iload_k, mj_F_iload_n_k, mj_F_invokevirtual_i, mj_F_ior, mj_F_ishl, mj_F_istore_k, mj_F_istore_n_k, mj_F_return_, mj_set, mj_set0, mj_unk, mj_c2, mj_kc, FT_X3, L_X3_ask, List.take_succ_cons, List.take_zero, List.drop_succ_cons, List.drop_zero, List.reverse_cons, List.reverse_nil, List.length_cons, List.length_nil, gS_C85, gCf3_5, gS_C88, sS_Ca_88, gCf3_1, gCf3_0, gS_C11, J_X3_ask]
  refine ⟨fun c => ?_, fun c => ?_⟩
  · replace hw := ok_t hw c
    exact hG.2 _ _ _ _ _ _ _ _ _ (by refine ⟨Or.inr rfl, ?_⟩; refine ⟨Or.inr rfl, ?_⟩; refine ⟨Or.inr rfl, ?_⟩; refine ⟨Or.inr rfl, ?_⟩; exact trivial) (Nat.zero_le _) (Nat.zero_le _) (hK0 _ (ok_some hw :) :)
  · replace hw := ok_f hw c
    refine c_X0_spell_in (ok_imp (ok_bind hw) ?_)
    intro p hw
    simp only [Option.toList, List.nil_append, List.cons_append, Nat.reduceSub]
    refine mj_run hG.1 (fun pc => pc == 2 || pc == 18 || pc == 39 || pc == 51 || pc == 73 || pc == 79) 4000 ?_
    simp only [mj_step, mj_W_s, mj_fin, List.getElem?_cons_zero, List.getElem?_cons_succ, mj_go, Nat.reduceAdd, Nat.reduceSub, Nat.reduceLT, Nat.reduceLeDiff, Nat.zero_add, Nat.reduceEqDiff, Nat.reduceBEq, ↓reduceIte, Bool.false_eq_true, List.append_nil, List.nil_append, List.cons_append, Option.toList, and_true, true_and, true_or, or_true, reduceCtorEq, List.map_nil, bI_eq0, bI_eq1, bool_ft, pk_us, vnar0, vnar1, Bool.or_false, Bool.or_true, Bool.false_or, Bool.true_or, mj_kne, eq_self, Int32.reduceLT, Int32.reduceLE, Int32.reduceAdd, Int32.reduceSub, Int32.reduceMul, not_true_eq_false, not_false_eq_true, false_implies, true_implies, D_X3_ask, mj_F_aload_n_k, mj_F_bipush_n, mj_F_dup2, mj_F_getfield_i, mj_F_goto_off, mj_F_iaload, mj_F_iastore, mj_F_iconst_n, mj_F_ifCond_eq_off, mj_F_if_icmp_ge_off, mj_F_iinc_k_n, mj_F_iload_k, mj_F_iload_n_k, mj_F_invokevirtual_i, mj_F_ior, mj_F_ishl, mj_F_istore_k, mj_F_istore_n_k, mj_F_return_, mj_set, mj_set0, mj_unk, mj_c2, mj_kc, FT_X3, L_X3_ask, List.take_succ_cons, List.take_zero, List.drop_succ_cons, List.drop_zero, List.reverse_cons, List.reverse_nil, List.length_cons, List.length_nil, gS_C85, gCf3_5, gS_C88, sS_Ca_88, gCf3_1, gCf3_0, gS_C11, J_X3_ask]
    refine c_X0_worthOf_in (ok_imp (ok_bind hw) ?_)
    intro p hw
    simp only [Option.toList, List.nil_append, List.cons_append, Nat.reduceSub]
    refine mj_run hG.1 (fun pc => pc == 2 || pc == 18 || pc == 39 || pc == 51 || pc == 73 || pc == 79) 4000 ?_
    simp only [mj_step, mj_W_s, mj_fin, List.getElem?_cons_zero, List.getElem?_cons_succ, mj_go, Nat.reduceAdd, Nat.reduceSub, Nat.reduceLT, Nat.reduceLeDiff, Nat.zero_add, Nat.reduceEqDiff, Nat.reduceBEq, ↓reduceIte, Bool.false_eq_true, List.append_nil, List.nil_append, List.cons_append, Option.toList, and_true, true_and, true_or, or_true, reduceCtorEq, List.map_nil, bI_eq0, bI_eq1, bool_ft, pk_us, vnar0, vnar1, Bool.or_false, Bool.or_true, Bool.false_or, Bool.true_or, mj_kne, eq_self, Int32.reduceLT, Int32.reduceLE, Int32.reduceAdd, Int32.reduceSub, Int32.reduceMul, not_true_eq_false, not_false_eq_true, false_implies, true_implies, D_X3_ask, mj_F_aload_n_k, mj_F_bipush_n, mj_F_dup2, mj_F_getfield_i, mj_F_goto_off, mj_F_iaload, mj_F_iastore, mj_F_iconst_n, mj_F_ifCond_eq_off, mj_F_if_icmp_ge_off, mj_F_iinc_k_n, mj_F_iload_k, mj_F_iload_n_k, mj_F_invokevirtual_i, mj_F_ior, mj_F_ishl, mj_F_istore_k, mj_F_istore_n_k, mj_F_return_, mj_set, mj_set0, mj_unk, mj_c2, mj_kc, FT_X3, L_X3_ask, List.take_succ_cons, List.take_zero, List.drop_succ_cons, List.drop_zero, List.reverse_cons, List.reverse_nil, List.length_cons, List.length_nil, gS_C85, gCf3_5, gS_C88, sS_Ca_88, gCf3_1, gCf3_0, gS_C11, J_X3_ask]
    refine ⟨fun c => ?_, fun c => ?_⟩
    · replace hw := ok_t hw c
      exact hG.2 _ _ _ _ _ _ _ _ _ (by refine ⟨Or.inr rfl, ?_⟩; refine ⟨Or.inr rfl, ?_⟩; refine ⟨Or.inr rfl, ?_⟩; refine ⟨Or.inr rfl, ?_⟩; refine ⟨Or.inr rfl, ?_⟩; exact trivial) (Nat.zero_le _) (Nat.zero_le _) (hP _ (ok_some hw :) :)
    · replace hw := ok_f hw c
      refine ⟨(ok_rd hw).1, ?_⟩
      replace hw := (ok_rd hw).2
      refine ⟨(ok_wr hw).1, ?_⟩
      replace hw := (ok_wr hw).2
      exact hG.2 _ _ _ _ _ _ _ _ _ (by refine ⟨Or.inr rfl, ?_⟩; refine ⟨Or.inr rfl, ?_⟩; refine ⟨Or.inr rfl, ?_⟩; refine ⟨Or.inr rfl, ?_⟩; refine ⟨Or.inr rfl, ?_⟩; exact trivial) (Nat.zero_le _) (Nat.zero_le _) (hP _ (ok_some hw :) :)

set_option maxHeartbeats 4000000 in
set_option maxRecDepth 20000 in
theorem g_X3_ask_73 {k : Option Value → mj_H → Prop} {G : mj_K} (hG : mj_cl2 cX3_ask (TbX3 5 (none) ct_X3_ask) k G) {v1 : Int32} {v2 : Int32} {P : Int32 × St → Prop} {K : (St) → Prop} (hP : ∀ x, P x → G 2 [.ref 85, .int v1, .int v2, .int x.1] [] (mkCs x.2) 0 0) (hK0 : ∀ y, K y → G 79 [] [] (mkCs y) 0 0) {v3 : Int32} {s : St} (hw : ok (F_X3_ask_73 v1 v2 v3 s) (Sum.elim P K)) : G 73 [.ref 85, .int v1, .int v2, .int v3] [] (mkCs s) 0 0 := by
  unfold F_X3_ask_73 at hw
  refine mj_run hG.1 (fun pc => pc == 2 || pc == 18 || pc == 39 || pc == 51 || pc == 73 || pc == 79) 4000 ?_
  simp only [mj_step, mj_W_s, mj_fin, List.getElem?_cons_zero, List.getElem?_cons_succ, mj_go, Nat.reduceAdd, Nat.reduceSub, Nat.reduceLT, Nat.reduceLeDiff, Nat.zero_add, Nat.reduceEqDiff, Nat.reduceBEq, ↓reduceIte, Bool.false_eq_true, List.append_nil, List.nil_append, List.cons_append, Option.toList, and_true, true_and, true_or, or_true, reduceCtorEq, List.map_nil, bI_eq0, bI_eq1, bool_ft, pk_us, vnar0, vnar1, Bool.or_false, Bool.or_true, Bool.false_or, Bool.true_or, mj_kne, eq_self, Int32.reduceLT, Int32.reduceLE, Int32.reduceAdd, Int32.reduceSub, Int32.reduceMul, not_true_eq_false, not_false_eq_true, false_implies, true_implies, D_X3_ask, mj_F_aload_n_k, mj_F_bipush_n, mj_F_dup2, mj_F_getfield_i, mj_F_goto_off, mj_F_iaload, mj_F_iastore, mj_F_iconst_n, mj_F_ifCond_eq_off, mj_F_if_icmp_ge_off, mj_F_iinc_k_n, mj_F_iload_k, mj_F_iload_n_k, mj_F_invokevirtual_i, mj_F_ior, mj_F_ishl, mj_F_istore_k, mj_F_istore_n_k, mj_F_return_, mj_set, mj_set0, mj_unk, mj_c2, mj_kc, FT_X3, L_X3_ask, List.take_succ_cons, List.take_zero, List.drop_succ_cons, List.drop_zero, List.reverse_cons, List.reverse_nil, List.length_cons, List.length_nil, gS_C85, gCf3_5, gS_C88, sS_Ca_88, gCf3_1, gCf3_0, gS_C11, J_X3_ask]
  exact hG.2 _ _ _ _ _ _ _ _ _ (by refine ⟨Or.inr rfl, ?_⟩; refine ⟨Or.inr rfl, ?_⟩; refine ⟨Or.inr rfl, ?_⟩; refine ⟨Or.inr rfl, ?_⟩; exact trivial) (Nat.zero_le _) (Nat.zero_le _) (hP _ (ok_some hw :) :)

set_option maxHeartbeats 4000000 in
theorem g_X3_ask_18 {k : Option Value → mj_H → Prop} {G : mj_K} (hG : mj_cl2 cX3_ask (TbX3 5 (none) ct_X3_ask) k G) {v1 : Int32} {v2 : Int32} {P : Int32 × St → Prop} {K : (St) → Prop} (hP : ∀ x, P x → G 2 [.ref 85, .int v1, .int v2, .int x.1] [] (mkCs x.2) 0 0) (hK0 : ∀ y, K y → G 79 [] [] (mkCs y) 0 0) {v3 : Int32} {v4 : Int32} {s : St} (hw : ok (F_X3_ask_18 v1 v2 v3 v4 s) (Sum.elim P K)) : G 18 [.ref 85, .int v1, .int v2, .int v3, .int v4] [] (mkCs s) 0 0 := by
  unfold F_X3_ask_18 at hw
  refine lp_ok (B_X3_ask_18 v1 v2 v3) (fun x => G 18 [.ref 85, .int v1, .int v2, .int v3, .int x.1] [] (mkCs x.2) 0 0) _ ?_ _ _ (ok_bind hw)
  rintro ⟨v4, s⟩ hb
  exact b_X3_ask_18 hG (fun _ z => z) (fun y hw => by exact hG.2 _ _ _ _ _ _ _ _ _ (by refine ⟨Or.inr rfl, ?_⟩; refine ⟨Or.inr rfl, ?_⟩; refine ⟨Or.inr rfl, ?_⟩; refine ⟨Or.inr rfl, ?_⟩; exact trivial) (Nat.zero_le _) (Nat.zero_le _) (g_X3_ask_73 hG hP hK0  hw :)) hb

set_option maxHeartbeats 4000000 in
set_option maxRecDepth 20000 in
theorem b_X3_ask_2 {k : Option Value → mj_H → Prop} {G : mj_K} (hG : mj_cl2 cX3_ask (TbX3 5 (none) ct_X3_ask) k G) {v1 : Int32} {v2 : Int32} {P : Int32 × St → Prop} {K : (St) → Prop} (hP : ∀ x, P x → G 2 [.ref 85, .int v1, .int v2, .int x.1] [] (mkCs x.2) 0 0) (hK0 : ∀ y, K y → G 79 [] [] (mkCs y) 0 0) {v3 : Int32} {s : St} (hw : ok (B_X3_ask_2 v1 v2 (v3, s)) (Sum.elim P K)) : G 2 [.ref 85, .int v1, .int v2, .int v3] [] (mkCs s) 0 0 := by
  unfold B_X3_ask_2 at hw
  refine mj_run hG.1 (fun pc => pc == 2 || pc == 18 || pc == 39 || pc == 51 || pc == 73 || pc == 79) 4000 ?_
  simp only [mj_step, mj_W_s, mj_fin, List.getElem?_cons_zero, List.getElem?_cons_succ, mj_go, Nat.reduceAdd, Nat.reduceSub, Nat.reduceLT, Nat.reduceLeDiff, Nat.zero_add, Nat.reduceEqDiff, Nat.reduceBEq, ↓reduceIte, Bool.false_eq_true, List.append_nil, List.nil_append, List.cons_append, Option.toList, and_true, true_and, true_or, or_true, reduceCtorEq, List.map_nil, bI_eq0, bI_eq1, bool_ft, pk_us, vnar0, vnar1, Bool.or_false, Bool.or_true, Bool.false_or, Bool.true_or, mj_kne, eq_self, Int32.reduceLT, Int32.reduceLE, Int32.reduceAdd, Int32.reduceSub, Int32.reduceMul, not_true_eq_false, not_false_eq_true, false_implies, true_implies, D_X3_ask, mj_F_aload_n_k, mj_F_bipush_n, mj_F_dup2, mj_F_getfield_i, mj_F_goto_off, mj_F_iaload, mj_F_iastore, mj_F_iconst_n, mj_F_ifCond_eq_off, mj_F_if_icmp_ge_off, mj_F_iinc_k_n, mj_F_iload_k, mj_F_iload_n_k, mj_F_invokevirtual_i, mj_F_ior, mj_F_ishl, mj_F_istore_k, mj_F_istore_n_k, mj_F_return_, mj_set, mj_set0, mj_unk, mj_c2, mj_kc, FT_X3, L_X3_ask, List.take_succ_cons, List.take_zero, List.drop_succ_cons, List.drop_zero, List.reverse_cons, List.reverse_nil, List.length_cons, List.length_nil, gS_C85, gCf3_5, gS_C88, sS_Ca_88, gCf3_1, gCf3_0, gS_C11, J_X3_ask]
  refine ⟨fun c => ?_, fun c => ?_⟩
  · replace hw := ok_t hw c
    exact hG.2 _ _ _ _ _ _ _ _ _ (by exact trivial) (Nat.zero_le _) (Nat.zero_le _) (hK0 _ (ok_some hw :) :)
  · replace hw := ok_f hw c
    refine ⟨(ok_wr hw).1, ?_⟩
    replace hw := (ok_wr hw).2
    exact hG.2 _ _ _ _ _ _ _ _ _ (by refine ⟨Or.inr rfl, ?_⟩; refine ⟨Or.inr rfl, ?_⟩; refine ⟨Or.inr rfl, ?_⟩; refine ⟨Or.inr rfl, ?_⟩; refine ⟨Or.inr rfl, ?_⟩; exact trivial) (Nat.zero_le _) (Nat.zero_le _) (g_X3_ask_18 hG hP hK0  hw :)

set_option maxHeartbeats 4000000 in
set_option maxRecDepth 20000 in
theorem g_X3_ask_79 {k : Option Value → mj_H → Prop} {G : mj_K} (hG : mj_cl2 cX3_ask (TbX3 5 (none) ct_X3_ask) k G)   {s : St} (hw : ok (F_X3_ask_79 s) (fun p => k none (mkCs p))) : G 79 [] [] (mkCs s) 0 0 := by
  unfold F_X3_ask_79 at hw
  refine mj_run hG.1 (fun pc => pc == 2 || pc == 18 || pc == 39 || pc == 51 || pc == 73 || pc == 79) 4000 ?_
  simp only [mj_step, mj_W_s, mj_fin, List.getElem?_cons_zero, List.getElem?_cons_succ, mj_go, Nat.reduceAdd, Nat.reduceSub, Nat.reduceLT, Nat.reduceLeDiff, Nat.zero_add, Nat.reduceEqDiff, Nat.reduceBEq, ↓reduceIte, Bool.false_eq_true, List.append_nil, List.nil_append, List.cons_append, Option.toList, and_true, true_and, true_or, or_true, reduceCtorEq, List.map_nil, bI_eq0, bI_eq1, bool_ft, pk_us, vnar0, vnar1, Bool.or_false, Bool.or_true, Bool.false_or, Bool.true_or, mj_kne, eq_self, Int32.reduceLT, Int32.reduceLE, Int32.reduceAdd, Int32.reduceSub, Int32.reduceMul, not_true_eq_false, not_false_eq_true, false_implies, true_implies, D_X3_ask, mj_F_aload_n_k, mj_F_bipush_n, mj_F_dup2, mj_F_getfield_i, mj_F_goto_off, mj_F_iaload, mj_F_iastore, mj_F_iconst_n, mj_F_ifCond_eq_off, mj_F_if_icmp_ge_off, mj_F_iinc_k_n, mj_F_iload_k, mj_F_iload_n_k, mj_F_invokevirtual_i, mj_F_ior, mj_F_ishl, mj_F_istore_k, mj_F_istore_n_k, mj_F_return_, mj_set, mj_set0, mj_unk, mj_c2, mj_kc, FT_X3, L_X3_ask, List.take_succ_cons, List.take_zero, List.drop_succ_cons, List.drop_zero, List.reverse_cons, List.reverse_nil, List.length_cons, List.length_nil, gS_C85, gCf3_5, gS_C88, sS_Ca_88, gCf3_1, gCf3_0, gS_C11, J_X3_ask]
  exact (ok_some hw :)

set_option maxHeartbeats 4000000 in
theorem g_X3_ask_2 {k : Option Value → mj_H → Prop} {G : mj_K} (hG : mj_cl2 cX3_ask (TbX3 5 (none) ct_X3_ask) k G)   {v1 : Int32} {v2 : Int32} {v3 : Int32} {s : St} (hw : ok (F_X3_ask_2 v1 v2 v3 s) (fun p => k none (mkCs p))) : G 2 [.ref 85, .int v1, .int v2, .int v3] [] (mkCs s) 0 0 := by
  unfold F_X3_ask_2 at hw
  refine lp_ok (B_X3_ask_2 v1 v2) (fun x => G 2 [.ref 85, .int v1, .int v2, .int x.1] [] (mkCs x.2) 0 0) _ ?_ _ _ (ok_bind hw)
  rintro ⟨v3, s⟩ hb
  exact b_X3_ask_2 hG (fun _ z => z) (fun y hw => by exact hG.2 _ _ _ _ _ _ _ _ _ (by exact trivial) (Nat.zero_le _) (Nat.zero_le _) (g_X3_ask_79 hG  hw :)) hb

set_option maxHeartbeats 4000000 in
set_option maxRecDepth 20000 in
theorem g_X3_ask {k : Option Value → mj_H → Prop} {G : mj_K} (hG : mj_cl2 cX3_ask (TbX3 5 (none) ct_X3_ask) k G) {v1 : Int32} {v2 : Int32} {s : St} (hw : ok (F_X3_ask v1 v2 s) (fun p => k none (mkCs p))) : G 0 [.ref 85, .int v1, .int v2] [] (mkCs s) 0 0 := by
  unfold F_X3_ask at hw
  refine mj_run hG.1 (fun pc => pc == 2 || pc == 18 || pc == 39 || pc == 51 || pc == 73 || pc == 79) 4000 ?_
  simp only [mj_step, mj_W_s, mj_fin, List.getElem?_cons_zero, List.getElem?_cons_succ, mj_go, Nat.reduceAdd, Nat.reduceSub, Nat.reduceLT, Nat.reduceLeDiff, Nat.zero_add, Nat.reduceEqDiff, Nat.reduceBEq, ↓reduceIte, Bool.false_eq_true, List.append_nil, List.nil_append, List.cons_append, Option.toList, and_true, true_and, true_or, or_true, reduceCtorEq, List.map_nil, bI_eq0, bI_eq1, bool_ft, pk_us, vnar0, vnar1, Bool.or_false, Bool.or_true, Bool.false_or, Bool.true_or, mj_kne, eq_self, Int32.reduceLT, Int32.reduceLE, Int32.reduceAdd, Int32.reduceSub, Int32.reduceMul, not_true_eq_false, not_false_eq_true, false_implies, true_implies, D_X3_ask, mj_F_aload_n_k, mj_F_bipush_n, mj_F_dup2, mj_F_getfield_i, mj_F_goto_off, mj_F_iaload, mj_F_iastore, mj_F_iconst_n, mj_F_ifCond_eq_off, mj_F_if_icmp_ge_off, mj_F_iinc_k_n, mj_F_iload_k, mj_F_iload_n_k, mj_F_invokevirtual_i, mj_F_ior, mj_F_ishl, mj_F_istore_k, mj_F_istore_n_k, mj_F_return_, mj_set, mj_set0, mj_unk, mj_c2, mj_kc, FT_X3, L_X3_ask, List.take_succ_cons, List.take_zero, List.drop_succ_cons, List.drop_zero, List.reverse_cons, List.reverse_nil, List.length_cons, List.length_nil, gS_C85, gCf3_5, gS_C88, sS_Ca_88, gCf3_1, gCf3_0, gS_C11, J_X3_ask]
  exact hG.2 _ _ _ _ _ _ _ _ _ (by refine ⟨Or.inr rfl, ?_⟩; refine ⟨Or.inr rfl, ?_⟩; refine ⟨Or.inr rfl, ?_⟩; refine ⟨Or.inr rfl, ?_⟩; exact trivial) (Nat.zero_le _) (Nat.zero_le _) (g_X3_ask_2 hG  hw :)

def c_X3_ask : mj_S := fun as h k => ∃ (v1 : Int32) (v2 : Int32) (s : St), as = [.ref 85, .int v1, .int v2] ∧ h = mkCs s ∧ ok (F_X3_ask v1 v2 s) (fun p => k none (mkCs p))
theorem c_X3_ask_in {v1 : Int32} {v2 : Int32} {s : St} {k : Option Value → mj_H → Prop} (hw : ok (F_X3_ask v1 v2 s) (fun p => k none (mkCs p))) : c_X3_ask [.ref 85, .int v1, .int v2] (mkCs s) k := ⟨v1, v2, s, rfl, rfl, hw⟩
theorem m_X3_ask (l : Launch) : mj_Met l yX3_ask cX3_ask 5 (none) 4 0 0 c_X3_ask := by
  refine mj_body2 false (TbX3 5 (none) ct_X3_ask) (by decide) rfl rfl (fun h => nomatch h) (tfX3 _ (List.forall_mem_cons.mpr ⟨cfX3_32 (m_X0_spell l) (by decide), List.forall_mem_cons.mpr ⟨cfX3_38 (m_X0_worthOf l) (by decide), fun _ h => nomatch h⟩⟩)) ?_
  rintro as h k ⟨v1, v2, s, rfl, rfl, hw⟩
  exact ⟨rfl, fun G hG => g_X3_ask hG hw⟩
def B_X3_mostPaid_19 (v1 : Int32) (v2 : Int32) (s : St) : Int32 × Int32 → Option ((Int32 × Int32) ⊕ ((Int32)))
  | (v3, v4) =>
  if (s.1 301) ≤ v4 then
    some (.inr v3)
  else
    if ((v2 >>> (v4 &&& 31)) &&& 1) = 1 then
      (rd s 302 4 v4).bind fun x1 =>
      some (.inl ((v3 + x1), (v4 + 1)))
    else
      some (.inl ((v3 + 0), (v4 + 1)))
def B_X3_mostPaid_61 (v1 : Int32) (v2 : Int32) (s : St) : Int32 × Int32 → Option ((Int32 × Int32) ⊕ ((Int32)))
  | (v3, v4) =>
  if 8 ≤ v4 then
    some (.inr v3)
  else
    (rd s 305 8 v4).bind fun x2 =>
    if (x2 &&& (v2 ^^^ (-1))) = 0 then
      some (.inl ((v3 + 0), (v4 + 1)))
    else
      (rd s 304 8 v4).bind fun x3 =>
      some (.inl ((v3 + x3), (v4 + 1)))
def F_X3_mostPaid_102 (v1 : Int32) (v2 : Int32) (v3 : Int32) (s : St) : Option ((Int32 × Int32) ⊕ ((Int32))) :=
  if v1 = (-1) then
    some (.inl (v3, (v2 + 1)))
  else
    some (.inl ((zmn v1 v3), (v2 + 1)))
def F_X3_mostPaid_61 (v1 : Int32) (v2 : Int32) (v3 : Int32) (v4 : Int32) (s : St) : Option ((Int32 × Int32) ⊕ ((Int32))) :=
  (lp (B_X3_mostPaid_61 v1 v2 s) FU (v3, v4)).bind (fun y => F_X3_mostPaid_102 v1 v2 y s)
def F_X3_mostPaid_58 (v1 : Int32) (v2 : Int32) (v3 : Int32) (s : St) : Option ((Int32 × Int32) ⊕ ((Int32))) :=
  F_X3_mostPaid_61 v1 v2 v3 0 s
def F_X3_mostPaid_19 (v1 : Int32) (v2 : Int32) (v3 : Int32) (v4 : Int32) (s : St) : Option ((Int32 × Int32) ⊕ ((Int32))) :=
  (lp (B_X3_mostPaid_19 v1 v2 s) FU (v3, v4)).bind (fun y => F_X3_mostPaid_58 v1 v2 y s)
def B_X3_mostPaid_4 (s : St) : Int32 × Int32 → Option ((Int32 × Int32) ⊕ ((Int32)))
  | (v1, v2) =>
  if (1 <<< ((s.1 301) &&& 31)) ≤ v2 then
    some (.inr v1)
  else
    F_X3_mostPaid_19 v1 v2 0 0 s
def F_X3_mostPaid_123 (v1 : Int32) (s : St) : Option (Int32) :=
  some v1
def F_X3_mostPaid_4 (v1 : Int32) (v2 : Int32) (s : St) : Option (Int32) :=
  (lp (B_X3_mostPaid_4 s) FU (v1, v2)).bind (fun y => F_X3_mostPaid_123 y s)
def F_X3_mostPaid (s : St) : Option (Int32) :=
  F_X3_mostPaid_4 (-1) 0 s
theorem J_X3_mostPaid : mj_t 11 112 = 123 ∧ mj_t 25 33 = 58 ∧ mj_t 36 13 = 49 ∧ mj_t 46 4 = 50 ∧ mj_t 55 (-36) = 19 ∧ mj_t 65 37 = 102 ∧ mj_t 80 13 = 93 ∧ mj_t 90 4 = 94 ∧ mj_t 99 (-38) = 61 ∧ mj_t 104 7 = 111 ∧ mj_t 108 8 = 116 ∧ mj_t 120 (-116) = 4 ∧ (0 ≤ ((11 : Nat) : Int) + 112) = True ∧ (0 ≤ ((25 : Nat) : Int) + 33) = True ∧ (0 ≤ ((36 : Nat) : Int) + 13) = True ∧ (0 ≤ ((46 : Nat) : Int) + 4) = True ∧ (0 ≤ ((55 : Nat) : Int) + (-36)) = True ∧ (0 ≤ ((65 : Nat) : Int) + 37) = True ∧ (0 ≤ ((80 : Nat) : Int) + 13) = True ∧ (0 ≤ ((90 : Nat) : Int) + 4) = True ∧ (0 ≤ ((99 : Nat) : Int) + (-38)) = True ∧ (0 ≤ ((104 : Nat) : Int) + 7) = True ∧ (0 ≤ ((108 : Nat) : Int) + 8) = True ∧ (0 ≤ ((120 : Nat) : Int) + (-116)) = True := by and_intros <;> first | rfl | exact eq_true (by decide)
set_option maxHeartbeats 4000000 in
set_option maxRecDepth 20000 in
theorem b_X3_mostPaid_19 {k : Option Value → mj_H → Prop} {G : mj_K} (hG : mj_cl2 cX3_mostPaid (TbX3 5 ((some FieldType.int)) []) k G) (hM : mj_ml cX3_mostPaid yX3_mostPaid.cls G) {v1 : Int32} {v2 : Int32} {s : St} {P : Int32 × Int32 → Prop} {K : (Int32) → Prop} (hP : ∀ x, P x → G 19 [.ref 85, .int v1, .int v2, .int x.1, .int x.2] [] (mkCs s) 0 0) (hK0 : ∀ y, K y → G 58 [.ref 85, .int v1, .int v2, .int y] [] (mkCs s) 0 0) {v3 : Int32} {v4 : Int32} (hw : ok (B_X3_mostPaid_19 v1 v2 s (v3, v4)) (Sum.elim P K)) : G 19 [.ref 85, .int v1, .int v2, .int v3, .int v4] [] (mkCs s) 0 0 := by
  unfold B_X3_mostPaid_19 at hw
  refine mj_run hG.1 (fun pc => pc == 4 || pc == 19 || pc == 58 || pc == 61 || pc == 102 || pc == 113 || pc == 123) 4000 ?_
  simp only [mj_step, mj_W_s, mj_fin, List.getElem?_cons_zero, List.getElem?_cons_succ, mj_go, Nat.reduceAdd, Nat.reduceSub, Nat.reduceLT, Nat.reduceLeDiff, Nat.zero_add, Nat.reduceEqDiff, Nat.reduceBEq, ↓reduceIte, Bool.false_eq_true, List.append_nil, List.nil_append, List.cons_append, Option.toList, and_true, true_and, true_or, or_true, reduceCtorEq, List.map_nil, bI_eq0, bI_eq1, bool_ft, pk_us, vnar0, vnar1, Bool.or_false, Bool.or_true, Bool.false_or, Bool.true_or, mj_kne, eq_self, Int32.reduceLT, Int32.reduceLE, Int32.reduceAdd, Int32.reduceSub, Int32.reduceMul, not_true_eq_false, not_false_eq_true, false_implies, true_implies, D_X3_mostPaid_0, D_X3_mostPaid_1, mj_F_aload_n_k, mj_F_bipush_n, mj_F_getfield_i, mj_F_goto_off, mj_F_iadd, mj_F_iaload, mj_F_iand, mj_F_iconst_n, mj_F_ifCond_eq_off, mj_F_if_icmp_ge_off, mj_F_if_icmp_ne_off, mj_F_iinc_k_n, mj_F_iload_k, mj_F_iload_n_k, mj_F_invokestatic_i, mj_F_ireturn, mj_F_ishl, mj_F_ishr, mj_F_istore_k, mj_F_istore_n_k, mj_F_ixor, mj_set, mj_set0, mj_unk, mj_c2, mj_kc, FT_X3, List.take_succ_cons, List.take_zero, List.drop_succ_cons, List.drop_zero, List.reverse_cons, List.reverse_nil, List.length_cons, List.length_nil, gS_C85, gCf3_1, gCf3_2, gS_C86, sS_Ca_86, gCf3_5, gS_C88, sS_Ca_88, gCf3_4, gS_C87, sS_Ca_87, J_X3_mostPaid]
  refine ⟨fun c => ?_, fun c => ?_⟩
  · replace hw := ok_t hw c
    exact hG.2 _ _ _ _ _ _ _ _ _ (by refine ⟨Or.inr rfl, ?_⟩; refine ⟨Or.inr rfl, ?_⟩; refine ⟨Or.inr rfl, ?_⟩; refine ⟨Or.inr rfl, ?_⟩; exact trivial) (Nat.zero_le _) (Nat.zero_le _) (hK0 _ (ok_some hw :) :)
  · replace hw := ok_f hw c
    refine ⟨fun c => ?_, fun c => ?_⟩
    · replace hw := ok_f hw c
      exact hG.2 _ _ _ _ _ _ _ _ _ (by refine ⟨Or.inr rfl, ?_⟩; refine ⟨Or.inr rfl, ?_⟩; refine ⟨Or.inr rfl, ?_⟩; refine ⟨Or.inr rfl, ?_⟩; refine ⟨Or.inr rfl, ?_⟩; exact trivial) (Nat.zero_le _) (Nat.zero_le _) (hP _ (ok_some hw :) :)
    · replace hw := ok_t hw c
      refine ⟨(ok_rd hw).1, ?_⟩
      replace hw := (ok_rd hw).2
      exact hG.2 _ _ _ _ _ _ _ _ _ (by refine ⟨Or.inr rfl, ?_⟩; refine ⟨Or.inr rfl, ?_⟩; refine ⟨Or.inr rfl, ?_⟩; refine ⟨Or.inr rfl, ?_⟩; refine ⟨Or.inr rfl, ?_⟩; exact trivial) (Nat.zero_le _) (Nat.zero_le _) (hP _ (ok_some hw :) :)

set_option maxHeartbeats 4000000 in
set_option maxRecDepth 20000 in
theorem b_X3_mostPaid_61 {k : Option Value → mj_H → Prop} {G : mj_K} (hG : mj_cl2 cX3_mostPaid (TbX3 5 ((some FieldType.int)) []) k G) (hM : mj_ml cX3_mostPaid yX3_mostPaid.cls G) {v1 : Int32} {v2 : Int32} {s : St} {P : Int32 × Int32 → Prop} {K : (Int32) → Prop} (hP : ∀ x, P x → G 61 [.ref 85, .int v1, .int v2, .int x.1, .int x.2] [] (mkCs s) 0 0) (hK0 : ∀ y, K y → G 102 [.ref 85, .int v1, .int v2, .int y] [] (mkCs s) 0 0) {v3 : Int32} {v4 : Int32} (hw : ok (B_X3_mostPaid_61 v1 v2 s (v3, v4)) (Sum.elim P K)) : G 61 [.ref 85, .int v1, .int v2, .int v3, .int v4] [] (mkCs s) 0 0 := by
  unfold B_X3_mostPaid_61 at hw
  refine mj_run hG.1 (fun pc => pc == 4 || pc == 19 || pc == 58 || pc == 61 || pc == 102 || pc == 113 || pc == 123) 4000 ?_
  simp only [mj_step, mj_W_s, mj_fin, List.getElem?_cons_zero, List.getElem?_cons_succ, mj_go, Nat.reduceAdd, Nat.reduceSub, Nat.reduceLT, Nat.reduceLeDiff, Nat.zero_add, Nat.reduceEqDiff, Nat.reduceBEq, ↓reduceIte, Bool.false_eq_true, List.append_nil, List.nil_append, List.cons_append, Option.toList, and_true, true_and, true_or, or_true, reduceCtorEq, List.map_nil, bI_eq0, bI_eq1, bool_ft, pk_us, vnar0, vnar1, Bool.or_false, Bool.or_true, Bool.false_or, Bool.true_or, mj_kne, eq_self, Int32.reduceLT, Int32.reduceLE, Int32.reduceAdd, Int32.reduceSub, Int32.reduceMul, not_true_eq_false, not_false_eq_true, false_implies, true_implies, D_X3_mostPaid_0, D_X3_mostPaid_1, mj_F_aload_n_k, mj_F_bipush_n, mj_F_getfield_i, mj_F_goto_off, mj_F_iadd, mj_F_iaload, mj_F_iand, mj_F_iconst_n, mj_F_ifCond_eq_off, mj_F_if_icmp_ge_off, mj_F_if_icmp_ne_off, mj_F_iinc_k_n, mj_F_iload_k, mj_F_iload_n_k, mj_F_invokestatic_i, mj_F_ireturn, mj_F_ishl, mj_F_ishr, mj_F_istore_k, mj_F_istore_n_k, mj_F_ixor, mj_set, mj_set0, mj_unk, mj_c2, mj_kc, FT_X3, List.take_succ_cons, List.take_zero, List.drop_succ_cons, List.drop_zero, List.reverse_cons, List.reverse_nil, List.length_cons, List.length_nil, gS_C85, gCf3_1, gCf3_2, gS_C86, sS_Ca_86, gCf3_5, gS_C88, sS_Ca_88, gCf3_4, gS_C87, sS_Ca_87, J_X3_mostPaid]
  refine ⟨fun c => ?_, fun c => ?_⟩
  · replace hw := ok_t hw c
    exact hG.2 _ _ _ _ _ _ _ _ _ (by refine ⟨Or.inr rfl, ?_⟩; refine ⟨Or.inr rfl, ?_⟩; refine ⟨Or.inr rfl, ?_⟩; refine ⟨Or.inr rfl, ?_⟩; exact trivial) (Nat.zero_le _) (Nat.zero_le _) (hK0 _ (ok_some hw :) :)
  · replace hw := ok_f hw c
    refine ⟨(ok_rd hw).1, ?_⟩
    replace hw := (ok_rd hw).2
    refine ⟨fun c => ?_, fun c => ?_⟩
    · replace hw := ok_t hw c
      exact hG.2 _ _ _ _ _ _ _ _ _ (by refine ⟨Or.inr rfl, ?_⟩; refine ⟨Or.inr rfl, ?_⟩; refine ⟨Or.inr rfl, ?_⟩; refine ⟨Or.inr rfl, ?_⟩; refine ⟨Or.inr rfl, ?_⟩; exact trivial) (Nat.zero_le _) (Nat.zero_le _) (hP _ (ok_some hw :) :)
    · replace hw := ok_f hw c
      refine ⟨(ok_rd hw).1, ?_⟩
      replace hw := (ok_rd hw).2
      exact hG.2 _ _ _ _ _ _ _ _ _ (by refine ⟨Or.inr rfl, ?_⟩; refine ⟨Or.inr rfl, ?_⟩; refine ⟨Or.inr rfl, ?_⟩; refine ⟨Or.inr rfl, ?_⟩; refine ⟨Or.inr rfl, ?_⟩; exact trivial) (Nat.zero_le _) (Nat.zero_le _) (hP _ (ok_some hw :) :)

set_option maxHeartbeats 4000000 in
set_option maxRecDepth 20000 in
theorem g_X3_mostPaid_102 {k : Option Value → mj_H → Prop} {G : mj_K} (hG : mj_cl2 cX3_mostPaid (TbX3 5 ((some FieldType.int)) []) k G) (hM : mj_ml cX3_mostPaid yX3_mostPaid.cls G) {s : St} {P : Int32 × Int32 → Prop} {K : (Int32) → Prop} (hP : ∀ x, P x → G 4 [.ref 85, .int x.1, .int x.2] [] (mkCs s) 0 0) (hK0 : ∀ y, K y → G 123 [mj_unk, .int y] [] (mkCs s) 0 0) {v1 : Int32} {v2 : Int32} {v3 : Int32} (hw : ok (F_X3_mostPaid_102 v1 v2 v3 s) (Sum.elim P K)) : G 102 [.ref 85, .int v1, .int v2, .int v3] [] (mkCs s) 0 0 := by
  unfold F_X3_mostPaid_102 at hw
  refine mj_run hG.1 (fun pc => pc == 4 || pc == 19 || pc == 58 || pc == 61 || pc == 102 || pc == 113 || pc == 123) 4000 ?_
  simp only [mj_step, mj_W_s, mj_fin, List.getElem?_cons_zero, List.getElem?_cons_succ, mj_go, Nat.reduceAdd, Nat.reduceSub, Nat.reduceLT, Nat.reduceLeDiff, Nat.zero_add, Nat.reduceEqDiff, Nat.reduceBEq, ↓reduceIte, Bool.false_eq_true, List.append_nil, List.nil_append, List.cons_append, Option.toList, and_true, true_and, true_or, or_true, reduceCtorEq, List.map_nil, bI_eq0, bI_eq1, bool_ft, pk_us, vnar0, vnar1, Bool.or_false, Bool.or_true, Bool.false_or, Bool.true_or, mj_kne, eq_self, Int32.reduceLT, Int32.reduceLE, Int32.reduceAdd, Int32.reduceSub, Int32.reduceMul, not_true_eq_false, not_false_eq_true, false_implies, true_implies, D_X3_mostPaid_0, D_X3_mostPaid_1, mj_F_aload_n_k, mj_F_bipush_n, mj_F_getfield_i, mj_F_goto_off, mj_F_iadd, mj_F_iaload, mj_F_iand, mj_F_iconst_n, mj_F_ifCond_eq_off, mj_F_if_icmp_ge_off, mj_F_if_icmp_ne_off, mj_F_iinc_k_n, mj_F_iload_k, mj_F_iload_n_k, mj_F_invokestatic_i, mj_F_ireturn, mj_F_ishl, mj_F_ishr, mj_F_istore_k, mj_F_istore_n_k, mj_F_ixor, mj_set, mj_set0, mj_unk, mj_c2, mj_kc, FT_X3, List.take_succ_cons, List.take_zero, List.drop_succ_cons, List.drop_zero, List.reverse_cons, List.reverse_nil, List.length_cons, List.length_nil, gS_C85, gCf3_1, gCf3_2, gS_C86, sS_Ca_86, gCf3_5, gS_C88, sS_Ca_88, gCf3_4, gS_C87, sS_Ca_87, J_X3_mostPaid]
  refine ⟨fun c => ?_, fun c => ?_⟩
  · replace hw := ok_f hw c
    refine hM 113 42 0 _ _ _ _ _ _ _ _ (by simp only [D_X3_mostPaid_0, D_X3_mostPaid_1]) (lkX3_42) rfl (Nat.le_of_ble_eq_true rfl) ?_
    refine mj_run hG.1 (fun pc => pc == 4 || pc == 19 || pc == 58 || pc == 61 || pc == 102 || pc == 113 || pc == 123) 4000 ?_
    simp only [mj_step, mj_W_s, mj_fin, List.getElem?_cons_zero, List.getElem?_cons_succ, mj_go, Nat.reduceAdd, Nat.reduceSub, Nat.reduceLT, Nat.reduceLeDiff, Nat.zero_add, Nat.reduceEqDiff, Nat.reduceBEq, ↓reduceIte, Bool.false_eq_true, List.append_nil, List.nil_append, List.cons_append, Option.toList, and_true, true_and, true_or, or_true, reduceCtorEq, List.map_nil, bI_eq0, bI_eq1, bool_ft, pk_us, vnar0, vnar1, Bool.or_false, Bool.or_true, Bool.false_or, Bool.true_or, mj_kne, eq_self, Int32.reduceLT, Int32.reduceLE, Int32.reduceAdd, Int32.reduceSub, Int32.reduceMul, not_true_eq_false, not_false_eq_true, false_implies, true_implies, D_X3_mostPaid_0, D_X3_mostPaid_1, mj_F_aload_n_k, mj_F_bipush_n, mj_F_getfield_i, mj_F_goto_off, mj_F_iadd, mj_F_iaload, mj_F_iand, mj_F_iconst_n, mj_F_ifCond_eq_off, mj_F_if_icmp_ge_off, mj_F_if_icmp_ne_off, mj_F_iinc_k_n, mj_F_iload_k, mj_F_iload_n_k, mj_F_invokestatic_i, mj_F_ireturn, mj_F_ishl, mj_F_ishr, mj_F_istore_k, mj_F_istore_n_k, mj_F_ixor, mj_set, mj_set0, mj_unk, mj_c2, mj_kc, FT_X3, List.take_succ_cons, List.take_zero, List.drop_succ_cons, List.drop_zero, List.reverse_cons, List.reverse_nil, List.length_cons, List.length_nil, gS_C85, gCf3_1, gCf3_2, gS_C86, sS_Ca_86, gCf3_5, gS_C88, sS_Ca_88, gCf3_4, gS_C87, sS_Ca_87, J_X3_mostPaid]
    exact hG.2 _ _ _ _ _ _ _ _ _ (by refine ⟨Or.inr rfl, ?_⟩; refine ⟨Or.inr rfl, ?_⟩; refine ⟨Or.inr rfl, ?_⟩; exact trivial) (Nat.zero_le _) (Nat.zero_le _) (hP _ (ok_some hw :) :)
  · replace hw := ok_t hw c
    exact hG.2 _ _ _ _ _ _ _ _ _ (by refine ⟨Or.inr rfl, ?_⟩; refine ⟨Or.inr rfl, ?_⟩; refine ⟨Or.inr rfl, ?_⟩; exact trivial) (Nat.zero_le _) (Nat.zero_le _) (hP _ (ok_some hw :) :)

set_option maxHeartbeats 4000000 in
theorem g_X3_mostPaid_61 {k : Option Value → mj_H → Prop} {G : mj_K} (hG : mj_cl2 cX3_mostPaid (TbX3 5 ((some FieldType.int)) []) k G) (hM : mj_ml cX3_mostPaid yX3_mostPaid.cls G) {s : St} {P : Int32 × Int32 → Prop} {K : (Int32) → Prop} (hP : ∀ x, P x → G 4 [.ref 85, .int x.1, .int x.2] [] (mkCs s) 0 0) (hK0 : ∀ y, K y → G 123 [mj_unk, .int y] [] (mkCs s) 0 0) {v1 : Int32} {v2 : Int32} {v3 : Int32} {v4 : Int32} (hw : ok (F_X3_mostPaid_61 v1 v2 v3 v4 s) (Sum.elim P K)) : G 61 [.ref 85, .int v1, .int v2, .int v3, .int v4] [] (mkCs s) 0 0 := by
  unfold F_X3_mostPaid_61 at hw
  refine lp_ok (B_X3_mostPaid_61 v1 v2 s) (fun x => G 61 [.ref 85, .int v1, .int v2, .int x.1, .int x.2] [] (mkCs s) 0 0) _ ?_ _ _ (ok_bind hw)
  rintro ⟨v3, v4⟩ hb
  exact b_X3_mostPaid_61 hG hM (fun _ z => z) (fun y hw => by exact hG.2 _ _ _ _ _ _ _ _ _ (by refine ⟨Or.inr rfl, ?_⟩; refine ⟨Or.inr rfl, ?_⟩; refine ⟨Or.inr rfl, ?_⟩; refine ⟨Or.inr rfl, ?_⟩; exact trivial) (Nat.zero_le _) (Nat.zero_le _) (g_X3_mostPaid_102 hG hM hP hK0  hw :)) hb

set_option maxHeartbeats 4000000 in
set_option maxRecDepth 20000 in
theorem g_X3_mostPaid_58 {k : Option Value → mj_H → Prop} {G : mj_K} (hG : mj_cl2 cX3_mostPaid (TbX3 5 ((some FieldType.int)) []) k G) (hM : mj_ml cX3_mostPaid yX3_mostPaid.cls G) {s : St} {P : Int32 × Int32 → Prop} {K : (Int32) → Prop} (hP : ∀ x, P x → G 4 [.ref 85, .int x.1, .int x.2] [] (mkCs s) 0 0) (hK0 : ∀ y, K y → G 123 [mj_unk, .int y] [] (mkCs s) 0 0) {v1 : Int32} {v2 : Int32} {v3 : Int32} (hw : ok (F_X3_mostPaid_58 v1 v2 v3 s) (Sum.elim P K)) : G 58 [.ref 85, .int v1, .int v2, .int v3] [] (mkCs s) 0 0 := by
  unfold F_X3_mostPaid_58 at hw
  refine mj_run hG.1 (fun pc => pc == 4 || pc == 19 || pc == 58 || pc == 61 || pc == 102 || pc == 113 || pc == 123) 4000 ?_
  simp only [mj_step, mj_W_s, mj_fin, List.getElem?_cons_zero, List.getElem?_cons_succ, mj_go, Nat.reduceAdd, Nat.reduceSub, Nat.reduceLT, Nat.reduceLeDiff, Nat.zero_add, Nat.reduceEqDiff, Nat.reduceBEq, ↓reduceIte, Bool.false_eq_true, List.append_nil, List.nil_append, List.cons_append, Option.toList, and_true, true_and, true_or, or_true, reduceCtorEq, List.map_nil, bI_eq0, bI_eq1, bool_ft, pk_us, vnar0, vnar1, Bool.or_false, Bool.or_true, Bool.false_or, Bool.true_or, mj_kne, eq_self, Int32.reduceLT, Int32.reduceLE, Int32.reduceAdd, Int32.reduceSub, Int32.reduceMul, not_true_eq_false, not_false_eq_true, false_implies, true_implies, D_X3_mostPaid_0, D_X3_mostPaid_1, mj_F_aload_n_k, mj_F_bipush_n, mj_F_getfield_i, mj_F_goto_off, mj_F_iadd, mj_F_iaload, mj_F_iand, mj_F_iconst_n, mj_F_ifCond_eq_off, mj_F_if_icmp_ge_off, mj_F_if_icmp_ne_off, mj_F_iinc_k_n, mj_F_iload_k, mj_F_iload_n_k, mj_F_invokestatic_i, mj_F_ireturn, mj_F_ishl, mj_F_ishr, mj_F_istore_k, mj_F_istore_n_k, mj_F_ixor, mj_set, mj_set0, mj_unk, mj_c2, mj_kc, FT_X3, List.take_succ_cons, List.take_zero, List.drop_succ_cons, List.drop_zero, List.reverse_cons, List.reverse_nil, List.length_cons, List.length_nil, gS_C85, gCf3_1, gCf3_2, gS_C86, sS_Ca_86, gCf3_5, gS_C88, sS_Ca_88, gCf3_4, gS_C87, sS_Ca_87, J_X3_mostPaid]
  exact hG.2 _ _ _ _ _ _ _ _ _ (by refine ⟨Or.inr rfl, ?_⟩; refine ⟨Or.inr rfl, ?_⟩; refine ⟨Or.inr rfl, ?_⟩; refine ⟨Or.inr rfl, ?_⟩; refine ⟨Or.inr rfl, ?_⟩; exact trivial) (Nat.zero_le _) (Nat.zero_le _) (g_X3_mostPaid_61 hG hM hP hK0  hw :)

set_option maxHeartbeats 4000000 in
theorem g_X3_mostPaid_19 {k : Option Value → mj_H → Prop} {G : mj_K} (hG : mj_cl2 cX3_mostPaid (TbX3 5 ((some FieldType.int)) []) k G) (hM : mj_ml cX3_mostPaid yX3_mostPaid.cls G) {s : St} {P : Int32 × Int32 → Prop} {K : (Int32) → Prop} (hP : ∀ x, P x → G 4 [.ref 85, .int x.1, .int x.2] [] (mkCs s) 0 0) (hK0 : ∀ y, K y → G 123 [mj_unk, .int y] [] (mkCs s) 0 0) {v1 : Int32} {v2 : Int32} {v3 : Int32} {v4 : Int32} (hw : ok (F_X3_mostPaid_19 v1 v2 v3 v4 s) (Sum.elim P K)) : G 19 [.ref 85, .int v1, .int v2, .int v3, .int v4] [] (mkCs s) 0 0 := by
  unfold F_X3_mostPaid_19 at hw
  refine lp_ok (B_X3_mostPaid_19 v1 v2 s) (fun x => G 19 [.ref 85, .int v1, .int v2, .int x.1, .int x.2] [] (mkCs s) 0 0) _ ?_ _ _ (ok_bind hw)
  rintro ⟨v3, v4⟩ hb
  exact b_X3_mostPaid_19 hG hM (fun _ z => z) (fun y hw => by exact hG.2 _ _ _ _ _ _ _ _ _ (by refine ⟨Or.inr rfl, ?_⟩; refine ⟨Or.inr rfl, ?_⟩; refine ⟨Or.inr rfl, ?_⟩; refine ⟨Or.inr rfl, ?_⟩; exact trivial) (Nat.zero_le _) (Nat.zero_le _) (g_X3_mostPaid_58 hG hM hP hK0  hw :)) hb

set_option maxHeartbeats 4000000 in
set_option maxRecDepth 20000 in
theorem b_X3_mostPaid_4 {k : Option Value → mj_H → Prop} {G : mj_K} (hG : mj_cl2 cX3_mostPaid (TbX3 5 ((some FieldType.int)) []) k G) (hM : mj_ml cX3_mostPaid yX3_mostPaid.cls G) {s : St} {P : Int32 × Int32 → Prop} {K : (Int32) → Prop} (hP : ∀ x, P x → G 4 [.ref 85, .int x.1, .int x.2] [] (mkCs s) 0 0) (hK0 : ∀ y, K y → G 123 [mj_unk, .int y] [] (mkCs s) 0 0) {v1 : Int32} {v2 : Int32} (hw : ok (B_X3_mostPaid_4 s (v1, v2)) (Sum.elim P K)) : G 4 [.ref 85, .int v1, .int v2] [] (mkCs s) 0 0 := by
  unfold B_X3_mostPaid_4 at hw
  refine mj_run hG.1 (fun pc => pc == 4 || pc == 19 || pc == 58 || pc == 61 || pc == 102 || pc == 113 || pc == 123) 4000 ?_
  simp only [mj_step, mj_W_s, mj_fin, List.getElem?_cons_zero, List.getElem?_cons_succ, mj_go, Nat.reduceAdd, Nat.reduceSub, Nat.reduceLT, Nat.reduceLeDiff, Nat.zero_add, Nat.reduceEqDiff, Nat.reduceBEq, ↓reduceIte, Bool.false_eq_true, List.append_nil, List.nil_append, List.cons_append, Option.toList, and_true, true_and, true_or, or_true, reduceCtorEq, List.map_nil, bI_eq0, bI_eq1, bool_ft, pk_us, vnar0, vnar1, Bool.or_false, Bool.or_true, Bool.false_or, Bool.true_or, mj_kne, eq_self, Int32.reduceLT, Int32.reduceLE, Int32.reduceAdd, Int32.reduceSub, Int32.reduceMul, not_true_eq_false, not_false_eq_true, false_implies, true_implies, D_X3_mostPaid_0, D_X3_mostPaid_1, mj_F_aload_n_k, mj_F_bipush_n, mj_F_getfield_i, mj_F_goto_off, mj_F_iadd, mj_F_iaload, mj_F_iand, mj_F_iconst_n, mj_F_ifCond_eq_off, mj_F_if_icmp_ge_off, mj_F_if_icmp_ne_off, mj_F_iinc_k_n, mj_F_iload_k, mj_F_iload_n_k, mj_F_invokestatic_i, mj_F_ireturn, mj_F_ishl, mj_F_ishr, mj_F_istore_k, mj_F_istore_n_k, mj_F_ixor, mj_set, mj_set0, mj_unk, mj_c2, mj_kc, FT_X3, List.take_succ_cons, List.take_zero, List.drop_succ_cons, List.drop_zero, List.reverse_cons, List.reverse_nil, List.length_cons, List.length_nil, gS_C85, gCf3_1, gCf3_2, gS_C86, sS_Ca_86, gCf3_5, gS_C88, sS_Ca_88, gCf3_4, gS_C87, sS_Ca_87, J_X3_mostPaid]
  refine ⟨fun c => ?_, fun c => ?_⟩
  · replace hw := ok_t hw c
    exact hG.2 _ _ _ _ _ _ _ _ _ (by refine ⟨Or.inl rfl, ?_⟩; refine ⟨Or.inr rfl, ?_⟩; exact trivial) (Nat.zero_le _) (Nat.zero_le _) (hK0 _ (ok_some hw :) :)
  · replace hw := ok_f hw c
    exact hG.2 _ _ _ _ _ _ _ _ _ (by refine ⟨Or.inr rfl, ?_⟩; refine ⟨Or.inr rfl, ?_⟩; refine ⟨Or.inr rfl, ?_⟩; refine ⟨Or.inr rfl, ?_⟩; refine ⟨Or.inr rfl, ?_⟩; exact trivial) (Nat.zero_le _) (Nat.zero_le _) (g_X3_mostPaid_19 hG hM hP hK0  hw :)

set_option maxHeartbeats 4000000 in
set_option maxRecDepth 20000 in
theorem g_X3_mostPaid_123 {k : Option Value → mj_H → Prop} {G : mj_K} (hG : mj_cl2 cX3_mostPaid (TbX3 5 ((some FieldType.int)) []) k G) (hM : mj_ml cX3_mostPaid yX3_mostPaid.cls G)   {v1 : Int32} {s : St} (hw : ok (F_X3_mostPaid_123 v1 s) (fun p => k (some (.int p)) (mkCs s))) : G 123 [mj_unk, .int v1] [] (mkCs s) 0 0 := by
  unfold F_X3_mostPaid_123 at hw
  refine mj_run hG.1 (fun pc => pc == 4 || pc == 19 || pc == 58 || pc == 61 || pc == 102 || pc == 113 || pc == 123) 4000 ?_
  simp only [mj_step, mj_W_s, mj_fin, List.getElem?_cons_zero, List.getElem?_cons_succ, mj_go, Nat.reduceAdd, Nat.reduceSub, Nat.reduceLT, Nat.reduceLeDiff, Nat.zero_add, Nat.reduceEqDiff, Nat.reduceBEq, ↓reduceIte, Bool.false_eq_true, List.append_nil, List.nil_append, List.cons_append, Option.toList, and_true, true_and, true_or, or_true, reduceCtorEq, List.map_nil, bI_eq0, bI_eq1, bool_ft, pk_us, vnar0, vnar1, Bool.or_false, Bool.or_true, Bool.false_or, Bool.true_or, mj_kne, eq_self, Int32.reduceLT, Int32.reduceLE, Int32.reduceAdd, Int32.reduceSub, Int32.reduceMul, not_true_eq_false, not_false_eq_true, false_implies, true_implies, D_X3_mostPaid_0, D_X3_mostPaid_1, mj_F_aload_n_k, mj_F_bipush_n, mj_F_getfield_i, mj_F_goto_off, mj_F_iadd, mj_F_iaload, mj_F_iand, mj_F_iconst_n, mj_F_ifCond_eq_off, mj_F_if_icmp_ge_off, mj_F_if_icmp_ne_off, mj_F_iinc_k_n, mj_F_iload_k, mj_F_iload_n_k, mj_F_invokestatic_i, mj_F_ireturn, mj_F_ishl, mj_F_ishr, mj_F_istore_k, mj_F_istore_n_k, mj_F_ixor, mj_set, mj_set0, mj_unk, mj_c2, mj_kc, FT_X3, List.take_succ_cons, List.take_zero, List.drop_succ_cons, List.drop_zero, List.reverse_cons, List.reverse_nil, List.length_cons, List.length_nil, gS_C85, gCf3_1, gCf3_2, gS_C86, sS_Ca_86, gCf3_5, gS_C88, sS_Ca_88, gCf3_4, gS_C87, sS_Ca_87, J_X3_mostPaid]
  exact (ok_some hw :)

set_option maxHeartbeats 4000000 in
theorem g_X3_mostPaid_4 {k : Option Value → mj_H → Prop} {G : mj_K} (hG : mj_cl2 cX3_mostPaid (TbX3 5 ((some FieldType.int)) []) k G) (hM : mj_ml cX3_mostPaid yX3_mostPaid.cls G)   {v1 : Int32} {v2 : Int32} {s : St} (hw : ok (F_X3_mostPaid_4 v1 v2 s) (fun p => k (some (.int p)) (mkCs s))) : G 4 [.ref 85, .int v1, .int v2] [] (mkCs s) 0 0 := by
  unfold F_X3_mostPaid_4 at hw
  refine lp_ok (B_X3_mostPaid_4 s) (fun x => G 4 [.ref 85, .int x.1, .int x.2] [] (mkCs s) 0 0) _ ?_ _ _ (ok_bind hw)
  rintro ⟨v1, v2⟩ hb
  exact b_X3_mostPaid_4 hG hM (fun _ z => z) (fun y hw => by exact hG.2 _ _ _ _ _ _ _ _ _ (by refine ⟨Or.inl rfl, ?_⟩; refine ⟨Or.inr rfl, ?_⟩; exact trivial) (Nat.zero_le _) (Nat.zero_le _) (g_X3_mostPaid_123 hG hM  hw :)) hb

set_option maxHeartbeats 4000000 in
set_option maxRecDepth 20000 in
theorem g_X3_mostPaid {k : Option Value → mj_H → Prop} {G : mj_K} (hG : mj_cl2 cX3_mostPaid (TbX3 5 ((some FieldType.int)) []) k G) (hM : mj_ml cX3_mostPaid yX3_mostPaid.cls G) {s : St} (hw : ok (F_X3_mostPaid s) (fun p => k (some (.int p)) (mkCs s))) : G 0 [.ref 85] [] (mkCs s) 0 0 := by
  unfold F_X3_mostPaid at hw
  refine mj_run hG.1 (fun pc => pc == 4 || pc == 19 || pc == 58 || pc == 61 || pc == 102 || pc == 113 || pc == 123) 4000 ?_
  simp only [mj_step, mj_W_s, mj_fin, List.getElem?_cons_zero, List.getElem?_cons_succ, mj_go, Nat.reduceAdd, Nat.reduceSub, Nat.reduceLT, Nat.reduceLeDiff, Nat.zero_add, Nat.reduceEqDiff, Nat.reduceBEq, ↓reduceIte, Bool.false_eq_true, List.append_nil, List.nil_append, List.cons_append, Option.toList, and_true, true_and, true_or, or_true, reduceCtorEq, List.map_nil, bI_eq0, bI_eq1, bool_ft, pk_us, vnar0, vnar1, Bool.or_false, Bool.or_true, Bool.false_or, Bool.true_or, mj_kne, eq_self, Int32.reduceLT, Int32.reduceLE, Int32.reduceAdd, Int32.reduceSub, Int32.reduceMul, not_true_eq_false, not_false_eq_true, false_implies, true_implies, D_X3_mostPaid_0, D_X3_mostPaid_1, mj_F_aload_n_k, mj_F_bipush_n, mj_F_getfield_i, mj_F_goto_off, mj_F_iadd, mj_F_iaload, mj_F_iand, mj_F_iconst_n, mj_F_ifCond_eq_off, mj_F_if_icmp_ge_off, mj_F_if_icmp_ne_off, mj_F_iinc_k_n, mj_F_iload_k, mj_F_iload_n_k, mj_F_invokestatic_i, mj_F_ireturn, mj_F_ishl, mj_F_ishr, mj_F_istore_k, mj_F_istore_n_k, mj_F_ixor, mj_set, mj_set0, mj_unk, mj_c2, mj_kc, FT_X3, List.take_succ_cons, List.take_zero, List.drop_succ_cons, List.drop_zero, List.reverse_cons, List.reverse_nil, List.length_cons, List.length_nil, gS_C85, gCf3_1, gCf3_2, gS_C86, sS_Ca_86, gCf3_5, gS_C88, sS_Ca_88, gCf3_4, gS_C87, sS_Ca_87, J_X3_mostPaid]
  exact hG.2 _ _ _ _ _ _ _ _ _ (by refine ⟨Or.inr rfl, ?_⟩; refine ⟨Or.inr rfl, ?_⟩; refine ⟨Or.inr rfl, ?_⟩; exact trivial) (Nat.zero_le _) (Nat.zero_le _) (g_X3_mostPaid_4 hG hM  hw :)

def c_X3_mostPaid : mj_S := fun as h k => ∃ (s : St), as = [.ref 85] ∧ h = mkCs s ∧ ok (F_X3_mostPaid s) (fun p => k (some (.int p)) (mkCs s))
theorem c_X3_mostPaid_in {s : St} {k : Option Value → mj_H → Prop} (hw : ok (F_X3_mostPaid s) (fun p => k (some (.int p)) (mkCs s))) : c_X3_mostPaid [.ref 85] (mkCs s) k := ⟨s, rfl, rfl, hw⟩
theorem m_X3_mostPaid (l : Launch) : mj_Met l yX3_mostPaid cX3_mostPaid 5 ((some FieldType.int)) 1 0 0 c_X3_mostPaid := by
  refine mj_body3 false (TbX3 5 ((some FieldType.int)) []) (by decide) (by decide) rfl rfl (fun h => nomatch h) (tfX3 _ (fun _ h => nomatch h)) ?_
  rintro as h k ⟨s, rfl, rfl, hw⟩
  exact ⟨rfl, fun G hG hM => g_X3_mostPaid hG hM hw⟩
def B_X3_paidByNobody_4 (s : St) : Int32 × Int32 → Option ((Int32 × Int32) ⊕ ((Int32)))
  | (v1, v2) =>
  if 8 ≤ v2 then
    some (.inr v1)
  else
    (rd s 305 8 v2).bind fun x1 =>
    if x1 = 0 then
      (rd s 304 8 v2).bind fun x2 =>
      some (.inl ((v1 + x2), (v2 + 1)))
    else
      some (.inl ((v1 + 0), (v2 + 1)))
def F_X3_paidByNobody_38 (v1 : Int32) (s : St) : Option (Int32) :=
  some v1
def F_X3_paidByNobody_4 (v1 : Int32) (v2 : Int32) (s : St) : Option (Int32) :=
  (lp (B_X3_paidByNobody_4 s) FU (v1, v2)).bind (fun y => F_X3_paidByNobody_38 y s)
def F_X3_paidByNobody (s : St) : Option (Int32) :=
  F_X3_paidByNobody_4 0 0 s
theorem J_X3_paidByNobody : mj_t 7 31 = 38 ∧ mj_t 17 12 = 29 ∧ mj_t 26 4 = 30 ∧ mj_t 35 (-31) = 4 ∧ (0 ≤ ((7 : Nat) : Int) + 31) = True ∧ (0 ≤ ((17 : Nat) : Int) + 12) = True ∧ (0 ≤ ((26 : Nat) : Int) + 4) = True ∧ (0 ≤ ((35 : Nat) : Int) + (-31)) = True := by and_intros <;> first | rfl | exact eq_true (by decide)
set_option maxHeartbeats 4000000 in
set_option maxRecDepth 20000 in
theorem b_X3_paidByNobody_4 {k : Option Value → mj_H → Prop} {G : mj_K} (hG : mj_cl2 cX3_paidByNobody (TbX3 3 ((some FieldType.int)) []) k G) {s : St} {P : Int32 × Int32 → Prop} {K : (Int32) → Prop} (hP : ∀ x, P x → G 4 [.ref 85, .int x.1, .int x.2] [] (mkCs s) 0 0) (hK0 : ∀ y, K y → G 38 [mj_unk, .int y] [] (mkCs s) 0 0) {v1 : Int32} {v2 : Int32} (hw : ok (B_X3_paidByNobody_4 s (v1, v2)) (Sum.elim P K)) : G 4 [.ref 85, .int v1, .int v2] [] (mkCs s) 0 0 := by
  unfold B_X3_paidByNobody_4 at hw
  refine mj_run hG.1 (fun pc => pc == 4 || pc == 38) 4000 ?_
  simp only [mj_step, mj_W_s, mj_fin, List.getElem?_cons_zero, List.getElem?_cons_succ, mj_go, Nat.reduceAdd, Nat.reduceSub, Nat.reduceLT, Nat.reduceLeDiff, Nat.zero_add, Nat.reduceEqDiff, Nat.reduceBEq, ↓reduceIte, Bool.false_eq_true, List.append_nil, List.nil_append, List.cons_append, Option.toList, and_true, true_and, true_or, or_true, reduceCtorEq, List.map_nil, bI_eq0, bI_eq1, bool_ft, pk_us, vnar0, vnar1, Bool.or_false, Bool.or_true, Bool.false_or, Bool.true_or, mj_kne, eq_self, Int32.reduceLT, Int32.reduceLE, Int32.reduceAdd, Int32.reduceSub, Int32.reduceMul, not_true_eq_false, not_false_eq_true, false_implies, true_implies, D_X3_paidByNobody, mj_F_aload_n_k, mj_F_bipush_n, mj_F_getfield_i, mj_F_goto_off, mj_F_iadd, mj_F_iaload, mj_F_iconst_n, mj_F_ifCond_ne_off, mj_F_if_icmp_ge_off, mj_F_iinc_k_n, mj_F_iload_n_k, mj_F_ireturn, mj_F_istore_n_k, mj_set, mj_set0, mj_unk, mj_c2, mj_kc, FT_X3, gS_C85, gCf3_5, gS_C88, sS_Ca_88, gCf3_4, gS_C87, sS_Ca_87, J_X3_paidByNobody]
  refine ⟨fun c => ?_, fun c => ?_⟩
  · replace hw := ok_t hw c
    exact hG.2 _ _ _ _ _ _ _ _ _ (by refine ⟨Or.inl rfl, ?_⟩; refine ⟨Or.inr rfl, ?_⟩; exact trivial) (Nat.zero_le _) (Nat.zero_le _) (hK0 _ (ok_some hw :) :)
  · replace hw := ok_f hw c
    refine ⟨(ok_rd hw).1, ?_⟩
    replace hw := (ok_rd hw).2
    refine ⟨fun c => ?_, fun c => ?_⟩
    · replace hw := ok_f hw c
      exact hG.2 _ _ _ _ _ _ _ _ _ (by refine ⟨Or.inr rfl, ?_⟩; refine ⟨Or.inr rfl, ?_⟩; refine ⟨Or.inr rfl, ?_⟩; exact trivial) (Nat.zero_le _) (Nat.zero_le _) (hP _ (ok_some hw :) :)
    · replace hw := ok_t hw c
      refine ⟨(ok_rd hw).1, ?_⟩
      replace hw := (ok_rd hw).2
      exact hG.2 _ _ _ _ _ _ _ _ _ (by refine ⟨Or.inr rfl, ?_⟩; refine ⟨Or.inr rfl, ?_⟩; refine ⟨Or.inr rfl, ?_⟩; exact trivial) (Nat.zero_le _) (Nat.zero_le _) (hP _ (ok_some hw :) :)

set_option maxHeartbeats 4000000 in
set_option maxRecDepth 20000 in
theorem g_X3_paidByNobody_38 {k : Option Value → mj_H → Prop} {G : mj_K} (hG : mj_cl2 cX3_paidByNobody (TbX3 3 ((some FieldType.int)) []) k G)   {v1 : Int32} {s : St} (hw : ok (F_X3_paidByNobody_38 v1 s) (fun p => k (some (.int p)) (mkCs s))) : G 38 [mj_unk, .int v1] [] (mkCs s) 0 0 := by
  unfold F_X3_paidByNobody_38 at hw
  refine mj_run hG.1 (fun pc => pc == 4 || pc == 38) 4000 ?_
  simp only [mj_step, mj_W_s, mj_fin, List.getElem?_cons_zero, List.getElem?_cons_succ, mj_go, Nat.reduceAdd, Nat.reduceSub, Nat.reduceLT, Nat.reduceLeDiff, Nat.zero_add, Nat.reduceEqDiff, Nat.reduceBEq, ↓reduceIte, Bool.false_eq_true, List.append_nil, List.nil_append, List.cons_append, Option.toList, and_true, true_and, true_or, or_true, reduceCtorEq, List.map_nil, bI_eq0, bI_eq1, bool_ft, pk_us, vnar0, vnar1, Bool.or_false, Bool.or_true, Bool.false_or, Bool.true_or, mj_kne, eq_self, Int32.reduceLT, Int32.reduceLE, Int32.reduceAdd, Int32.reduceSub, Int32.reduceMul, not_true_eq_false, not_false_eq_true, false_implies, true_implies, D_X3_paidByNobody, mj_F_aload_n_k, mj_F_bipush_n, mj_F_getfield_i, mj_F_goto_off, mj_F_iadd, mj_F_iaload, mj_F_iconst_n, mj_F_ifCond_ne_off, mj_F_if_icmp_ge_off, mj_F_iinc_k_n, mj_F_iload_n_k, mj_F_ireturn, mj_F_istore_n_k, mj_set, mj_set0, mj_unk, mj_c2, mj_kc, FT_X3, gS_C85, gCf3_5, gS_C88, sS_Ca_88, gCf3_4, gS_C87, sS_Ca_87, J_X3_paidByNobody]
  exact (ok_some hw :)

set_option maxHeartbeats 4000000 in
theorem g_X3_paidByNobody_4 {k : Option Value → mj_H → Prop} {G : mj_K} (hG : mj_cl2 cX3_paidByNobody (TbX3 3 ((some FieldType.int)) []) k G)   {v1 : Int32} {v2 : Int32} {s : St} (hw : ok (F_X3_paidByNobody_4 v1 v2 s) (fun p => k (some (.int p)) (mkCs s))) : G 4 [.ref 85, .int v1, .int v2] [] (mkCs s) 0 0 := by
  unfold F_X3_paidByNobody_4 at hw
  refine lp_ok (B_X3_paidByNobody_4 s) (fun x => G 4 [.ref 85, .int x.1, .int x.2] [] (mkCs s) 0 0) _ ?_ _ _ (ok_bind hw)
  rintro ⟨v1, v2⟩ hb
  exact b_X3_paidByNobody_4 hG (fun _ z => z) (fun y hw => by exact hG.2 _ _ _ _ _ _ _ _ _ (by refine ⟨Or.inl rfl, ?_⟩; refine ⟨Or.inr rfl, ?_⟩; exact trivial) (Nat.zero_le _) (Nat.zero_le _) (g_X3_paidByNobody_38 hG  hw :)) hb

set_option maxHeartbeats 4000000 in
set_option maxRecDepth 20000 in
theorem g_X3_paidByNobody {k : Option Value → mj_H → Prop} {G : mj_K} (hG : mj_cl2 cX3_paidByNobody (TbX3 3 ((some FieldType.int)) []) k G) {s : St} (hw : ok (F_X3_paidByNobody s) (fun p => k (some (.int p)) (mkCs s))) : G 0 [.ref 85] [] (mkCs s) 0 0 := by
  unfold F_X3_paidByNobody at hw
  refine mj_run hG.1 (fun pc => pc == 4 || pc == 38) 4000 ?_
  simp only [mj_step, mj_W_s, mj_fin, List.getElem?_cons_zero, List.getElem?_cons_succ, mj_go, Nat.reduceAdd, Nat.reduceSub, Nat.reduceLT, Nat.reduceLeDiff, Nat.zero_add, Nat.reduceEqDiff, Nat.reduceBEq, ↓reduceIte, Bool.false_eq_true, List.append_nil, List.nil_append, List.cons_append, Option.toList, and_true, true_and, true_or, or_true, reduceCtorEq, List.map_nil, bI_eq0, bI_eq1, bool_ft, pk_us, vnar0, vnar1, Bool.or_false, Bool.or_true, Bool.false_or, Bool.true_or, mj_kne, eq_self, Int32.reduceLT, Int32.reduceLE, Int32.reduceAdd, Int32.reduceSub, Int32.reduceMul, not_true_eq_false, not_false_eq_true, false_implies, true_implies, D_X3_paidByNobody, mj_F_aload_n_k, mj_F_bipush_n, mj_F_getfield_i, mj_F_goto_off, mj_F_iadd, mj_F_iaload, mj_F_iconst_n, mj_F_ifCond_ne_off, mj_F_if_icmp_ge_off, mj_F_iinc_k_n, mj_F_iload_n_k, mj_F_ireturn, mj_F_istore_n_k, mj_set, mj_set0, mj_unk, mj_c2, mj_kc, FT_X3, gS_C85, gCf3_5, gS_C88, sS_Ca_88, gCf3_4, gS_C87, sS_Ca_87, J_X3_paidByNobody]
  exact hG.2 _ _ _ _ _ _ _ _ _ (by refine ⟨Or.inr rfl, ?_⟩; refine ⟨Or.inr rfl, ?_⟩; refine ⟨Or.inr rfl, ?_⟩; exact trivial) (Nat.zero_le _) (Nat.zero_le _) (g_X3_paidByNobody_4 hG  hw :)

def c_X3_paidByNobody : mj_S := fun as h k => ∃ (s : St), as = [.ref 85] ∧ h = mkCs s ∧ ok (F_X3_paidByNobody s) (fun p => k (some (.int p)) (mkCs s))
theorem c_X3_paidByNobody_in {s : St} {k : Option Value → mj_H → Prop} (hw : ok (F_X3_paidByNobody s) (fun p => k (some (.int p)) (mkCs s))) : c_X3_paidByNobody [.ref 85] (mkCs s) k := ⟨s, rfl, rfl, hw⟩
theorem m_X3_paidByNobody (l : Launch) : mj_Met l yX3_paidByNobody cX3_paidByNobody 3 ((some FieldType.int)) 0 0 0 c_X3_paidByNobody := by
  refine mj_body2 false (TbX3 3 ((some FieldType.int)) []) (by decide) rfl rfl (fun h => nomatch h) (tfX3 _ (fun _ h => nomatch h)) ?_
  rintro as h k ⟨s, rfl, rfl, hw⟩
  exact ⟨rfl, fun G hG => g_X3_paidByNobody hG hw⟩
def F_X11_paid (v1 : Int32) (v2 : Int32) (s : St) : Option (Int32 × St) :=
  if inb v1 0 11 = false then
    some ((-1), s)
  else
    if inb v2 0 1 = false then
      some ((-1), s)
    else
      (F_X3_ask v1 (s.1 1100) s).bind fun s1 =>
      if v2 = 0 then
        (F_X3_mostPaid s1).bind fun r3 =>
        some (r3, s1)
      else
        (F_X3_paidByNobody s1).bind fun r2 =>
        some (r2, s1)
theorem J_X11_paid : mj_t 4 12 = 16 ∧ mj_t 13 5 = 18 ∧ mj_t 31 13 = 44 ∧ mj_t 41 10 = 51 ∧ (0 ≤ ((4 : Nat) : Int) + 12) = True ∧ (0 ≤ ((13 : Nat) : Int) + 5) = True ∧ (0 ≤ ((31 : Nat) : Int) + 13) = True ∧ (0 ≤ ((41 : Nat) : Int) + 10) = True := by and_intros <;> first | rfl | exact eq_true (by decide)
def ct_X11_paid : List (Nat × mj_Cs) := [(96, 2, 3, 11, 0, 0, c_in), (141, 2, 1, 11, 0, 0, c_isYear), (376, 0, 3, 3, 0, 0, c_X3_ask), (379, 0, 1, 3, 0, 0, c_X3_mostPaid), (382, 0, 1, 3, 0, 0, c_X3_paidByNobody)]
theorem L_X11_paid : mj_lk ct_X11_paid 96 = some (2, 3, 11, 0, 0, c_in) ∧ mj_lk ct_X11_paid 141 = some (2, 1, 11, 0, 0, c_isYear) ∧ mj_lk ct_X11_paid 376 = some (0, 3, 3, 0, 0, c_X3_ask) ∧ mj_lk ct_X11_paid 379 = some (0, 1, 3, 0, 0, c_X3_mostPaid) ∧ mj_lk ct_X11_paid 382 = some (0, 1, 3, 0, 0, c_X3_paidByNobody) := ⟨rfl, rfl, rfl, rfl, rfl⟩
set_option maxHeartbeats 4000000 in
set_option maxRecDepth 20000 in
theorem g_X11_paid {k : Option Value → mj_H → Prop} {G : mj_K} (hG : mj_cl2 cX11_paid (TbX11 3 ((some FieldType.int)) ct_X11_paid) k G) {v1 : Int32} {v2 : Int32} {s : St} (hw : ok (F_X11_paid v1 v2 s) (fun p => k (some (.int p.1)) (mkCs p.2))) : G 0 [.ref 0, .int v1, .int v2] [] (mkCs s) 0 0 := by
  unfold F_X11_paid at hw
  refine mj_run hG.1 (fun pc => pc == 30 || pc == 41 || pc == 51) 4000 ?_
  simp only [mj_step, mj_W_s, mj_fin, List.getElem?_cons_zero, List.getElem?_cons_succ, mj_go, Nat.reduceAdd, Nat.reduceSub, Nat.reduceLT, Nat.reduceLeDiff, Nat.zero_add, Nat.reduceEqDiff, Nat.reduceBEq, ↓reduceIte, Bool.false_eq_true, List.append_nil, List.nil_append, List.cons_append, Option.toList, and_true, true_and, true_or, or_true, reduceCtorEq, List.map_nil, bI_eq0, bI_eq1, bool_ft, pk_us, vnar0, vnar1, Bool.or_false, Bool.or_true, Bool.false_or, Bool.true_or, mj_kne, eq_self, Int32.reduceLT, Int32.reduceLE, Int32.reduceAdd, Int32.reduceSub, Int32.reduceMul, not_true_eq_false, not_false_eq_true, false_implies, true_implies, D_X11_paid, mj_F_aload_n_k, mj_F_getfield_i, mj_F_goto_off, mj_F_iconst_n, mj_F_ifCond_eq_off, mj_F_ifCond_ne_off, mj_F_iload_n_k, mj_F_invokestatic_i, mj_F_invokevirtual_i, mj_F_ireturn, mj_kc, FT_X11, L_X11_paid, List.take_succ_cons, List.take_zero, List.drop_succ_cons, List.drop_zero, List.reverse_cons, List.reverse_nil, List.length_cons, List.length_nil, gS_C0, gCf11_11, gCf11_0, c_isYear_eq, c_in_eq, gS_C85, J_X11_paid]
  refine ⟨fun c => ?_, fun c => ?_⟩
  · replace hw := ok_t hw c
    exact (ok_some hw :)
  · replace hw := ok_f hw c
    refine ⟨fun c => ?_, fun c => ?_⟩
    · replace hw := ok_f hw c
      refine c_X3_ask_in (ok_imp (ok_bind hw) ?_)
      intro p hw
      simp only [Option.toList, List.nil_append, List.cons_append, Nat.reduceSub]
      refine mj_run hG.1 (fun pc => pc == 30 || pc == 41 || pc == 51) 4000 ?_
      simp only [mj_step, mj_W_s, mj_fin, List.getElem?_cons_zero, List.getElem?_cons_succ, mj_go, Nat.reduceAdd, Nat.reduceSub, Nat.reduceLT, Nat.reduceLeDiff, Nat.zero_add, Nat.reduceEqDiff, Nat.reduceBEq, ↓reduceIte, Bool.false_eq_true, List.append_nil, List.nil_append, List.cons_append, Option.toList, and_true, true_and, true_or, or_true, reduceCtorEq, List.map_nil, bI_eq0, bI_eq1, bool_ft, pk_us, vnar0, vnar1, Bool.or_false, Bool.or_true, Bool.false_or, Bool.true_or, mj_kne, eq_self, Int32.reduceLT, Int32.reduceLE, Int32.reduceAdd, Int32.reduceSub, Int32.reduceMul, not_true_eq_false, not_false_eq_true, false_implies, true_implies, D_X11_paid, mj_F_aload_n_k, mj_F_getfield_i, mj_F_goto_off, mj_F_iconst_n, mj_F_ifCond_eq_off, mj_F_ifCond_ne_off, mj_F_iload_n_k, mj_F_invokestatic_i, mj_F_invokevirtual_i, mj_F_ireturn, mj_kc, FT_X11, L_X11_paid, List.take_succ_cons, List.take_zero, List.drop_succ_cons, List.drop_zero, List.reverse_cons, List.reverse_nil, List.length_cons, List.length_nil, gS_C0, gCf11_11, gCf11_0, c_isYear_eq, c_in_eq, gS_C85, J_X11_paid]
      refine ⟨fun c => ?_, fun c => ?_⟩
      · replace hw := ok_f hw c
        refine c_X3_paidByNobody_in (ok_imp (ok_bind hw) ?_)
        intro p hw
        simp only [Option.toList, List.nil_append, List.cons_append, Nat.reduceSub]
        refine mj_run hG.1 (fun pc => pc == 30 || pc == 41 || pc == 51) 4000 ?_
        simp only [mj_step, mj_W_s, mj_fin, List.getElem?_cons_zero, List.getElem?_cons_succ, mj_go, Nat.reduceAdd, Nat.reduceSub, Nat.reduceLT, Nat.reduceLeDiff, Nat.zero_add, Nat.reduceEqDiff, Nat.reduceBEq, ↓reduceIte, Bool.false_eq_true, List.append_nil, List.nil_append, List.cons_append, Option.toList, and_true, true_and, true_or, or_true, reduceCtorEq, List.map_nil, bI_eq0, bI_eq1, bool_ft, pk_us, vnar0, vnar1, Bool.or_false, Bool.or_true, Bool.false_or, Bool.true_or, mj_kne, eq_self, Int32.reduceLT, Int32.reduceLE, Int32.reduceAdd, Int32.reduceSub, Int32.reduceMul, not_true_eq_false, not_false_eq_true, false_implies, true_implies, D_X11_paid, mj_F_aload_n_k, mj_F_getfield_i, mj_F_goto_off, mj_F_iconst_n, mj_F_ifCond_eq_off, mj_F_ifCond_ne_off, mj_F_iload_n_k, mj_F_invokestatic_i, mj_F_invokevirtual_i, mj_F_ireturn, mj_kc, FT_X11, L_X11_paid, List.take_succ_cons, List.take_zero, List.drop_succ_cons, List.drop_zero, List.reverse_cons, List.reverse_nil, List.length_cons, List.length_nil, gS_C0, gCf11_11, gCf11_0, c_isYear_eq, c_in_eq, gS_C85, J_X11_paid]
        exact (ok_some hw :)
      · replace hw := ok_t hw c
        refine c_X3_mostPaid_in (ok_imp (ok_bind hw) ?_)
        intro p hw
        simp only [Option.toList, List.nil_append, List.cons_append, Nat.reduceSub]
        refine mj_run hG.1 (fun pc => pc == 30 || pc == 41 || pc == 51) 4000 ?_
        simp only [mj_step, mj_W_s, mj_fin, List.getElem?_cons_zero, List.getElem?_cons_succ, mj_go, Nat.reduceAdd, Nat.reduceSub, Nat.reduceLT, Nat.reduceLeDiff, Nat.zero_add, Nat.reduceEqDiff, Nat.reduceBEq, ↓reduceIte, Bool.false_eq_true, List.append_nil, List.nil_append, List.cons_append, Option.toList, and_true, true_and, true_or, or_true, reduceCtorEq, List.map_nil, bI_eq0, bI_eq1, bool_ft, pk_us, vnar0, vnar1, Bool.or_false, Bool.or_true, Bool.false_or, Bool.true_or, mj_kne, eq_self, Int32.reduceLT, Int32.reduceLE, Int32.reduceAdd, Int32.reduceSub, Int32.reduceMul, not_true_eq_false, not_false_eq_true, false_implies, true_implies, D_X11_paid, mj_F_aload_n_k, mj_F_getfield_i, mj_F_goto_off, mj_F_iconst_n, mj_F_ifCond_eq_off, mj_F_ifCond_ne_off, mj_F_iload_n_k, mj_F_invokestatic_i, mj_F_invokevirtual_i, mj_F_ireturn, mj_kc, FT_X11, L_X11_paid, List.take_succ_cons, List.take_zero, List.drop_succ_cons, List.drop_zero, List.reverse_cons, List.reverse_nil, List.length_cons, List.length_nil, gS_C0, gCf11_11, gCf11_0, c_isYear_eq, c_in_eq, gS_C85, J_X11_paid]
        refine mj_run hG.1 (fun pc => pc == 30 || pc == 41 || pc == 51) 4000 ?_
        simp only [mj_step, mj_W_s, mj_fin, List.getElem?_cons_zero, List.getElem?_cons_succ, mj_go, Nat.reduceAdd, Nat.reduceSub, Nat.reduceLT, Nat.reduceLeDiff, Nat.zero_add, Nat.reduceEqDiff, Nat.reduceBEq, ↓reduceIte, Bool.false_eq_true, List.append_nil, List.nil_append, List.cons_append, Option.toList, and_true, true_and, true_or, or_true, reduceCtorEq, List.map_nil, bI_eq0, bI_eq1, bool_ft, pk_us, vnar0, vnar1, Bool.or_false, Bool.or_true, Bool.false_or, Bool.true_or, mj_kne, eq_self, Int32.reduceLT, Int32.reduceLE, Int32.reduceAdd, Int32.reduceSub, Int32.reduceMul, not_true_eq_false, not_false_eq_true, false_implies, true_implies, D_X11_paid, mj_F_aload_n_k, mj_F_getfield_i, mj_F_goto_off, mj_F_iconst_n, mj_F_ifCond_eq_off, mj_F_ifCond_ne_off, mj_F_iload_n_k, mj_F_invokestatic_i, mj_F_invokevirtual_i, mj_F_ireturn, mj_kc, FT_X11, L_X11_paid, List.take_succ_cons, List.take_zero, List.drop_succ_cons, List.drop_zero, List.reverse_cons, List.reverse_nil, List.length_cons, List.length_nil, gS_C0, gCf11_11, gCf11_0, c_isYear_eq, c_in_eq, gS_C85, J_X11_paid]
        exact (ok_some hw :)
    · replace hw := ok_t hw c
      exact (ok_some hw :)

def c_X11_paid : mj_S := fun as h k => ∃ (v1 : Int32) (v2 : Int32) (s : St), as = [.ref 0, .int v1, .int v2] ∧ h = mkCs s ∧ ok (F_X11_paid v1 v2 s) (fun p => k (some (.int p.1)) (mkCs p.2))
theorem c_X11_paid_in {v1 : Int32} {v2 : Int32} {s : St} {k : Option Value → mj_H → Prop} (hw : ok (F_X11_paid v1 v2 s) (fun p => k (some (.int p.1)) (mkCs p.2))) : c_X11_paid [.ref 0, .int v1, .int v2] (mkCs s) k := ⟨v1, v2, s, rfl, rfl, hw⟩
theorem m_X11_paid (l : Launch) : mj_Met l yX11_paid cX11_paid 3 ((some FieldType.int)) 5 0 0 c_X11_paid := by
  refine mj_body2 false (TbX11 3 ((some FieldType.int)) ct_X11_paid) (by decide) rfl rfl (fun h => nomatch h) (tfX11 _ (List.forall_mem_cons.mpr ⟨cfX11_96 (m_X11_within l) (by decide), List.forall_mem_cons.mpr ⟨cfX11_141 (m_X11_isYear l) (by decide), List.forall_mem_cons.mpr ⟨cfX11_376 (m_X3_ask l) (by decide), List.forall_mem_cons.mpr ⟨cfX11_379 (m_X3_mostPaid l) (by decide), List.forall_mem_cons.mpr ⟨cfX11_382 (m_X3_paidByNobody l) (by decide), fun _ h => nomatch h⟩⟩⟩⟩⟩)) ?_
  rintro as h k ⟨v1, v2, s, rfl, rfl, hw⟩
  exact ⟨rfl, fun G hG => g_X11_paid hG hw⟩
def B_X7_add_13 (v1 : Int32) (v2 : Int32) : Int32 × St → Option ((Int32 × St) ⊕ ((St) ⊕ (St)))
  | (v3, s) =>
  if 8 ≤ v3 then
    some (.inr (.inl s))
  else
    if 4 ≤ v3 then
      if ((v2 >>> ((24 - ((v3 - v3 / 4 * 4) * 8)) &&& 31)) &&& 255) ≤ 9 then
        (wr s 706 48 (((s.1 705) * 8) + v3) ((v2 >>> ((24 - ((v3 - v3 / 4 * 4) * 8)) &&& 31)) &&& 255)).bind fun s1 =>
        some (.inl ((v3 + 1), s1))
      else
        some (.inr (.inr s))
    else
      if ((v1 >>> ((24 - ((v3 - v3 / 4 * 4) * 8)) &&& 31)) &&& 255) ≤ 9 then
        (wr s 706 48 (((s.1 705) * 8) + v3) ((v1 >>> ((24 - ((v3 - v3 / 4 * 4) * 8)) &&& 31)) &&& 255)).bind fun s2 =>
        some (.inl ((v3 + 1), s2))
      else
        some (.inr (.inr s))
def F_X7_add_76 (s : St) : Option (Int32 × St) :=
  (wI s 705 ((s.1 705) + 1)).bind fun s3 =>
  some (((s3.1 705) - 1), s3)
def F_X7_add_52 (s : St) : Option (Int32 × St) :=
  some ((-1), s)
def F_X7_add_13 (v1 : Int32) (v2 : Int32) (v3 : Int32) (s : St) : Option (Int32 × St) :=
  (lp (B_X7_add_13 v1 v2) FU (v3, s)).bind (Sum.elim (fun y => F_X7_add_76 y) (fun y => F_X7_add_52 y))
def F_X7_add (v1 : Int32) (v2 : Int32) (s : St) : Option (Int32 × St) :=
  if (s.1 705) < 6 then
    F_X7_add_13 v1 v2 0 s
  else
    some ((-1), s)
theorem J_X7_add : mj_t 6 5 = 11 ∧ mj_t 16 60 = 76 ∧ mj_t 21 7 = 28 ∧ mj_t 25 4 = 29 ∧ mj_t 49 5 = 54 ∧ mj_t 73 (-60) = 13 ∧ (0 ≤ ((6 : Nat) : Int) + 5) = True ∧ (0 ≤ ((16 : Nat) : Int) + 60) = True ∧ (0 ≤ ((21 : Nat) : Int) + 7) = True ∧ (0 ≤ ((25 : Nat) : Int) + 4) = True ∧ (0 ≤ ((49 : Nat) : Int) + 5) = True ∧ (0 ≤ ((73 : Nat) : Int) + (-60)) = True := by and_intros <;> first | rfl | exact eq_true (by decide)
set_option maxHeartbeats 4000000 in
set_option maxRecDepth 20000 in
theorem b_X7_add_13 {k : Option Value → mj_H → Prop} {G : mj_K} (hG : mj_cl2 cX7_add (TbX7 5 ((some FieldType.int)) []) k G) {v1 : Int32} {v2 : Int32} {P : Int32 × St → Prop} {K : (St) ⊕ (St) → Prop} (hP : ∀ x, P x → G 13 [.ref 81, .int v1, .int v2, .int x.1] [] (mkCs x.2) 0 0) (hK0 : ∀ y, K (.inl y) → G 76 [.ref 81] [] (mkCs y) 0 0) (hK1 : ∀ y, K (.inr y) → G 52 [] [] (mkCs y) 0 0) {v3 : Int32} {s : St} (hw : ok (B_X7_add_13 v1 v2 (v3, s)) (Sum.elim P K)) : G 13 [.ref 81, .int v1, .int v2, .int v3] [] (mkCs s) 0 0 := by
  unfold B_X7_add_13 at hw
  refine mj_run hG.1 (fun pc => pc == 13 || pc == 52 || pc == 76) 4000 ?_
  simp only [mj_step, mj_W_s, mj_fin, List.getElem?_cons_zero, List.getElem?_cons_succ, mj_go, Nat.reduceAdd, Nat.reduceSub, Nat.reduceLT, Nat.reduceLeDiff, Nat.zero_add, Nat.reduceEqDiff, Nat.reduceBEq, ↓reduceIte, Bool.false_eq_true, List.append_nil, List.nil_append, List.cons_append, Option.toList, and_true, true_and, true_or, or_true, reduceCtorEq, List.map_nil, bI_eq0, bI_eq1, bool_ft, pk_us, vnar0, vnar1, Bool.or_false, Bool.or_true, Bool.false_or, Bool.true_or, mj_kne, eq_self, Int32.reduceLT, Int32.reduceLE, Int32.reduceAdd, Int32.reduceSub, Int32.reduceMul, not_true_eq_false, not_false_eq_true, false_implies, true_implies, D_X7_add_0, D_X7_add_1, mj_F_aload_n_k, mj_F_bipush_n, mj_F_dup, mj_F_getfield_i, mj_F_goto_off, mj_F_iadd, mj_F_iand, mj_F_iastore, mj_F_iconst_n, mj_F_if_icmp_ge_off, mj_F_if_icmp_le_off, mj_F_if_icmp_lt_off, mj_F_iinc_k_n, mj_F_iload_k, mj_F_iload_n_k, mj_F_imul, mj_F_irem, mj_F_ireturn, mj_F_ishr, mj_F_istore_k, mj_F_istore_n_k, mj_F_isub, mj_F_putfield_i, mj_F_sipush_n, mj_set, mj_set0, mj_unk, mj_c2, mj_kc, FT_X7, PT_X7, gS_C81, gCf7_5, gCf7_6, gS_C84, sS_Ca_84, sS_Cf_7_5, gCf7len, J_X7_add]
  refine ⟨fun c => ?_, fun c => ?_⟩
  · replace hw := ok_t hw c
    exact hG.2 _ _ _ _ _ _ _ _ _ (by refine ⟨Or.inr rfl, ?_⟩; exact trivial) (Nat.zero_le _) (Nat.zero_le _) (hK0 _ (ok_some hw :) :)
  · replace hw := ok_f hw c
    refine ⟨fun c => ?_, fun c => ?_⟩
    · replace hw := ok_t hw c
      refine ⟨fun c => ?_, fun c => ?_⟩
      · replace hw := ok_t hw c
        refine ⟨(ok_wr hw).1, ?_⟩
        replace hw := (ok_wr hw).2
        exact hG.2 _ _ _ _ _ _ _ _ _ (by refine ⟨Or.inr rfl, ?_⟩; refine ⟨Or.inr rfl, ?_⟩; refine ⟨Or.inr rfl, ?_⟩; refine ⟨Or.inr rfl, ?_⟩; exact trivial) (Nat.zero_le _) (Nat.zero_le _) (hP _ (ok_some hw :) :)
      · replace hw := ok_f hw c
        exact hG.2 _ _ _ _ _ _ _ _ _ (by exact trivial) (Nat.zero_le _) (Nat.zero_le _) (hK1 _ (ok_some hw :) :)
    · replace hw := ok_f hw c
      refine ⟨fun c => ?_, fun c => ?_⟩
      · replace hw := ok_t hw c
        refine ⟨(ok_wr hw).1, ?_⟩
        replace hw := (ok_wr hw).2
        exact hG.2 _ _ _ _ _ _ _ _ _ (by refine ⟨Or.inr rfl, ?_⟩; refine ⟨Or.inr rfl, ?_⟩; refine ⟨Or.inr rfl, ?_⟩; refine ⟨Or.inr rfl, ?_⟩; exact trivial) (Nat.zero_le _) (Nat.zero_le _) (hP _ (ok_some hw :) :)
      · replace hw := ok_f hw c
        exact hG.2 _ _ _ _ _ _ _ _ _ (by exact trivial) (Nat.zero_le _) (Nat.zero_le _) (hK1 _ (ok_some hw :) :)

set_option maxHeartbeats 4000000 in
set_option maxRecDepth 20000 in
theorem g_X7_add_76 {k : Option Value → mj_H → Prop} {G : mj_K} (hG : mj_cl2 cX7_add (TbX7 5 ((some FieldType.int)) []) k G)   {s : St} (hw : ok (F_X7_add_76 s) (fun p => k (some (.int p.1)) (mkCs p.2))) : G 76 [.ref 81] [] (mkCs s) 0 0 := by
  unfold F_X7_add_76 at hw
  refine mj_run hG.1 (fun pc => pc == 13 || pc == 52 || pc == 76) 4000 ?_
  simp only [mj_step, mj_W_s, mj_fin, List.getElem?_cons_zero, List.getElem?_cons_succ, mj_go, Nat.reduceAdd, Nat.reduceSub, Nat.reduceLT, Nat.reduceLeDiff, Nat.zero_add, Nat.reduceEqDiff, Nat.reduceBEq, ↓reduceIte, Bool.false_eq_true, List.append_nil, List.nil_append, List.cons_append, Option.toList, and_true, true_and, true_or, or_true, reduceCtorEq, List.map_nil, bI_eq0, bI_eq1, bool_ft, pk_us, vnar0, vnar1, Bool.or_false, Bool.or_true, Bool.false_or, Bool.true_or, mj_kne, eq_self, Int32.reduceLT, Int32.reduceLE, Int32.reduceAdd, Int32.reduceSub, Int32.reduceMul, not_true_eq_false, not_false_eq_true, false_implies, true_implies, D_X7_add_0, D_X7_add_1, mj_F_aload_n_k, mj_F_bipush_n, mj_F_dup, mj_F_getfield_i, mj_F_goto_off, mj_F_iadd, mj_F_iand, mj_F_iastore, mj_F_iconst_n, mj_F_if_icmp_ge_off, mj_F_if_icmp_le_off, mj_F_if_icmp_lt_off, mj_F_iinc_k_n, mj_F_iload_k, mj_F_iload_n_k, mj_F_imul, mj_F_irem, mj_F_ireturn, mj_F_ishr, mj_F_istore_k, mj_F_istore_n_k, mj_F_isub, mj_F_putfield_i, mj_F_sipush_n, mj_set, mj_set0, mj_unk, mj_c2, mj_kc, FT_X7, PT_X7, gS_C81, gCf7_5, gCf7_6, gS_C84, sS_Ca_84, sS_Cf_7_5, gCf7len, J_X7_add]
  replace hw := ok_wI hw
  exact (ok_some hw :)

set_option maxHeartbeats 4000000 in
set_option maxRecDepth 20000 in
theorem g_X7_add_52 {k : Option Value → mj_H → Prop} {G : mj_K} (hG : mj_cl2 cX7_add (TbX7 5 ((some FieldType.int)) []) k G)   {s : St} (hw : ok (F_X7_add_52 s) (fun p => k (some (.int p.1)) (mkCs p.2))) : G 52 [] [] (mkCs s) 0 0 := by
  unfold F_X7_add_52 at hw
  refine mj_run hG.1 (fun pc => pc == 13 || pc == 52 || pc == 76) 4000 ?_
  simp only [mj_step, mj_W_s, mj_fin, List.getElem?_cons_zero, List.getElem?_cons_succ, mj_go, Nat.reduceAdd, Nat.reduceSub, Nat.reduceLT, Nat.reduceLeDiff, Nat.zero_add, Nat.reduceEqDiff, Nat.reduceBEq, ↓reduceIte, Bool.false_eq_true, List.append_nil, List.nil_append, List.cons_append, Option.toList, and_true, true_and, true_or, or_true, reduceCtorEq, List.map_nil, bI_eq0, bI_eq1, bool_ft, pk_us, vnar0, vnar1, Bool.or_false, Bool.or_true, Bool.false_or, Bool.true_or, mj_kne, eq_self, Int32.reduceLT, Int32.reduceLE, Int32.reduceAdd, Int32.reduceSub, Int32.reduceMul, not_true_eq_false, not_false_eq_true, false_implies, true_implies, D_X7_add_0, D_X7_add_1, mj_F_aload_n_k, mj_F_bipush_n, mj_F_dup, mj_F_getfield_i, mj_F_goto_off, mj_F_iadd, mj_F_iand, mj_F_iastore, mj_F_iconst_n, mj_F_if_icmp_ge_off, mj_F_if_icmp_le_off, mj_F_if_icmp_lt_off, mj_F_iinc_k_n, mj_F_iload_k, mj_F_iload_n_k, mj_F_imul, mj_F_irem, mj_F_ireturn, mj_F_ishr, mj_F_istore_k, mj_F_istore_n_k, mj_F_isub, mj_F_putfield_i, mj_F_sipush_n, mj_set, mj_set0, mj_unk, mj_c2, mj_kc, FT_X7, PT_X7, gS_C81, gCf7_5, gCf7_6, gS_C84, sS_Ca_84, sS_Cf_7_5, gCf7len, J_X7_add]
  exact (ok_some hw :)

set_option maxHeartbeats 4000000 in
theorem g_X7_add_13 {k : Option Value → mj_H → Prop} {G : mj_K} (hG : mj_cl2 cX7_add (TbX7 5 ((some FieldType.int)) []) k G)   {v1 : Int32} {v2 : Int32} {v3 : Int32} {s : St} (hw : ok (F_X7_add_13 v1 v2 v3 s) (fun p => k (some (.int p.1)) (mkCs p.2))) : G 13 [.ref 81, .int v1, .int v2, .int v3] [] (mkCs s) 0 0 := by
  unfold F_X7_add_13 at hw
  refine lp_ok (B_X7_add_13 v1 v2) (fun x => G 13 [.ref 81, .int v1, .int v2, .int x.1] [] (mkCs x.2) 0 0) _ ?_ _ _ (ok_bind hw)
  rintro ⟨v3, s⟩ hb
  exact b_X7_add_13 hG (fun _ z => z) (fun y hw => by exact hG.2 _ _ _ _ _ _ _ _ _ (by refine ⟨Or.inr rfl, ?_⟩; exact trivial) (Nat.zero_le _) (Nat.zero_le _) (g_X7_add_76 hG  hw :)) (fun y hw => by exact hG.2 _ _ _ _ _ _ _ _ _ (by exact trivial) (Nat.zero_le _) (Nat.zero_le _) (g_X7_add_52 hG  hw :)) hb

set_option maxHeartbeats 4000000 in
set_option maxRecDepth 20000 in
theorem g_X7_add {k : Option Value → mj_H → Prop} {G : mj_K} (hG : mj_cl2 cX7_add (TbX7 5 ((some FieldType.int)) []) k G) {v1 : Int32} {v2 : Int32} {s : St} (hw : ok (F_X7_add v1 v2 s) (fun p => k (some (.int p.1)) (mkCs p.2))) : G 0 [.ref 81, .int v1, .int v2] [] (mkCs s) 0 0 := by
  unfold F_X7_add at hw
  refine mj_run hG.1 (fun pc => pc == 13 || pc == 52 || pc == 76) 4000 ?_
  simp only [mj_step, mj_W_s, mj_fin, List.getElem?_cons_zero, List.getElem?_cons_succ, mj_go, Nat.reduceAdd, Nat.reduceSub, Nat.reduceLT, Nat.reduceLeDiff, Nat.zero_add, Nat.reduceEqDiff, Nat.reduceBEq, ↓reduceIte, Bool.false_eq_true, List.append_nil, List.nil_append, List.cons_append, Option.toList, and_true, true_and, true_or, or_true, reduceCtorEq, List.map_nil, bI_eq0, bI_eq1, bool_ft, pk_us, vnar0, vnar1, Bool.or_false, Bool.or_true, Bool.false_or, Bool.true_or, mj_kne, eq_self, Int32.reduceLT, Int32.reduceLE, Int32.reduceAdd, Int32.reduceSub, Int32.reduceMul, not_true_eq_false, not_false_eq_true, false_implies, true_implies, D_X7_add_0, D_X7_add_1, mj_F_aload_n_k, mj_F_bipush_n, mj_F_dup, mj_F_getfield_i, mj_F_goto_off, mj_F_iadd, mj_F_iand, mj_F_iastore, mj_F_iconst_n, mj_F_if_icmp_ge_off, mj_F_if_icmp_le_off, mj_F_if_icmp_lt_off, mj_F_iinc_k_n, mj_F_iload_k, mj_F_iload_n_k, mj_F_imul, mj_F_irem, mj_F_ireturn, mj_F_ishr, mj_F_istore_k, mj_F_istore_n_k, mj_F_isub, mj_F_putfield_i, mj_F_sipush_n, mj_set, mj_set0, mj_unk, mj_c2, mj_kc, FT_X7, PT_X7, gS_C81, gCf7_5, gCf7_6, gS_C84, sS_Ca_84, sS_Cf_7_5, gCf7len, J_X7_add]
  refine ⟨fun c => ?_, fun c => ?_⟩
  · replace hw := ok_t hw c
    exact hG.2 _ _ _ _ _ _ _ _ _ (by refine ⟨Or.inr rfl, ?_⟩; refine ⟨Or.inr rfl, ?_⟩; refine ⟨Or.inr rfl, ?_⟩; refine ⟨Or.inr rfl, ?_⟩; exact trivial) (Nat.zero_le _) (Nat.zero_le _) (g_X7_add_13 hG  hw :)
  · replace hw := ok_f hw c
    exact (ok_some hw :)

def c_X7_add : mj_S := fun as h k => ∃ (v1 : Int32) (v2 : Int32) (s : St), as = [.ref 81, .int v1, .int v2] ∧ h = mkCs s ∧ ok (F_X7_add v1 v2 s) (fun p => k (some (.int p.1)) (mkCs p.2))
theorem c_X7_add_in {v1 : Int32} {v2 : Int32} {s : St} {k : Option Value → mj_H → Prop} (hw : ok (F_X7_add v1 v2 s) (fun p => k (some (.int p.1)) (mkCs p.2))) : c_X7_add [.ref 81, .int v1, .int v2] (mkCs s) k := ⟨v1, v2, s, rfl, rfl, hw⟩
theorem m_X7_add (l : Launch) : mj_Met l yX7_add cX7_add 5 ((some FieldType.int)) 0 0 0 c_X7_add := by
  refine mj_body2 false (TbX7 5 ((some FieldType.int)) []) (by decide) rfl rfl (fun h => nomatch h) (tfX7 _ (fun _ h => nomatch h)) ?_
  rintro as h k ⟨v1, v2, s, rfl, rfl, hw⟩
  exact ⟨rfl, fun G hG => g_X7_add hG hw⟩
def F_X11_row (v1 : Int32) (v2 : Int32) (s : St) : Option (Int32 × St) :=
  (F_X7_add v1 v2 s).bind fun r1 =>
  some (r1.1, r1.2)
def ct_X11_row : List (Nat × mj_Cs) := [(385, 0, 3, 7, 0, 0, c_X7_add)]
theorem L_X11_row : mj_lk ct_X11_row 385 = some (0, 3, 7, 0, 0, c_X7_add) := rfl
set_option maxHeartbeats 4000000 in
set_option maxRecDepth 20000 in
theorem g_X11_row {k : Option Value → mj_H → Prop} {G : mj_K} (hG : mj_cl2 cX11_row (TbX11 3 ((some FieldType.int)) ct_X11_row) k G) {v1 : Int32} {v2 : Int32} {s : St} (hw : ok (F_X11_row v1 v2 s) (fun p => k (some (.int p.1)) (mkCs p.2))) : G 0 [.ref 0, .int v1, .int v2] [] (mkCs s) 0 0 := by
  unfold F_X11_row at hw
  refine mj_run hG.1 (fun pc => pc == 9) 4000 ?_
  simp only [mj_step, mj_W_s, mj_fin, List.getElem?_cons_zero, List.getElem?_cons_succ, mj_go, Nat.reduceAdd, Nat.reduceSub, Nat.reduceLT, Nat.reduceLeDiff, Nat.zero_add, Nat.reduceEqDiff, Nat.reduceBEq, ↓reduceIte, Bool.false_eq_true, List.append_nil, List.nil_append, List.cons_append, Option.toList, and_true, true_and, true_or, or_true, reduceCtorEq, List.map_nil, bI_eq0, bI_eq1, bool_ft, pk_us, vnar0, vnar1, Bool.or_false, Bool.or_true, Bool.false_or, Bool.true_or, mj_kne, eq_self, Int32.reduceLT, Int32.reduceLE, Int32.reduceAdd, Int32.reduceSub, Int32.reduceMul, not_true_eq_false, not_false_eq_true, false_implies, true_implies, D_X11_row, mj_F_aload_n_k, mj_F_getfield_i, mj_F_iload_n_k, mj_F_invokevirtual_i, mj_F_ireturn, FT_X11, L_X11_row, List.take_succ_cons, List.take_zero, List.drop_succ_cons, List.drop_zero, List.reverse_cons, List.reverse_nil, List.length_cons, List.length_nil, gS_C0, gCf11_10, gS_C81]
  refine c_X7_add_in (ok_imp (ok_bind hw) ?_)
  intro p hw
  simp only [Option.toList, List.nil_append, List.cons_append, Nat.reduceSub]
  refine mj_run hG.1 (fun pc => pc == 9) 4000 ?_
  simp only [mj_step, mj_W_s, mj_fin, List.getElem?_cons_zero, List.getElem?_cons_succ, mj_go, Nat.reduceAdd, Nat.reduceSub, Nat.reduceLT, Nat.reduceLeDiff, Nat.zero_add, Nat.reduceEqDiff, Nat.reduceBEq, ↓reduceIte, Bool.false_eq_true, List.append_nil, List.nil_append, List.cons_append, Option.toList, and_true, true_and, true_or, or_true, reduceCtorEq, List.map_nil, bI_eq0, bI_eq1, bool_ft, pk_us, vnar0, vnar1, Bool.or_false, Bool.or_true, Bool.false_or, Bool.true_or, mj_kne, eq_self, Int32.reduceLT, Int32.reduceLE, Int32.reduceAdd, Int32.reduceSub, Int32.reduceMul, not_true_eq_false, not_false_eq_true, false_implies, true_implies, D_X11_row, mj_F_aload_n_k, mj_F_getfield_i, mj_F_iload_n_k, mj_F_invokevirtual_i, mj_F_ireturn, FT_X11, L_X11_row, List.take_succ_cons, List.take_zero, List.drop_succ_cons, List.drop_zero, List.reverse_cons, List.reverse_nil, List.length_cons, List.length_nil, gS_C0, gCf11_10, gS_C81]
  exact (ok_some hw :)

def c_X11_row : mj_S := fun as h k => ∃ (v1 : Int32) (v2 : Int32) (s : St), as = [.ref 0, .int v1, .int v2] ∧ h = mkCs s ∧ ok (F_X11_row v1 v2 s) (fun p => k (some (.int p.1)) (mkCs p.2))
theorem c_X11_row_in {v1 : Int32} {v2 : Int32} {s : St} {k : Option Value → mj_H → Prop} (hw : ok (F_X11_row v1 v2 s) (fun p => k (some (.int p.1)) (mkCs p.2))) : c_X11_row [.ref 0, .int v1, .int v2] (mkCs s) k := ⟨v1, v2, s, rfl, rfl, hw⟩
theorem m_X11_row (l : Launch) : mj_Met l yX11_row cX11_row 3 ((some FieldType.int)) 1 0 0 c_X11_row := by
  refine mj_body2 false (TbX11 3 ((some FieldType.int)) ct_X11_row) (by decide) rfl rfl (fun h => nomatch h) (tfX11 _ (List.forall_mem_cons.mpr ⟨cfX11_385 (m_X7_add l) (by decide), fun _ h => nomatch h⟩)) ?_
  rintro as h k ⟨v1, v2, s, rfl, rfl, hw⟩
  exact ⟨rfl, fun G hG => g_X11_row hG hw⟩
def B_X7_yearOf_5 (v1 : Int32) (v2 : Int32) (s : St) : Int32 × Int32 → Option ((Int32 × Int32) ⊕ ((Unit) ⊕ (Int32)))
  | (v3, v4) =>
  if 8 ≤ v4 then
    some (.inr (.inl ()))
  else
    (rd s 706 48 ((v1 * 8) + v4)).bind fun x1 =>
    if (v3 + x1) < v2 then
      some (.inl ((v3 + x1), (v4 + 1)))
    else
      some (.inr (.inr v4))
def F_X7_yearOf_41 (s : St) : Option (Int32) :=
  some (-1)
def F_X7_yearOf_32 (v4 : Int32) (s : St) : Option (Int32) :=
  some v4
def F_X7_yearOf_5 (v1 : Int32) (v2 : Int32) (v3 : Int32) (v4 : Int32) (s : St) : Option (Int32) :=
  (lp (B_X7_yearOf_5 v1 v2 s) FU (v3, v4)).bind (Sum.elim (fun _ => F_X7_yearOf_41 s) (fun y => F_X7_yearOf_32 y s))
def F_X7_yearOf (v1 : Int32) (v2 : Int32) (s : St) : Option (Int32) :=
  F_X7_yearOf_5 v1 v2 0 0 s
theorem J_X7_yearOf : mj_t 9 32 = 41 ∧ mj_t 29 6 = 35 ∧ mj_t 38 (-33) = 5 ∧ (0 ≤ ((9 : Nat) : Int) + 32) = True ∧ (0 ≤ ((29 : Nat) : Int) + 6) = True ∧ (0 ≤ ((38 : Nat) : Int) + (-33)) = True := by and_intros <;> first | rfl | exact eq_true (by decide)
set_option maxHeartbeats 4000000 in
set_option maxRecDepth 20000 in
theorem b_X7_yearOf_5 {k : Option Value → mj_H → Prop} {G : mj_K} (hG : mj_cl2 cX7_yearOf (TbX7 5 ((some FieldType.int)) []) k G) {v1 : Int32} {v2 : Int32} {s : St} {P : Int32 × Int32 → Prop} {K : (Unit) ⊕ (Int32) → Prop} (hP : ∀ x, P x → G 5 [.ref 81, .int v1, .int v2, .int x.1, .int x.2] [] (mkCs s) 0 0) (hK0 : ∀ y, K (.inl y) → G 41 [] [] (mkCs s) 0 0) (hK1 : ∀ y, K (.inr y) → G 32 [mj_unk, mj_unk, mj_unk, mj_unk, .int y] [] (mkCs s) 0 0) {v3 : Int32} {v4 : Int32} (hw : ok (B_X7_yearOf_5 v1 v2 s (v3, v4)) (Sum.elim P K)) : G 5 [.ref 81, .int v1, .int v2, .int v3, .int v4] [] (mkCs s) 0 0 := by
  unfold B_X7_yearOf_5 at hw
  refine mj_run hG.1 (fun pc => pc == 5 || pc == 32 || pc == 41) 4000 ?_
  simp only [mj_step, mj_W_s, mj_fin, List.getElem?_cons_zero, List.getElem?_cons_succ, mj_go, Nat.reduceAdd, Nat.reduceSub, Nat.reduceLT, Nat.reduceLeDiff, Nat.zero_add, Nat.reduceEqDiff, Nat.reduceBEq, ↓reduceIte, Bool.false_eq_true, List.append_nil, List.nil_append, List.cons_append, Option.toList, and_true, true_and, true_or, or_true, reduceCtorEq, List.map_nil, bI_eq0, bI_eq1, bool_ft, pk_us, vnar0, vnar1, Bool.or_false, Bool.or_true, Bool.false_or, Bool.true_or, mj_kne, eq_self, Int32.reduceLT, Int32.reduceLE, Int32.reduceAdd, Int32.reduceSub, Int32.reduceMul, not_true_eq_false, not_false_eq_true, false_implies, true_implies, D_X7_yearOf, mj_F_aload_n_k, mj_F_bipush_n, mj_F_getfield_i, mj_F_goto_off, mj_F_iadd, mj_F_iaload, mj_F_iconst_n, mj_F_if_icmp_ge_off, mj_F_if_icmp_lt_off, mj_F_iinc_k_n, mj_F_iload_k, mj_F_iload_n_k, mj_F_imul, mj_F_ireturn, mj_F_istore_k, mj_F_istore_n_k, mj_set, mj_set0, mj_unk, mj_c2, mj_kc, FT_X7, gS_C81, gCf7_6, gS_C84, sS_Ca_84, J_X7_yearOf]
  refine ⟨fun c => ?_, fun c => ?_⟩
  · replace hw := ok_t hw c
    exact hG.2 _ _ _ _ _ _ _ _ _ (by exact trivial) (Nat.zero_le _) (Nat.zero_le _) (hK0 _ (ok_some hw :) :)
  · replace hw := ok_f hw c
    refine ⟨(ok_rd hw).1, ?_⟩
    replace hw := (ok_rd hw).2
    refine ⟨fun c => ?_, fun c => ?_⟩
    · replace hw := ok_t hw c
      exact hG.2 _ _ _ _ _ _ _ _ _ (by refine ⟨Or.inr rfl, ?_⟩; refine ⟨Or.inr rfl, ?_⟩; refine ⟨Or.inr rfl, ?_⟩; refine ⟨Or.inr rfl, ?_⟩; refine ⟨Or.inr rfl, ?_⟩; exact trivial) (Nat.zero_le _) (Nat.zero_le _) (hP _ (ok_some hw :) :)
    · replace hw := ok_f hw c
      exact hG.2 _ _ _ _ _ _ _ _ _ (by refine ⟨Or.inl rfl, ?_⟩; refine ⟨Or.inl rfl, ?_⟩; refine ⟨Or.inl rfl, ?_⟩; refine ⟨Or.inl rfl, ?_⟩; refine ⟨Or.inr rfl, ?_⟩; exact trivial) (Nat.zero_le _) (Nat.zero_le _) (hK1 _ (ok_some hw :) :)

set_option maxHeartbeats 4000000 in
set_option maxRecDepth 20000 in
theorem g_X7_yearOf_41 {k : Option Value → mj_H → Prop} {G : mj_K} (hG : mj_cl2 cX7_yearOf (TbX7 5 ((some FieldType.int)) []) k G)   {s : St} (hw : ok (F_X7_yearOf_41 s) (fun p => k (some (.int p)) (mkCs s))) : G 41 [] [] (mkCs s) 0 0 := by
  unfold F_X7_yearOf_41 at hw
  refine mj_run hG.1 (fun pc => pc == 5 || pc == 32 || pc == 41) 4000 ?_
  simp only [mj_step, mj_W_s, mj_fin, List.getElem?_cons_zero, List.getElem?_cons_succ, mj_go, Nat.reduceAdd, Nat.reduceSub, Nat.reduceLT, Nat.reduceLeDiff, Nat.zero_add, Nat.reduceEqDiff, Nat.reduceBEq, ↓reduceIte, Bool.false_eq_true, List.append_nil, List.nil_append, List.cons_append, Option.toList, and_true, true_and, true_or, or_true, reduceCtorEq, List.map_nil, bI_eq0, bI_eq1, bool_ft, pk_us, vnar0, vnar1, Bool.or_false, Bool.or_true, Bool.false_or, Bool.true_or, mj_kne, eq_self, Int32.reduceLT, Int32.reduceLE, Int32.reduceAdd, Int32.reduceSub, Int32.reduceMul, not_true_eq_false, not_false_eq_true, false_implies, true_implies, D_X7_yearOf, mj_F_aload_n_k, mj_F_bipush_n, mj_F_getfield_i, mj_F_goto_off, mj_F_iadd, mj_F_iaload, mj_F_iconst_n, mj_F_if_icmp_ge_off, mj_F_if_icmp_lt_off, mj_F_iinc_k_n, mj_F_iload_k, mj_F_iload_n_k, mj_F_imul, mj_F_ireturn, mj_F_istore_k, mj_F_istore_n_k, mj_set, mj_set0, mj_unk, mj_c2, mj_kc, FT_X7, gS_C81, gCf7_6, gS_C84, sS_Ca_84, J_X7_yearOf]
  exact (ok_some hw :)

set_option maxHeartbeats 4000000 in
set_option maxRecDepth 20000 in
theorem g_X7_yearOf_32 {k : Option Value → mj_H → Prop} {G : mj_K} (hG : mj_cl2 cX7_yearOf (TbX7 5 ((some FieldType.int)) []) k G)   {v4 : Int32} {s : St} (hw : ok (F_X7_yearOf_32 v4 s) (fun p => k (some (.int p)) (mkCs s))) : G 32 [mj_unk, mj_unk, mj_unk, mj_unk, .int v4] [] (mkCs s) 0 0 := by
  unfold F_X7_yearOf_32 at hw
  refine mj_run hG.1 (fun pc => pc == 5 || pc == 32 || pc == 41) 4000 ?_
  simp only [mj_step, mj_W_s, mj_fin, List.getElem?_cons_zero, List.getElem?_cons_succ, mj_go, Nat.reduceAdd, Nat.reduceSub, Nat.reduceLT, Nat.reduceLeDiff, Nat.zero_add, Nat.reduceEqDiff, Nat.reduceBEq, ↓reduceIte, Bool.false_eq_true, List.append_nil, List.nil_append, List.cons_append, Option.toList, and_true, true_and, true_or, or_true, reduceCtorEq, List.map_nil, bI_eq0, bI_eq1, bool_ft, pk_us, vnar0, vnar1, Bool.or_false, Bool.or_true, Bool.false_or, Bool.true_or, mj_kne, eq_self, Int32.reduceLT, Int32.reduceLE, Int32.reduceAdd, Int32.reduceSub, Int32.reduceMul, not_true_eq_false, not_false_eq_true, false_implies, true_implies, D_X7_yearOf, mj_F_aload_n_k, mj_F_bipush_n, mj_F_getfield_i, mj_F_goto_off, mj_F_iadd, mj_F_iaload, mj_F_iconst_n, mj_F_if_icmp_ge_off, mj_F_if_icmp_lt_off, mj_F_iinc_k_n, mj_F_iload_k, mj_F_iload_n_k, mj_F_imul, mj_F_ireturn, mj_F_istore_k, mj_F_istore_n_k, mj_set, mj_set0, mj_unk, mj_c2, mj_kc, FT_X7, gS_C81, gCf7_6, gS_C84, sS_Ca_84, J_X7_yearOf]
  exact (ok_some hw :)

set_option maxHeartbeats 4000000 in
theorem g_X7_yearOf_5 {k : Option Value → mj_H → Prop} {G : mj_K} (hG : mj_cl2 cX7_yearOf (TbX7 5 ((some FieldType.int)) []) k G)   {v1 : Int32} {v2 : Int32} {v3 : Int32} {v4 : Int32} {s : St} (hw : ok (F_X7_yearOf_5 v1 v2 v3 v4 s) (fun p => k (some (.int p)) (mkCs s))) : G 5 [.ref 81, .int v1, .int v2, .int v3, .int v4] [] (mkCs s) 0 0 := by
  unfold F_X7_yearOf_5 at hw
  refine lp_ok (B_X7_yearOf_5 v1 v2 s) (fun x => G 5 [.ref 81, .int v1, .int v2, .int x.1, .int x.2] [] (mkCs s) 0 0) _ ?_ _ _ (ok_bind hw)
  rintro ⟨v3, v4⟩ hb
  exact b_X7_yearOf_5 hG (fun _ z => z) (fun y hw => by exact hG.2 _ _ _ _ _ _ _ _ _ (by exact trivial) (Nat.zero_le _) (Nat.zero_le _) (g_X7_yearOf_41 hG  hw :)) (fun y hw => by exact hG.2 _ _ _ _ _ _ _ _ _ (by refine ⟨Or.inl rfl, ?_⟩; refine ⟨Or.inl rfl, ?_⟩; refine ⟨Or.inl rfl, ?_⟩; refine ⟨Or.inl rfl, ?_⟩; refine ⟨Or.inr rfl, ?_⟩; exact trivial) (Nat.zero_le _) (Nat.zero_le _) (g_X7_yearOf_32 hG  hw :)) hb

set_option maxHeartbeats 4000000 in
set_option maxRecDepth 20000 in
theorem g_X7_yearOf {k : Option Value → mj_H → Prop} {G : mj_K} (hG : mj_cl2 cX7_yearOf (TbX7 5 ((some FieldType.int)) []) k G) {v1 : Int32} {v2 : Int32} {s : St} (hw : ok (F_X7_yearOf v1 v2 s) (fun p => k (some (.int p)) (mkCs s))) : G 0 [.ref 81, .int v1, .int v2] [] (mkCs s) 0 0 := by
  unfold F_X7_yearOf at hw
  refine mj_run hG.1 (fun pc => pc == 5 || pc == 32 || pc == 41) 4000 ?_
  simp only [mj_step, mj_W_s, mj_fin, List.getElem?_cons_zero, List.getElem?_cons_succ, mj_go, Nat.reduceAdd, Nat.reduceSub, Nat.reduceLT, Nat.reduceLeDiff, Nat.zero_add, Nat.reduceEqDiff, Nat.reduceBEq, ↓reduceIte, Bool.false_eq_true, List.append_nil, List.nil_append, List.cons_append, Option.toList, and_true, true_and, true_or, or_true, reduceCtorEq, List.map_nil, bI_eq0, bI_eq1, bool_ft, pk_us, vnar0, vnar1, Bool.or_false, Bool.or_true, Bool.false_or, Bool.true_or, mj_kne, eq_self, Int32.reduceLT, Int32.reduceLE, Int32.reduceAdd, Int32.reduceSub, Int32.reduceMul, not_true_eq_false, not_false_eq_true, false_implies, true_implies, D_X7_yearOf, mj_F_aload_n_k, mj_F_bipush_n, mj_F_getfield_i, mj_F_goto_off, mj_F_iadd, mj_F_iaload, mj_F_iconst_n, mj_F_if_icmp_ge_off, mj_F_if_icmp_lt_off, mj_F_iinc_k_n, mj_F_iload_k, mj_F_iload_n_k, mj_F_imul, mj_F_ireturn, mj_F_istore_k, mj_F_istore_n_k, mj_set, mj_set0, mj_unk, mj_c2, mj_kc, FT_X7, gS_C81, gCf7_6, gS_C84, sS_Ca_84, J_X7_yearOf]
  exact hG.2 _ _ _ _ _ _ _ _ _ (by refine ⟨Or.inr rfl, ?_⟩; refine ⟨Or.inr rfl, ?_⟩; refine ⟨Or.inr rfl, ?_⟩; refine ⟨Or.inr rfl, ?_⟩; refine ⟨Or.inr rfl, ?_⟩; exact trivial) (Nat.zero_le _) (Nat.zero_le _) (g_X7_yearOf_5 hG  hw :)

def c_X7_yearOf : mj_S := fun as h k => ∃ (v1 : Int32) (v2 : Int32) (s : St), as = [.ref 81, .int v1, .int v2] ∧ h = mkCs s ∧ ok (F_X7_yearOf v1 v2 s) (fun p => k (some (.int p)) (mkCs s))
theorem c_X7_yearOf_in {v1 : Int32} {v2 : Int32} {s : St} {k : Option Value → mj_H → Prop} (hw : ok (F_X7_yearOf v1 v2 s) (fun p => k (some (.int p)) (mkCs s))) : c_X7_yearOf [.ref 81, .int v1, .int v2] (mkCs s) k := ⟨v1, v2, s, rfl, rfl, hw⟩
theorem m_X7_yearOf (l : Launch) : mj_Met l yX7_yearOf cX7_yearOf 5 ((some FieldType.int)) 0 0 0 c_X7_yearOf := by
  refine mj_body2 false (TbX7 5 ((some FieldType.int)) []) (by decide) rfl rfl (fun h => nomatch h) (tfX7 _ (fun _ h => nomatch h)) ?_
  rintro as h k ⟨v1, v2, s, rfl, rfl, hw⟩
  exact ⟨rfl, fun G hG => g_X7_yearOf hG hw⟩
def B_X7_worstYear_18 (v1 : Int32) (s : St) : Int32 × Int32 → Option ((Int32 × Int32) ⊕ ((Int32) ⊕ (Unit)))
  | (v2, v3) =>
  if (s.1 705) ≤ v3 then
    some (.inr (.inl v2))
  else
    (F_J6_bitCount_0f7a4 v1).bind fun r1 =>
    (F_X7_yearOf v3 r1 s).bind fun r2 =>
    if r2 = (-1) then
      some (.inr (.inr ()))
    else
      some (.inl ((zmx v2 r2), (v3 + 1)))
def F_X7_worstYear_58 (v2 : Int32) (s : St) : Option (Int32) :=
  some v2
def F_X7_worstYear_43 (s : St) : Option (Int32) :=
  some (-1)
def F_X7_worstYear_18 (v1 : Int32) (v2 : Int32) (v3 : Int32) (s : St) : Option (Int32) :=
  (lp (B_X7_worstYear_18 v1 s) FU (v2, v3)).bind (Sum.elim (fun y => F_X7_worstYear_58 y s) (fun _ => F_X7_worstYear_43 s))
def F_X7_worstYear (v1 : Int32) (s : St) : Option (Int32) :=
  if v1 = (-1) then
    some (-1)
  else
    if (s.1 705) = 0 then
      some (-1)
    else
      F_X7_worstYear_18 v1 0 0 s
theorem J_X7_worstYear : mj_t 2 10 = 12 ∧ mj_t 9 5 = 14 ∧ mj_t 23 35 = 58 ∧ mj_t 40 5 = 45 ∧ mj_t 55 (-37) = 18 ∧ (0 ≤ ((2 : Nat) : Int) + 10) = True ∧ (0 ≤ ((9 : Nat) : Int) + 5) = True ∧ (0 ≤ ((23 : Nat) : Int) + 35) = True ∧ (0 ≤ ((40 : Nat) : Int) + 5) = True ∧ (0 ≤ ((55 : Nat) : Int) + (-37)) = True := by and_intros <;> first | rfl | exact eq_true (by decide)
def ct_X7_worstYear : List (Nat × mj_Cs) := [(62, 2, 1, 99, 0, 0, c_J6_bitCount_0f7a4), (68, 0, 3, 7, 0, 0, c_X7_yearOf)]
theorem L_X7_worstYear : mj_lk ct_X7_worstYear 62 = some (2, 1, 99, 0, 0, c_J6_bitCount_0f7a4) ∧ mj_lk ct_X7_worstYear 68 = some (0, 3, 7, 0, 0, c_X7_yearOf) := ⟨rfl, rfl⟩
set_option maxHeartbeats 4000000 in
set_option maxRecDepth 20000 in
theorem b_X7_worstYear_18 {k : Option Value → mj_H → Prop} {G : mj_K} (hG : mj_cl2 cX7_worstYear (TbX7 5 ((some FieldType.int)) ct_X7_worstYear) k G) (hM : mj_ml cX7_worstYear yX7_worstYear.cls G) {v1 : Int32} {s : St} {P : Int32 × Int32 → Prop} {K : (Int32) ⊕ (Unit) → Prop} (hP : ∀ x, P x → G 18 [.ref 81, .int v1, .int x.1, .int x.2] [] (mkCs s) 0 0) (hK0 : ∀ y, K (.inl y) → G 58 [mj_unk, mj_unk, .int y] [] (mkCs s) 0 0) (hK1 : ∀ y, K (.inr y) → G 43 [] [] (mkCs s) 0 0) {v2 : Int32} {v3 : Int32} (hw : ok (B_X7_worstYear_18 v1 s (v2, v3)) (Sum.elim P K)) : G 18 [.ref 81, .int v1, .int v2, .int v3] [] (mkCs s) 0 0 := by
  unfold B_X7_worstYear_18 at hw
  refine mj_run hG.1 (fun pc => pc == 18 || pc == 32 || pc == 35 || pc == 43 || pc == 48 || pc == 58) 4000 ?_
  simp only [mj_step, mj_W_s, mj_fin, List.getElem?_cons_zero, List.getElem?_cons_succ, mj_go, Nat.reduceAdd, Nat.reduceSub, Nat.reduceLT, Nat.reduceLeDiff, Nat.zero_add, Nat.reduceEqDiff, Nat.reduceBEq, ↓reduceIte, Bool.false_eq_true, List.append_nil, List.nil_append, List.cons_append, Option.toList, and_true, true_and, true_or, or_true, reduceCtorEq, List.map_nil, bI_eq0, bI_eq1, bool_ft, pk_us, vnar0, vnar1, Bool.or_false, Bool.or_true, Bool.false_or, Bool.true_or, mj_kne, eq_self, Int32.reduceLT, Int32.reduceLE, Int32.reduceAdd, Int32.reduceSub, Int32.reduceMul, not_true_eq_false, not_false_eq_true, false_implies, true_implies, D_X7_worstYear, mj_F_aload_n_k, mj_F_getfield_i, mj_F_goto_off, mj_F_iconst_n, mj_F_ifCond_ne_off, mj_F_if_icmp_eq_off, mj_F_if_icmp_ge_off, mj_F_if_icmp_ne_off, mj_F_iinc_k_n, mj_F_iload_k, mj_F_iload_n_k, mj_F_invokestatic_i, mj_F_invokevirtual_i, mj_F_ireturn, mj_F_istore_k, mj_F_istore_n_k, mj_set, mj_set0, mj_unk, mj_c2, mj_kc, FT_X7, L_X7_worstYear, List.take_succ_cons, List.take_zero, List.drop_succ_cons, List.drop_zero, List.reverse_cons, List.reverse_nil, List.length_cons, List.length_nil, gS_C81, gCf7_5, J_X7_worstYear]
  refine ⟨fun c => ?_, fun c => ?_⟩
  · replace hw := ok_t hw c
    exact hG.2 _ _ _ _ _ _ _ _ _ (by refine ⟨Or.inl rfl, ?_⟩; refine ⟨Or.inl rfl, ?_⟩; refine ⟨Or.inr rfl, ?_⟩; exact trivial) (Nat.zero_le _) (Nat.zero_le _) (hK0 _ (ok_some hw :) :)
  · replace hw := ok_f hw c
    refine c_J6_bitCount_0f7a4_in (ok_imp (ok_bind hw) ?_)
    intro p hw
    simp only [Option.toList, List.nil_append, List.cons_append, Nat.reduceSub]
    refine mj_run hG.1 (fun pc => pc == 18 || pc == 32 || pc == 35 || pc == 43 || pc == 48 || pc == 58) 4000 ?_
    simp only [mj_step, mj_W_s, mj_fin, List.getElem?_cons_zero, List.getElem?_cons_succ, mj_go, Nat.reduceAdd, Nat.reduceSub, Nat.reduceLT, Nat.reduceLeDiff, Nat.zero_add, Nat.reduceEqDiff, Nat.reduceBEq, ↓reduceIte, Bool.false_eq_true, List.append_nil, List.nil_append, List.cons_append, Option.toList, and_true, true_and, true_or, or_true, reduceCtorEq, List.map_nil, bI_eq0, bI_eq1, bool_ft, pk_us, vnar0, vnar1, Bool.or_false, Bool.or_true, Bool.false_or, Bool.true_or, mj_kne, eq_self, Int32.reduceLT, Int32.reduceLE, Int32.reduceAdd, Int32.reduceSub, Int32.reduceMul, not_true_eq_false, not_false_eq_true, false_implies, true_implies, D_X7_worstYear, mj_F_aload_n_k, mj_F_getfield_i, mj_F_goto_off, mj_F_iconst_n, mj_F_ifCond_ne_off, mj_F_if_icmp_eq_off, mj_F_if_icmp_ge_off, mj_F_if_icmp_ne_off, mj_F_iinc_k_n, mj_F_iload_k, mj_F_iload_n_k, mj_F_invokestatic_i, mj_F_invokevirtual_i, mj_F_ireturn, mj_F_istore_k, mj_F_istore_n_k, mj_set, mj_set0, mj_unk, mj_c2, mj_kc, FT_X7, L_X7_worstYear, List.take_succ_cons, List.take_zero, List.drop_succ_cons, List.drop_zero, List.reverse_cons, List.reverse_nil, List.length_cons, List.length_nil, gS_C81, gCf7_5, J_X7_worstYear]
    refine c_X7_yearOf_in (ok_imp (ok_bind hw) ?_)
    intro p hw
    simp only [Option.toList, List.nil_append, List.cons_append, Nat.reduceSub]
    refine mj_run hG.1 (fun pc => pc == 18 || pc == 32 || pc == 35 || pc == 43 || pc == 48 || pc == 58) 4000 ?_
    simp only [mj_step, mj_W_s, mj_fin, List.getElem?_cons_zero, List.getElem?_cons_succ, mj_go, Nat.reduceAdd, Nat.reduceSub, Nat.reduceLT, Nat.reduceLeDiff, Nat.zero_add, Nat.reduceEqDiff, Nat.reduceBEq, ↓reduceIte, Bool.false_eq_true, List.append_nil, List.nil_append, List.cons_append, Option.toList, and_true, true_and, true_or, or_true, reduceCtorEq, List.map_nil, bI_eq0, bI_eq1, bool_ft, pk_us, vnar0, vnar1, Bool.or_false, Bool.or_true, Bool.false_or, Bool.true_or, mj_kne, eq_self, Int32.reduceLT, Int32.reduceLE, Int32.reduceAdd, Int32.reduceSub, Int32.reduceMul, not_true_eq_false, not_false_eq_true, false_implies, true_implies, D_X7_worstYear, mj_F_aload_n_k, mj_F_getfield_i, mj_F_goto_off, mj_F_iconst_n, mj_F_ifCond_ne_off, mj_F_if_icmp_eq_off, mj_F_if_icmp_ge_off, mj_F_if_icmp_ne_off, mj_F_iinc_k_n, mj_F_iload_k, mj_F_iload_n_k, mj_F_invokestatic_i, mj_F_invokevirtual_i, mj_F_ireturn, mj_F_istore_k, mj_F_istore_n_k, mj_set, mj_set0, mj_unk, mj_c2, mj_kc, FT_X7, L_X7_worstYear, List.take_succ_cons, List.take_zero, List.drop_succ_cons, List.drop_zero, List.reverse_cons, List.reverse_nil, List.length_cons, List.length_nil, gS_C81, gCf7_5, J_X7_worstYear]
    refine ⟨fun c => ?_, fun c => ?_⟩
    · replace hw := ok_f hw c
      refine hM 48 71 1 _ _ _ _ _ _ _ _ (by simp only [D_X7_worstYear]) (lkX7_71) rfl (Nat.le_of_ble_eq_true rfl) ?_
      refine mj_run hG.1 (fun pc => pc == 18 || pc == 32 || pc == 35 || pc == 43 || pc == 48 || pc == 58) 4000 ?_
      simp only [mj_step, mj_W_s, mj_fin, List.getElem?_cons_zero, List.getElem?_cons_succ, mj_go, Nat.reduceAdd, Nat.reduceSub, Nat.reduceLT, Nat.reduceLeDiff, Nat.zero_add, Nat.reduceEqDiff, Nat.reduceBEq, ↓reduceIte, Bool.false_eq_true, List.append_nil, List.nil_append, List.cons_append, Option.toList, and_true, true_and, true_or, or_true, reduceCtorEq, List.map_nil, bI_eq0, bI_eq1, bool_ft, pk_us, vnar0, vnar1, Bool.or_false, Bool.or_true, Bool.false_or, Bool.true_or, mj_kne, eq_self, Int32.reduceLT, Int32.reduceLE, Int32.reduceAdd, Int32.reduceSub, Int32.reduceMul, not_true_eq_false, not_false_eq_true, false_implies, true_implies, D_X7_worstYear, mj_F_aload_n_k, mj_F_getfield_i, mj_F_goto_off, mj_F_iconst_n, mj_F_ifCond_ne_off, mj_F_if_icmp_eq_off, mj_F_if_icmp_ge_off, mj_F_if_icmp_ne_off, mj_F_iinc_k_n, mj_F_iload_k, mj_F_iload_n_k, mj_F_invokestatic_i, mj_F_invokevirtual_i, mj_F_ireturn, mj_F_istore_k, mj_F_istore_n_k, mj_set, mj_set0, mj_unk, mj_c2, mj_kc, FT_X7, L_X7_worstYear, List.take_succ_cons, List.take_zero, List.drop_succ_cons, List.drop_zero, List.reverse_cons, List.reverse_nil, List.length_cons, List.length_nil, gS_C81, gCf7_5, J_X7_worstYear]
      exact hG.2 _ _ _ _ _ _ _ _ _ (by refine ⟨Or.inr rfl, ?_⟩; refine ⟨Or.inr rfl, ?_⟩; refine ⟨Or.inr rfl, ?_⟩; refine ⟨Or.inr rfl, ?_⟩; exact trivial) (Nat.zero_le _) (Nat.zero_le _) (hP _ (ok_some hw :) :)
    · replace hw := ok_t hw c
      exact hG.2 _ _ _ _ _ _ _ _ _ (by exact trivial) (Nat.zero_le _) (Nat.zero_le _) (hK1 _ (ok_some hw :) :)

set_option maxHeartbeats 4000000 in
set_option maxRecDepth 20000 in
theorem g_X7_worstYear_58 {k : Option Value → mj_H → Prop} {G : mj_K} (hG : mj_cl2 cX7_worstYear (TbX7 5 ((some FieldType.int)) ct_X7_worstYear) k G) (hM : mj_ml cX7_worstYear yX7_worstYear.cls G)   {v2 : Int32} {s : St} (hw : ok (F_X7_worstYear_58 v2 s) (fun p => k (some (.int p)) (mkCs s))) : G 58 [mj_unk, mj_unk, .int v2] [] (mkCs s) 0 0 := by
  unfold F_X7_worstYear_58 at hw
  refine mj_run hG.1 (fun pc => pc == 18 || pc == 32 || pc == 35 || pc == 43 || pc == 48 || pc == 58) 4000 ?_
  simp only [mj_step, mj_W_s, mj_fin, List.getElem?_cons_zero, List.getElem?_cons_succ, mj_go, Nat.reduceAdd, Nat.reduceSub, Nat.reduceLT, Nat.reduceLeDiff, Nat.zero_add, Nat.reduceEqDiff, Nat.reduceBEq, ↓reduceIte, Bool.false_eq_true, List.append_nil, List.nil_append, List.cons_append, Option.toList, and_true, true_and, true_or, or_true, reduceCtorEq, List.map_nil, bI_eq0, bI_eq1, bool_ft, pk_us, vnar0, vnar1, Bool.or_false, Bool.or_true, Bool.false_or, Bool.true_or, mj_kne, eq_self, Int32.reduceLT, Int32.reduceLE, Int32.reduceAdd, Int32.reduceSub, Int32.reduceMul, not_true_eq_false, not_false_eq_true, false_implies, true_implies, D_X7_worstYear, mj_F_aload_n_k, mj_F_getfield_i, mj_F_goto_off, mj_F_iconst_n, mj_F_ifCond_ne_off, mj_F_if_icmp_eq_off, mj_F_if_icmp_ge_off, mj_F_if_icmp_ne_off, mj_F_iinc_k_n, mj_F_iload_k, mj_F_iload_n_k, mj_F_invokestatic_i, mj_F_invokevirtual_i, mj_F_ireturn, mj_F_istore_k, mj_F_istore_n_k, mj_set, mj_set0, mj_unk, mj_c2, mj_kc, FT_X7, L_X7_worstYear, List.take_succ_cons, List.take_zero, List.drop_succ_cons, List.drop_zero, List.reverse_cons, List.reverse_nil, List.length_cons, List.length_nil, gS_C81, gCf7_5, J_X7_worstYear]
  exact (ok_some hw :)

set_option maxHeartbeats 4000000 in
set_option maxRecDepth 20000 in
theorem g_X7_worstYear_43 {k : Option Value → mj_H → Prop} {G : mj_K} (hG : mj_cl2 cX7_worstYear (TbX7 5 ((some FieldType.int)) ct_X7_worstYear) k G) (hM : mj_ml cX7_worstYear yX7_worstYear.cls G)   {s : St} (hw : ok (F_X7_worstYear_43 s) (fun p => k (some (.int p)) (mkCs s))) : G 43 [] [] (mkCs s) 0 0 := by
  unfold F_X7_worstYear_43 at hw
  refine mj_run hG.1 (fun pc => pc == 18 || pc == 32 || pc == 35 || pc == 43 || pc == 48 || pc == 58) 4000 ?_
  simp only [mj_step, mj_W_s, mj_fin, List.getElem?_cons_zero, List.getElem?_cons_succ, mj_go, Nat.reduceAdd, Nat.reduceSub, Nat.reduceLT, Nat.reduceLeDiff, Nat.zero_add, Nat.reduceEqDiff, Nat.reduceBEq, ↓reduceIte, Bool.false_eq_true, List.append_nil, List.nil_append, List.cons_append, Option.toList, and_true, true_and, true_or, or_true, reduceCtorEq, List.map_nil, bI_eq0, bI_eq1, bool_ft, pk_us, vnar0, vnar1, Bool.or_false, Bool.or_true, Bool.false_or, Bool.true_or, mj_kne, eq_self, Int32.reduceLT, Int32.reduceLE, Int32.reduceAdd, Int32.reduceSub, Int32.reduceMul, not_true_eq_false, not_false_eq_true, false_implies, true_implies, D_X7_worstYear, mj_F_aload_n_k, mj_F_getfield_i, mj_F_goto_off, mj_F_iconst_n, mj_F_ifCond_ne_off, mj_F_if_icmp_eq_off, mj_F_if_icmp_ge_off, mj_F_if_icmp_ne_off, mj_F_iinc_k_n, mj_F_iload_k, mj_F_iload_n_k, mj_F_invokestatic_i, mj_F_invokevirtual_i, mj_F_ireturn, mj_F_istore_k, mj_F_istore_n_k, mj_set, mj_set0, mj_unk, mj_c2, mj_kc, FT_X7, L_X7_worstYear, List.take_succ_cons, List.take_zero, List.drop_succ_cons, List.drop_zero, List.reverse_cons, List.reverse_nil, List.length_cons, List.length_nil, gS_C81, gCf7_5, J_X7_worstYear]
  exact (ok_some hw :)

set_option maxHeartbeats 4000000 in
theorem g_X7_worstYear_18 {k : Option Value → mj_H → Prop} {G : mj_K} (hG : mj_cl2 cX7_worstYear (TbX7 5 ((some FieldType.int)) ct_X7_worstYear) k G) (hM : mj_ml cX7_worstYear yX7_worstYear.cls G)   {v1 : Int32} {v2 : Int32} {v3 : Int32} {s : St} (hw : ok (F_X7_worstYear_18 v1 v2 v3 s) (fun p => k (some (.int p)) (mkCs s))) : G 18 [.ref 81, .int v1, .int v2, .int v3] [] (mkCs s) 0 0 := by
  unfold F_X7_worstYear_18 at hw
  refine lp_ok (B_X7_worstYear_18 v1 s) (fun x => G 18 [.ref 81, .int v1, .int x.1, .int x.2] [] (mkCs s) 0 0) _ ?_ _ _ (ok_bind hw)
  rintro ⟨v2, v3⟩ hb
  exact b_X7_worstYear_18 hG hM (fun _ z => z) (fun y hw => by exact hG.2 _ _ _ _ _ _ _ _ _ (by refine ⟨Or.inl rfl, ?_⟩; refine ⟨Or.inl rfl, ?_⟩; refine ⟨Or.inr rfl, ?_⟩; exact trivial) (Nat.zero_le _) (Nat.zero_le _) (g_X7_worstYear_58 hG hM  hw :)) (fun y hw => by exact hG.2 _ _ _ _ _ _ _ _ _ (by exact trivial) (Nat.zero_le _) (Nat.zero_le _) (g_X7_worstYear_43 hG hM  hw :)) hb

set_option maxHeartbeats 4000000 in
set_option maxRecDepth 20000 in
theorem g_X7_worstYear {k : Option Value → mj_H → Prop} {G : mj_K} (hG : mj_cl2 cX7_worstYear (TbX7 5 ((some FieldType.int)) ct_X7_worstYear) k G) (hM : mj_ml cX7_worstYear yX7_worstYear.cls G) {v1 : Int32} {s : St} (hw : ok (F_X7_worstYear v1 s) (fun p => k (some (.int p)) (mkCs s))) : G 0 [.ref 81, .int v1] [] (mkCs s) 0 0 := by
  unfold F_X7_worstYear at hw
  refine mj_run hG.1 (fun pc => pc == 18 || pc == 32 || pc == 35 || pc == 43 || pc == 48 || pc == 58) 4000 ?_
  simp only [mj_step, mj_W_s, mj_fin, List.getElem?_cons_zero, List.getElem?_cons_succ, mj_go, Nat.reduceAdd, Nat.reduceSub, Nat.reduceLT, Nat.reduceLeDiff, Nat.zero_add, Nat.reduceEqDiff, Nat.reduceBEq, ↓reduceIte, Bool.false_eq_true, List.append_nil, List.nil_append, List.cons_append, Option.toList, and_true, true_and, true_or, or_true, reduceCtorEq, List.map_nil, bI_eq0, bI_eq1, bool_ft, pk_us, vnar0, vnar1, Bool.or_false, Bool.or_true, Bool.false_or, Bool.true_or, mj_kne, eq_self, Int32.reduceLT, Int32.reduceLE, Int32.reduceAdd, Int32.reduceSub, Int32.reduceMul, not_true_eq_false, not_false_eq_true, false_implies, true_implies, D_X7_worstYear, mj_F_aload_n_k, mj_F_getfield_i, mj_F_goto_off, mj_F_iconst_n, mj_F_ifCond_ne_off, mj_F_if_icmp_eq_off, mj_F_if_icmp_ge_off, mj_F_if_icmp_ne_off, mj_F_iinc_k_n, mj_F_iload_k, mj_F_iload_n_k, mj_F_invokestatic_i, mj_F_invokevirtual_i, mj_F_ireturn, mj_F_istore_k, mj_F_istore_n_k, mj_set, mj_set0, mj_unk, mj_c2, mj_kc, FT_X7, L_X7_worstYear, List.take_succ_cons, List.take_zero, List.drop_succ_cons, List.drop_zero, List.reverse_cons, List.reverse_nil, List.length_cons, List.length_nil, gS_C81, gCf7_5, J_X7_worstYear]
  refine ⟨fun c => ?_, fun c => ?_⟩
  · replace hw := ok_t hw c
    exact (ok_some hw :)
  · replace hw := ok_f hw c
    refine ⟨fun c => ?_, fun c => ?_⟩
    · replace hw := ok_f hw c
      exact hG.2 _ _ _ _ _ _ _ _ _ (by refine ⟨Or.inr rfl, ?_⟩; refine ⟨Or.inr rfl, ?_⟩; refine ⟨Or.inr rfl, ?_⟩; refine ⟨Or.inr rfl, ?_⟩; exact trivial) (Nat.zero_le _) (Nat.zero_le _) (g_X7_worstYear_18 hG hM  hw :)
    · replace hw := ok_t hw c
      exact (ok_some hw :)

def c_X7_worstYear : mj_S := fun as h k => ∃ (v1 : Int32) (s : St), as = [.ref 81, .int v1] ∧ h = mkCs s ∧ ok (F_X7_worstYear v1 s) (fun p => k (some (.int p)) (mkCs s))
theorem c_X7_worstYear_in {v1 : Int32} {s : St} {k : Option Value → mj_H → Prop} (hw : ok (F_X7_worstYear v1 s) (fun p => k (some (.int p)) (mkCs s))) : c_X7_worstYear [.ref 81, .int v1] (mkCs s) k := ⟨v1, s, rfl, rfl, hw⟩
theorem m_X7_worstYear (l : Launch) : mj_Met l yX7_worstYear cX7_worstYear 5 ((some FieldType.int)) 1 0 0 c_X7_worstYear := by
  refine mj_body3 false (TbX7 5 ((some FieldType.int)) ct_X7_worstYear) (by decide) (by decide) rfl rfl (fun h => nomatch h) (tfX7 _ (List.forall_mem_cons.mpr ⟨cfX7_62 (m_J6_bitCount_0f7a4 l) (by decide), List.forall_mem_cons.mpr ⟨cfX7_68 (m_X7_yearOf l) (by decide), fun _ h => nomatch h⟩⟩)) ?_
  rintro as h k ⟨v1, s, rfl, rfl, hw⟩
  exact ⟨rfl, fun G hG hM => g_X7_worstYear hG hM hw⟩
def F_X11_plan (v1 : Int32) (v2 : Int32) (v3 : Int32) (s : St) : Option (Int32 × St) :=
  (F_X11_areSites v1 s).bind fun r1 =>
  if r1 = 0 then
    some ((-1), s)
  else
    (F_X11_areVillages v2 s).bind fun r2 =>
    if r2 = 0 then
      some ((-1), s)
    else
      if inb v3 0 600 = false then
        some ((-1), s)
      else
        (F_X7_look v2 v3 (s.1 1100) s).bind fun s3 =>
        (F_X7_fewest v1 v2 s3).bind fun r4 =>
        (F_X7_worstYear r4 s3).bind fun r5 =>
        some (r5, s3)
theorem J_X11_plan : mj_t 5 22 = 27 ∧ mj_t 13 14 = 27 ∧ mj_t 24 5 = 29 ∧ (0 ≤ ((5 : Nat) : Int) + 22) = True ∧ (0 ≤ ((13 : Nat) : Int) + 14) = True ∧ (0 ≤ ((24 : Nat) : Int) + 5) = True := by and_intros <;> first | rfl | exact eq_true (by decide)
def ct_X11_plan : List (Nat × mj_Cs) := [(96, 2, 3, 11, 0, 0, c_in), (275, 0, 2, 11, 0, 0, c_X11_areVillages), (278, 0, 4, 7, 25, 3000, c_X7_look), (285, 0, 3, 7, 0, 0, c_X7_fewest), (292, 0, 2, 11, 0, 0, c_X11_areSites), (388, 0, 2, 7, 0, 0, c_X7_worstYear)]
theorem L_X11_plan : mj_lk ct_X11_plan 96 = some (2, 3, 11, 0, 0, c_in) ∧ mj_lk ct_X11_plan 275 = some (0, 2, 11, 0, 0, c_X11_areVillages) ∧ mj_lk ct_X11_plan 278 = some (0, 4, 7, 25, 3000, c_X7_look) ∧ mj_lk ct_X11_plan 285 = some (0, 3, 7, 0, 0, c_X7_fewest) ∧ mj_lk ct_X11_plan 292 = some (0, 2, 11, 0, 0, c_X11_areSites) ∧ mj_lk ct_X11_plan 388 = some (0, 2, 7, 0, 0, c_X7_worstYear) := ⟨rfl, rfl, rfl, rfl, rfl, rfl⟩
set_option maxHeartbeats 4000000 in
set_option maxRecDepth 20000 in
theorem g_X11_plan {k : Option Value → mj_H → Prop} {G : mj_K} (hG : mj_cl2 cX11_plan (TbX11 4 ((some FieldType.int)) ct_X11_plan) k G) {v1 : Int32} {v2 : Int32} {v3 : Int32} {s : St} (hw : ok (F_X11_plan v1 v2 v3 s) (fun p => k (some (.int p.1)) (mkCs p.2))) : G 0 [.ref 0, .int v1, .int v2, .int v3] [] (mkCs s) 25 3000 := by
  unfold F_X11_plan at hw
  refine mj_run hG.1 (fun pc => pc == 5 || pc == 13 || pc == 42 || pc == 55 || pc == 58) 4000 ?_
  simp only [mj_step, mj_W_s, mj_fin, List.getElem?_cons_zero, List.getElem?_cons_succ, mj_go, Nat.reduceAdd, Nat.reduceSub, Nat.reduceLT, Nat.reduceLeDiff, Nat.zero_add, Nat.reduceEqDiff, Nat.reduceBEq, ↓reduceIte, Bool.false_eq_true, List.append_nil, List.nil_append, List.cons_append, Option.toList, and_true, true_and, true_or, or_true, reduceCtorEq, List.map_nil, bI_eq0, bI_eq1, bool_ft, pk_us, vnar0, vnar1, Bool.or_false, Bool.or_true, Bool.false_or, Bool.true_or, mj_kne, eq_self, Int32.reduceLT, Int32.reduceLE, Int32.reduceAdd, Int32.reduceSub, Int32.reduceMul, not_true_eq_false, not_false_eq_true, false_implies, true_implies, D_X11_plan, mj_F_aload_n_k, mj_F_getfield_i, mj_F_iconst_n, mj_F_ifCond_eq_off, mj_F_ifCond_ne_off, mj_F_iload_n_k, mj_F_invokestatic_i, mj_F_invokevirtual_i, mj_F_ireturn, mj_F_sipush_n, mj_kc, FT_X11, L_X11_plan, List.take_succ_cons, List.take_zero, List.drop_succ_cons, List.drop_zero, List.reverse_cons, List.reverse_nil, List.length_cons, List.length_nil, gS_C0, gCf11_10, gCf11_0, c_in_eq, gS_C81, J_X11_plan]
  refine c_X11_areSites_in (ok_imp (ok_bind hw) ?_)
  intro p hw
  simp only [Option.toList, List.nil_append, List.cons_append, Nat.reduceSub]
  refine mj_run hG.1 (fun pc => pc == 5 || pc == 13 || pc == 42 || pc == 55 || pc == 58) 4000 ?_
  simp only [mj_step, mj_W_s, mj_fin, List.getElem?_cons_zero, List.getElem?_cons_succ, mj_go, Nat.reduceAdd, Nat.reduceSub, Nat.reduceLT, Nat.reduceLeDiff, Nat.zero_add, Nat.reduceEqDiff, Nat.reduceBEq, ↓reduceIte, Bool.false_eq_true, List.append_nil, List.nil_append, List.cons_append, Option.toList, and_true, true_and, true_or, or_true, reduceCtorEq, List.map_nil, bI_eq0, bI_eq1, bool_ft, pk_us, vnar0, vnar1, Bool.or_false, Bool.or_true, Bool.false_or, Bool.true_or, mj_kne, eq_self, Int32.reduceLT, Int32.reduceLE, Int32.reduceAdd, Int32.reduceSub, Int32.reduceMul, not_true_eq_false, not_false_eq_true, false_implies, true_implies, D_X11_plan, mj_F_aload_n_k, mj_F_getfield_i, mj_F_iconst_n, mj_F_ifCond_eq_off, mj_F_ifCond_ne_off, mj_F_iload_n_k, mj_F_invokestatic_i, mj_F_invokevirtual_i, mj_F_ireturn, mj_F_sipush_n, mj_kc, FT_X11, L_X11_plan, List.take_succ_cons, List.take_zero, List.drop_succ_cons, List.drop_zero, List.reverse_cons, List.reverse_nil, List.length_cons, List.length_nil, gS_C0, gCf11_10, gCf11_0, c_in_eq, gS_C81, J_X11_plan]
  refine ⟨fun c => ?_, fun c => ?_⟩
  · replace hw := ok_t hw c
    exact (ok_some hw :)
  · replace hw := ok_f hw c
    refine c_X11_areVillages_in (ok_imp (ok_bind hw) ?_)
    intro p hw
    simp only [Option.toList, List.nil_append, List.cons_append, Nat.reduceSub]
    refine mj_run hG.1 (fun pc => pc == 5 || pc == 13 || pc == 42 || pc == 55 || pc == 58) 4000 ?_
    simp only [mj_step, mj_W_s, mj_fin, List.getElem?_cons_zero, List.getElem?_cons_succ, mj_go, Nat.reduceAdd, Nat.reduceSub, Nat.reduceLT, Nat.reduceLeDiff, Nat.zero_add, Nat.reduceEqDiff, Nat.reduceBEq, ↓reduceIte, Bool.false_eq_true, List.append_nil, List.nil_append, List.cons_append, Option.toList, and_true, true_and, true_or, or_true, reduceCtorEq, List.map_nil, bI_eq0, bI_eq1, bool_ft, pk_us, vnar0, vnar1, Bool.or_false, Bool.or_true, Bool.false_or, Bool.true_or, mj_kne, eq_self, Int32.reduceLT, Int32.reduceLE, Int32.reduceAdd, Int32.reduceSub, Int32.reduceMul, not_true_eq_false, not_false_eq_true, false_implies, true_implies, D_X11_plan, mj_F_aload_n_k, mj_F_getfield_i, mj_F_iconst_n, mj_F_ifCond_eq_off, mj_F_ifCond_ne_off, mj_F_iload_n_k, mj_F_invokestatic_i, mj_F_invokevirtual_i, mj_F_ireturn, mj_F_sipush_n, mj_kc, FT_X11, L_X11_plan, List.take_succ_cons, List.take_zero, List.drop_succ_cons, List.drop_zero, List.reverse_cons, List.reverse_nil, List.length_cons, List.length_nil, gS_C0, gCf11_10, gCf11_0, c_in_eq, gS_C81, J_X11_plan]
    refine ⟨fun c => ?_, fun c => ?_⟩
    · replace hw := ok_t hw c
      exact (ok_some hw :)
    · replace hw := ok_f hw c
      refine ⟨fun c => ?_, fun c => ?_⟩
      · replace hw := ok_f hw c
        refine c_X7_look_in (ok_imp (ok_bind hw) ?_)
        intro p hw
        simp only [Option.toList, List.nil_append, List.cons_append, Nat.reduceSub]
        refine mj_run hG.1 (fun pc => pc == 5 || pc == 13 || pc == 42 || pc == 55 || pc == 58) 4000 ?_
        simp only [mj_step, mj_W_s, mj_fin, List.getElem?_cons_zero, List.getElem?_cons_succ, mj_go, Nat.reduceAdd, Nat.reduceSub, Nat.reduceLT, Nat.reduceLeDiff, Nat.zero_add, Nat.reduceEqDiff, Nat.reduceBEq, ↓reduceIte, Bool.false_eq_true, List.append_nil, List.nil_append, List.cons_append, Option.toList, and_true, true_and, true_or, or_true, reduceCtorEq, List.map_nil, bI_eq0, bI_eq1, bool_ft, pk_us, vnar0, vnar1, Bool.or_false, Bool.or_true, Bool.false_or, Bool.true_or, mj_kne, eq_self, Int32.reduceLT, Int32.reduceLE, Int32.reduceAdd, Int32.reduceSub, Int32.reduceMul, not_true_eq_false, not_false_eq_true, false_implies, true_implies, D_X11_plan, mj_F_aload_n_k, mj_F_getfield_i, mj_F_iconst_n, mj_F_ifCond_eq_off, mj_F_ifCond_ne_off, mj_F_iload_n_k, mj_F_invokestatic_i, mj_F_invokevirtual_i, mj_F_ireturn, mj_F_sipush_n, mj_kc, FT_X11, L_X11_plan, List.take_succ_cons, List.take_zero, List.drop_succ_cons, List.drop_zero, List.reverse_cons, List.reverse_nil, List.length_cons, List.length_nil, gS_C0, gCf11_10, gCf11_0, c_in_eq, gS_C81, J_X11_plan]
        refine c_X7_fewest_in (ok_imp (ok_bind hw) ?_)
        intro p hw
        simp only [Option.toList, List.nil_append, List.cons_append, Nat.reduceSub]
        refine mj_run hG.1 (fun pc => pc == 5 || pc == 13 || pc == 42 || pc == 55 || pc == 58) 4000 ?_
        simp only [mj_step, mj_W_s, mj_fin, List.getElem?_cons_zero, List.getElem?_cons_succ, mj_go, Nat.reduceAdd, Nat.reduceSub, Nat.reduceLT, Nat.reduceLeDiff, Nat.zero_add, Nat.reduceEqDiff, Nat.reduceBEq, ↓reduceIte, Bool.false_eq_true, List.append_nil, List.nil_append, List.cons_append, Option.toList, and_true, true_and, true_or, or_true, reduceCtorEq, List.map_nil, bI_eq0, bI_eq1, bool_ft, pk_us, vnar0, vnar1, Bool.or_false, Bool.or_true, Bool.false_or, Bool.true_or, mj_kne, eq_self, Int32.reduceLT, Int32.reduceLE, Int32.reduceAdd, Int32.reduceSub, Int32.reduceMul, not_true_eq_false, not_false_eq_true, false_implies, true_implies, D_X11_plan, mj_F_aload_n_k, mj_F_getfield_i, mj_F_iconst_n, mj_F_ifCond_eq_off, mj_F_ifCond_ne_off, mj_F_iload_n_k, mj_F_invokestatic_i, mj_F_invokevirtual_i, mj_F_ireturn, mj_F_sipush_n, mj_kc, FT_X11, L_X11_plan, List.take_succ_cons, List.take_zero, List.drop_succ_cons, List.drop_zero, List.reverse_cons, List.reverse_nil, List.length_cons, List.length_nil, gS_C0, gCf11_10, gCf11_0, c_in_eq, gS_C81, J_X11_plan]
        refine c_X7_worstYear_in (ok_imp (ok_bind hw) ?_)
        intro p hw
        simp only [Option.toList, List.nil_append, List.cons_append, Nat.reduceSub]
        refine mj_run hG.1 (fun pc => pc == 5 || pc == 13 || pc == 42 || pc == 55 || pc == 58) 4000 ?_
        simp only [mj_step, mj_W_s, mj_fin, List.getElem?_cons_zero, List.getElem?_cons_succ, mj_go, Nat.reduceAdd, Nat.reduceSub, Nat.reduceLT, Nat.reduceLeDiff, Nat.zero_add, Nat.reduceEqDiff, Nat.reduceBEq, ↓reduceIte, Bool.false_eq_true, List.append_nil, List.nil_append, List.cons_append, Option.toList, and_true, true_and, true_or, or_true, reduceCtorEq, List.map_nil, bI_eq0, bI_eq1, bool_ft, pk_us, vnar0, vnar1, Bool.or_false, Bool.or_true, Bool.false_or, Bool.true_or, mj_kne, eq_self, Int32.reduceLT, Int32.reduceLE, Int32.reduceAdd, Int32.reduceSub, Int32.reduceMul, not_true_eq_false, not_false_eq_true, false_implies, true_implies, D_X11_plan, mj_F_aload_n_k, mj_F_getfield_i, mj_F_iconst_n, mj_F_ifCond_eq_off, mj_F_ifCond_ne_off, mj_F_iload_n_k, mj_F_invokestatic_i, mj_F_invokevirtual_i, mj_F_ireturn, mj_F_sipush_n, mj_kc, FT_X11, L_X11_plan, List.take_succ_cons, List.take_zero, List.drop_succ_cons, List.drop_zero, List.reverse_cons, List.reverse_nil, List.length_cons, List.length_nil, gS_C0, gCf11_10, gCf11_0, c_in_eq, gS_C81, J_X11_plan]
        exact (ok_some hw :)
      · replace hw := ok_t hw c
        exact (ok_some hw :)

def c_X11_plan : mj_S := fun as h k => ∃ (v1 : Int32) (v2 : Int32) (v3 : Int32) (s : St), as = [.ref 0, .int v1, .int v2, .int v3] ∧ h = mkCs s ∧ ok (F_X11_plan v1 v2 v3 s) (fun p => k (some (.int p.1)) (mkCs p.2))
theorem c_X11_plan_in {v1 : Int32} {v2 : Int32} {v3 : Int32} {s : St} {k : Option Value → mj_H → Prop} (hw : ok (F_X11_plan v1 v2 v3 s) (fun p => k (some (.int p.1)) (mkCs p.2))) : c_X11_plan [.ref 0, .int v1, .int v2, .int v3] (mkCs s) k := ⟨v1, v2, v3, s, rfl, rfl, hw⟩
theorem m_X11_plan (l : Launch) : mj_Met l yX11_plan cX11_plan 4 ((some FieldType.int)) 6 25 3000 c_X11_plan := by
  refine mj_body2 false (TbX11 4 ((some FieldType.int)) ct_X11_plan) (by decide) rfl rfl (fun h => nomatch h) (tfX11 _ (List.forall_mem_cons.mpr ⟨cfX11_96 (m_X11_within l) (by decide), List.forall_mem_cons.mpr ⟨cfX11_275 (m_X11_areVillages l) (by decide), List.forall_mem_cons.mpr ⟨cfX11_278 (m_X7_look l) (by decide), List.forall_mem_cons.mpr ⟨cfX11_285 (m_X7_fewest l) (by decide), List.forall_mem_cons.mpr ⟨cfX11_292 (m_X11_areSites l) (by decide), List.forall_mem_cons.mpr ⟨cfX11_388 (m_X7_worstYear l) (by decide), fun _ h => nomatch h⟩⟩⟩⟩⟩⟩)) ?_
  rintro as h k ⟨v1, v2, v3, s, rfl, rfl, hw⟩
  exact ⟨rfl, fun G hG => g_X11_plan hG hw⟩
def B_X5_builtInAll_4 (s : St) : Int32 × Int32 → Option ((Int32 × Int32) ⊕ ((Int32)))
  | (v1, v2) =>
  if (s.1 501) ≤ v2 then
    some (.inr v1)
  else
    (rd s 508 20 v2).bind fun x1 =>
    if x1 = (-1) then
      some (.inl (v1, (v2 + 1)))
    else
      some (.inl ((v1 + 1), (v2 + 1)))
def F_X5_builtInAll_31 (v1 : Int32) (s : St) : Option (Int32) :=
  some v1
def F_X5_builtInAll_4 (v1 : Int32) (v2 : Int32) (s : St) : Option (Int32) :=
  (lp (B_X5_builtInAll_4 s) FU (v1, v2)).bind (fun y => F_X5_builtInAll_31 y s)
def F_X5_builtInAll (s : St) : Option (Int32) :=
  F_X5_builtInAll_4 0 0 s
theorem J_X5_builtInAll : mj_t 9 22 = 31 ∧ mj_t 19 6 = 25 ∧ mj_t 28 (-24) = 4 ∧ (0 ≤ ((9 : Nat) : Int) + 22) = True ∧ (0 ≤ ((19 : Nat) : Int) + 6) = True ∧ (0 ≤ ((28 : Nat) : Int) + (-24)) = True := by and_intros <;> first | rfl | exact eq_true (by decide)
set_option maxHeartbeats 4000000 in
set_option maxRecDepth 20000 in
theorem b_X5_builtInAll_4 {k : Option Value → mj_H → Prop} {G : mj_K} (hG : mj_cl2 cX5_builtInAll (TbX5 3 ((some FieldType.int)) []) k G) {s : St} {P : Int32 × Int32 → Prop} {K : (Int32) → Prop} (hP : ∀ x, P x → G 4 [.ref 35, .int x.1, .int x.2] [] (mkCs s) 0 0) (hK0 : ∀ y, K y → G 31 [mj_unk, .int y] [] (mkCs s) 0 0) {v1 : Int32} {v2 : Int32} (hw : ok (B_X5_builtInAll_4 s (v1, v2)) (Sum.elim P K)) : G 4 [.ref 35, .int v1, .int v2] [] (mkCs s) 0 0 := by
  unfold B_X5_builtInAll_4 at hw
  refine mj_run hG.1 (fun pc => pc == 4 || pc == 31) 4000 ?_
  simp only [mj_step, mj_W_s, mj_fin, List.getElem?_cons_zero, List.getElem?_cons_succ, mj_go, Nat.reduceAdd, Nat.reduceSub, Nat.reduceLT, Nat.reduceLeDiff, Nat.zero_add, Nat.reduceEqDiff, Nat.reduceBEq, ↓reduceIte, Bool.false_eq_true, List.append_nil, List.nil_append, List.cons_append, Option.toList, and_true, true_and, true_or, or_true, reduceCtorEq, List.map_nil, bI_eq0, bI_eq1, bool_ft, pk_us, vnar0, vnar1, Bool.or_false, Bool.or_true, Bool.false_or, Bool.true_or, mj_kne, eq_self, Int32.reduceLT, Int32.reduceLE, Int32.reduceAdd, Int32.reduceSub, Int32.reduceMul, not_true_eq_false, not_false_eq_true, false_implies, true_implies, D_X5_builtInAll, mj_F_aload_n_k, mj_F_getfield_i, mj_F_goto_off, mj_F_iaload, mj_F_iconst_n, mj_F_if_icmp_eq_off, mj_F_if_icmp_ge_off, mj_F_iinc_k_n, mj_F_iload_n_k, mj_F_ireturn, mj_F_istore_n_k, mj_set, mj_set0, mj_unk, mj_c2, mj_kc, FT_X5, gS_C35, gCf5_1, gCf5_8, gS_C42, sS_Ca_42, J_X5_builtInAll]
  refine ⟨fun c => ?_, fun c => ?_⟩
  · replace hw := ok_t hw c
    exact hG.2 _ _ _ _ _ _ _ _ _ (by refine ⟨Or.inl rfl, ?_⟩; refine ⟨Or.inr rfl, ?_⟩; exact trivial) (Nat.zero_le _) (Nat.zero_le _) (hK0 _ (ok_some hw :) :)
  · replace hw := ok_f hw c
    refine ⟨(ok_rd hw).1, ?_⟩
    replace hw := (ok_rd hw).2
    refine ⟨fun c => ?_, fun c => ?_⟩
    · replace hw := ok_t hw c
      exact hG.2 _ _ _ _ _ _ _ _ _ (by refine ⟨Or.inr rfl, ?_⟩; refine ⟨Or.inr rfl, ?_⟩; refine ⟨Or.inr rfl, ?_⟩; exact trivial) (Nat.zero_le _) (Nat.zero_le _) (hP _ (ok_some hw :) :)
    · replace hw := ok_f hw c
      exact hG.2 _ _ _ _ _ _ _ _ _ (by refine ⟨Or.inr rfl, ?_⟩; refine ⟨Or.inr rfl, ?_⟩; refine ⟨Or.inr rfl, ?_⟩; exact trivial) (Nat.zero_le _) (Nat.zero_le _) (hP _ (ok_some hw :) :)

set_option maxHeartbeats 4000000 in
set_option maxRecDepth 20000 in
theorem g_X5_builtInAll_31 {k : Option Value → mj_H → Prop} {G : mj_K} (hG : mj_cl2 cX5_builtInAll (TbX5 3 ((some FieldType.int)) []) k G)   {v1 : Int32} {s : St} (hw : ok (F_X5_builtInAll_31 v1 s) (fun p => k (some (.int p)) (mkCs s))) : G 31 [mj_unk, .int v1] [] (mkCs s) 0 0 := by
  unfold F_X5_builtInAll_31 at hw
  refine mj_run hG.1 (fun pc => pc == 4 || pc == 31) 4000 ?_
  simp only [mj_step, mj_W_s, mj_fin, List.getElem?_cons_zero, List.getElem?_cons_succ, mj_go, Nat.reduceAdd, Nat.reduceSub, Nat.reduceLT, Nat.reduceLeDiff, Nat.zero_add, Nat.reduceEqDiff, Nat.reduceBEq, ↓reduceIte, Bool.false_eq_true, List.append_nil, List.nil_append, List.cons_append, Option.toList, and_true, true_and, true_or, or_true, reduceCtorEq, List.map_nil, bI_eq0, bI_eq1, bool_ft, pk_us, vnar0, vnar1, Bool.or_false, Bool.or_true, Bool.false_or, Bool.true_or, mj_kne, eq_self, Int32.reduceLT, Int32.reduceLE, Int32.reduceAdd, Int32.reduceSub, Int32.reduceMul, not_true_eq_false, not_false_eq_true, false_implies, true_implies, D_X5_builtInAll, mj_F_aload_n_k, mj_F_getfield_i, mj_F_goto_off, mj_F_iaload, mj_F_iconst_n, mj_F_if_icmp_eq_off, mj_F_if_icmp_ge_off, mj_F_iinc_k_n, mj_F_iload_n_k, mj_F_ireturn, mj_F_istore_n_k, mj_set, mj_set0, mj_unk, mj_c2, mj_kc, FT_X5, gS_C35, gCf5_1, gCf5_8, gS_C42, sS_Ca_42, J_X5_builtInAll]
  exact (ok_some hw :)

set_option maxHeartbeats 4000000 in
theorem g_X5_builtInAll_4 {k : Option Value → mj_H → Prop} {G : mj_K} (hG : mj_cl2 cX5_builtInAll (TbX5 3 ((some FieldType.int)) []) k G)   {v1 : Int32} {v2 : Int32} {s : St} (hw : ok (F_X5_builtInAll_4 v1 v2 s) (fun p => k (some (.int p)) (mkCs s))) : G 4 [.ref 35, .int v1, .int v2] [] (mkCs s) 0 0 := by
  unfold F_X5_builtInAll_4 at hw
  refine lp_ok (B_X5_builtInAll_4 s) (fun x => G 4 [.ref 35, .int x.1, .int x.2] [] (mkCs s) 0 0) _ ?_ _ _ (ok_bind hw)
  rintro ⟨v1, v2⟩ hb
  exact b_X5_builtInAll_4 hG (fun _ z => z) (fun y hw => by exact hG.2 _ _ _ _ _ _ _ _ _ (by refine ⟨Or.inl rfl, ?_⟩; refine ⟨Or.inr rfl, ?_⟩; exact trivial) (Nat.zero_le _) (Nat.zero_le _) (g_X5_builtInAll_31 hG  hw :)) hb

set_option maxHeartbeats 4000000 in
set_option maxRecDepth 20000 in
theorem g_X5_builtInAll {k : Option Value → mj_H → Prop} {G : mj_K} (hG : mj_cl2 cX5_builtInAll (TbX5 3 ((some FieldType.int)) []) k G) {s : St} (hw : ok (F_X5_builtInAll s) (fun p => k (some (.int p)) (mkCs s))) : G 0 [.ref 35] [] (mkCs s) 0 0 := by
  unfold F_X5_builtInAll at hw
  refine mj_run hG.1 (fun pc => pc == 4 || pc == 31) 4000 ?_
  simp only [mj_step, mj_W_s, mj_fin, List.getElem?_cons_zero, List.getElem?_cons_succ, mj_go, Nat.reduceAdd, Nat.reduceSub, Nat.reduceLT, Nat.reduceLeDiff, Nat.zero_add, Nat.reduceEqDiff, Nat.reduceBEq, ↓reduceIte, Bool.false_eq_true, List.append_nil, List.nil_append, List.cons_append, Option.toList, and_true, true_and, true_or, or_true, reduceCtorEq, List.map_nil, bI_eq0, bI_eq1, bool_ft, pk_us, vnar0, vnar1, Bool.or_false, Bool.or_true, Bool.false_or, Bool.true_or, mj_kne, eq_self, Int32.reduceLT, Int32.reduceLE, Int32.reduceAdd, Int32.reduceSub, Int32.reduceMul, not_true_eq_false, not_false_eq_true, false_implies, true_implies, D_X5_builtInAll, mj_F_aload_n_k, mj_F_getfield_i, mj_F_goto_off, mj_F_iaload, mj_F_iconst_n, mj_F_if_icmp_eq_off, mj_F_if_icmp_ge_off, mj_F_iinc_k_n, mj_F_iload_n_k, mj_F_ireturn, mj_F_istore_n_k, mj_set, mj_set0, mj_unk, mj_c2, mj_kc, FT_X5, gS_C35, gCf5_1, gCf5_8, gS_C42, sS_Ca_42, J_X5_builtInAll]
  exact hG.2 _ _ _ _ _ _ _ _ _ (by refine ⟨Or.inr rfl, ?_⟩; refine ⟨Or.inr rfl, ?_⟩; refine ⟨Or.inr rfl, ?_⟩; exact trivial) (Nat.zero_le _) (Nat.zero_le _) (g_X5_builtInAll_4 hG  hw :)

def c_X5_builtInAll : mj_S := fun as h k => ∃ (s : St), as = [.ref 35] ∧ h = mkCs s ∧ ok (F_X5_builtInAll s) (fun p => k (some (.int p)) (mkCs s))
theorem c_X5_builtInAll_in {s : St} {k : Option Value → mj_H → Prop} (hw : ok (F_X5_builtInAll s) (fun p => k (some (.int p)) (mkCs s))) : c_X5_builtInAll [.ref 35] (mkCs s) k := ⟨s, rfl, rfl, hw⟩
theorem m_X5_builtInAll (l : Launch) : mj_Met l yX5_builtInAll cX5_builtInAll 3 ((some FieldType.int)) 0 0 0 c_X5_builtInAll := by
  refine mj_body2 false (TbX5 3 ((some FieldType.int)) []) (by decide) rfl rfl (fun h => nomatch h) (tfX5 _ (fun _ h => nomatch h)) ?_
  rintro as h k ⟨s, rfl, rfl, hw⟩
  exact ⟨rfl, fun G hG => g_X5_builtInAll hG hw⟩
def B_X10_lyingInAll_4 (s : St) : Int32 × Int32 → Option ((Int32 × Int32) ⊕ ((Int32)))
  | (v1, v2) =>
  if 5 ≤ v2 then
    some (.inr v1)
  else
    (rd s 1011 5 v2).bind fun x1 =>
    some (.inl ((v1 + x1), (v2 + 1)))
def F_X10_lyingInAll_24 (v1 : Int32) (s : St) : Option (Int32) :=
  some v1
def F_X10_lyingInAll_4 (v1 : Int32) (v2 : Int32) (s : St) : Option (Int32) :=
  (lp (B_X10_lyingInAll_4 s) FU (v1, v2)).bind (fun y => F_X10_lyingInAll_24 y s)
def F_X10_lyingInAll (s : St) : Option (Int32) :=
  F_X10_lyingInAll_4 0 0 s
theorem J_X10_lyingInAll : mj_t 6 18 = 24 ∧ mj_t 21 (-17) = 4 ∧ (0 ≤ ((6 : Nat) : Int) + 18) = True ∧ (0 ≤ ((21 : Nat) : Int) + (-17)) = True := by and_intros <;> first | rfl | exact eq_true (by decide)
set_option maxHeartbeats 4000000 in
set_option maxRecDepth 20000 in
theorem b_X10_lyingInAll_4 {k : Option Value → mj_H → Prop} {G : mj_K} (hG : mj_cl2 cX10_lyingInAll (TbX10 3 ((some FieldType.int)) []) k G) {s : St} {P : Int32 × Int32 → Prop} {K : (Int32) → Prop} (hP : ∀ x, P x → G 4 [.ref 45, .int x.1, .int x.2] [] (mkCs s) 0 0) (hK0 : ∀ y, K y → G 24 [mj_unk, .int y] [] (mkCs s) 0 0) {v1 : Int32} {v2 : Int32} (hw : ok (B_X10_lyingInAll_4 s (v1, v2)) (Sum.elim P K)) : G 4 [.ref 45, .int v1, .int v2] [] (mkCs s) 0 0 := by
  unfold B_X10_lyingInAll_4 at hw
  refine mj_run hG.1 (fun pc => pc == 4 || pc == 24) 4000 ?_
  simp only [mj_step, mj_W_s, mj_fin, List.getElem?_cons_zero, List.getElem?_cons_succ, mj_go, Nat.reduceAdd, Nat.reduceSub, Nat.reduceLT, Nat.reduceLeDiff, Nat.zero_add, Nat.reduceEqDiff, Nat.reduceBEq, ↓reduceIte, Bool.false_eq_true, List.append_nil, List.nil_append, List.cons_append, Option.toList, and_true, true_and, true_or, or_true, reduceCtorEq, List.map_nil, bI_eq0, bI_eq1, bool_ft, pk_us, vnar0, vnar1, Bool.or_false, Bool.or_true, Bool.false_or, Bool.true_or, mj_kne, eq_self, Int32.reduceLT, Int32.reduceLE, Int32.reduceAdd, Int32.reduceSub, Int32.reduceMul, not_true_eq_false, not_false_eq_true, false_implies, true_implies, D_X10_lyingInAll, mj_F_aload_n_k, mj_F_getfield_i, mj_F_goto_off, mj_F_iadd, mj_F_iaload, mj_F_iconst_n, mj_F_if_icmp_ge_off, mj_F_iinc_k_n, mj_F_iload_n_k, mj_F_ireturn, mj_F_istore_n_k, mj_set, mj_set0, mj_unk, mj_c2, mj_kc, FT_X10, gS_C45, gCf10_11, gS_C51, sS_Ca_51, J_X10_lyingInAll]
  refine ⟨fun c => ?_, fun c => ?_⟩
  · replace hw := ok_t hw c
    exact hG.2 _ _ _ _ _ _ _ _ _ (by refine ⟨Or.inl rfl, ?_⟩; refine ⟨Or.inr rfl, ?_⟩; exact trivial) (Nat.zero_le _) (Nat.zero_le _) (hK0 _ (ok_some hw :) :)
  · replace hw := ok_f hw c
    refine ⟨(ok_rd hw).1, ?_⟩
    replace hw := (ok_rd hw).2
    exact hG.2 _ _ _ _ _ _ _ _ _ (by refine ⟨Or.inr rfl, ?_⟩; refine ⟨Or.inr rfl, ?_⟩; refine ⟨Or.inr rfl, ?_⟩; exact trivial) (Nat.zero_le _) (Nat.zero_le _) (hP _ (ok_some hw :) :)

set_option maxHeartbeats 4000000 in
set_option maxRecDepth 20000 in
theorem g_X10_lyingInAll_24 {k : Option Value → mj_H → Prop} {G : mj_K} (hG : mj_cl2 cX10_lyingInAll (TbX10 3 ((some FieldType.int)) []) k G)   {v1 : Int32} {s : St} (hw : ok (F_X10_lyingInAll_24 v1 s) (fun p => k (some (.int p)) (mkCs s))) : G 24 [mj_unk, .int v1] [] (mkCs s) 0 0 := by
  unfold F_X10_lyingInAll_24 at hw
  refine mj_run hG.1 (fun pc => pc == 4 || pc == 24) 4000 ?_
  simp only [mj_step, mj_W_s, mj_fin, List.getElem?_cons_zero, List.getElem?_cons_succ, mj_go, Nat.reduceAdd, Nat.reduceSub, Nat.reduceLT, Nat.reduceLeDiff, Nat.zero_add, Nat.reduceEqDiff, Nat.reduceBEq, ↓reduceIte, Bool.false_eq_true, List.append_nil, List.nil_append, List.cons_append, Option.toList, and_true, true_and, true_or, or_true, reduceCtorEq, List.map_nil, bI_eq0, bI_eq1, bool_ft, pk_us, vnar0, vnar1, Bool.or_false, Bool.or_true, Bool.false_or, Bool.true_or, mj_kne, eq_self, Int32.reduceLT, Int32.reduceLE, Int32.reduceAdd, Int32.reduceSub, Int32.reduceMul, not_true_eq_false, not_false_eq_true, false_implies, true_implies, D_X10_lyingInAll, mj_F_aload_n_k, mj_F_getfield_i, mj_F_goto_off, mj_F_iadd, mj_F_iaload, mj_F_iconst_n, mj_F_if_icmp_ge_off, mj_F_iinc_k_n, mj_F_iload_n_k, mj_F_ireturn, mj_F_istore_n_k, mj_set, mj_set0, mj_unk, mj_c2, mj_kc, FT_X10, gS_C45, gCf10_11, gS_C51, sS_Ca_51, J_X10_lyingInAll]
  exact (ok_some hw :)

set_option maxHeartbeats 4000000 in
theorem g_X10_lyingInAll_4 {k : Option Value → mj_H → Prop} {G : mj_K} (hG : mj_cl2 cX10_lyingInAll (TbX10 3 ((some FieldType.int)) []) k G)   {v1 : Int32} {v2 : Int32} {s : St} (hw : ok (F_X10_lyingInAll_4 v1 v2 s) (fun p => k (some (.int p)) (mkCs s))) : G 4 [.ref 45, .int v1, .int v2] [] (mkCs s) 0 0 := by
  unfold F_X10_lyingInAll_4 at hw
  refine lp_ok (B_X10_lyingInAll_4 s) (fun x => G 4 [.ref 45, .int x.1, .int x.2] [] (mkCs s) 0 0) _ ?_ _ _ (ok_bind hw)
  rintro ⟨v1, v2⟩ hb
  exact b_X10_lyingInAll_4 hG (fun _ z => z) (fun y hw => by exact hG.2 _ _ _ _ _ _ _ _ _ (by refine ⟨Or.inl rfl, ?_⟩; refine ⟨Or.inr rfl, ?_⟩; exact trivial) (Nat.zero_le _) (Nat.zero_le _) (g_X10_lyingInAll_24 hG  hw :)) hb

set_option maxHeartbeats 4000000 in
set_option maxRecDepth 20000 in
theorem g_X10_lyingInAll {k : Option Value → mj_H → Prop} {G : mj_K} (hG : mj_cl2 cX10_lyingInAll (TbX10 3 ((some FieldType.int)) []) k G) {s : St} (hw : ok (F_X10_lyingInAll s) (fun p => k (some (.int p)) (mkCs s))) : G 0 [.ref 45] [] (mkCs s) 0 0 := by
  unfold F_X10_lyingInAll at hw
  refine mj_run hG.1 (fun pc => pc == 4 || pc == 24) 4000 ?_
  simp only [mj_step, mj_W_s, mj_fin, List.getElem?_cons_zero, List.getElem?_cons_succ, mj_go, Nat.reduceAdd, Nat.reduceSub, Nat.reduceLT, Nat.reduceLeDiff, Nat.zero_add, Nat.reduceEqDiff, Nat.reduceBEq, ↓reduceIte, Bool.false_eq_true, List.append_nil, List.nil_append, List.cons_append, Option.toList, and_true, true_and, true_or, or_true, reduceCtorEq, List.map_nil, bI_eq0, bI_eq1, bool_ft, pk_us, vnar0, vnar1, Bool.or_false, Bool.or_true, Bool.false_or, Bool.true_or, mj_kne, eq_self, Int32.reduceLT, Int32.reduceLE, Int32.reduceAdd, Int32.reduceSub, Int32.reduceMul, not_true_eq_false, not_false_eq_true, false_implies, true_implies, D_X10_lyingInAll, mj_F_aload_n_k, mj_F_getfield_i, mj_F_goto_off, mj_F_iadd, mj_F_iaload, mj_F_iconst_n, mj_F_if_icmp_ge_off, mj_F_iinc_k_n, mj_F_iload_n_k, mj_F_ireturn, mj_F_istore_n_k, mj_set, mj_set0, mj_unk, mj_c2, mj_kc, FT_X10, gS_C45, gCf10_11, gS_C51, sS_Ca_51, J_X10_lyingInAll]
  exact hG.2 _ _ _ _ _ _ _ _ _ (by refine ⟨Or.inr rfl, ?_⟩; refine ⟨Or.inr rfl, ?_⟩; refine ⟨Or.inr rfl, ?_⟩; exact trivial) (Nat.zero_le _) (Nat.zero_le _) (g_X10_lyingInAll_4 hG  hw :)

def c_X10_lyingInAll : mj_S := fun as h k => ∃ (s : St), as = [.ref 45] ∧ h = mkCs s ∧ ok (F_X10_lyingInAll s) (fun p => k (some (.int p)) (mkCs s))
theorem c_X10_lyingInAll_in {s : St} {k : Option Value → mj_H → Prop} (hw : ok (F_X10_lyingInAll s) (fun p => k (some (.int p)) (mkCs s))) : c_X10_lyingInAll [.ref 45] (mkCs s) k := ⟨s, rfl, rfl, hw⟩
theorem m_X10_lyingInAll (l : Launch) : mj_Met l yX10_lyingInAll cX10_lyingInAll 3 ((some FieldType.int)) 0 0 0 c_X10_lyingInAll := by
  refine mj_body2 false (TbX10 3 ((some FieldType.int)) []) (by decide) rfl rfl (fun h => nomatch h) (tfX10 _ (fun _ h => nomatch h)) ?_
  rintro as h k ⟨s, rfl, rfl, hw⟩
  exact ⟨rfl, fun G hG => g_X10_lyingInAll hG hw⟩
def F_X11_many (v1 : Int32) (s : St) : Option (Int32) :=
  if v1 = 0 then
    some (s.1 1100)
  else
  if v1 = 1 then
    some (s.1 101)
  else
  if v1 = 2 then
    some (s.1 501)
  else
  if v1 = 3 then
    (F_X5_builtInAll s).bind fun r1 =>
    some r1
  else
  if v1 = 4 then
    some (s.1 0)
  else
  if v1 = 5 then
    some (s.1 107)
  else
  if v1 = 6 then
    some (s.1 702)
  else
  if v1 = 7 then
    some (s.1 1004)
  else
  if v1 = 8 then
    some (s.1 1009)
  else
  if v1 = 9 then
    some (s.1 802)
  else
  if v1 = 10 then
    some (s.1 113)
  else
  if v1 = 11 then
    some (s.1 408)
  else
  if v1 = 12 then
    some (s.1 409)
  else
  if v1 = 13 then
    some (s.1 301)
  else
  if v1 = 14 then
    some (s.1 303)
  else
  if v1 = 15 then
    some (s.1 705)
  else
  if v1 = 16 then
    some (s.1 901)
  else
  if v1 = 17 then
    (F_X10_lyingInAll s).bind fun r2 =>
    some r2
  else
  some (-1)
theorem J_X11_many : mj_t 1 87 = 88 ∧ mj_t 1 92 = 93 ∧ mj_t 1 100 = 101 ∧ mj_t 1 108 = 109 ∧ mj_t 1 116 = 117 ∧ mj_t 1 124 = 125 ∧ mj_t 1 132 = 133 ∧ mj_t 1 140 = 141 ∧ mj_t 1 148 = 149 ∧ mj_t 1 156 = 157 ∧ mj_t 1 164 = 165 ∧ mj_t 1 172 = 173 ∧ mj_t 1 180 = 181 ∧ mj_t 1 188 = 189 ∧ mj_t 1 196 = 197 ∧ mj_t 1 204 = 205 ∧ mj_t 1 212 = 213 ∧ mj_t 1 220 = 221 ∧ mj_t 1 228 = 229 ∧ (0 ≤ ((1 : Nat) : Int) + 87) = True ∧ (0 ≤ ((1 : Nat) : Int) + 92) = True ∧ (0 ≤ ((1 : Nat) : Int) + 100) = True ∧ (0 ≤ ((1 : Nat) : Int) + 108) = True ∧ (0 ≤ ((1 : Nat) : Int) + 116) = True ∧ (0 ≤ ((1 : Nat) : Int) + 124) = True ∧ (0 ≤ ((1 : Nat) : Int) + 132) = True ∧ (0 ≤ ((1 : Nat) : Int) + 140) = True ∧ (0 ≤ ((1 : Nat) : Int) + 148) = True ∧ (0 ≤ ((1 : Nat) : Int) + 156) = True ∧ (0 ≤ ((1 : Nat) : Int) + 164) = True ∧ (0 ≤ ((1 : Nat) : Int) + 172) = True ∧ (0 ≤ ((1 : Nat) : Int) + 180) = True ∧ (0 ≤ ((1 : Nat) : Int) + 188) = True ∧ (0 ≤ ((1 : Nat) : Int) + 196) = True ∧ (0 ≤ ((1 : Nat) : Int) + 204) = True ∧ (0 ≤ ((1 : Nat) : Int) + 212) = True ∧ (0 ≤ ((1 : Nat) : Int) + 220) = True ∧ (0 ≤ ((1 : Nat) : Int) + 228) = True := by and_intros <;> first | rfl | exact eq_true (by decide)
def ct_X11_many : List (Nat × mj_Cs) := [(393, 0, 1, 5, 0, 0, c_X5_builtInAll), (421, 0, 1, 10, 0, 0, c_X10_lyingInAll)]
theorem L_X11_many : mj_lk ct_X11_many 393 = some (0, 1, 5, 0, 0, c_X5_builtInAll) ∧ mj_lk ct_X11_many 421 = some (0, 1, 10, 0, 0, c_X10_lyingInAll) := ⟨rfl, rfl⟩
set_option maxHeartbeats 4000000 in
set_option maxRecDepth 20000 in
theorem g_X11_many {k : Option Value → mj_H → Prop} {G : mj_K} (hG : mj_cl2 cX11_many (TbX11 2 ((some FieldType.int)) ct_X11_many) k G) {v1 : Int32} {s : St} (hw : ok (F_X11_many v1 s) (fun p => k (some (.int p)) (mkCs s))) : G 0 [.ref 0, .int v1] [] (mkCs s) 0 0 := by
  unfold F_X11_many at hw
  refine mj_run hG.1 (fun pc => pc == 116 || pc == 228) 4000 ?_
  simp only [mj_step, mj_W_s, mj_fin, List.getElem?_cons_zero, List.getElem?_cons_succ, mj_go, Nat.reduceAdd, Nat.reduceSub, Nat.reduceLT, Nat.reduceLeDiff, Nat.zero_add, Nat.reduceEqDiff, Nat.reduceBEq, ↓reduceIte, Bool.false_eq_true, List.append_nil, List.nil_append, List.cons_append, Option.toList, and_true, true_and, true_or, or_true, reduceCtorEq, List.map_nil, bI_eq0, bI_eq1, bool_ft, pk_us, vnar0, vnar1, Bool.or_false, Bool.or_true, Bool.false_or, Bool.true_or, mj_kne, eq_self, Int32.reduceLT, Int32.reduceLE, Int32.reduceAdd, Int32.reduceSub, Int32.reduceMul, not_true_eq_false, not_false_eq_true, false_implies, true_implies, D_X11_many_0, D_X11_many_1, mj_F_aload_n_k, mj_F_getfield_i, mj_F_iconst_n, mj_F_iload_n_k, mj_F_invokevirtual_i, mj_F_ireturn, mj_kc, FT_X11, L_X11_many, List.take_succ_cons, List.take_zero, List.drop_succ_cons, List.drop_zero, List.reverse_cons, List.reverse_nil, List.length_cons, List.length_nil, gS_C0, gCf11_0, gCf11_4, gS_C20, gCf1_1, gCf11_5, gS_C35, gCf5_1, gCf11_3, gS_C11, gCf0_0, gCf1_7, gCf11_10, gS_C81, gCf7_2, gCf11_6, gS_C45, gCf10_4, gCf10_9, gCf11_8, gS_C64, gCf8_2, gCf1_13, gCf11_9, gS_C73, gCf4_8, gCf4_9, gCf11_11, gS_C85, gCf3_1, gCf3_3, gCf7_5, gCf11_2, gS_C7, gCf9_1, J_X11_many]
  by_cases c3 : v1 = 0
  · replace hw := ok_t hw c3
    have c := c3
    refine mj_tsc 0 87 (by rw [show v1 = 0 from c]; decide) (by decide) rfl (by decide) ?_
    simp only [mj_step, mj_W_s, mj_fin, List.getElem?_cons_zero, List.getElem?_cons_succ, mj_go, Nat.reduceAdd, Nat.reduceSub, Nat.reduceLT, Nat.reduceLeDiff, Nat.zero_add, Nat.reduceEqDiff, Nat.reduceBEq, ↓reduceIte, Bool.false_eq_true, List.append_nil, List.nil_append, List.cons_append, Option.toList, and_true, true_and, true_or, or_true, reduceCtorEq, List.map_nil, bI_eq0, bI_eq1, bool_ft, pk_us, vnar0, vnar1, Bool.or_false, Bool.or_true, Bool.false_or, Bool.true_or, mj_kne, eq_self, Int32.reduceLT, Int32.reduceLE, Int32.reduceAdd, Int32.reduceSub, Int32.reduceMul, not_true_eq_false, not_false_eq_true, false_implies, true_implies, D_X11_many_0, D_X11_many_1, mj_F_aload_n_k, mj_F_getfield_i, mj_F_iconst_n, mj_F_iload_n_k, mj_F_invokevirtual_i, mj_F_ireturn, mj_kc, FT_X11, L_X11_many, List.take_succ_cons, List.take_zero, List.drop_succ_cons, List.drop_zero, List.reverse_cons, List.reverse_nil, List.length_cons, List.length_nil, gS_C0, gCf11_0, gCf11_4, gS_C20, gCf1_1, gCf11_5, gS_C35, gCf5_1, gCf11_3, gS_C11, gCf0_0, gCf1_7, gCf11_10, gS_C81, gCf7_2, gCf11_6, gS_C45, gCf10_4, gCf10_9, gCf11_8, gS_C64, gCf8_2, gCf1_13, gCf11_9, gS_C73, gCf4_8, gCf4_9, gCf11_11, gS_C85, gCf3_1, gCf3_3, gCf7_5, gCf11_2, gS_C7, gCf9_1, J_X11_many]
    exact (ok_some hw :)
  replace hw := ok_f hw c3
  by_cases c4 : v1 = 1
  · replace hw := ok_t hw c4
    have c := c4
    refine mj_tsc 1 92 (by rw [show v1 = 1 from c]; decide) (by decide) rfl (by decide) ?_
    simp only [mj_step, mj_W_s, mj_fin, List.getElem?_cons_zero, List.getElem?_cons_succ, mj_go, Nat.reduceAdd, Nat.reduceSub, Nat.reduceLT, Nat.reduceLeDiff, Nat.zero_add, Nat.reduceEqDiff, Nat.reduceBEq, ↓reduceIte, Bool.false_eq_true, List.append_nil, List.nil_append, List.cons_append, Option.toList, and_true, true_and, true_or, or_true, reduceCtorEq, List.map_nil, bI_eq0, bI_eq1, bool_ft, pk_us, vnar0, vnar1, Bool.or_false, Bool.or_true, Bool.false_or, Bool.true_or, mj_kne, eq_self, Int32.reduceLT, Int32.reduceLE, Int32.reduceAdd, Int32.reduceSub, Int32.reduceMul, not_true_eq_false, not_false_eq_true, false_implies, true_implies, D_X11_many_0, D_X11_many_1, mj_F_aload_n_k, mj_F_getfield_i, mj_F_iconst_n, mj_F_iload_n_k, mj_F_invokevirtual_i, mj_F_ireturn, mj_kc, FT_X11, L_X11_many, List.take_succ_cons, List.take_zero, List.drop_succ_cons, List.drop_zero, List.reverse_cons, List.reverse_nil, List.length_cons, List.length_nil, gS_C0, gCf11_0, gCf11_4, gS_C20, gCf1_1, gCf11_5, gS_C35, gCf5_1, gCf11_3, gS_C11, gCf0_0, gCf1_7, gCf11_10, gS_C81, gCf7_2, gCf11_6, gS_C45, gCf10_4, gCf10_9, gCf11_8, gS_C64, gCf8_2, gCf1_13, gCf11_9, gS_C73, gCf4_8, gCf4_9, gCf11_11, gS_C85, gCf3_1, gCf3_3, gCf7_5, gCf11_2, gS_C7, gCf9_1, J_X11_many]
    exact (ok_some hw :)
  replace hw := ok_f hw c4
  by_cases c5 : v1 = 2
  · replace hw := ok_t hw c5
    have c := c5
    refine mj_tsc 2 100 (by rw [show v1 = 2 from c]; decide) (by decide) rfl (by decide) ?_
    simp only [mj_step, mj_W_s, mj_fin, List.getElem?_cons_zero, List.getElem?_cons_succ, mj_go, Nat.reduceAdd, Nat.reduceSub, Nat.reduceLT, Nat.reduceLeDiff, Nat.zero_add, Nat.reduceEqDiff, Nat.reduceBEq, ↓reduceIte, Bool.false_eq_true, List.append_nil, List.nil_append, List.cons_append, Option.toList, and_true, true_and, true_or, or_true, reduceCtorEq, List.map_nil, bI_eq0, bI_eq1, bool_ft, pk_us, vnar0, vnar1, Bool.or_false, Bool.or_true, Bool.false_or, Bool.true_or, mj_kne, eq_self, Int32.reduceLT, Int32.reduceLE, Int32.reduceAdd, Int32.reduceSub, Int32.reduceMul, not_true_eq_false, not_false_eq_true, false_implies, true_implies, D_X11_many_0, D_X11_many_1, mj_F_aload_n_k, mj_F_getfield_i, mj_F_iconst_n, mj_F_iload_n_k, mj_F_invokevirtual_i, mj_F_ireturn, mj_kc, FT_X11, L_X11_many, List.take_succ_cons, List.take_zero, List.drop_succ_cons, List.drop_zero, List.reverse_cons, List.reverse_nil, List.length_cons, List.length_nil, gS_C0, gCf11_0, gCf11_4, gS_C20, gCf1_1, gCf11_5, gS_C35, gCf5_1, gCf11_3, gS_C11, gCf0_0, gCf1_7, gCf11_10, gS_C81, gCf7_2, gCf11_6, gS_C45, gCf10_4, gCf10_9, gCf11_8, gS_C64, gCf8_2, gCf1_13, gCf11_9, gS_C73, gCf4_8, gCf4_9, gCf11_11, gS_C85, gCf3_1, gCf3_3, gCf7_5, gCf11_2, gS_C7, gCf9_1, J_X11_many]
    exact (ok_some hw :)
  replace hw := ok_f hw c5
  by_cases c6 : v1 = 3
  · replace hw := ok_t hw c6
    have c := c6
    refine mj_tsc 3 108 (by rw [show v1 = 3 from c]; decide) (by decide) rfl (by decide) ?_
    simp only [mj_step, mj_W_s, mj_fin, List.getElem?_cons_zero, List.getElem?_cons_succ, mj_go, Nat.reduceAdd, Nat.reduceSub, Nat.reduceLT, Nat.reduceLeDiff, Nat.zero_add, Nat.reduceEqDiff, Nat.reduceBEq, ↓reduceIte, Bool.false_eq_true, List.append_nil, List.nil_append, List.cons_append, Option.toList, and_true, true_and, true_or, or_true, reduceCtorEq, List.map_nil, bI_eq0, bI_eq1, bool_ft, pk_us, vnar0, vnar1, Bool.or_false, Bool.or_true, Bool.false_or, Bool.true_or, mj_kne, eq_self, Int32.reduceLT, Int32.reduceLE, Int32.reduceAdd, Int32.reduceSub, Int32.reduceMul, not_true_eq_false, not_false_eq_true, false_implies, true_implies, D_X11_many_0, D_X11_many_1, mj_F_aload_n_k, mj_F_getfield_i, mj_F_iconst_n, mj_F_iload_n_k, mj_F_invokevirtual_i, mj_F_ireturn, mj_kc, FT_X11, L_X11_many, List.take_succ_cons, List.take_zero, List.drop_succ_cons, List.drop_zero, List.reverse_cons, List.reverse_nil, List.length_cons, List.length_nil, gS_C0, gCf11_0, gCf11_4, gS_C20, gCf1_1, gCf11_5, gS_C35, gCf5_1, gCf11_3, gS_C11, gCf0_0, gCf1_7, gCf11_10, gS_C81, gCf7_2, gCf11_6, gS_C45, gCf10_4, gCf10_9, gCf11_8, gS_C64, gCf8_2, gCf1_13, gCf11_9, gS_C73, gCf4_8, gCf4_9, gCf11_11, gS_C85, gCf3_1, gCf3_3, gCf7_5, gCf11_2, gS_C7, gCf9_1, J_X11_many]
    refine c_X5_builtInAll_in (ok_imp (ok_bind hw) ?_)
    intro p hw
    simp only [Option.toList, List.nil_append, List.cons_append, Nat.reduceSub]
    refine mj_run hG.1 (fun pc => pc == 116 || pc == 228) 4000 ?_
    simp only [mj_step, mj_W_s, mj_fin, List.getElem?_cons_zero, List.getElem?_cons_succ, mj_go, Nat.reduceAdd, Nat.reduceSub, Nat.reduceLT, Nat.reduceLeDiff, Nat.zero_add, Nat.reduceEqDiff, Nat.reduceBEq, ↓reduceIte, Bool.false_eq_true, List.append_nil, List.nil_append, List.cons_append, Option.toList, and_true, true_and, true_or, or_true, reduceCtorEq, List.map_nil, bI_eq0, bI_eq1, bool_ft, pk_us, vnar0, vnar1, Bool.or_false, Bool.or_true, Bool.false_or, Bool.true_or, mj_kne, eq_self, Int32.reduceLT, Int32.reduceLE, Int32.reduceAdd, Int32.reduceSub, Int32.reduceMul, not_true_eq_false, not_false_eq_true, false_implies, true_implies, D_X11_many_0, D_X11_many_1, mj_F_aload_n_k, mj_F_getfield_i, mj_F_iconst_n, mj_F_iload_n_k, mj_F_invokevirtual_i, mj_F_ireturn, mj_kc, FT_X11, L_X11_many, List.take_succ_cons, List.take_zero, List.drop_succ_cons, List.drop_zero, List.reverse_cons, List.reverse_nil, List.length_cons, List.length_nil, gS_C0, gCf11_0, gCf11_4, gS_C20, gCf1_1, gCf11_5, gS_C35, gCf5_1, gCf11_3, gS_C11, gCf0_0, gCf1_7, gCf11_10, gS_C81, gCf7_2, gCf11_6, gS_C45, gCf10_4, gCf10_9, gCf11_8, gS_C64, gCf8_2, gCf1_13, gCf11_9, gS_C73, gCf4_8, gCf4_9, gCf11_11, gS_C85, gCf3_1, gCf3_3, gCf7_5, gCf11_2, gS_C7, gCf9_1, J_X11_many]
    exact (ok_some hw :)
  replace hw := ok_f hw c6
  by_cases c7 : v1 = 4
  · replace hw := ok_t hw c7
    have c := c7
    refine mj_tsc 4 116 (by rw [show v1 = 4 from c]; decide) (by decide) rfl (by decide) ?_
    simp only [mj_step, mj_W_s, mj_fin, List.getElem?_cons_zero, List.getElem?_cons_succ, mj_go, Nat.reduceAdd, Nat.reduceSub, Nat.reduceLT, Nat.reduceLeDiff, Nat.zero_add, Nat.reduceEqDiff, Nat.reduceBEq, ↓reduceIte, Bool.false_eq_true, List.append_nil, List.nil_append, List.cons_append, Option.toList, and_true, true_and, true_or, or_true, reduceCtorEq, List.map_nil, bI_eq0, bI_eq1, bool_ft, pk_us, vnar0, vnar1, Bool.or_false, Bool.or_true, Bool.false_or, Bool.true_or, mj_kne, eq_self, Int32.reduceLT, Int32.reduceLE, Int32.reduceAdd, Int32.reduceSub, Int32.reduceMul, not_true_eq_false, not_false_eq_true, false_implies, true_implies, D_X11_many_0, D_X11_many_1, mj_F_aload_n_k, mj_F_getfield_i, mj_F_iconst_n, mj_F_iload_n_k, mj_F_invokevirtual_i, mj_F_ireturn, mj_kc, FT_X11, L_X11_many, List.take_succ_cons, List.take_zero, List.drop_succ_cons, List.drop_zero, List.reverse_cons, List.reverse_nil, List.length_cons, List.length_nil, gS_C0, gCf11_0, gCf11_4, gS_C20, gCf1_1, gCf11_5, gS_C35, gCf5_1, gCf11_3, gS_C11, gCf0_0, gCf1_7, gCf11_10, gS_C81, gCf7_2, gCf11_6, gS_C45, gCf10_4, gCf10_9, gCf11_8, gS_C64, gCf8_2, gCf1_13, gCf11_9, gS_C73, gCf4_8, gCf4_9, gCf11_11, gS_C85, gCf3_1, gCf3_3, gCf7_5, gCf11_2, gS_C7, gCf9_1, J_X11_many]
    exact (ok_some hw :)
  replace hw := ok_f hw c7
  by_cases c8 : v1 = 5
  · replace hw := ok_t hw c8
    have c := c8
    refine mj_tsc 5 124 (by rw [show v1 = 5 from c]; decide) (by decide) rfl (by decide) ?_
    simp only [mj_step, mj_W_s, mj_fin, List.getElem?_cons_zero, List.getElem?_cons_succ, mj_go, Nat.reduceAdd, Nat.reduceSub, Nat.reduceLT, Nat.reduceLeDiff, Nat.zero_add, Nat.reduceEqDiff, Nat.reduceBEq, ↓reduceIte, Bool.false_eq_true, List.append_nil, List.nil_append, List.cons_append, Option.toList, and_true, true_and, true_or, or_true, reduceCtorEq, List.map_nil, bI_eq0, bI_eq1, bool_ft, pk_us, vnar0, vnar1, Bool.or_false, Bool.or_true, Bool.false_or, Bool.true_or, mj_kne, eq_self, Int32.reduceLT, Int32.reduceLE, Int32.reduceAdd, Int32.reduceSub, Int32.reduceMul, not_true_eq_false, not_false_eq_true, false_implies, true_implies, D_X11_many_0, D_X11_many_1, mj_F_aload_n_k, mj_F_getfield_i, mj_F_iconst_n, mj_F_iload_n_k, mj_F_invokevirtual_i, mj_F_ireturn, mj_kc, FT_X11, L_X11_many, List.take_succ_cons, List.take_zero, List.drop_succ_cons, List.drop_zero, List.reverse_cons, List.reverse_nil, List.length_cons, List.length_nil, gS_C0, gCf11_0, gCf11_4, gS_C20, gCf1_1, gCf11_5, gS_C35, gCf5_1, gCf11_3, gS_C11, gCf0_0, gCf1_7, gCf11_10, gS_C81, gCf7_2, gCf11_6, gS_C45, gCf10_4, gCf10_9, gCf11_8, gS_C64, gCf8_2, gCf1_13, gCf11_9, gS_C73, gCf4_8, gCf4_9, gCf11_11, gS_C85, gCf3_1, gCf3_3, gCf7_5, gCf11_2, gS_C7, gCf9_1, J_X11_many]
    exact (ok_some hw :)
  replace hw := ok_f hw c8
  by_cases c9 : v1 = 6
  · replace hw := ok_t hw c9
    have c := c9
    refine mj_tsc 6 132 (by rw [show v1 = 6 from c]; decide) (by decide) rfl (by decide) ?_
    simp only [mj_step, mj_W_s, mj_fin, List.getElem?_cons_zero, List.getElem?_cons_succ, mj_go, Nat.reduceAdd, Nat.reduceSub, Nat.reduceLT, Nat.reduceLeDiff, Nat.zero_add, Nat.reduceEqDiff, Nat.reduceBEq, ↓reduceIte, Bool.false_eq_true, List.append_nil, List.nil_append, List.cons_append, Option.toList, and_true, true_and, true_or, or_true, reduceCtorEq, List.map_nil, bI_eq0, bI_eq1, bool_ft, pk_us, vnar0, vnar1, Bool.or_false, Bool.or_true, Bool.false_or, Bool.true_or, mj_kne, eq_self, Int32.reduceLT, Int32.reduceLE, Int32.reduceAdd, Int32.reduceSub, Int32.reduceMul, not_true_eq_false, not_false_eq_true, false_implies, true_implies, D_X11_many_0, D_X11_many_1, mj_F_aload_n_k, mj_F_getfield_i, mj_F_iconst_n, mj_F_iload_n_k, mj_F_invokevirtual_i, mj_F_ireturn, mj_kc, FT_X11, L_X11_many, List.take_succ_cons, List.take_zero, List.drop_succ_cons, List.drop_zero, List.reverse_cons, List.reverse_nil, List.length_cons, List.length_nil, gS_C0, gCf11_0, gCf11_4, gS_C20, gCf1_1, gCf11_5, gS_C35, gCf5_1, gCf11_3, gS_C11, gCf0_0, gCf1_7, gCf11_10, gS_C81, gCf7_2, gCf11_6, gS_C45, gCf10_4, gCf10_9, gCf11_8, gS_C64, gCf8_2, gCf1_13, gCf11_9, gS_C73, gCf4_8, gCf4_9, gCf11_11, gS_C85, gCf3_1, gCf3_3, gCf7_5, gCf11_2, gS_C7, gCf9_1, J_X11_many]
    exact (ok_some hw :)
  replace hw := ok_f hw c9
  by_cases c10 : v1 = 7
  · replace hw := ok_t hw c10
    have c := c10
    refine mj_tsc 7 140 (by rw [show v1 = 7 from c]; decide) (by decide) rfl (by decide) ?_
    simp only [mj_step, mj_W_s, mj_fin, List.getElem?_cons_zero, List.getElem?_cons_succ, mj_go, Nat.reduceAdd, Nat.reduceSub, Nat.reduceLT, Nat.reduceLeDiff, Nat.zero_add, Nat.reduceEqDiff, Nat.reduceBEq, ↓reduceIte, Bool.false_eq_true, List.append_nil, List.nil_append, List.cons_append, Option.toList, and_true, true_and, true_or, or_true, reduceCtorEq, List.map_nil, bI_eq0, bI_eq1, bool_ft, pk_us, vnar0, vnar1, Bool.or_false, Bool.or_true, Bool.false_or, Bool.true_or, mj_kne, eq_self, Int32.reduceLT, Int32.reduceLE, Int32.reduceAdd, Int32.reduceSub, Int32.reduceMul, not_true_eq_false, not_false_eq_true, false_implies, true_implies, D_X11_many_0, D_X11_many_1, mj_F_aload_n_k, mj_F_getfield_i, mj_F_iconst_n, mj_F_iload_n_k, mj_F_invokevirtual_i, mj_F_ireturn, mj_kc, FT_X11, L_X11_many, List.take_succ_cons, List.take_zero, List.drop_succ_cons, List.drop_zero, List.reverse_cons, List.reverse_nil, List.length_cons, List.length_nil, gS_C0, gCf11_0, gCf11_4, gS_C20, gCf1_1, gCf11_5, gS_C35, gCf5_1, gCf11_3, gS_C11, gCf0_0, gCf1_7, gCf11_10, gS_C81, gCf7_2, gCf11_6, gS_C45, gCf10_4, gCf10_9, gCf11_8, gS_C64, gCf8_2, gCf1_13, gCf11_9, gS_C73, gCf4_8, gCf4_9, gCf11_11, gS_C85, gCf3_1, gCf3_3, gCf7_5, gCf11_2, gS_C7, gCf9_1, J_X11_many]
    exact (ok_some hw :)
  replace hw := ok_f hw c10
  by_cases c11 : v1 = 8
  · replace hw := ok_t hw c11
    have c := c11
    refine mj_tsc 8 148 (by rw [show v1 = 8 from c]; decide) (by decide) rfl (by decide) ?_
    simp only [mj_step, mj_W_s, mj_fin, List.getElem?_cons_zero, List.getElem?_cons_succ, mj_go, Nat.reduceAdd, Nat.reduceSub, Nat.reduceLT, Nat.reduceLeDiff, Nat.zero_add, Nat.reduceEqDiff, Nat.reduceBEq, ↓reduceIte, Bool.false_eq_true, List.append_nil, List.nil_append, List.cons_append, Option.toList, and_true, true_and, true_or, or_true, reduceCtorEq, List.map_nil, bI_eq0, bI_eq1, bool_ft, pk_us, vnar0, vnar1, Bool.or_false, Bool.or_true, Bool.false_or, Bool.true_or, mj_kne, eq_self, Int32.reduceLT, Int32.reduceLE, Int32.reduceAdd, Int32.reduceSub, Int32.reduceMul, not_true_eq_false, not_false_eq_true, false_implies, true_implies, D_X11_many_0, D_X11_many_1, mj_F_aload_n_k, mj_F_getfield_i, mj_F_iconst_n, mj_F_iload_n_k, mj_F_invokevirtual_i, mj_F_ireturn, mj_kc, FT_X11, L_X11_many, List.take_succ_cons, List.take_zero, List.drop_succ_cons, List.drop_zero, List.reverse_cons, List.reverse_nil, List.length_cons, List.length_nil, gS_C0, gCf11_0, gCf11_4, gS_C20, gCf1_1, gCf11_5, gS_C35, gCf5_1, gCf11_3, gS_C11, gCf0_0, gCf1_7, gCf11_10, gS_C81, gCf7_2, gCf11_6, gS_C45, gCf10_4, gCf10_9, gCf11_8, gS_C64, gCf8_2, gCf1_13, gCf11_9, gS_C73, gCf4_8, gCf4_9, gCf11_11, gS_C85, gCf3_1, gCf3_3, gCf7_5, gCf11_2, gS_C7, gCf9_1, J_X11_many]
    exact (ok_some hw :)
  replace hw := ok_f hw c11
  by_cases c12 : v1 = 9
  · replace hw := ok_t hw c12
    have c := c12
    refine mj_tsc 9 156 (by rw [show v1 = 9 from c]; decide) (by decide) rfl (by decide) ?_
    simp only [mj_step, mj_W_s, mj_fin, List.getElem?_cons_zero, List.getElem?_cons_succ, mj_go, Nat.reduceAdd, Nat.reduceSub, Nat.reduceLT, Nat.reduceLeDiff, Nat.zero_add, Nat.reduceEqDiff, Nat.reduceBEq, ↓reduceIte, Bool.false_eq_true, List.append_nil, List.nil_append, List.cons_append, Option.toList, and_true, true_and, true_or, or_true, reduceCtorEq, List.map_nil, bI_eq0, bI_eq1, bool_ft, pk_us, vnar0, vnar1, Bool.or_false, Bool.or_true, Bool.false_or, Bool.true_or, mj_kne, eq_self, Int32.reduceLT, Int32.reduceLE, Int32.reduceAdd, Int32.reduceSub, Int32.reduceMul, not_true_eq_false, not_false_eq_true, false_implies, true_implies, D_X11_many_0, D_X11_many_1, mj_F_aload_n_k, mj_F_getfield_i, mj_F_iconst_n, mj_F_iload_n_k, mj_F_invokevirtual_i, mj_F_ireturn, mj_kc, FT_X11, L_X11_many, List.take_succ_cons, List.take_zero, List.drop_succ_cons, List.drop_zero, List.reverse_cons, List.reverse_nil, List.length_cons, List.length_nil, gS_C0, gCf11_0, gCf11_4, gS_C20, gCf1_1, gCf11_5, gS_C35, gCf5_1, gCf11_3, gS_C11, gCf0_0, gCf1_7, gCf11_10, gS_C81, gCf7_2, gCf11_6, gS_C45, gCf10_4, gCf10_9, gCf11_8, gS_C64, gCf8_2, gCf1_13, gCf11_9, gS_C73, gCf4_8, gCf4_9, gCf11_11, gS_C85, gCf3_1, gCf3_3, gCf7_5, gCf11_2, gS_C7, gCf9_1, J_X11_many]
    exact (ok_some hw :)
  replace hw := ok_f hw c12
  by_cases c13 : v1 = 10
  · replace hw := ok_t hw c13
    have c := c13
    refine mj_tsc 10 164 (by rw [show v1 = 10 from c]; decide) (by decide) rfl (by decide) ?_
    simp only [mj_step, mj_W_s, mj_fin, List.getElem?_cons_zero, List.getElem?_cons_succ, mj_go, Nat.reduceAdd, Nat.reduceSub, Nat.reduceLT, Nat.reduceLeDiff, Nat.zero_add, Nat.reduceEqDiff, Nat.reduceBEq, ↓reduceIte, Bool.false_eq_true, List.append_nil, List.nil_append, List.cons_append, Option.toList, and_true, true_and, true_or, or_true, reduceCtorEq, List.map_nil, bI_eq0, bI_eq1, bool_ft, pk_us, vnar0, vnar1, Bool.or_false, Bool.or_true, Bool.false_or, Bool.true_or, mj_kne, eq_self, Int32.reduceLT, Int32.reduceLE, Int32.reduceAdd, Int32.reduceSub, Int32.reduceMul, not_true_eq_false, not_false_eq_true, false_implies, true_implies, D_X11_many_0, D_X11_many_1, mj_F_aload_n_k, mj_F_getfield_i, mj_F_iconst_n, mj_F_iload_n_k, mj_F_invokevirtual_i, mj_F_ireturn, mj_kc, FT_X11, L_X11_many, List.take_succ_cons, List.take_zero, List.drop_succ_cons, List.drop_zero, List.reverse_cons, List.reverse_nil, List.length_cons, List.length_nil, gS_C0, gCf11_0, gCf11_4, gS_C20, gCf1_1, gCf11_5, gS_C35, gCf5_1, gCf11_3, gS_C11, gCf0_0, gCf1_7, gCf11_10, gS_C81, gCf7_2, gCf11_6, gS_C45, gCf10_4, gCf10_9, gCf11_8, gS_C64, gCf8_2, gCf1_13, gCf11_9, gS_C73, gCf4_8, gCf4_9, gCf11_11, gS_C85, gCf3_1, gCf3_3, gCf7_5, gCf11_2, gS_C7, gCf9_1, J_X11_many]
    exact (ok_some hw :)
  replace hw := ok_f hw c13
  by_cases c14 : v1 = 11
  · replace hw := ok_t hw c14
    have c := c14
    refine mj_tsc 11 172 (by rw [show v1 = 11 from c]; decide) (by decide) rfl (by decide) ?_
    simp only [mj_step, mj_W_s, mj_fin, List.getElem?_cons_zero, List.getElem?_cons_succ, mj_go, Nat.reduceAdd, Nat.reduceSub, Nat.reduceLT, Nat.reduceLeDiff, Nat.zero_add, Nat.reduceEqDiff, Nat.reduceBEq, ↓reduceIte, Bool.false_eq_true, List.append_nil, List.nil_append, List.cons_append, Option.toList, and_true, true_and, true_or, or_true, reduceCtorEq, List.map_nil, bI_eq0, bI_eq1, bool_ft, pk_us, vnar0, vnar1, Bool.or_false, Bool.or_true, Bool.false_or, Bool.true_or, mj_kne, eq_self, Int32.reduceLT, Int32.reduceLE, Int32.reduceAdd, Int32.reduceSub, Int32.reduceMul, not_true_eq_false, not_false_eq_true, false_implies, true_implies, D_X11_many_0, D_X11_many_1, mj_F_aload_n_k, mj_F_getfield_i, mj_F_iconst_n, mj_F_iload_n_k, mj_F_invokevirtual_i, mj_F_ireturn, mj_kc, FT_X11, L_X11_many, List.take_succ_cons, List.take_zero, List.drop_succ_cons, List.drop_zero, List.reverse_cons, List.reverse_nil, List.length_cons, List.length_nil, gS_C0, gCf11_0, gCf11_4, gS_C20, gCf1_1, gCf11_5, gS_C35, gCf5_1, gCf11_3, gS_C11, gCf0_0, gCf1_7, gCf11_10, gS_C81, gCf7_2, gCf11_6, gS_C45, gCf10_4, gCf10_9, gCf11_8, gS_C64, gCf8_2, gCf1_13, gCf11_9, gS_C73, gCf4_8, gCf4_9, gCf11_11, gS_C85, gCf3_1, gCf3_3, gCf7_5, gCf11_2, gS_C7, gCf9_1, J_X11_many]
    exact (ok_some hw :)
  replace hw := ok_f hw c14
  by_cases c15 : v1 = 12
  · replace hw := ok_t hw c15
    have c := c15
    refine mj_tsc 12 180 (by rw [show v1 = 12 from c]; decide) (by decide) rfl (by decide) ?_
    simp only [mj_step, mj_W_s, mj_fin, List.getElem?_cons_zero, List.getElem?_cons_succ, mj_go, Nat.reduceAdd, Nat.reduceSub, Nat.reduceLT, Nat.reduceLeDiff, Nat.zero_add, Nat.reduceEqDiff, Nat.reduceBEq, ↓reduceIte, Bool.false_eq_true, List.append_nil, List.nil_append, List.cons_append, Option.toList, and_true, true_and, true_or, or_true, reduceCtorEq, List.map_nil, bI_eq0, bI_eq1, bool_ft, pk_us, vnar0, vnar1, Bool.or_false, Bool.or_true, Bool.false_or, Bool.true_or, mj_kne, eq_self, Int32.reduceLT, Int32.reduceLE, Int32.reduceAdd, Int32.reduceSub, Int32.reduceMul, not_true_eq_false, not_false_eq_true, false_implies, true_implies, D_X11_many_0, D_X11_many_1, mj_F_aload_n_k, mj_F_getfield_i, mj_F_iconst_n, mj_F_iload_n_k, mj_F_invokevirtual_i, mj_F_ireturn, mj_kc, FT_X11, L_X11_many, List.take_succ_cons, List.take_zero, List.drop_succ_cons, List.drop_zero, List.reverse_cons, List.reverse_nil, List.length_cons, List.length_nil, gS_C0, gCf11_0, gCf11_4, gS_C20, gCf1_1, gCf11_5, gS_C35, gCf5_1, gCf11_3, gS_C11, gCf0_0, gCf1_7, gCf11_10, gS_C81, gCf7_2, gCf11_6, gS_C45, gCf10_4, gCf10_9, gCf11_8, gS_C64, gCf8_2, gCf1_13, gCf11_9, gS_C73, gCf4_8, gCf4_9, gCf11_11, gS_C85, gCf3_1, gCf3_3, gCf7_5, gCf11_2, gS_C7, gCf9_1, J_X11_many]
    exact (ok_some hw :)
  replace hw := ok_f hw c15
  by_cases c16 : v1 = 13
  · replace hw := ok_t hw c16
    have c := c16
    refine mj_tsc 13 188 (by rw [show v1 = 13 from c]; decide) (by decide) rfl (by decide) ?_
    simp only [mj_step, mj_W_s, mj_fin, List.getElem?_cons_zero, List.getElem?_cons_succ, mj_go, Nat.reduceAdd, Nat.reduceSub, Nat.reduceLT, Nat.reduceLeDiff, Nat.zero_add, Nat.reduceEqDiff, Nat.reduceBEq, ↓reduceIte, Bool.false_eq_true, List.append_nil, List.nil_append, List.cons_append, Option.toList, and_true, true_and, true_or, or_true, reduceCtorEq, List.map_nil, bI_eq0, bI_eq1, bool_ft, pk_us, vnar0, vnar1, Bool.or_false, Bool.or_true, Bool.false_or, Bool.true_or, mj_kne, eq_self, Int32.reduceLT, Int32.reduceLE, Int32.reduceAdd, Int32.reduceSub, Int32.reduceMul, not_true_eq_false, not_false_eq_true, false_implies, true_implies, D_X11_many_0, D_X11_many_1, mj_F_aload_n_k, mj_F_getfield_i, mj_F_iconst_n, mj_F_iload_n_k, mj_F_invokevirtual_i, mj_F_ireturn, mj_kc, FT_X11, L_X11_many, List.take_succ_cons, List.take_zero, List.drop_succ_cons, List.drop_zero, List.reverse_cons, List.reverse_nil, List.length_cons, List.length_nil, gS_C0, gCf11_0, gCf11_4, gS_C20, gCf1_1, gCf11_5, gS_C35, gCf5_1, gCf11_3, gS_C11, gCf0_0, gCf1_7, gCf11_10, gS_C81, gCf7_2, gCf11_6, gS_C45, gCf10_4, gCf10_9, gCf11_8, gS_C64, gCf8_2, gCf1_13, gCf11_9, gS_C73, gCf4_8, gCf4_9, gCf11_11, gS_C85, gCf3_1, gCf3_3, gCf7_5, gCf11_2, gS_C7, gCf9_1, J_X11_many]
    exact (ok_some hw :)
  replace hw := ok_f hw c16
  by_cases c17 : v1 = 14
  · replace hw := ok_t hw c17
    have c := c17
    refine mj_tsc 14 196 (by rw [show v1 = 14 from c]; decide) (by decide) rfl (by decide) ?_
    simp only [mj_step, mj_W_s, mj_fin, List.getElem?_cons_zero, List.getElem?_cons_succ, mj_go, Nat.reduceAdd, Nat.reduceSub, Nat.reduceLT, Nat.reduceLeDiff, Nat.zero_add, Nat.reduceEqDiff, Nat.reduceBEq, ↓reduceIte, Bool.false_eq_true, List.append_nil, List.nil_append, List.cons_append, Option.toList, and_true, true_and, true_or, or_true, reduceCtorEq, List.map_nil, bI_eq0, bI_eq1, bool_ft, pk_us, vnar0, vnar1, Bool.or_false, Bool.or_true, Bool.false_or, Bool.true_or, mj_kne, eq_self, Int32.reduceLT, Int32.reduceLE, Int32.reduceAdd, Int32.reduceSub, Int32.reduceMul, not_true_eq_false, not_false_eq_true, false_implies, true_implies, D_X11_many_0, D_X11_many_1, mj_F_aload_n_k, mj_F_getfield_i, mj_F_iconst_n, mj_F_iload_n_k, mj_F_invokevirtual_i, mj_F_ireturn, mj_kc, FT_X11, L_X11_many, List.take_succ_cons, List.take_zero, List.drop_succ_cons, List.drop_zero, List.reverse_cons, List.reverse_nil, List.length_cons, List.length_nil, gS_C0, gCf11_0, gCf11_4, gS_C20, gCf1_1, gCf11_5, gS_C35, gCf5_1, gCf11_3, gS_C11, gCf0_0, gCf1_7, gCf11_10, gS_C81, gCf7_2, gCf11_6, gS_C45, gCf10_4, gCf10_9, gCf11_8, gS_C64, gCf8_2, gCf1_13, gCf11_9, gS_C73, gCf4_8, gCf4_9, gCf11_11, gS_C85, gCf3_1, gCf3_3, gCf7_5, gCf11_2, gS_C7, gCf9_1, J_X11_many]
    exact (ok_some hw :)
  replace hw := ok_f hw c17
  by_cases c18 : v1 = 15
  · replace hw := ok_t hw c18
    have c := c18
    refine mj_tsc 15 204 (by rw [show v1 = 15 from c]; decide) (by decide) rfl (by decide) ?_
    simp only [mj_step, mj_W_s, mj_fin, List.getElem?_cons_zero, List.getElem?_cons_succ, mj_go, Nat.reduceAdd, Nat.reduceSub, Nat.reduceLT, Nat.reduceLeDiff, Nat.zero_add, Nat.reduceEqDiff, Nat.reduceBEq, ↓reduceIte, Bool.false_eq_true, List.append_nil, List.nil_append, List.cons_append, Option.toList, and_true, true_and, true_or, or_true, reduceCtorEq, List.map_nil, bI_eq0, bI_eq1, bool_ft, pk_us, vnar0, vnar1, Bool.or_false, Bool.or_true, Bool.false_or, Bool.true_or, mj_kne, eq_self, Int32.reduceLT, Int32.reduceLE, Int32.reduceAdd, Int32.reduceSub, Int32.reduceMul, not_true_eq_false, not_false_eq_true, false_implies, true_implies, D_X11_many_0, D_X11_many_1, mj_F_aload_n_k, mj_F_getfield_i, mj_F_iconst_n, mj_F_iload_n_k, mj_F_invokevirtual_i, mj_F_ireturn, mj_kc, FT_X11, L_X11_many, List.take_succ_cons, List.take_zero, List.drop_succ_cons, List.drop_zero, List.reverse_cons, List.reverse_nil, List.length_cons, List.length_nil, gS_C0, gCf11_0, gCf11_4, gS_C20, gCf1_1, gCf11_5, gS_C35, gCf5_1, gCf11_3, gS_C11, gCf0_0, gCf1_7, gCf11_10, gS_C81, gCf7_2, gCf11_6, gS_C45, gCf10_4, gCf10_9, gCf11_8, gS_C64, gCf8_2, gCf1_13, gCf11_9, gS_C73, gCf4_8, gCf4_9, gCf11_11, gS_C85, gCf3_1, gCf3_3, gCf7_5, gCf11_2, gS_C7, gCf9_1, J_X11_many]
    exact (ok_some hw :)
  replace hw := ok_f hw c18
  by_cases c19 : v1 = 16
  · replace hw := ok_t hw c19
    have c := c19
    refine mj_tsc 16 212 (by rw [show v1 = 16 from c]; decide) (by decide) rfl (by decide) ?_
    simp only [mj_step, mj_W_s, mj_fin, List.getElem?_cons_zero, List.getElem?_cons_succ, mj_go, Nat.reduceAdd, Nat.reduceSub, Nat.reduceLT, Nat.reduceLeDiff, Nat.zero_add, Nat.reduceEqDiff, Nat.reduceBEq, ↓reduceIte, Bool.false_eq_true, List.append_nil, List.nil_append, List.cons_append, Option.toList, and_true, true_and, true_or, or_true, reduceCtorEq, List.map_nil, bI_eq0, bI_eq1, bool_ft, pk_us, vnar0, vnar1, Bool.or_false, Bool.or_true, Bool.false_or, Bool.true_or, mj_kne, eq_self, Int32.reduceLT, Int32.reduceLE, Int32.reduceAdd, Int32.reduceSub, Int32.reduceMul, not_true_eq_false, not_false_eq_true, false_implies, true_implies, D_X11_many_0, D_X11_many_1, mj_F_aload_n_k, mj_F_getfield_i, mj_F_iconst_n, mj_F_iload_n_k, mj_F_invokevirtual_i, mj_F_ireturn, mj_kc, FT_X11, L_X11_many, List.take_succ_cons, List.take_zero, List.drop_succ_cons, List.drop_zero, List.reverse_cons, List.reverse_nil, List.length_cons, List.length_nil, gS_C0, gCf11_0, gCf11_4, gS_C20, gCf1_1, gCf11_5, gS_C35, gCf5_1, gCf11_3, gS_C11, gCf0_0, gCf1_7, gCf11_10, gS_C81, gCf7_2, gCf11_6, gS_C45, gCf10_4, gCf10_9, gCf11_8, gS_C64, gCf8_2, gCf1_13, gCf11_9, gS_C73, gCf4_8, gCf4_9, gCf11_11, gS_C85, gCf3_1, gCf3_3, gCf7_5, gCf11_2, gS_C7, gCf9_1, J_X11_many]
    exact (ok_some hw :)
  replace hw := ok_f hw c19
  by_cases c20 : v1 = 17
  · replace hw := ok_t hw c20
    have c := c20
    refine mj_tsc 17 220 (by rw [show v1 = 17 from c]; decide) (by decide) rfl (by decide) ?_
    simp only [mj_step, mj_W_s, mj_fin, List.getElem?_cons_zero, List.getElem?_cons_succ, mj_go, Nat.reduceAdd, Nat.reduceSub, Nat.reduceLT, Nat.reduceLeDiff, Nat.zero_add, Nat.reduceEqDiff, Nat.reduceBEq, ↓reduceIte, Bool.false_eq_true, List.append_nil, List.nil_append, List.cons_append, Option.toList, and_true, true_and, true_or, or_true, reduceCtorEq, List.map_nil, bI_eq0, bI_eq1, bool_ft, pk_us, vnar0, vnar1, Bool.or_false, Bool.or_true, Bool.false_or, Bool.true_or, mj_kne, eq_self, Int32.reduceLT, Int32.reduceLE, Int32.reduceAdd, Int32.reduceSub, Int32.reduceMul, not_true_eq_false, not_false_eq_true, false_implies, true_implies, D_X11_many_0, D_X11_many_1, mj_F_aload_n_k, mj_F_getfield_i, mj_F_iconst_n, mj_F_iload_n_k, mj_F_invokevirtual_i, mj_F_ireturn, mj_kc, FT_X11, L_X11_many, List.take_succ_cons, List.take_zero, List.drop_succ_cons, List.drop_zero, List.reverse_cons, List.reverse_nil, List.length_cons, List.length_nil, gS_C0, gCf11_0, gCf11_4, gS_C20, gCf1_1, gCf11_5, gS_C35, gCf5_1, gCf11_3, gS_C11, gCf0_0, gCf1_7, gCf11_10, gS_C81, gCf7_2, gCf11_6, gS_C45, gCf10_4, gCf10_9, gCf11_8, gS_C64, gCf8_2, gCf1_13, gCf11_9, gS_C73, gCf4_8, gCf4_9, gCf11_11, gS_C85, gCf3_1, gCf3_3, gCf7_5, gCf11_2, gS_C7, gCf9_1, J_X11_many]
    refine c_X10_lyingInAll_in (ok_imp (ok_bind hw) ?_)
    intro p hw
    simp only [Option.toList, List.nil_append, List.cons_append, Nat.reduceSub]
    refine mj_run hG.1 (fun pc => pc == 116 || pc == 228) 4000 ?_
    simp only [mj_step, mj_W_s, mj_fin, List.getElem?_cons_zero, List.getElem?_cons_succ, mj_go, Nat.reduceAdd, Nat.reduceSub, Nat.reduceLT, Nat.reduceLeDiff, Nat.zero_add, Nat.reduceEqDiff, Nat.reduceBEq, ↓reduceIte, Bool.false_eq_true, List.append_nil, List.nil_append, List.cons_append, Option.toList, and_true, true_and, true_or, or_true, reduceCtorEq, List.map_nil, bI_eq0, bI_eq1, bool_ft, pk_us, vnar0, vnar1, Bool.or_false, Bool.or_true, Bool.false_or, Bool.true_or, mj_kne, eq_self, Int32.reduceLT, Int32.reduceLE, Int32.reduceAdd, Int32.reduceSub, Int32.reduceMul, not_true_eq_false, not_false_eq_true, false_implies, true_implies, D_X11_many_0, D_X11_many_1, mj_F_aload_n_k, mj_F_getfield_i, mj_F_iconst_n, mj_F_iload_n_k, mj_F_invokevirtual_i, mj_F_ireturn, mj_kc, FT_X11, L_X11_many, List.take_succ_cons, List.take_zero, List.drop_succ_cons, List.drop_zero, List.reverse_cons, List.reverse_nil, List.length_cons, List.length_nil, gS_C0, gCf11_0, gCf11_4, gS_C20, gCf1_1, gCf11_5, gS_C35, gCf5_1, gCf11_3, gS_C11, gCf0_0, gCf1_7, gCf11_10, gS_C81, gCf7_2, gCf11_6, gS_C45, gCf10_4, gCf10_9, gCf11_8, gS_C64, gCf8_2, gCf1_13, gCf11_9, gS_C73, gCf4_8, gCf4_9, gCf11_11, gS_C85, gCf3_1, gCf3_3, gCf7_5, gCf11_2, gS_C7, gCf9_1, J_X11_many]
    exact (ok_some hw :)
  replace hw := ok_f hw c20
  refine mj_tsd (mj_tsr [0, 1, 2, 3, 4, 5, 6, 7, 8, 9, 10, 11, 12, 13, 14, 15, 16, 17] (List.forall_mem_cons.mpr ⟨mj_nt c3 rfl, List.forall_mem_cons.mpr ⟨mj_nt c4 rfl, List.forall_mem_cons.mpr ⟨mj_nt c5 rfl, List.forall_mem_cons.mpr ⟨mj_nt c6 rfl, List.forall_mem_cons.mpr ⟨mj_nt c7 rfl, List.forall_mem_cons.mpr ⟨mj_nt c8 rfl, List.forall_mem_cons.mpr ⟨mj_nt c9 rfl, List.forall_mem_cons.mpr ⟨mj_nt c10 rfl, List.forall_mem_cons.mpr ⟨mj_nt c11 rfl, List.forall_mem_cons.mpr ⟨mj_nt c12 rfl, List.forall_mem_cons.mpr ⟨mj_nt c13 rfl, List.forall_mem_cons.mpr ⟨mj_nt c14 rfl, List.forall_mem_cons.mpr ⟨mj_nt c15 rfl, List.forall_mem_cons.mpr ⟨mj_nt c16 rfl, List.forall_mem_cons.mpr ⟨mj_nt c17 rfl, List.forall_mem_cons.mpr ⟨mj_nt c18 rfl, List.forall_mem_cons.mpr ⟨mj_nt c19 rfl, List.forall_mem_cons.mpr ⟨mj_nt c20 rfl, fun _ h => (nomatch h)⟩⟩⟩⟩⟩⟩⟩⟩⟩⟩⟩⟩⟩⟩⟩⟩⟩⟩) (by decide)) (by decide) ?_
  simp only [mj_step, mj_W_s, mj_fin, List.getElem?_cons_zero, List.getElem?_cons_succ, mj_go, Nat.reduceAdd, Nat.reduceSub, Nat.reduceLT, Nat.reduceLeDiff, Nat.zero_add, Nat.reduceEqDiff, Nat.reduceBEq, ↓reduceIte, Bool.false_eq_true, List.append_nil, List.nil_append, List.cons_append, Option.toList, and_true, true_and, true_or, or_true, reduceCtorEq, List.map_nil, bI_eq0, bI_eq1, bool_ft, pk_us, vnar0, vnar1, Bool.or_false, Bool.or_true, Bool.false_or, Bool.true_or, mj_kne, eq_self, Int32.reduceLT, Int32.reduceLE, Int32.reduceAdd, Int32.reduceSub, Int32.reduceMul, not_true_eq_false, not_false_eq_true, false_implies, true_implies, D_X11_many_0, D_X11_many_1, mj_F_aload_n_k, mj_F_getfield_i, mj_F_iconst_n, mj_F_iload_n_k, mj_F_invokevirtual_i, mj_F_ireturn, mj_kc, FT_X11, L_X11_many, List.take_succ_cons, List.take_zero, List.drop_succ_cons, List.drop_zero, List.reverse_cons, List.reverse_nil, List.length_cons, List.length_nil, gS_C0, gCf11_0, gCf11_4, gS_C20, gCf1_1, gCf11_5, gS_C35, gCf5_1, gCf11_3, gS_C11, gCf0_0, gCf1_7, gCf11_10, gS_C81, gCf7_2, gCf11_6, gS_C45, gCf10_4, gCf10_9, gCf11_8, gS_C64, gCf8_2, gCf1_13, gCf11_9, gS_C73, gCf4_8, gCf4_9, gCf11_11, gS_C85, gCf3_1, gCf3_3, gCf7_5, gCf11_2, gS_C7, gCf9_1, J_X11_many]
  exact (ok_some hw :)

def c_X11_many : mj_S := fun as h k => ∃ (v1 : Int32) (s : St), as = [.ref 0, .int v1] ∧ h = mkCs s ∧ ok (F_X11_many v1 s) (fun p => k (some (.int p)) (mkCs s))
theorem c_X11_many_in {v1 : Int32} {s : St} {k : Option Value → mj_H → Prop} (hw : ok (F_X11_many v1 s) (fun p => k (some (.int p)) (mkCs s))) : c_X11_many [.ref 0, .int v1] (mkCs s) k := ⟨v1, s, rfl, rfl, hw⟩
theorem m_X11_many (l : Launch) : mj_Met l yX11_many cX11_many 2 ((some FieldType.int)) 1 0 0 c_X11_many := by
  refine mj_body2 false (TbX11 2 ((some FieldType.int)) ct_X11_many) (by decide) rfl rfl (fun h => nomatch h) (tfX11 _ (List.forall_mem_cons.mpr ⟨cfX11_393 (m_X5_builtInAll l) (by decide), List.forall_mem_cons.mpr ⟨cfX11_421 (m_X10_lyingInAll l) (by decide), fun _ h => nomatch h⟩⟩)) ?_
  rintro as h k ⟨v1, s, rfl, rfl, hw⟩
  exact ⟨rfl, fun G hG => g_X11_many hG hw⟩
