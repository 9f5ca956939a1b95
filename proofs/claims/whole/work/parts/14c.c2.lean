/-! functional pictures, and that the bytecode keeps them (c2) -/
def F_X11_school (v1 : Int32) (v2 : Int32) (v3 : Int32) (v4 : Int32) (v5 : Int32) (s : St) : Option (Int32 × St) :=
  if inb v1 0 119 = false then
    some ((-1), s)
  else
    if inb v2 0 3 = false then
      some ((-1), s)
    else
      if inb v3 1 20 = false then
        some ((-1), s)
      else
        if inb v4 1 3 = false then
          some ((-1), s)
        else
          if inb v5 1 255 = false then
            some ((-1), s)
          else
            (F_X5_found v1 v2 v3 v4 v5 (s.1 1100) s).bind fun r1 =>
            if r1.1 = (-1) then
              some (r1.1, r1.2)
            else
              (F_X10_order r1.1 v3 r1.2).bind fun s2 =>
              some (r1.1, s2)
theorem J_X11_school : mj_t 4 42 = 46 ∧ mj_t 11 35 = 46 ∧ mj_t 21 25 = 46 ∧ mj_t 31 15 = 46 ∧ mj_t 43 5 = 48 ∧ mj_t 71 13 = 84 ∧ (0 ≤ ((4 : Nat) : Int) + 42) = True ∧ (0 ≤ ((11 : Nat) : Int) + 35) = True ∧ (0 ≤ ((21 : Nat) : Int) + 25) = True ∧ (0 ≤ ((31 : Nat) : Int) + 15) = True ∧ (0 ≤ ((43 : Nat) : Int) + 5) = True ∧ (0 ≤ ((71 : Nat) : Int) + 13) = True := by and_intros <;> first | rfl | exact eq_true (by decide)
def ct_X11_school : List (Nat × mj_Cs) := [(96, 2, 3, 11, 0, 0, c_in), (118, 2, 1, 11, 0, 0, c_isCell), (131, 2, 1, 11, 0, 0, c_isShire), (157, 0, 7, 5, 0, 0, c_X5_found), (161, 0, 3, 10, 0, 0, c_X10_order)]
theorem L_X11_school : mj_lk ct_X11_school 96 = some (2, 3, 11, 0, 0, c_in) ∧ mj_lk ct_X11_school 118 = some (2, 1, 11, 0, 0, c_isCell) ∧ mj_lk ct_X11_school 131 = some (2, 1, 11, 0, 0, c_isShire) ∧ mj_lk ct_X11_school 157 = some (0, 7, 5, 0, 0, c_X5_found) ∧ mj_lk ct_X11_school 161 = some (0, 3, 10, 0, 0, c_X10_order) := ⟨rfl, rfl, rfl, rfl, rfl⟩
set_option maxHeartbeats 4000000 in
set_option maxRecDepth 20000 in
theorem g_X11_school {k : Option Value → mj_H → Prop} {G : mj_K} (hG : mj_cl2 cX11_school (TbX11 7 ((some FieldType.int)) ct_X11_school) k G) {v1 : Int32} {v2 : Int32} {v3 : Int32} {v4 : Int32} {v5 : Int32} {s : St} (hw : ok (F_X11_school v1 v2 v3 v4 v5 s) (fun p => k (some (.int p.1)) (mkCs p.2))) : G 0 [.ref 0, .int v1, .int v2, .int v3, .int v4, .int v5] [] (mkCs s) 0 0 := by
  unfold F_X11_school at hw
  refine mj_run hG.1 (fun pc => pc == 66 || pc == 84) 4000 ?_
  simp only [mj_step, mj_W_s, mj_fin, List.getElem?_cons_zero, List.getElem?_cons_succ, mj_go, Nat.reduceAdd, Nat.reduceSub, Nat.reduceLT, Nat.reduceLeDiff, Nat.zero_add, Nat.reduceEqDiff, Nat.reduceBEq, ↓reduceIte, Bool.false_eq_true, List.append_nil, List.nil_append, List.cons_append, Option.toList, and_true, true_and, true_or, or_true, reduceCtorEq, List.map_nil, bI_eq0, bI_eq1, bool_ft, pk_us, vnar0, vnar1, Bool.or_false, Bool.or_true, Bool.false_or, Bool.true_or, mj_kne, eq_self, Int32.reduceLT, Int32.reduceLE, Int32.reduceAdd, Int32.reduceSub, Int32.reduceMul, not_true_eq_false, not_false_eq_true, false_implies, true_implies, D_X11_school, mj_F_aload_n_k, mj_F_bipush_n, mj_F_getfield_i, mj_F_iconst_n, mj_F_ifCond_eq_off, mj_F_ifCond_ne_off, mj_F_if_icmp_eq_off, mj_F_iload_k, mj_F_iload_n_k, mj_F_invokestatic_i, mj_F_invokevirtual_i, mj_F_ireturn, mj_F_istore_k, mj_F_sipush_n, mj_set, mj_set0, mj_unk, mj_c2, mj_kc, FT_X11, L_X11_school, List.take_succ_cons, List.take_zero, List.drop_succ_cons, List.drop_zero, List.reverse_cons, List.reverse_nil, List.length_cons, List.length_nil, gS_C0, gCf11_5, gCf11_0, gCf11_6, c_isCell_eq, c_isShire_eq, c_in_eq, gS_C35, gS_C45, J_X11_school]
  refine ⟨fun c => ?_, fun c => ?_⟩
  · replace hw := ok_t hw c
    exact (ok_some hw :)
  · replace hw := ok_f hw c
    refine ⟨fun c => ?_, fun c => ?_⟩
    · replace hw := ok_t hw c
      exact (ok_some hw :)
    · replace hw := ok_f hw c
      refine ⟨fun c => ?_, fun c => ?_⟩
      · replace hw := ok_t hw c
        exact (ok_some hw :)
      · replace hw := ok_f hw c
        refine ⟨fun c => ?_, fun c => ?_⟩
        · replace hw := ok_t hw c
          exact (ok_some hw :)
        · replace hw := ok_f hw c
          refine ⟨fun c => ?_, fun c => ?_⟩
          · replace hw := ok_f hw c
            refine c_X5_found_in (ok_imp (ok_bind hw) ?_)
            intro p hw
            simp only [Option.toList, List.nil_append, List.cons_append, Nat.reduceSub]
            refine mj_run hG.1 (fun pc => pc == 66 || pc == 84) 4000 ?_
            simp only [mj_step, mj_W_s, mj_fin, List.getElem?_cons_zero, List.getElem?_cons_succ, mj_go, Nat.reduceAdd, Nat.reduceSub, Nat.reduceLT, Nat.reduceLeDiff, Nat.zero_add, Nat.reduceEqDiff, Nat.reduceBEq, ↓reduceIte, Bool.false_eq_true, List.append_nil, List.nil_append, List.cons_append, Option.toList, and_true, true_and, true_or, or_true, reduceCtorEq, List.map_nil, bI_eq0, bI_eq1, bool_ft, pk_us, vnar0, vnar1, Bool.or_false, Bool.or_true, Bool.false_or, Bool.true_or, mj_kne, eq_self, Int32.reduceLT, Int32.reduceLE, Int32.reduceAdd, Int32.reduceSub, Int32.reduceMul, not_true_eq_false, not_false_eq_true, false_implies, true_implies, D_X11_school, mj_F_aload_n_k, mj_F_bipush_n, mj_F_getfield_i, mj_F_iconst_n, mj_F_ifCond_eq_off, mj_F_ifCond_ne_off, mj_F_if_icmp_eq_off, mj_F_iload_k, mj_F_iload_n_k, mj_F_invokestatic_i, mj_F_invokevirtual_i, mj_F_ireturn, mj_F_istore_k, mj_F_sipush_n, mj_set, mj_set0, mj_unk, mj_c2, mj_kc, FT_X11, L_X11_school, List.take_succ_cons, List.take_zero, List.drop_succ_cons, List.drop_zero, List.reverse_cons, List.reverse_nil, List.length_cons, List.length_nil, gS_C0, gCf11_5, gCf11_0, gCf11_6, c_isCell_eq, c_isShire_eq, c_in_eq, gS_C35, gS_C45, J_X11_school]
            refine ⟨fun c => ?_, fun c => ?_⟩
            · replace hw := ok_t hw c
              refine mj_run hG.1 (fun pc => pc == 66 || pc == 84) 4000 ?_
              simp only [mj_step, mj_W_s, mj_fin, List.getElem?_cons_zero, List.getElem?_cons_succ, mj_go, Nat.reduceAdd, Nat.reduceSub, Nat.reduceLT, Nat.reduceLeDiff, Nat.zero_add, Nat.reduceEqDiff, Nat.reduceBEq, ↓reduceIte, Bool.false_eq_true, List.append_nil, List.nil_append, List.cons_append, Option.toList, and_true, true_and, true_or, or_true, reduceCtorEq, List.map_nil, bI_eq0, bI_eq1, bool_ft, pk_us, vnar0, vnar1, Bool.or_false, Bool.or_true, Bool.false_or, Bool.true_or, mj_kne, eq_self, Int32.reduceLT, Int32.reduceLE, Int32.reduceAdd, Int32.reduceSub, Int32.reduceMul, not_true_eq_false, not_false_eq_true, false_implies, true_implies, D_X11_school, mj_F_aload_n_k, mj_F_bipush_n, mj_F_getfield_i, mj_F_iconst_n, mj_F_ifCond_eq_off, mj_F_ifCond_ne_off, mj_F_if_icmp_eq_off, mj_F_iload_k, mj_F_iload_n_k, mj_F_invokestatic_i, mj_F_invokevirtual_i, mj_F_ireturn, mj_F_istore_k, mj_F_sipush_n, mj_set, mj_set0, mj_unk, mj_c2, mj_kc, FT_X11, L_X11_school, List.take_succ_cons, List.take_zero, List.drop_succ_cons, List.drop_zero, List.reverse_cons, List.reverse_nil, List.length_cons, List.length_nil, gS_C0, gCf11_5, gCf11_0, gCf11_6, c_isCell_eq, c_isShire_eq, c_in_eq, gS_C35, gS_C45, J_X11_school]
              exact (ok_some hw :)
            · replace hw := ok_f hw c
              refine c_X10_order_in (ok_imp (ok_bind hw) ?_)
              intro p hw
              simp only [Option.toList, List.nil_append, List.cons_append, Nat.reduceSub]
              refine mj_run hG.1 (fun pc => pc == 66 || pc == 84) 4000 ?_
              simp only [mj_step, mj_W_s, mj_fin, List.getElem?_cons_zero, List.getElem?_cons_succ, mj_go, Nat.reduceAdd, Nat.reduceSub, Nat.reduceLT, Nat.reduceLeDiff, Nat.zero_add, Nat.reduceEqDiff, Nat.reduceBEq, ↓reduceIte, Bool.false_eq_true, List.append_nil, List.nil_append, List.cons_append, Option.toList, and_true, true_and, true_or, or_true, reduceCtorEq, List.map_nil, bI_eq0, bI_eq1, bool_ft, pk_us, vnar0, vnar1, Bool.or_false, Bool.or_true, Bool.false_or, Bool.true_or, mj_kne, eq_self, Int32.reduceLT, Int32.reduceLE, Int32.reduceAdd, Int32.reduceSub, Int32.reduceMul, not_true_eq_false, not_false_eq_true, false_implies, true_implies, D_X11_school, mj_F_aload_n_k, mj_F_bipush_n, mj_F_getfield_i, mj_F_iconst_n, mj_F_ifCond_eq_off, mj_F_ifCond_ne_off, mj_F_if_icmp_eq_off, mj_F_iload_k, mj_F_iload_n_k, mj_F_invokestatic_i, mj_F_invokevirtual_i, mj_F_ireturn, mj_F_istore_k, mj_F_sipush_n, mj_set, mj_set0, mj_unk, mj_c2, mj_kc, FT_X11, L_X11_school, List.take_succ_cons, List.take_zero, List.drop_succ_cons, List.drop_zero, List.reverse_cons, List.reverse_nil, List.length_cons, List.length_nil, gS_C0, gCf11_5, gCf11_0, gCf11_6, c_isCell_eq, c_isShire_eq, c_in_eq, gS_C35, gS_C45, J_X11_school]
              exact (ok_some hw :)
          · replace hw := ok_t hw c
            exact (ok_some hw :)

def c_X11_school : mj_S := fun as h k => ∃ (v1 : Int32) (v2 : Int32) (v3 : Int32) (v4 : Int32) (v5 : Int32) (s : St), as = [.ref 0, .int v1, .int v2, .int v3, .int v4, .int v5] ∧ h = mkCs s ∧ ok (F_X11_school v1 v2 v3 v4 v5 s) (fun p => k (some (.int p.1)) (mkCs p.2))
theorem c_X11_school_in {v1 : Int32} {v2 : Int32} {v3 : Int32} {v4 : Int32} {v5 : Int32} {s : St} {k : Option Value → mj_H → Prop} (hw : ok (F_X11_school v1 v2 v3 v4 v5 s) (fun p => k (some (.int p.1)) (mkCs p.2))) : c_X11_school [.ref 0, .int v1, .int v2, .int v3, .int v4, .int v5] (mkCs s) k := ⟨v1, v2, v3, v4, v5, s, rfl, rfl, hw⟩
theorem m_X11_school (l : Launch) : mj_Met l yX11_school cX11_school 7 ((some FieldType.int)) 2 0 0 c_X11_school := by
  refine mj_body2 false (TbX11 7 ((some FieldType.int)) ct_X11_school) (by decide) rfl rfl (fun h => nomatch h) (tfX11 _ (List.forall_mem_cons.mpr ⟨cfX11_96 (m_X11_within l) (by decide), List.forall_mem_cons.mpr ⟨cfX11_118 (m_X11_isCell l) (by decide), List.forall_mem_cons.mpr ⟨cfX11_131 (m_X11_isShire l) (by decide), List.forall_mem_cons.mpr ⟨cfX11_157 (m_X5_found l) (by decide), List.forall_mem_cons.mpr ⟨cfX11_161 (m_X10_order l) (by decide), fun _ h => nomatch h⟩⟩⟩⟩⟩)) ?_
  rintro as h k ⟨v1, v2, v3, v4, v5, s, rfl, rfl, hw⟩
  exact ⟨rfl, fun G hG => g_X11_school hG hw⟩
def F_X11_isSchool (v1 : Int32) (s : St) : Option (Int32) :=
  some (bI (inb v1 0 ((s.1 501) - 1)))
def ct_X11_isSchool : List (Nat × mj_Cs) := [(96, 2, 3, 11, 0, 0, c_in)]
theorem L_X11_isSchool : mj_lk ct_X11_isSchool 96 = some (2, 3, 11, 0, 0, c_in) := rfl
set_option maxHeartbeats 4000000 in
set_option maxRecDepth 20000 in
theorem g_X11_isSchool {k : Option Value → mj_H → Prop} {G : mj_K} (hG : mj_cl2 cX11_isSchool (TbX11 2 ((some FieldType.boolean)) ct_X11_isSchool) k G) {v1 : Int32} {s : St} (hw : ok (F_X11_isSchool v1 s) (fun p => k (some (.int p)) (mkCs s))) : G 0 [.ref 0, .int v1] [] (mkCs s) 0 0 := by
  unfold F_X11_isSchool at hw
  refine mj_run hG.1 (fun _ => false) 4000 ?_
  simp only [mj_step, mj_W_s, mj_fin, List.getElem?_cons_zero, List.getElem?_cons_succ, mj_go, Nat.reduceAdd, Nat.reduceSub, Nat.reduceLT, Nat.reduceLeDiff, Nat.zero_add, Nat.reduceEqDiff, Nat.reduceBEq, ↓reduceIte, Bool.false_eq_true, List.append_nil, List.nil_append, List.cons_append, Option.toList, and_true, true_and, true_or, or_true, reduceCtorEq, List.map_nil, bI_eq0, bI_eq1, bool_ft, pk_us, vnar0, vnar1, Bool.or_false, Bool.or_true, Bool.false_or, Bool.true_or, mj_kne, eq_self, Int32.reduceLT, Int32.reduceLE, Int32.reduceAdd, Int32.reduceSub, Int32.reduceMul, not_true_eq_false, not_false_eq_true, false_implies, true_implies, D_X11_isSchool, mj_F_aload_n_k, mj_F_getfield_i, mj_F_iconst_n, mj_F_iload_n_k, mj_F_invokestatic_i, mj_F_ireturn, mj_F_isub, mj_kc, FT_X11, L_X11_isSchool, List.take_succ_cons, List.take_zero, List.drop_succ_cons, List.drop_zero, List.reverse_cons, List.reverse_nil, List.length_cons, List.length_nil, gS_C0, gCf11_5, gS_C35, gCf5_1, c_in_eq]
  exact (ok_some hw :)

def c_X11_isSchool : mj_S := fun as h k => ∃ (v1 : Int32) (s : St), as = [.ref 0, .int v1] ∧ h = mkCs s ∧ ok (F_X11_isSchool v1 s) (fun p => k (some (.int p)) (mkCs s))
theorem c_X11_isSchool_in {v1 : Int32} {s : St} {k : Option Value → mj_H → Prop} (hw : ok (F_X11_isSchool v1 s) (fun p => k (some (.int p)) (mkCs s))) : c_X11_isSchool [.ref 0, .int v1] (mkCs s) k := ⟨v1, s, rfl, rfl, hw⟩
theorem m_X11_isSchool (l : Launch) : mj_Met l yX11_isSchool cX11_isSchool 2 ((some FieldType.boolean)) 1 0 0 c_X11_isSchool := by
  refine mj_body2 false (TbX11 2 ((some FieldType.boolean)) ct_X11_isSchool) (by decide) rfl rfl (fun h => nomatch h) (tfX11 _ (List.forall_mem_cons.mpr ⟨cfX11_96 (m_X11_within l) (by decide), fun _ h => nomatch h⟩)) ?_
  rintro as h k ⟨v1, s, rfl, rfl, hw⟩
  exact ⟨rfl, fun G hG => g_X11_isSchool hG hw⟩
def F_X11_far (v1 : Int32) (v2 : Int32) (s : St) : Option (Int32 × St) :=
  (F_X11_isSchool v1 s).bind fun r1 =>
  if r1 = 0 then
    some (0, s)
  else
    (rd s 509 20 v1).bind fun x2 =>
    if x2 = v2 then
      some (0, s)
    else
      (wr s 509 20 v1 (vp_nar .boolean v2)).bind fun s3 =>
      some (1, s3)
theorem J_X11_far : mj_t 5 16 = 21 ∧ mj_t 18 5 = 23 ∧ (0 ≤ ((5 : Nat) : Int) + 16) = True ∧ (0 ≤ ((18 : Nat) : Int) + 5) = True := by and_intros <;> first | rfl | exact eq_true (by decide)
def ct_X11_far : List (Nat × mj_Cs) := [(165, 0, 2, 11, 0, 0, c_X11_isSchool)]
theorem L_X11_far : mj_lk ct_X11_far 165 = some (0, 2, 11, 0, 0, c_X11_isSchool) := rfl
set_option maxHeartbeats 4000000 in
set_option maxRecDepth 20000 in
theorem g_X11_far {k : Option Value → mj_H → Prop} {G : mj_K} (hG : mj_cl2 cX11_far (TbX11 3 ((some FieldType.boolean)) ct_X11_far) k G) {v1 : Int32} {v2 : Int32} {s : St} (hw : ok (F_X11_far v1 v2 s) (fun p => k (some (.int p.1)) (mkCs p.2))) : G 0 [.ref 0, .int v1, .int v2] [] (mkCs s) 0 0 := by
  unfold F_X11_far at hw
  refine mj_run hG.1 (fun pc => pc == 5) 4000 ?_
  simp only [mj_step, mj_W_s, mj_fin, List.getElem?_cons_zero, List.getElem?_cons_succ, mj_go, Nat.reduceAdd, Nat.reduceSub, Nat.reduceLT, Nat.reduceLeDiff, Nat.zero_add, Nat.reduceEqDiff, Nat.reduceBEq, ↓reduceIte, Bool.false_eq_true, List.append_nil, List.nil_append, List.cons_append, Option.toList, and_true, true_and, true_or, or_true, reduceCtorEq, List.map_nil, bI_eq0, bI_eq1, bool_ft, pk_us, vnar0, vnar1, Bool.or_false, Bool.or_true, Bool.false_or, Bool.true_or, mj_kne, eq_self, Int32.reduceLT, Int32.reduceLE, Int32.reduceAdd, Int32.reduceSub, Int32.reduceMul, not_true_eq_false, not_false_eq_true, false_implies, true_implies, D_X11_far, mj_F_aload_n_k, mj_F_baload, mj_F_bastore, mj_F_getfield_i, mj_F_iconst_n, mj_F_ifCond_eq_off, mj_F_if_icmp_ne_off, mj_F_iload_n_k, mj_F_invokevirtual_i, mj_F_ireturn, mj_kc, FT_X11, L_X11_far, List.take_succ_cons, List.take_zero, List.drop_succ_cons, List.drop_zero, List.reverse_cons, List.reverse_nil, List.length_cons, List.length_nil, gS_C0, gCf11_5, gS_C35, gCf5_9, gS_C43, sS_Ca_43, J_X11_far]
  refine c_X11_isSchool_in (ok_imp (ok_bind hw) ?_)
  intro p hw
  simp only [Option.toList, List.nil_append, List.cons_append, Nat.reduceSub]
  refine mj_run hG.1 (fun pc => pc == 5) 4000 ?_
  simp only [mj_step, mj_W_s, mj_fin, List.getElem?_cons_zero, List.getElem?_cons_succ, mj_go, Nat.reduceAdd, Nat.reduceSub, Nat.reduceLT, Nat.reduceLeDiff, Nat.zero_add, Nat.reduceEqDiff, Nat.reduceBEq, ↓reduceIte, Bool.false_eq_true, List.append_nil, List.nil_append, List.cons_append, Option.toList, and_true, true_and, true_or, or_true, reduceCtorEq, List.map_nil, bI_eq0, bI_eq1, bool_ft, pk_us, vnar0, vnar1, Bool.or_false, Bool.or_true, Bool.false_or, Bool.true_or, mj_kne, eq_self, Int32.reduceLT, Int32.reduceLE, Int32.reduceAdd, Int32.reduceSub, Int32.reduceMul, not_true_eq_false, not_false_eq_true, false_implies, true_implies, D_X11_far, mj_F_aload_n_k, mj_F_baload, mj_F_bastore, mj_F_getfield_i, mj_F_iconst_n, mj_F_ifCond_eq_off, mj_F_if_icmp_ne_off, mj_F_iload_n_k, mj_F_invokevirtual_i, mj_F_ireturn, mj_kc, FT_X11, L_X11_far, List.take_succ_cons, List.take_zero, List.drop_succ_cons, List.drop_zero, List.reverse_cons, List.reverse_nil, List.length_cons, List.length_nil, gS_C0, gCf11_5, gS_C35, gCf5_9, gS_C43, sS_Ca_43, J_X11_far]
  refine ⟨fun c => ?_, fun c => ?_⟩
  · replace hw := ok_t hw c
    exact (ok_some hw :)
  · replace hw := ok_f hw c
    refine ⟨(ok_rd hw).1, ?_⟩
    replace hw := (ok_rd hw).2
    refine ⟨fun c => ?_, fun c => ?_⟩
    · replace hw := ok_f hw c
      refine ⟨(ok_wr hw).1, ?_⟩
      replace hw := (ok_wr hw).2
      exact (ok_some hw :)
    · replace hw := ok_t hw c
      exact (ok_some hw :)

def c_X11_far : mj_S := fun as h k => ∃ (v1 : Int32) (v2 : Int32) (s : St), as = [.ref 0, .int v1, .int v2] ∧ h = mkCs s ∧ ok (F_X11_far v1 v2 s) (fun p => k (some (.int p.1)) (mkCs p.2))
theorem c_X11_far_in {v1 : Int32} {v2 : Int32} {s : St} {k : Option Value → mj_H → Prop} (hw : ok (F_X11_far v1 v2 s) (fun p => k (some (.int p.1)) (mkCs p.2))) : c_X11_far [.ref 0, .int v1, .int v2] (mkCs s) k := ⟨v1, v2, s, rfl, rfl, hw⟩
theorem m_X11_far (l : Launch) : mj_Met l yX11_far cX11_far 3 ((some FieldType.boolean)) 2 0 0 c_X11_far := by
  refine mj_body2 false (TbX11 3 ((some FieldType.boolean)) ct_X11_far) (by decide) rfl rfl (fun h => nomatch h) (tfX11 _ (List.forall_mem_cons.mpr ⟨cfX11_165 (m_X11_isSchool l) (by decide), fun _ h => nomatch h⟩)) ?_
  rintro as h k ⟨v1, v2, s, rfl, rfl, hw⟩
  exact ⟨rfl, fun G hG => g_X11_far hG hw⟩
def F_X5_isShut (v1 : Int32) (v2 : Int32) (s : St) : Option (Int32) :=
  if inb v2 0 600 = false then
    some 0
  else
    (rd s 510 601 v2).bind fun x1 =>
    if ((x1 >>> (v1 &&& 31)) &&& 1) = 1 then
      some 1
    else
      some 0
theorem J_X5_isShut : mj_t 8 21 = 29 ∧ mj_t 22 7 = 29 ∧ mj_t 26 4 = 30 ∧ (0 ≤ ((8 : Nat) : Int) + 21) = True ∧ (0 ≤ ((22 : Nat) : Int) + 7) = True ∧ (0 ≤ ((26 : Nat) : Int) + 4) = True := by and_intros <;> first | rfl | exact eq_true (by decide)
def ct_X5_isShut : List (Nat × mj_Cs) := [(54, 3, 3, 11, 0, 0, c_in)]
theorem L_X5_isShut : mj_lk ct_X5_isShut 54 = some (3, 3, 11, 0, 0, c_in) := rfl
set_option maxHeartbeats 4000000 in
set_option maxRecDepth 20000 in
theorem g_X5_isShut {k : Option Value → mj_H → Prop} {G : mj_K} (hG : mj_cl2 cX5_isShut (TbX5 3 ((some FieldType.boolean)) ct_X5_isShut) k G) {v1 : Int32} {v2 : Int32} {s : St} (hw : ok (F_X5_isShut v1 v2 s) (fun p => k (some (.int p)) (mkCs s))) : G 0 [.ref 35, .int v1, .int v2] [] (mkCs s) 0 0 := by
  unfold F_X5_isShut at hw
  refine mj_run hG.1 (fun _ => false) 4000 ?_
  simp only [mj_step, mj_W_s, mj_fin, List.getElem?_cons_zero, List.getElem?_cons_succ, mj_go, Nat.reduceAdd, Nat.reduceSub, Nat.reduceLT, Nat.reduceLeDiff, Nat.zero_add, Nat.reduceEqDiff, Nat.reduceBEq, ↓reduceIte, Bool.false_eq_true, List.append_nil, List.nil_append, List.cons_append, Option.toList, and_true, true_and, true_or, or_true, reduceCtorEq, List.map_nil, bI_eq0, bI_eq1, bool_ft, pk_us, vnar0, vnar1, Bool.or_false, Bool.or_true, Bool.false_or, Bool.true_or, mj_kne, eq_self, Int32.reduceLT, Int32.reduceLE, Int32.reduceAdd, Int32.reduceSub, Int32.reduceMul, not_true_eq_false, not_false_eq_true, false_implies, true_implies, D_X5_isShut, mj_F_aload_n_k, mj_F_getfield_i, mj_F_goto_off, mj_F_iaload, mj_F_iand, mj_F_iconst_n, mj_F_ifCond_eq_off, mj_F_if_icmp_ne_off, mj_F_iload_n_k, mj_F_invokestatic_i, mj_F_ireturn, mj_F_ishr, mj_F_sipush_n, mj_kc, FT_X5, L_X5_isShut, List.take_succ_cons, List.take_zero, List.drop_succ_cons, List.drop_zero, List.reverse_cons, List.reverse_nil, List.length_cons, List.length_nil, gS_C35, gCf5_10, gS_C44, sS_Ca_44, c_in_eq, J_X5_isShut]
  refine ⟨fun c => ?_, fun c => ?_⟩
  · replace hw := ok_t hw c
    exact (ok_some hw :)
  · replace hw := ok_f hw c
    refine ⟨(ok_rd hw).1, ?_⟩
    replace hw := (ok_rd hw).2
    refine ⟨fun c => ?_, fun c => ?_⟩
    · replace hw := ok_f hw c
      exact (ok_some hw :)
    · replace hw := ok_t hw c
      exact (ok_some hw :)

def c_X5_isShut : mj_S := fun as h k => ∃ (v1 : Int32) (v2 : Int32) (s : St), as = [.ref 35, .int v1, .int v2] ∧ h = mkCs s ∧ ok (F_X5_isShut v1 v2 s) (fun p => k (some (.int p)) (mkCs s))
theorem c_X5_isShut_in {v1 : Int32} {v2 : Int32} {s : St} {k : Option Value → mj_H → Prop} (hw : ok (F_X5_isShut v1 v2 s) (fun p => k (some (.int p)) (mkCs s))) : c_X5_isShut [.ref 35, .int v1, .int v2] (mkCs s) k := ⟨v1, v2, s, rfl, rfl, hw⟩
theorem m_X5_isShut (l : Launch) : mj_Met l yX5_isShut cX5_isShut 3 ((some FieldType.boolean)) 1 0 0 c_X5_isShut := by
  refine mj_body2 false (TbX5 3 ((some FieldType.boolean)) ct_X5_isShut) (by decide) rfl rfl (fun h => nomatch h) (tfX5 _ (List.forall_mem_cons.mpr ⟨cfX5_54 (m_X11_within l) (by decide), fun _ h => nomatch h⟩)) ?_
  rintro as h k ⟨v1, v2, s, rfl, rfl, hw⟩
  exact ⟨rfl, fun G hG => g_X5_isShut hG hw⟩
def B_X5_close_3 (v1 : Int32) (v3 : Int32) : Int32 × St → Option ((Int32 × St) ⊕ ((St)))
  | (v4, s) =>
  if 601 ≤ v4 then
    some (.inr s)
  else
    if v3 = 0 then
      (rd s 510 601 v4).bind fun x1 =>
      (wr s 510 601 v4 (x1 &&& ((1 <<< (v1 &&& 31)) ^^^ (-1)))).bind fun s2 =>
      some (.inl ((v4 + 1), s2))
    else
      (rd s 510 601 v4).bind fun x3 =>
      (wr s 510 601 v4 (x3 ||| (1 <<< (v1 &&& 31)))).bind fun s4 =>
      some (.inl ((v4 + 1), s4))
def F_X5_close_57 (s : St) : Option (St) :=
  some s
def F_X5_close_3 (v1 : Int32) (v3 : Int32) (v4 : Int32) (s : St) : Option (St) :=
  (lp (B_X5_close_3 v1 v3) FU (v4, s)).bind (fun y => F_X5_close_57 y)
def F_X5_close (v1 : Int32) (v2 : Int32) (v3 : Int32) (s : St) : Option (St) :=
  F_X5_close_3 v1 v3 v2 s
theorem J_X5_close : mj_t 10 47 = 57 ∧ mj_t 20 17 = 37 ∧ mj_t 34 16 = 50 ∧ mj_t 54 (-51) = 3 ∧ (0 ≤ ((10 : Nat) : Int) + 47) = True ∧ (0 ≤ ((20 : Nat) : Int) + 17) = True ∧ (0 ≤ ((34 : Nat) : Int) + 16) = True ∧ (0 ≤ ((54 : Nat) : Int) + (-51)) = True := by and_intros <;> first | rfl | exact eq_true (by decide)
set_option maxHeartbeats 4000000 in
set_option maxRecDepth 20000 in
theorem b_X5_close_3 {k : Option Value → mj_H → Prop} {G : mj_K} (hG : mj_cl2 cX5_close (TbX5 5 (none) []) k G) {v1 : Int32} {v3 : Int32} {P : Int32 × St → Prop} {K : (St) → Prop} (hP : ∀ x, P x → G 3 [.ref 35, .int v1, mj_unk, .int v3, .int x.1] [] (mkCs x.2) 0 0) (hK0 : ∀ y, K y → G 57 [] [] (mkCs y) 0 0) {v4 : Int32} {s : St} (hw : ok (B_X5_close_3 v1 v3 (v4, s)) (Sum.elim P K)) : G 3 [.ref 35, .int v1, mj_unk, .int v3, .int v4] [] (mkCs s) 0 0 := by
  unfold B_X5_close_3 at hw
  refine mj_run hG.1 (fun pc => pc == 3 || pc == 57) 4000 ?_
  simp only [mj_step, mj_W_s, mj_fin, List.getElem?_cons_zero, List.getElem?_cons_succ, mj_go, Nat.reduceAdd, Nat.reduceSub, Nat.reduceLT, Nat.reduceLeDiff, Nat.zero_add, Nat.reduceEqDiff, Nat.reduceBEq, ↓reduceIte, Bool.false_eq_true, List.append_nil, List.nil_append, List.cons_append, Option.toList, and_true, true_and, true_or, or_true, reduceCtorEq, List.map_nil, bI_eq0, bI_eq1, bool_ft, pk_us, vnar0, vnar1, Bool.or_false, Bool.or_true, Bool.false_or, Bool.true_or, mj_kne, eq_self, Int32.reduceLT, Int32.reduceLE, Int32.reduceAdd, Int32.reduceSub, Int32.reduceMul, not_true_eq_false, not_false_eq_true, false_implies, true_implies, D_X5_close, mj_F_aload_n_k, mj_F_arraylength, mj_F_getfield_i, mj_F_goto_off, mj_F_iaload, mj_F_iand, mj_F_iastore, mj_F_iconst_n, mj_F_ifCond_eq_off, mj_F_if_icmp_ge_off, mj_F_iinc_k_n, mj_F_iload_k, mj_F_iload_n_k, mj_F_ior, mj_F_ishl, mj_F_istore_k, mj_F_ixor, mj_F_return_, mj_set, mj_set0, mj_unk, mj_c2, mj_kc, FT_X5, gS_C35, gCf5_10, gS_C44, sS_Ca_44, mj_nk, mj_isA, J_X5_close]
  refine ⟨fun c => ?_, fun c => ?_⟩
  · replace hw := ok_t hw c
    exact hG.2 _ _ _ _ _ _ _ _ _ (by exact trivial) (Nat.zero_le _) (Nat.zero_le _) (hK0 _ (ok_some hw :) :)
  · replace hw := ok_f hw c
    refine ⟨fun c => ?_, fun c => ?_⟩
    · replace hw := ok_t hw c
      refine ⟨(ok_rd hw).1, ?_⟩
      replace hw := (ok_rd hw).2
      refine ⟨(ok_wr hw).1, ?_⟩
      replace hw := (ok_wr hw).2
      exact hG.2 _ _ _ _ _ _ _ _ _ (by refine ⟨Or.inr rfl, ?_⟩; refine ⟨Or.inr rfl, ?_⟩; refine ⟨Or.inl rfl, ?_⟩; refine ⟨Or.inr rfl, ?_⟩; refine ⟨Or.inr rfl, ?_⟩; exact trivial) (Nat.zero_le _) (Nat.zero_le _) (hP _ (ok_some hw :) :)
    · replace hw := ok_f hw c
      refine ⟨(ok_rd hw).1, ?_⟩
      replace hw := (ok_rd hw).2
      refine ⟨(ok_wr hw).1, ?_⟩
      replace hw := (ok_wr hw).2
      exact hG.2 _ _ _ _ _ _ _ _ _ (by refine ⟨Or.inr rfl, ?_⟩; refine ⟨Or.inr rfl, ?_⟩; refine ⟨Or.inl rfl, ?_⟩; refine ⟨Or.inr rfl, ?_⟩; refine ⟨Or.inr rfl, ?_⟩; exact trivial) (Nat.zero_le _) (Nat.zero_le _) (hP _ (ok_some hw :) :)

set_option maxHeartbeats 4000000 in
set_option maxRecDepth 20000 in
theorem g_X5_close_57 {k : Option Value → mj_H → Prop} {G : mj_K} (hG : mj_cl2 cX5_close (TbX5 5 (none) []) k G)   {s : St} (hw : ok (F_X5_close_57 s) (fun p => k none (mkCs p))) : G 57 [] [] (mkCs s) 0 0 := by
  unfold F_X5_close_57 at hw
  refine mj_run hG.1 (fun pc => pc == 3 || pc == 57) 4000 ?_
  simp only [mj_step, mj_W_s, mj_fin, List.getElem?_cons_zero, List.getElem?_cons_succ, mj_go, Nat.reduceAdd, Nat.reduceSub, Nat.reduceLT, Nat.reduceLeDiff, Nat.zero_add, Nat.reduceEqDiff, Nat.reduceBEq, ↓reduceIte, Bool.false_eq_true, List.append_nil, List.nil_append, List.cons_append, Option.toList, and_true, true_and, true_or, or_true, reduceCtorEq, List.map_nil, bI_eq0, bI_eq1, bool_ft, pk_us, vnar0, vnar1, Bool.or_false, Bool.or_true, Bool.false_or, Bool.true_or, mj_kne, eq_self, Int32.reduceLT, Int32.reduceLE, Int32.reduceAdd, Int32.reduceSub, Int32.reduceMul, not_true_eq_false, not_false_eq_true, false_implies, true_implies, D_X5_close, mj_F_aload_n_k, mj_F_arraylength, mj_F_getfield_i, mj_F_goto_off, mj_F_iaload, mj_F_iand, mj_F_iastore, mj_F_iconst_n, mj_F_ifCond_eq_off, mj_F_if_icmp_ge_off, mj_F_iinc_k_n, mj_F_iload_k, mj_F_iload_n_k, mj_F_ior, mj_F_ishl, mj_F_istore_k, mj_F_ixor, mj_F_return_, mj_set, mj_set0, mj_unk, mj_c2, mj_kc, FT_X5, gS_C35, gCf5_10, gS_C44, sS_Ca_44, mj_nk, mj_isA, J_X5_close]
  exact (ok_some hw :)

set_option maxHeartbeats 4000000 in
theorem g_X5_close_3 {k : Option Value → mj_H → Prop} {G : mj_K} (hG : mj_cl2 cX5_close (TbX5 5 (none) []) k G)   {v1 : Int32} {v3 : Int32} {v4 : Int32} {s : St} (hw : ok (F_X5_close_3 v1 v3 v4 s) (fun p => k none (mkCs p))) : G 3 [.ref 35, .int v1, mj_unk, .int v3, .int v4] [] (mkCs s) 0 0 := by
  unfold F_X5_close_3 at hw
  refine lp_ok (B_X5_close_3 v1 v3) (fun x => G 3 [.ref 35, .int v1, mj_unk, .int v3, .int x.1] [] (mkCs x.2) 0 0) _ ?_ _ _ (ok_bind hw)
  rintro ⟨v4, s⟩ hb
  exact b_X5_close_3 hG (fun _ z => z) (fun y hw => by exact hG.2 _ _ _ _ _ _ _ _ _ (by exact trivial) (Nat.zero_le _) (Nat.zero_le _) (g_X5_close_57 hG  hw :)) hb

set_option maxHeartbeats 4000000 in
set_option maxRecDepth 20000 in
theorem g_X5_close {k : Option Value → mj_H → Prop} {G : mj_K} (hG : mj_cl2 cX5_close (TbX5 5 (none) []) k G) {v1 : Int32} {v2 : Int32} {v3 : Int32} {s : St} (hw : ok (F_X5_close v1 v2 v3 s) (fun p => k none (mkCs p))) : G 0 [.ref 35, .int v1, .int v2, .int v3] [] (mkCs s) 0 0 := by
  unfold F_X5_close at hw
  refine mj_run hG.1 (fun pc => pc == 3 || pc == 57) 4000 ?_
  simp only [mj_step, mj_W_s, mj_fin, List.getElem?_cons_zero, List.getElem?_cons_succ, mj_go, Nat.reduceAdd, Nat.reduceSub, Nat.reduceLT, Nat.reduceLeDiff, Nat.zero_add, Nat.reduceEqDiff, Nat.reduceBEq, ↓reduceIte, Bool.false_eq_true, List.append_nil, List.nil_append, List.cons_append, Option.toList, and_true, true_and, true_or, or_true, reduceCtorEq, List.map_nil, bI_eq0, bI_eq1, bool_ft, pk_us, vnar0, vnar1, Bool.or_false, Bool.or_true, Bool.false_or, Bool.true_or, mj_kne, eq_self, Int32.reduceLT, Int32.reduceLE, Int32.reduceAdd, Int32.reduceSub, Int32.reduceMul, not_true_eq_false, not_false_eq_true, false_implies, true_implies, D_X5_close, mj_F_aload_n_k, mj_F_arraylength, mj_F_getfield_i, mj_F_goto_off, mj_F_iaload, mj_F_iand, mj_F_iastore, mj_F_iconst_n, mj_F_ifCond_eq_off, mj_F_if_icmp_ge_off, mj_F_iinc_k_n, mj_F_iload_k, mj_F_iload_n_k, mj_F_ior, mj_F_ishl, mj_F_istore_k, mj_F_ixor, mj_F_return_, mj_set, mj_set0, mj_unk, mj_c2, mj_kc, FT_X5, gS_C35, gCf5_10, gS_C44, sS_Ca_44, mj_nk, mj_isA, J_X5_close]
  exact hG.2 _ _ _ _ _ _ _ _ _ (by refine ⟨Or.inr rfl, ?_⟩; refine ⟨Or.inr rfl, ?_⟩; refine ⟨Or.inl rfl, ?_⟩; refine ⟨Or.inr rfl, ?_⟩; refine ⟨Or.inr rfl, ?_⟩; exact trivial) (Nat.zero_le _) (Nat.zero_le _) (g_X5_close_3 hG  hw :)

def c_X5_close : mj_S := fun as h k => ∃ (v1 : Int32) (v2 : Int32) (v3 : Int32) (s : St), as = [.ref 35, .int v1, .int v2, .int v3] ∧ h = mkCs s ∧ ok (F_X5_close v1 v2 v3 s) (fun p => k none (mkCs p))
theorem c_X5_close_in {v1 : Int32} {v2 : Int32} {v3 : Int32} {s : St} {k : Option Value → mj_H → Prop} (hw : ok (F_X5_close v1 v2 v3 s) (fun p => k none (mkCs p))) : c_X5_close [.ref 35, .int v1, .int v2, .int v3] (mkCs s) k := ⟨v1, v2, v3, s, rfl, rfl, hw⟩
theorem m_X5_close (l : Launch) : mj_Met l yX5_close cX5_close 5 (none) 0 0 0 c_X5_close := by
  refine mj_body2 false (TbX5 5 (none) []) (by decide) rfl rfl (fun h => nomatch h) (tfX5 _ (fun _ h => nomatch h)) ?_
  rintro as h k ⟨v1, v2, v3, s, rfl, rfl, hw⟩
  exact ⟨rfl, fun G hG => g_X5_close hG hw⟩
def F_X11_shut (v1 : Int32) (v2 : Int32) (s : St) : Option (Int32 × St) :=
  (F_X11_isSchool v1 s).bind fun r1 =>
  if r1 = 0 then
    some (0, s)
  else
    (F_X5_isShut v1 (s.1 1100) s).bind fun r2 =>
    if r2 = v2 then
      some (0, s)
    else
      (F_X5_close v1 (s.1 1100) v2 s).bind fun s3 =>
      some (1, s3)
theorem J_X11_shut : mj_t 5 19 = 24 ∧ mj_t 21 5 = 26 ∧ (0 ≤ ((5 : Nat) : Int) + 19) = True ∧ (0 ≤ ((21 : Nat) : Int) + 5) = True := by and_intros <;> first | rfl | exact eq_true (by decide)
def ct_X11_shut : List (Nat × mj_Cs) := [(165, 0, 2, 11, 0, 0, c_X11_isSchool), (172, 0, 3, 5, 0, 0, c_X5_isShut), (176, 0, 4, 5, 0, 0, c_X5_close)]
theorem L_X11_shut : mj_lk ct_X11_shut 165 = some (0, 2, 11, 0, 0, c_X11_isSchool) ∧ mj_lk ct_X11_shut 172 = some (0, 3, 5, 0, 0, c_X5_isShut) ∧ mj_lk ct_X11_shut 176 = some (0, 4, 5, 0, 0, c_X5_close) := ⟨rfl, rfl, rfl⟩
set_option maxHeartbeats 4000000 in
set_option maxRecDepth 20000 in
theorem g_X11_shut {k : Option Value → mj_H → Prop} {G : mj_K} (hG : mj_cl2 cX11_shut (TbX11 3 ((some FieldType.boolean)) ct_X11_shut) k G) {v1 : Int32} {v2 : Int32} {s : St} (hw : ok (F_X11_shut v1 v2 s) (fun p => k (some (.int p.1)) (mkCs p.2))) : G 0 [.ref 0, .int v1, .int v2] [] (mkCs s) 0 0 := by
  unfold F_X11_shut at hw
  refine mj_run hG.1 (fun pc => pc == 5 || pc == 20 || pc == 39) 4000 ?_
  simp only [mj_step, mj_W_s, mj_fin, List.getElem?_cons_zero, List.getElem?_cons_succ, mj_go, Nat.reduceAdd, Nat.reduceSub, Nat.reduceLT, Nat.reduceLeDiff, Nat.zero_add, Nat.reduceEqDiff, Nat.reduceBEq, ↓reduceIte, Bool.false_eq_true, List.append_nil, List.nil_append, List.cons_append, Option.toList, and_true, true_and, true_or, or_true, reduceCtorEq, List.map_nil, bI_eq0, bI_eq1, bool_ft, pk_us, vnar0, vnar1, Bool.or_false, Bool.or_true, Bool.false_or, Bool.true_or, mj_kne, eq_self, Int32.reduceLT, Int32.reduceLE, Int32.reduceAdd, Int32.reduceSub, Int32.reduceMul, not_true_eq_false, not_false_eq_true, false_implies, true_implies, D_X11_shut, mj_F_aload_n_k, mj_F_getfield_i, mj_F_iconst_n, mj_F_ifCond_eq_off, mj_F_if_icmp_ne_off, mj_F_iload_n_k, mj_F_invokevirtual_i, mj_F_ireturn, mj_kc, FT_X11, L_X11_shut, List.take_succ_cons, List.take_zero, List.drop_succ_cons, List.drop_zero, List.reverse_cons, List.reverse_nil, List.length_cons, List.length_nil, gS_C0, gCf11_5, gCf11_0, gS_C35, J_X11_shut]
  refine c_X11_isSchool_in (ok_imp (ok_bind hw) ?_)
  intro p hw
  simp only [Option.toList, List.nil_append, List.cons_append, Nat.reduceSub]
  refine mj_run hG.1 (fun pc => pc == 5 || pc == 20 || pc == 39) 4000 ?_
  simp only [mj_step, mj_W_s, mj_fin, List.getElem?_cons_zero, List.getElem?_cons_succ, mj_go, Nat.reduceAdd, Nat.reduceSub, Nat.reduceLT, Nat.reduceLeDiff, Nat.zero_add, Nat.reduceEqDiff, Nat.reduceBEq, ↓reduceIte, Bool.false_eq_true, List.append_nil, List.nil_append, List.cons_append, Option.toList, and_true, true_and, true_or, or_true, reduceCtorEq, List.map_nil, bI_eq0, bI_eq1, bool_ft, pk_us, vnar0, vnar1, Bool.or_false, Bool.or_true, Bool.false_or, Bool.true_or, mj_kne, eq_self, Int32.reduceLT, Int32.reduceLE, Int32.reduceAdd, Int32.reduceSub, Int32.reduceMul, not_true_eq_false, not_false_eq_true, false_implies, true_implies, D_X11_shut, mj_F_aload_n_k, mj_F_getfield_i, mj_F_iconst_n, mj_F_ifCond_eq_off, mj_F_if_icmp_ne_off, mj_F_iload_n_k, mj_F_invokevirtual_i, mj_F_ireturn, mj_kc, FT_X11, L_X11_shut, List.take_succ_cons, List.take_zero, List.drop_succ_cons, List.drop_zero, List.reverse_cons, List.reverse_nil, List.length_cons, List.length_nil, gS_C0, gCf11_5, gCf11_0, gS_C35, J_X11_shut]
  refine ⟨fun c => ?_, fun c => ?_⟩
  · replace hw := ok_t hw c
    exact (ok_some hw :)
  · replace hw := ok_f hw c
    refine c_X5_isShut_in (ok_imp (ok_bind hw) ?_)
    intro p hw
    simp only [Option.toList, List.nil_append, List.cons_append, Nat.reduceSub]
    refine mj_run hG.1 (fun pc => pc == 5 || pc == 20 || pc == 39) 4000 ?_
    simp only [mj_step, mj_W_s, mj_fin, List.getElem?_cons_zero, List.getElem?_cons_succ, mj_go, Nat.reduceAdd, Nat.reduceSub, Nat.reduceLT, Nat.reduceLeDiff, Nat.zero_add, Nat.reduceEqDiff, Nat.reduceBEq, ↓reduceIte, Bool.false_eq_true, List.append_nil, List.nil_append, List.cons_append, Option.toList, and_true, true_and, true_or, or_true, reduceCtorEq, List.map_nil, bI_eq0, bI_eq1, bool_ft, pk_us, vnar0, vnar1, Bool.or_false, Bool.or_true, Bool.false_or, Bool.true_or, mj_kne, eq_self, Int32.reduceLT, Int32.reduceLE, Int32.reduceAdd, Int32.reduceSub, Int32.reduceMul, not_true_eq_false, not_false_eq_true, false_implies, true_implies, D_X11_shut, mj_F_aload_n_k, mj_F_getfield_i, mj_F_iconst_n, mj_F_ifCond_eq_off, mj_F_if_icmp_ne_off, mj_F_iload_n_k, mj_F_invokevirtual_i, mj_F_ireturn, mj_kc, FT_X11, L_X11_shut, List.take_succ_cons, List.take_zero, List.drop_succ_cons, List.drop_zero, List.reverse_cons, List.reverse_nil, List.length_cons, List.length_nil, gS_C0, gCf11_5, gCf11_0, gS_C35, J_X11_shut]
    refine ⟨fun c => ?_, fun c => ?_⟩
    · replace hw := ok_f hw c
      refine c_X5_close_in (ok_imp (ok_bind hw) ?_)
      intro p hw
      simp only [Option.toList, List.nil_append, List.cons_append, Nat.reduceSub]
      refine mj_run hG.1 (fun pc => pc == 5 || pc == 20 || pc == 39) 4000 ?_
      simp only [mj_step, mj_W_s, mj_fin, List.getElem?_cons_zero, List.getElem?_cons_succ, mj_go, Nat.reduceAdd, Nat.reduceSub, Nat.reduceLT, Nat.reduceLeDiff, Nat.zero_add, Nat.reduceEqDiff, Nat.reduceBEq, ↓reduceIte, Bool.false_eq_true, List.append_nil, List.nil_append, List.cons_append, Option.toList, and_true, true_and, true_or, or_true, reduceCtorEq, List.map_nil, bI_eq0, bI_eq1, bool_ft, pk_us, vnar0, vnar1, Bool.or_false, Bool.or_true, Bool.false_or, Bool.true_or, mj_kne, eq_self, Int32.reduceLT, Int32.reduceLE, Int32.reduceAdd, Int32.reduceSub, Int32.reduceMul, not_true_eq_false, not_false_eq_true, false_implies, true_implies, D_X11_shut, mj_F_aload_n_k, mj_F_getfield_i, mj_F_iconst_n, mj_F_ifCond_eq_off, mj_F_if_icmp_ne_off, mj_F_iload_n_k, mj_F_invokevirtual_i, mj_F_ireturn, mj_kc, FT_X11, L_X11_shut, List.take_succ_cons, List.take_zero, List.drop_succ_cons, List.drop_zero, List.reverse_cons, List.reverse_nil, List.length_cons, List.length_nil, gS_C0, gCf11_5, gCf11_0, gS_C35, J_X11_shut]
      exact (ok_some hw :)
    · replace hw := ok_t hw c
      exact (ok_some hw :)

def c_X11_shut : mj_S := fun as h k => ∃ (v1 : Int32) (v2 : Int32) (s : St), as = [.ref 0, .int v1, .int v2] ∧ h = mkCs s ∧ ok (F_X11_shut v1 v2 s) (fun p => k (some (.int p.1)) (mkCs p.2))
theorem c_X11_shut_in {v1 : Int32} {v2 : Int32} {s : St} {k : Option Value → mj_H → Prop} (hw : ok (F_X11_shut v1 v2 s) (fun p => k (some (.int p.1)) (mkCs p.2))) : c_X11_shut [.ref 0, .int v1, .int v2] (mkCs s) k := ⟨v1, v2, s, rfl, rfl, hw⟩
theorem m_X11_shut (l : Launch) : mj_Met l yX11_shut cX11_shut 3 ((some FieldType.boolean)) 2 0 0 c_X11_shut := by
  refine mj_body2 false (TbX11 3 ((some FieldType.boolean)) ct_X11_shut) (by decide) rfl rfl (fun h => nomatch h) (tfX11 _ (List.forall_mem_cons.mpr ⟨cfX11_165 (m_X11_isSchool l) (by decide), List.forall_mem_cons.mpr ⟨cfX11_172 (m_X5_isShut l) (by decide), List.forall_mem_cons.mpr ⟨cfX11_176 (m_X5_close l) (by decide), fun _ h => nomatch h⟩⟩⟩)) ?_
  rintro as h k ⟨v1, v2, s, rfl, rfl, hw⟩
  exact ⟨rfl, fun G hG => g_X11_shut hG hw⟩
def F_X11_schooled (v1 : Int32) (v2 : Int32) (s : St) : Option (Int32) :=
  (F_X11_isSchool v1 s).bind fun r1 =>
  if r1 = 0 then
    some (-1)
  else
    if v2 = 0 then
      (rd s 508 20 v1).bind fun x2 =>
      some x2
    else
    if v2 = 1 then
      (F_X5_isShut v1 (s.1 1100) s).bind fun r3 =>
      if r3 = 0 then
        some 0
      else
        some 1
    else
    if v2 = 2 then
      (rd s 504 20 v1).bind fun x4 =>
      some x4
    else
    if v2 = 3 then
      (rd s 505 20 v1).bind fun x5 =>
      some x5
    else
    if v2 = 4 then
      (rd s 506 20 v1).bind fun x6 =>
      some x6
    else
    if v2 = 5 then
      (rd s 502 20 v1).bind fun x7 =>
      some x7
    else
    if v2 = 6 then
      (rd s 503 20 v1).bind fun x8 =>
      some x8
    else
    if v2 = 7 then
      (rd s 402 20 v1).bind fun x9 =>
      if x9 = 0 then
        some 0
      else
        some 1
    else
    some (-1)
theorem J_X11_schooled : mj_t 5 5 = 10 ∧ mj_t 11 45 = 56 ∧ mj_t 11 55 = 66 ∧ mj_t 11 76 = 87 ∧ mj_t 11 86 = 97 ∧ mj_t 11 96 = 107 ∧ mj_t 11 106 = 117 ∧ mj_t 11 116 = 127 ∧ mj_t 11 126 = 137 ∧ mj_t 11 144 = 155 ∧ mj_t 78 7 = 85 ∧ mj_t 82 4 = 86 ∧ mj_t 146 7 = 153 ∧ mj_t 150 4 = 154 ∧ (0 ≤ ((5 : Nat) : Int) + 5) = True ∧ (0 ≤ ((11 : Nat) : Int) + 45) = True ∧ (0 ≤ ((11 : Nat) : Int) + 55) = True ∧ (0 ≤ ((11 : Nat) : Int) + 76) = True ∧ (0 ≤ ((11 : Nat) : Int) + 86) = True ∧ (0 ≤ ((11 : Nat) : Int) + 96) = True ∧ (0 ≤ ((11 : Nat) : Int) + 106) = True ∧ (0 ≤ ((11 : Nat) : Int) + 116) = True ∧ (0 ≤ ((11 : Nat) : Int) + 126) = True ∧ (0 ≤ ((11 : Nat) : Int) + 144) = True ∧ (0 ≤ ((78 : Nat) : Int) + 7) = True ∧ (0 ≤ ((82 : Nat) : Int) + 4) = True ∧ (0 ≤ ((146 : Nat) : Int) + 7) = True ∧ (0 ≤ ((150 : Nat) : Int) + 4) = True := by and_intros <;> first | rfl | exact eq_true (by decide)
def ct_X11_schooled : List (Nat × mj_Cs) := [(165, 0, 2, 11, 0, 0, c_X11_isSchool), (172, 0, 3, 5, 0, 0, c_X5_isShut)]
theorem L_X11_schooled : mj_lk ct_X11_schooled 165 = some (0, 2, 11, 0, 0, c_X11_isSchool) ∧ mj_lk ct_X11_schooled 172 = some (0, 3, 5, 0, 0, c_X5_isShut) := ⟨rfl, rfl⟩
set_option maxHeartbeats 4000000 in
set_option maxRecDepth 20000 in
theorem g_X11_schooled {k : Option Value → mj_H → Prop} {G : mj_K} (hG : mj_cl2 cX11_schooled (TbX11 3 ((some FieldType.int)) ct_X11_schooled) k G) {v1 : Int32} {v2 : Int32} {s : St} (hw : ok (F_X11_schooled v1 v2 s) (fun p => k (some (.int p)) (mkCs s))) : G 0 [.ref 0, .int v1, .int v2] [] (mkCs s) 0 0 := by
  unfold F_X11_schooled at hw
  refine mj_run hG.1 (fun pc => pc == 5 || pc == 78) 4000 ?_
  simp only [mj_step, mj_W_s, mj_fin, List.getElem?_cons_zero, List.getElem?_cons_succ, mj_go, Nat.reduceAdd, Nat.reduceSub, Nat.reduceLT, Nat.reduceLeDiff, Nat.zero_add, Nat.reduceEqDiff, Nat.reduceBEq, ↓reduceIte, Bool.false_eq_true, List.append_nil, List.nil_append, List.cons_append, Option.toList, and_true, true_and, true_or, or_true, reduceCtorEq, List.map_nil, bI_eq0, bI_eq1, bool_ft, pk_us, vnar0, vnar1, Bool.or_false, Bool.or_true, Bool.false_or, Bool.true_or, mj_kne, eq_self, Int32.reduceLT, Int32.reduceLE, Int32.reduceAdd, Int32.reduceSub, Int32.reduceMul, not_true_eq_false, not_false_eq_true, false_implies, true_implies, D_X11_schooled_0, D_X11_schooled_1, mj_F_aload_n_k, mj_F_baload, mj_F_getfield_i, mj_F_goto_off, mj_F_iaload, mj_F_iconst_n, mj_F_ifCond_eq_off, mj_F_ifCond_ne_off, mj_F_iload_n_k, mj_F_invokevirtual_i, mj_F_ireturn, mj_kc, FT_X11, L_X11_schooled, List.take_succ_cons, List.take_zero, List.drop_succ_cons, List.drop_zero, List.reverse_cons, List.reverse_nil, List.length_cons, List.length_nil, gS_C0, gCf11_5, gS_C35, gCf5_8, gS_C42, sS_Ca_42, gCf11_0, gCf5_4, gS_C38, sS_Ca_38, gCf5_5, gS_C39, sS_Ca_39, gCf5_6, gS_C40, sS_Ca_40, gCf5_2, gS_C36, sS_Ca_36, gCf5_3, gS_C37, sS_Ca_37, gCf11_9, gS_C73, gCf4_2, gS_C75, sS_Ca_75, J_X11_schooled]
  refine c_X11_isSchool_in (ok_imp (ok_bind hw) ?_)
  intro p hw
  simp only [Option.toList, List.nil_append, List.cons_append, Nat.reduceSub]
  refine mj_run hG.1 (fun pc => pc == 5 || pc == 78) 4000 ?_
  simp only [mj_step, mj_W_s, mj_fin, List.getElem?_cons_zero, List.getElem?_cons_succ, mj_go, Nat.reduceAdd, Nat.reduceSub, Nat.reduceLT, Nat.reduceLeDiff, Nat.zero_add, Nat.reduceEqDiff, Nat.reduceBEq, ↓reduceIte, Bool.false_eq_true, List.append_nil, List.nil_append, List.cons_append, Option.toList, and_true, true_and, true_or, or_true, reduceCtorEq, List.map_nil, bI_eq0, bI_eq1, bool_ft, pk_us, vnar0, vnar1, Bool.or_false, Bool.or_true, Bool.false_or, Bool.true_or, mj_kne, eq_self, Int32.reduceLT, Int32.reduceLE, Int32.reduceAdd, Int32.reduceSub, Int32.reduceMul, not_true_eq_false, not_false_eq_true, false_implies, true_implies, D_X11_schooled_0, D_X11_schooled_1, mj_F_aload_n_k, mj_F_baload, mj_F_getfield_i, mj_F_goto_off, mj_F_iaload, mj_F_iconst_n, mj_F_ifCond_eq_off, mj_F_ifCond_ne_off, mj_F_iload_n_k, mj_F_invokevirtual_i, mj_F_ireturn, mj_kc, FT_X11, L_X11_schooled, List.take_succ_cons, List.take_zero, List.drop_succ_cons, List.drop_zero, List.reverse_cons, List.reverse_nil, List.length_cons, List.length_nil, gS_C0, gCf11_5, gS_C35, gCf5_8, gS_C42, sS_Ca_42, gCf11_0, gCf5_4, gS_C38, sS_Ca_38, gCf5_5, gS_C39, sS_Ca_39, gCf5_6, gS_C40, sS_Ca_40, gCf5_2, gS_C36, sS_Ca_36, gCf5_3, gS_C37, sS_Ca_37, gCf11_9, gS_C73, gCf4_2, gS_C75, sS_Ca_75, J_X11_schooled]
  refine ⟨fun c => ?_, fun c => ?_⟩
  · replace hw := ok_f hw c
    by_cases c10 : v2 = 0
    · replace hw := ok_t hw c10
      have c := c10
      refine mj_tsc 0 45 (by rw [show v2 = 0 from c]; decide) (by decide) rfl (by decide) ?_
      simp only [mj_step, mj_W_s, mj_fin, List.getElem?_cons_zero, List.getElem?_cons_succ, mj_go, Nat.reduceAdd, Nat.reduceSub, Nat.reduceLT, Nat.reduceLeDiff, Nat.zero_add, Nat.reduceEqDiff, Nat.reduceBEq, ↓reduceIte, Bool.false_eq_true, List.append_nil, List.nil_append, List.cons_append, Option.toList, and_true, true_and, true_or, or_true, reduceCtorEq, List.map_nil, bI_eq0, bI_eq1, bool_ft, pk_us, vnar0, vnar1, Bool.or_false, Bool.or_true, Bool.false_or, Bool.true_or, mj_kne, eq_self, Int32.reduceLT, Int32.reduceLE, Int32.reduceAdd, Int32.reduceSub, Int32.reduceMul, not_true_eq_false, not_false_eq_true, false_implies, true_implies, D_X11_schooled_0, D_X11_schooled_1, mj_F_aload_n_k, mj_F_baload, mj_F_getfield_i, mj_F_goto_off, mj_F_iaload, mj_F_iconst_n, mj_F_ifCond_eq_off, mj_F_ifCond_ne_off, mj_F_iload_n_k, mj_F_invokevirtual_i, mj_F_ireturn, mj_kc, FT_X11, L_X11_schooled, List.take_succ_cons, List.take_zero, List.drop_succ_cons, List.drop_zero, List.reverse_cons, List.reverse_nil, List.length_cons, List.length_nil, gS_C0, gCf11_5, gS_C35, gCf5_8, gS_C42, sS_Ca_42, gCf11_0, gCf5_4, gS_C38, sS_Ca_38, gCf5_5, gS_C39, sS_Ca_39, gCf5_6, gS_C40, sS_Ca_40, gCf5_2, gS_C36, sS_Ca_36, gCf5_3, gS_C37, sS_Ca_37, gCf11_9, gS_C73, gCf4_2, gS_C75, sS_Ca_75, J_X11_schooled]
      refine ⟨(ok_rd hw).1, ?_⟩
      replace hw := (ok_rd hw).2
      exact (ok_some hw :)
    replace hw := ok_f hw c10
    by_cases c11 : v2 = 1
    · replace hw := ok_t hw c11
      have c := c11
      refine mj_tsc 1 55 (by rw [show v2 = 1 from c]; decide) (by decide) rfl (by decide) ?_
      simp only [mj_step, mj_W_s, mj_fin, List.getElem?_cons_zero, List.getElem?_cons_succ, mj_go, Nat.reduceAdd, Nat.reduceSub, Nat.reduceLT, Nat.reduceLeDiff, Nat.zero_add, Nat.reduceEqDiff, Nat.reduceBEq, ↓reduceIte, Bool.false_eq_true, List.append_nil, List.nil_append, List.cons_append, Option.toList, and_true, true_and, true_or, or_true, reduceCtorEq, List.map_nil, bI_eq0, bI_eq1, bool_ft, pk_us, vnar0, vnar1, Bool.or_false, Bool.or_true, Bool.false_or, Bool.true_or, mj_kne, eq_self, Int32.reduceLT, Int32.reduceLE, Int32.reduceAdd, Int32.reduceSub, Int32.reduceMul, not_true_eq_false, not_false_eq_true, false_implies, true_implies, D_X11_schooled_0, D_X11_schooled_1, mj_F_aload_n_k, mj_F_baload, mj_F_getfield_i, mj_F_goto_off, mj_F_iaload, mj_F_iconst_n, mj_F_ifCond_eq_off, mj_F_ifCond_ne_off, mj_F_iload_n_k, mj_F_invokevirtual_i, mj_F_ireturn, mj_kc, FT_X11, L_X11_schooled, List.take_succ_cons, List.take_zero, List.drop_succ_cons, List.drop_zero, List.reverse_cons, List.reverse_nil, List.length_cons, List.length_nil, gS_C0, gCf11_5, gS_C35, gCf5_8, gS_C42, sS_Ca_42, gCf11_0, gCf5_4, gS_C38, sS_Ca_38, gCf5_5, gS_C39, sS_Ca_39, gCf5_6, gS_C40, sS_Ca_40, gCf5_2, gS_C36, sS_Ca_36, gCf5_3, gS_C37, sS_Ca_37, gCf11_9, gS_C73, gCf4_2, gS_C75, sS_Ca_75, J_X11_schooled]
      refine c_X5_isShut_in (ok_imp (ok_bind hw) ?_)
      intro p hw
      simp only [Option.toList, List.nil_append, List.cons_append, Nat.reduceSub]
      refine mj_run hG.1 (fun pc => pc == 5 || pc == 78) 4000 ?_
      simp only [mj_step, mj_W_s, mj_fin, List.getElem?_cons_zero, List.getElem?_cons_succ, mj_go, Nat.reduceAdd, Nat.reduceSub, Nat.reduceLT, Nat.reduceLeDiff, Nat.zero_add, Nat.reduceEqDiff, Nat.reduceBEq, ↓reduceIte, Bool.false_eq_true, List.append_nil, List.nil_append, List.cons_append, Option.toList, and_true, true_and, true_or, or_true, reduceCtorEq, List.map_nil, bI_eq0, bI_eq1, bool_ft, pk_us, vnar0, vnar1, Bool.or_false, Bool.or_true, Bool.false_or, Bool.true_or, mj_kne, eq_self, Int32.reduceLT, Int32.reduceLE, Int32.reduceAdd, Int32.reduceSub, Int32.reduceMul, not_true_eq_false, not_false_eq_true, false_implies, true_implies, D_X11_schooled_0, D_X11_schooled_1, mj_F_aload_n_k, mj_F_baload, mj_F_getfield_i, mj_F_goto_off, mj_F_iaload, mj_F_iconst_n, mj_F_ifCond_eq_off, mj_F_ifCond_ne_off, mj_F_iload_n_k, mj_F_invokevirtual_i, mj_F_ireturn, mj_kc, FT_X11, L_X11_schooled, List.take_succ_cons, List.take_zero, List.drop_succ_cons, List.drop_zero, List.reverse_cons, List.reverse_nil, List.length_cons, List.length_nil, gS_C0, gCf11_5, gS_C35, gCf5_8, gS_C42, sS_Ca_42, gCf11_0, gCf5_4, gS_C38, sS_Ca_38, gCf5_5, gS_C39, sS_Ca_39, gCf5_6, gS_C40, sS_Ca_40, gCf5_2, gS_C36, sS_Ca_36, gCf5_3, gS_C37, sS_Ca_37, gCf11_9, gS_C73, gCf4_2, gS_C75, sS_Ca_75, J_X11_schooled]
      refine ⟨fun c => ?_, fun c => ?_⟩
      · replace hw := ok_t hw c
        exact (ok_some hw :)
      · replace hw := ok_f hw c
        exact (ok_some hw :)
    replace hw := ok_f hw c11
    by_cases c12 : v2 = 2
    · replace hw := ok_t hw c12
      have c := c12
      refine mj_tsc 2 76 (by rw [show v2 = 2 from c]; decide) (by decide) rfl (by decide) ?_
      simp only [mj_step, mj_W_s, mj_fin, List.getElem?_cons_zero, List.getElem?_cons_succ, mj_go, Nat.reduceAdd, Nat.reduceSub, Nat.reduceLT, Nat.reduceLeDiff, Nat.zero_add, Nat.reduceEqDiff, Nat.reduceBEq, ↓reduceIte, Bool.false_eq_true, List.append_nil, List.nil_append, List.cons_append, Option.toList, and_true, true_and, true_or, or_true, reduceCtorEq, List.map_nil, bI_eq0, bI_eq1, bool_ft, pk_us, vnar0, vnar1, Bool.or_false, Bool.or_true, Bool.false_or, Bool.true_or, mj_kne, eq_self, Int32.reduceLT, Int32.reduceLE, Int32.reduceAdd, Int32.reduceSub, Int32.reduceMul, not_true_eq_false, not_false_eq_true, false_implies, true_implies, D_X11_schooled_0, D_X11_schooled_1, mj_F_aload_n_k, mj_F_baload, mj_F_getfield_i, mj_F_goto_off, mj_F_iaload, mj_F_iconst_n, mj_F_ifCond_eq_off, mj_F_ifCond_ne_off, mj_F_iload_n_k, mj_F_invokevirtual_i, mj_F_ireturn, mj_kc, FT_X11, L_X11_schooled, List.take_succ_cons, List.take_zero, List.drop_succ_cons, List.drop_zero, List.reverse_cons, List.reverse_nil, List.length_cons, List.length_nil, gS_C0, gCf11_5, gS_C35, gCf5_8, gS_C42, sS_Ca_42, gCf11_0, gCf5_4, gS_C38, sS_Ca_38, gCf5_5, gS_C39, sS_Ca_39, gCf5_6, gS_C40, sS_Ca_40, gCf5_2, gS_C36, sS_Ca_36, gCf5_3, gS_C37, sS_Ca_37, gCf11_9, gS_C73, gCf4_2, gS_C75, sS_Ca_75, J_X11_schooled]
      refine ⟨(ok_rd hw).1, ?_⟩
      replace hw := (ok_rd hw).2
      exact (ok_some hw :)
    replace hw := ok_f hw c12
    by_cases c13 : v2 = 3
    · replace hw := ok_t hw c13
      have c := c13
      refine mj_tsc 3 86 (by rw [show v2 = 3 from c]; decide) (by decide) rfl (by decide) ?_
      simp only [mj_step, mj_W_s, mj_fin, List.getElem?_cons_zero, List.getElem?_cons_succ, mj_go, Nat.reduceAdd, Nat.reduceSub, Nat.reduceLT, Nat.reduceLeDiff, Nat.zero_add, Nat.reduceEqDiff, Nat.reduceBEq, ↓reduceIte, Bool.false_eq_true, List.append_nil, List.nil_append, List.cons_append, Option.toList, and_true, true_and, true_or, or_true, reduceCtorEq, List.map_nil, bI_eq0, bI_eq1, bool_ft, pk_us, vnar0, vnar1, Bool.or_false, Bool.or_true, Bool.false_or, Bool.true_or, mj_kne, eq_self, Int32.reduceLT, Int32.reduceLE, Int32.reduceAdd, Int32.reduceSub, Int32.reduceMul, not_true_eq_false, not_false_eq_true, false_implies, true_implies, D_X11_schooled_0, D_X11_schooled_1, mj_F_aload_n_k, mj_F_baload, mj_F_getfield_i, mj_F_goto_off, mj_F_iaload, mj_F_iconst_n, mj_F_ifCond_eq_off, mj_F_ifCond_ne_off, mj_F_iload_n_k, mj_F_invokevirtual_i, mj_F_ireturn, mj_kc, FT_X11, L_X11_schooled, List.take_succ_cons, List.take_zero, List.drop_succ_cons, List.drop_zero, List.reverse_cons, List.reverse_nil, List.length_cons, List.length_nil, gS_C0, gCf11_5, gS_C35, gCf5_8, gS_C42, sS_Ca_42, gCf11_0, gCf5_4, gS_C38, sS_Ca_38, gCf5_5, gS_C39, sS_Ca_39, gCf5_6, gS_C40, sS_Ca_40, gCf5_2, gS_C36, sS_Ca_36, gCf5_3, gS_C37, sS_Ca_37, gCf11_9, gS_C73, gCf4_2, gS_C75, sS_Ca_75, J_X11_schooled]
      refine ⟨(ok_rd hw).1, ?_⟩
      replace hw := (ok_rd hw).2
      exact (ok_some hw :)
    replace hw := ok_f hw c13
    by_cases c14 : v2 = 4
    · replace hw := ok_t hw c14
      have c := c14
      refine mj_tsc 4 96 (by rw [show v2 = 4 from c]; decide) (by decide) rfl (by decide) ?_
      simp only [mj_step, mj_W_s, mj_fin, List.getElem?_cons_zero, List.getElem?_cons_succ, mj_go, Nat.reduceAdd, Nat.reduceSub, Nat.reduceLT, Nat.reduceLeDiff, Nat.zero_add, Nat.reduceEqDiff, Nat.reduceBEq, ↓reduceIte, Bool.false_eq_true, List.append_nil, List.nil_append, List.cons_append, Option.toList, and_true, true_and, true_or, or_true, reduceCtorEq, List.map_nil, bI_eq0, bI_eq1, bool_ft, pk_us, vnar0, vnar1, Bool.or_false, Bool.or_true, Bool.false_or, Bool.true_or, mj_kne, eq_self, Int32.reduceLT, Int32.reduceLE, Int32.reduceAdd, Int32.reduceSub, Int32.reduceMul, not_true_eq_false, not_false_eq_true, false_implies, true_implies, D_X11_schooled_0, D_X11_schooled_1, mj_F_aload_n_k, mj_F_baload, mj_F_getfield_i, mj_F_goto_off, mj_F_iaload, mj_F_iconst_n, mj_F_ifCond_eq_off, mj_F_ifCond_ne_off, mj_F_iload_n_k, mj_F_invokevirtual_i, mj_F_ireturn, mj_kc, FT_X11, L_X11_schooled, List.take_succ_cons, List.take_zero, List.drop_succ_cons, List.drop_zero, List.reverse_cons, List.reverse_nil, List.length_cons, List.length_nil, gS_C0, gCf11_5, gS_C35, gCf5_8, gS_C42, sS_Ca_42, gCf11_0, gCf5_4, gS_C38, sS_Ca_38, gCf5_5, gS_C39, sS_Ca_39, gCf5_6, gS_C40, sS_Ca_40, gCf5_2, gS_C36, sS_Ca_36, gCf5_3, gS_C37, sS_Ca_37, gCf11_9, gS_C73, gCf4_2, gS_C75, sS_Ca_75, J_X11_schooled]
      refine ⟨(ok_rd hw).1, ?_⟩
      replace hw := (ok_rd hw).2
      exact (ok_some hw :)
    replace hw := ok_f hw c14
    by_cases c15 : v2 = 5
    · replace hw := ok_t hw c15
      have c := c15
      refine mj_tsc 5 106 (by rw [show v2 = 5 from c]; decide) (by decide) rfl (by decide) ?_
      simp only [mj_step, mj_W_s, mj_fin, List.getElem?_cons_zero, List.getElem?_cons_succ, mj_go, Nat.reduceAdd, Nat.reduceSub, Nat.reduceLT, Nat.reduceLeDiff, Nat.zero_add, Nat.reduceEqDiff, Nat.reduceBEq, ↓reduceIte, Bool.false_eq_true, List.append_nil, List.nil_append, List.cons_append, Option.toList, and_true, true_and, true_or, or_true, reduceCtorEq, List.map_nil, bI_eq0, bI_eq1, bool_ft, pk_us, vnar0, vnar1, Bool.or_false, Bool.or_true, Bool.false_or, Bool.true_or, mj_kne, eq_self, Int32.reduceLT, Int32.reduceLE, Int32.reduceAdd, Int32.reduceSub, Int32.reduceMul, not_true_eq_false, not_false_eq_true, false_implies, true_implies, D_X11_schooled_0, D_X11_schooled_1, mj_F_aload_n_k, mj_F_baload, mj_F_getfield_i, mj_F_goto_off, mj_F_iaload, mj_F_iconst_n, mj_F_ifCond_eq_off, mj_F_ifCond_ne_off, mj_F_iload_n_k, mj_F_invokevirtual_i, mj_F_ireturn, mj_kc, FT_X11, L_X11_schooled, List.take_succ_cons, List.take_zero, List.drop_succ_cons, List.drop_zero, List.reverse_cons, List.reverse_nil, List.length_cons, List.length_nil, gS_C0, gCf11_5, gS_C35, gCf5_8, gS_C42, sS_Ca_42, gCf11_0, gCf5_4, gS_C38, sS_Ca_38, gCf5_5, gS_C39, sS_Ca_39, gCf5_6, gS_C40, sS_Ca_40, gCf5_2, gS_C36, sS_Ca_36, gCf5_3, gS_C37, sS_Ca_37, gCf11_9, gS_C73, gCf4_2, gS_C75, sS_Ca_75, J_X11_schooled]
      refine ⟨(ok_rd hw).1, ?_⟩
      replace hw := (ok_rd hw).2
      exact (ok_some hw :)
    replace hw := ok_f hw c15
    by_cases c16 : v2 = 6
    · replace hw := ok_t hw c16
      have c := c16
      refine mj_tsc 6 116 (by rw [show v2 = 6 from c]; decide) (by decide) rfl (by decide) ?_
      simp only [mj_step, mj_W_s, mj_fin, List.getElem?_cons_zero, List.getElem?_cons_succ, mj_go, Nat.reduceAdd, Nat.reduceSub, Nat.reduceLT, Nat.reduceLeDiff, Nat.zero_add, Nat.reduceEqDiff, Nat.reduceBEq, ↓reduceIte, Bool.false_eq_true, List.append_nil, List.nil_append, List.cons_append, Option.toList, and_true, true_and, true_or, or_true, reduceCtorEq, List.map_nil, bI_eq0, bI_eq1, bool_ft, pk_us, vnar0, vnar1, Bool.or_false, Bool.or_true, Bool.false_or, Bool.true_or, mj_kne, eq_self, Int32.reduceLT, Int32.reduceLE, Int32.reduceAdd, Int32.reduceSub, Int32.reduceMul, not_true_eq_false, not_false_eq_true, false_implies, true_implies, D_X11_schooled_0, D_X11_schooled_1, mj_F_aload_n_k, mj_F_baload, mj_F_getfield_i, mj_F_goto_off, mj_F_iaload, mj_F_iconst_n, mj_F_ifCond_eq_off, mj_F_ifCond_ne_off, mj_F_iload_n_k, mj_F_invokevirtual_i, mj_F_ireturn, mj_kc, FT_X11, L_X11_schooled, List.take_succ_cons, List.take_zero, List.drop_succ_cons, List.drop_zero, List.reverse_cons, List.reverse_nil, List.length_cons, List.length_nil, gS_C0, gCf11_5, gS_C35, gCf5_8, gS_C42, sS_Ca_42, gCf11_0, gCf5_4, gS_C38, sS_Ca_38, gCf5_5, gS_C39, sS_Ca_39, gCf5_6, gS_C40, sS_Ca_40, gCf5_2, gS_C36, sS_Ca_36, gCf5_3, gS_C37, sS_Ca_37, gCf11_9, gS_C73, gCf4_2, gS_C75, sS_Ca_75, J_X11_schooled]
      refine ⟨(ok_rd hw).1, ?_⟩
      replace hw := (ok_rd hw).2
      exact (ok_some hw :)
    replace hw := ok_f hw c16
    by_cases c17 : v2 = 7
    · replace hw := ok_t hw c17
      have c := c17
      refine mj_tsc 7 126 (by rw [show v2 = 7 from c]; decide) (by decide) rfl (by decide) ?_
      simp only [mj_step, mj_W_s, mj_fin, List.getElem?_cons_zero, List.getElem?_cons_succ, mj_go, Nat.reduceAdd, Nat.reduceSub, Nat.reduceLT, Nat.reduceLeDiff, Nat.zero_add, Nat.reduceEqDiff, Nat.reduceBEq, ↓reduceIte, Bool.false_eq_true, List.append_nil, List.nil_append, List.cons_append, Option.toList, and_true, true_and, true_or, or_true, reduceCtorEq, List.map_nil, bI_eq0, bI_eq1, bool_ft, pk_us, vnar0, vnar1, Bool.or_false, Bool.or_true, Bool.false_or, Bool.true_or, mj_kne, eq_self, Int32.reduceLT, Int32.reduceLE, Int32.reduceAdd, Int32.reduceSub, Int32.reduceMul, not_true_eq_false, not_false_eq_true, false_implies, true_implies, D_X11_schooled_0, D_X11_schooled_1, mj_F_aload_n_k, mj_F_baload, mj_F_getfield_i, mj_F_goto_off, mj_F_iaload, mj_F_iconst_n, mj_F_ifCond_eq_off, mj_F_ifCond_ne_off, mj_F_iload_n_k, mj_F_invokevirtual_i, mj_F_ireturn, mj_kc, FT_X11, L_X11_schooled, List.take_succ_cons, List.take_zero, List.drop_succ_cons, List.drop_zero, List.reverse_cons, List.reverse_nil, List.length_cons, List.length_nil, gS_C0, gCf11_5, gS_C35, gCf5_8, gS_C42, sS_Ca_42, gCf11_0, gCf5_4, gS_C38, sS_Ca_38, gCf5_5, gS_C39, sS_Ca_39, gCf5_6, gS_C40, sS_Ca_40, gCf5_2, gS_C36, sS_Ca_36, gCf5_3, gS_C37, sS_Ca_37, gCf11_9, gS_C73, gCf4_2, gS_C75, sS_Ca_75, J_X11_schooled]
      refine ⟨(ok_rd hw).1, ?_⟩
      replace hw := (ok_rd hw).2
      refine ⟨fun c => ?_, fun c => ?_⟩
      · replace hw := ok_t hw c
        exact (ok_some hw :)
      · replace hw := ok_f hw c
        exact (ok_some hw :)
    replace hw := ok_f hw c17
    refine mj_tsd (mj_tsr [0, 1, 2, 3, 4, 5, 6, 7] (List.forall_mem_cons.mpr ⟨mj_nt c10 rfl, List.forall_mem_cons.mpr ⟨mj_nt c11 rfl, List.forall_mem_cons.mpr ⟨mj_nt c12 rfl, List.forall_mem_cons.mpr ⟨mj_nt c13 rfl, List.forall_mem_cons.mpr ⟨mj_nt c14 rfl, List.forall_mem_cons.mpr ⟨mj_nt c15 rfl, List.forall_mem_cons.mpr ⟨mj_nt c16 rfl, List.forall_mem_cons.mpr ⟨mj_nt c17 rfl, fun _ h => (nomatch h)⟩⟩⟩⟩⟩⟩⟩⟩) (by decide)) (by decide) ?_
    simp only [mj_step, mj_W_s, mj_fin, List.getElem?_cons_zero, List.getElem?_cons_succ, mj_go, Nat.reduceAdd, Nat.reduceSub, Nat.reduceLT, Nat.reduceLeDiff, Nat.zero_add, Nat.reduceEqDiff, Nat.reduceBEq, ↓reduceIte, Bool.false_eq_true, List.append_nil, List.nil_append, List.cons_append, Option.toList, and_true, true_and, true_or, or_true, reduceCtorEq, List.map_nil, bI_eq0, bI_eq1, bool_ft, pk_us, vnar0, vnar1, Bool.or_false, Bool.or_true, Bool.false_or, Bool.true_or, mj_kne, eq_self, Int32.reduceLT, Int32.reduceLE, Int32.reduceAdd, Int32.reduceSub, Int32.reduceMul, not_true_eq_false, not_false_eq_true, false_implies, true_implies, D_X11_schooled_0, D_X11_schooled_1, mj_F_aload_n_k, mj_F_baload, mj_F_getfield_i, mj_F_goto_off, mj_F_iaload, mj_F_iconst_n, mj_F_ifCond_eq_off, mj_F_ifCond_ne_off, mj_F_iload_n_k, mj_F_invokevirtual_i, mj_F_ireturn, mj_kc, FT_X11, L_X11_schooled, List.take_succ_cons, List.take_zero, List.drop_succ_cons, List.drop_zero, List.reverse_cons, List.reverse_nil, List.length_cons, List.length_nil, gS_C0, gCf11_5, gS_C35, gCf5_8, gS_C42, sS_Ca_42, gCf11_0, gCf5_4, gS_C38, sS_Ca_38, gCf5_5, gS_C39, sS_Ca_39, gCf5_6, gS_C40, sS_Ca_40, gCf5_2, gS_C36, sS_Ca_36, gCf5_3, gS_C37, sS_Ca_37, gCf11_9, gS_C73, gCf4_2, gS_C75, sS_Ca_75, J_X11_schooled]
    exact (ok_some hw :)
  · replace hw := ok_t hw c
    exact (ok_some hw :)

def c_X11_schooled : mj_S := fun as h k => ∃ (v1 : Int32) (v2 : Int32) (s : St), as = [.ref 0, .int v1, .int v2] ∧ h = mkCs s ∧ ok (F_X11_schooled v1 v2 s) (fun p => k (some (.int p)) (mkCs s))
theorem c_X11_schooled_in {v1 : Int32} {v2 : Int32} {s : St} {k : Option Value → mj_H → Prop} (hw : ok (F_X11_schooled v1 v2 s) (fun p => k (some (.int p)) (mkCs s))) : c_X11_schooled [.ref 0, .int v1, .int v2] (mkCs s) k := ⟨v1, v2, s, rfl, rfl, hw⟩
theorem m_X11_schooled (l : Launch) : mj_Met l yX11_schooled cX11_schooled 3 ((some FieldType.int)) 2 0 0 c_X11_schooled := by
  refine mj_body2 false (TbX11 3 ((some FieldType.int)) ct_X11_schooled) (by decide) rfl rfl (fun h => nomatch h) (tfX11 _ (List.forall_mem_cons.mpr ⟨cfX11_165 (m_X11_isSchool l) (by decide), List.forall_mem_cons.mpr ⟨cfX11_172 (m_X5_isShut l) (by decide), fun _ h => nomatch h⟩⟩)) ?_
  rintro as h k ⟨v1, v2, s, rfl, rfl, hw⟩
  exact ⟨rfl, fun G hG => g_X11_schooled hG hw⟩
def B_X9_bytesOf_5 (v0 : Int32) : Int32 × Int32 → Option ((Int32 × Int32) ⊕ ((Int32)))
  | (v1, v2) =>
  if v2 < 0 then
    some (.inr v1)
  else
    if ((v0 >>> (v2 &&& 31)) &&& 255) = 0 then
      some (.inl (v1, (v2 + (-8))))
    else
      some (.inl ((v1 + 1), (v2 + (-8))))
def F_X9_bytesOf_28 (v1 : Int32) : Option (Int32) :=
  some v1
def F_X9_bytesOf_5 (v0 : Int32) (v1 : Int32) (v2 : Int32) : Option (Int32) :=
  (lp (B_X9_bytesOf_5 v0) FU (v1, v2)).bind (fun y => F_X9_bytesOf_28 y)
def F_X9_bytesOf (v0 : Int32) : Option (Int32) :=
  F_X9_bytesOf_5 v0 0 24
theorem J_X9_bytesOf : mj_t 6 22 = 28 ∧ mj_t 16 6 = 22 ∧ mj_t 25 (-20) = 5 ∧ (0 ≤ ((6 : Nat) : Int) + 22) = True ∧ (0 ≤ ((16 : Nat) : Int) + 6) = True ∧ (0 ≤ ((25 : Nat) : Int) + (-20)) = True := by and_intros <;> first | rfl | exact eq_true (by decide)
set_option maxHeartbeats 4000000 in
set_option maxRecDepth 20000 in
theorem b_X9_bytesOf_5 {k : Option Value → mj_H → Prop} {G : mj_K} (hG : mj_cl2 cX9_bytesOf (TbX9 3 ((some FieldType.int)) []) k G) {h : mj_H} {v0 : Int32} {P : Int32 × Int32 → Prop} {K : (Int32) → Prop} (hP : ∀ x, P x → G 5 [.int v0, .int x.1, .int x.2] [] h 0 0) (hK0 : ∀ y, K y → G 28 [mj_unk, .int y] [] h 0 0) {v1 : Int32} {v2 : Int32} (hw : ok (B_X9_bytesOf_5 v0 (v1, v2)) (Sum.elim P K)) : G 5 [.int v0, .int v1, .int v2] [] h 0 0 := by
  unfold B_X9_bytesOf_5 at hw
  refine mj_run hG.1 (fun pc => pc == 5 || pc == 28) 4000 ?_
  simp only [mj_step, mj_W_s, mj_fin, List.getElem?_cons_zero, List.getElem?_cons_succ, mj_go, Nat.reduceAdd, Nat.reduceSub, Nat.reduceLT, Nat.reduceLeDiff, Nat.zero_add, Nat.reduceEqDiff, Nat.reduceBEq, ↓reduceIte, Bool.false_eq_true, List.append_nil, List.nil_append, List.cons_append, Option.toList, and_true, true_and, true_or, or_true, reduceCtorEq, List.map_nil, bI_eq0, bI_eq1, bool_ft, pk_us, vnar0, vnar1, Bool.or_false, Bool.or_true, Bool.false_or, Bool.true_or, mj_kne, eq_self, Int32.reduceLT, Int32.reduceLE, Int32.reduceAdd, Int32.reduceSub, Int32.reduceMul, not_true_eq_false, not_false_eq_true, false_implies, true_implies, D_X9_bytesOf, mj_F_bipush_n, mj_F_goto_off, mj_F_iand, mj_F_iconst_n, mj_F_ifCond_eq_off, mj_F_ifCond_lt_off, mj_F_iinc_k_n, mj_F_iload_n_k, mj_F_ireturn, mj_F_ishr, mj_F_istore_n_k, mj_F_sipush_n, mj_set, mj_set0, mj_unk, mj_c2, mj_kc, J_X9_bytesOf]
  refine ⟨fun c => ?_, fun c => ?_⟩
  · replace hw := ok_t hw c
    exact hG.2 _ _ _ _ _ _ _ _ _ (by refine ⟨Or.inl rfl, ?_⟩; refine ⟨Or.inr rfl, ?_⟩; exact trivial) (Nat.zero_le _) (Nat.zero_le _) (hK0 _ (ok_some hw :) :)
  · replace hw := ok_f hw c
    refine ⟨fun c => ?_, fun c => ?_⟩
    · replace hw := ok_t hw c
      exact hG.2 _ _ _ _ _ _ _ _ _ (by refine ⟨Or.inr rfl, ?_⟩; refine ⟨Or.inr rfl, ?_⟩; refine ⟨Or.inr rfl, ?_⟩; exact trivial) (Nat.zero_le _) (Nat.zero_le _) (hP _ (ok_some hw :) :)
    · replace hw := ok_f hw c
      exact hG.2 _ _ _ _ _ _ _ _ _ (by refine ⟨Or.inr rfl, ?_⟩; refine ⟨Or.inr rfl, ?_⟩; refine ⟨Or.inr rfl, ?_⟩; exact trivial) (Nat.zero_le _) (Nat.zero_le _) (hP _ (ok_some hw :) :)

set_option maxHeartbeats 4000000 in
set_option maxRecDepth 20000 in
theorem g_X9_bytesOf_28 {k : Option Value → mj_H → Prop} {G : mj_K} (hG : mj_cl2 cX9_bytesOf (TbX9 3 ((some FieldType.int)) []) k G) {h : mj_H}   {v1 : Int32} (hw : ok (F_X9_bytesOf_28 v1) (fun p => k (some (.int p)) h)) : G 28 [mj_unk, .int v1] [] h 0 0 := by
  unfold F_X9_bytesOf_28 at hw
  refine mj_run hG.1 (fun pc => pc == 5 || pc == 28) 4000 ?_
  simp only [mj_step, mj_W_s, mj_fin, List.getElem?_cons_zero, List.getElem?_cons_succ, mj_go, Nat.reduceAdd, Nat.reduceSub, Nat.reduceLT, Nat.reduceLeDiff, Nat.zero_add, Nat.reduceEqDiff, Nat.reduceBEq, ↓reduceIte, Bool.false_eq_true, List.append_nil, List.nil_append, List.cons_append, Option.toList, and_true, true_and, true_or, or_true, reduceCtorEq, List.map_nil, bI_eq0, bI_eq1, bool_ft, pk_us, vnar0, vnar1, Bool.or_false, Bool.or_true, Bool.false_or, Bool.true_or, mj_kne, eq_self, Int32.reduceLT, Int32.reduceLE, Int32.reduceAdd, Int32.reduceSub, Int32.reduceMul, not_true_eq_false, not_false_eq_true, false_implies, true_implies, D_X9_bytesOf, mj_F_bipush_n, mj_F_goto_off, mj_F_iand, mj_F_iconst_n, mj_F_ifCond_eq_off, mj_F_ifCond_lt_off, mj_F_iinc_k_n, mj_F_iload_n_k, mj_F_ireturn, mj_F_ishr, mj_F_istore_n_k, mj_F_sipush_n, mj_set, mj_set0, mj_unk, mj_c2, mj_kc, J_X9_bytesOf]
  exact (ok_some hw :)

set_option maxHeartbeats 4000000 in
theorem g_X9_bytesOf_5 {k : Option Value → mj_H → Prop} {G : mj_K} (hG : mj_cl2 cX9_bytesOf (TbX9 3 ((some FieldType.int)) []) k G) {h : mj_H}   {v0 : Int32} {v1 : Int32} {v2 : Int32} (hw : ok (F_X9_bytesOf_5 v0 v1 v2) (fun p => k (some (.int p)) h)) : G 5 [.int v0, .int v1, .int v2] [] h 0 0 := by
  unfold F_X9_bytesOf_5 at hw
  refine lp_ok (B_X9_bytesOf_5 v0) (fun x => G 5 [.int v0, .int x.1, .int x.2] [] h 0 0) _ ?_ _ _ (ok_bind hw)
  rintro ⟨v1, v2⟩ hb
  exact b_X9_bytesOf_5 hG (fun _ z => z) (fun y hw => by exact hG.2 _ _ _ _ _ _ _ _ _ (by refine ⟨Or.inl rfl, ?_⟩; refine ⟨Or.inr rfl, ?_⟩; exact trivial) (Nat.zero_le _) (Nat.zero_le _) (g_X9_bytesOf_28 hG  hw :)) hb

set_option maxHeartbeats 4000000 in
set_option maxRecDepth 20000 in
theorem g_X9_bytesOf {k : Option Value → mj_H → Prop} {G : mj_K} (hG : mj_cl2 cX9_bytesOf (TbX9 3 ((some FieldType.int)) []) k G) {h : mj_H} {v0 : Int32} (hw : ok (F_X9_bytesOf v0) (fun p => k (some (.int p)) h)) : G 0 [.int v0] [] h 0 0 := by
  unfold F_X9_bytesOf at hw
  refine mj_run hG.1 (fun pc => pc == 5 || pc == 28) 4000 ?_
  simp only [mj_step, mj_W_s, mj_fin, List.getElem?_cons_zero, List.getElem?_cons_succ, mj_go, Nat.reduceAdd, Nat.reduceSub, Nat.reduceLT, Nat.reduceLeDiff, Nat.zero_add, Nat.reduceEqDiff, Nat.reduceBEq, ↓reduceIte, Bool.false_eq_true, List.append_nil, List.nil_append, List.cons_append, Option.toList, and_true, true_and, true_or, or_true, reduceCtorEq, List.map_nil, bI_eq0, bI_eq1, bool_ft, pk_us, vnar0, vnar1, Bool.or_false, Bool.or_true, Bool.false_or, Bool.true_or, mj_kne, eq_self, Int32.reduceLT, Int32.reduceLE, Int32.reduceAdd, Int32.reduceSub, Int32.reduceMul, not_true_eq_false, not_false_eq_true, false_implies, true_implies, D_X9_bytesOf, mj_F_bipush_n, mj_F_goto_off, mj_F_iand, mj_F_iconst_n, mj_F_ifCond_eq_off, mj_F_ifCond_lt_off, mj_F_iinc_k_n, mj_F_iload_n_k, mj_F_ireturn, mj_F_ishr, mj_F_istore_n_k, mj_F_sipush_n, mj_set, mj_set0, mj_unk, mj_c2, mj_kc, J_X9_bytesOf]
  exact hG.2 _ _ _ _ _ _ _ _ _ (by refine ⟨Or.inr rfl, ?_⟩; refine ⟨Or.inr rfl, ?_⟩; refine ⟨Or.inr rfl, ?_⟩; exact trivial) (Nat.zero_le _) (Nat.zero_le _) (g_X9_bytesOf_5 hG  hw :)

def c_X9_bytesOf : mj_S := fun as h k => ∃ (v0 : Int32), as = [.int v0] ∧ ok (F_X9_bytesOf v0) (fun p => k (some (.int p)) h)
theorem c_X9_bytesOf_in {v0 : Int32} {h : mj_H} {k : Option Value → mj_H → Prop} (hw : ok (F_X9_bytesOf v0) (fun p => k (some (.int p)) h)) : c_X9_bytesOf [.int v0] h k := ⟨v0, rfl, hw⟩
theorem m_X9_bytesOf (l : Launch) : mj_Met l yX9_bytesOf cX9_bytesOf 3 ((some FieldType.int)) 0 0 0 c_X9_bytesOf := by
  refine mj_body2 false (TbX9 3 ((some FieldType.int)) []) (by decide) rfl rfl (fun h => nomatch h) (tfX9 _ (fun _ h => nomatch h)) ?_
  rintro as h k ⟨v0, rfl, hw⟩
  exact ⟨rfl, fun G hG => g_X9_bytesOf hG hw⟩
def B_X9_write_3 (v1 : Int32) : Int32 × St → Option ((Int32 × St) ⊕ ((St)))
  | (v2, s) =>
  if v2 < 0 then
    some (.inr s)
  else
    if ((v1 >>> (v2 &&& 31)) &&& 255) = 0 then
      some (.inl ((v2 + (-8)), s))
    else
      if 160 ≤ (s.1 901) then
        some (.inl ((v2 + (-8)), s))
      else
        (wr s 900 160 (s.1 901) ((v1 >>> (v2 &&& 31)) &&& 255)).bind fun s1 =>
        (wI s1 901 ((s1.1 901) + 1)).bind fun s2 =>
        some (.inl ((v2 + (-8)), s2))
def F_X9_write_55 (s : St) : Option (St) :=
  some s
def F_X9_write_3 (v1 : Int32) (v2 : Int32) (s : St) : Option (St) :=
  (lp (B_X9_write_3 v1) FU (v2, s)).bind (fun y => F_X9_write_55 y)
def F_X9_write (v1 : Int32) (s : St) : Option (St) :=
  F_X9_write_3 v1 24 s
theorem J_X9_write : mj_t 4 51 = 55 ∧ mj_t 16 33 = 49 ∧ mj_t 26 23 = 49 ∧ mj_t 52 (-49) = 3 ∧ (0 ≤ ((4 : Nat) : Int) + 51) = True ∧ (0 ≤ ((16 : Nat) : Int) + 33) = True ∧ (0 ≤ ((26 : Nat) : Int) + 23) = True ∧ (0 ≤ ((52 : Nat) : Int) + (-49)) = True := by and_intros <;> first | rfl | exact eq_true (by decide)
set_option maxHeartbeats 4000000 in
set_option maxRecDepth 20000 in
theorem b_X9_write_3 {k : Option Value → mj_H → Prop} {G : mj_K} (hG : mj_cl2 cX9_write (TbX9 4 (none) []) k G) {v1 : Int32} {P : Int32 × St → Prop} {K : (St) → Prop} (hP : ∀ x, P x → G 3 [.ref 7, .int v1, .int x.1] [] (mkCs x.2) 0 0) (hK0 : ∀ y, K y → G 55 [] [] (mkCs y) 0 0) {v2 : Int32} {s : St} (hw : ok (B_X9_write_3 v1 (v2, s)) (Sum.elim P K)) : G 3 [.ref 7, .int v1, .int v2] [] (mkCs s) 0 0 := by
  unfold B_X9_write_3 at hw
  refine mj_run hG.1 (fun pc => pc == 3 || pc == 55) 4000 ?_
  simp only [mj_step, mj_W_s, mj_fin, List.getElem?_cons_zero, List.getElem?_cons_succ, mj_go, Nat.reduceAdd, Nat.reduceSub, Nat.reduceLT, Nat.reduceLeDiff, Nat.zero_add, Nat.reduceEqDiff, Nat.reduceBEq, ↓reduceIte, Bool.false_eq_true, List.append_nil, List.nil_append, List.cons_append, Option.toList, and_true, true_and, true_or, or_true, reduceCtorEq, List.map_nil, bI_eq0, bI_eq1, bool_ft, pk_us, vnar0, vnar1, Bool.or_false, Bool.or_true, Bool.false_or, Bool.true_or, mj_kne, eq_self, Int32.reduceLT, Int32.reduceLE, Int32.reduceAdd, Int32.reduceSub, Int32.reduceMul, not_true_eq_false, not_false_eq_true, false_implies, true_implies, D_X9_write, mj_F_aload_n_k, mj_F_bipush_n, mj_F_dup, mj_F_getfield_i, mj_F_goto_off, mj_F_iadd, mj_F_iand, mj_F_iastore, mj_F_iconst_n, mj_F_ifCond_eq_off, mj_F_ifCond_lt_off, mj_F_if_icmp_ge_off, mj_F_iinc_k_n, mj_F_iload_n_k, mj_F_ishr, mj_F_istore_n_k, mj_F_putfield_i, mj_F_return_, mj_F_sipush_n, mj_set, mj_set0, mj_unk, mj_c2, mj_kc, FT_X9, PT_X9, gS_C7, gCf9_1, gCf9_0, gS_C8, sS_Ca_8, sS_Cf_9_1, gCf9len, J_X9_write]
  refine ⟨fun c => ?_, fun c => ?_⟩
  · replace hw := ok_t hw c
    exact hG.2 _ _ _ _ _ _ _ _ _ (by exact trivial) (Nat.zero_le _) (Nat.zero_le _) (hK0 _ (ok_some hw :) :)
  · replace hw := ok_f hw c
    refine ⟨fun c => ?_, fun c => ?_⟩
    · replace hw := ok_t hw c
      exact hG.2 _ _ _ _ _ _ _ _ _ (by refine ⟨Or.inr rfl, ?_⟩; refine ⟨Or.inr rfl, ?_⟩; refine ⟨Or.inr rfl, ?_⟩; exact trivial) (Nat.zero_le _) (Nat.zero_le _) (hP _ (ok_some hw :) :)
    · replace hw := ok_f hw c
      refine ⟨fun c => ?_, fun c => ?_⟩
      · replace hw := ok_t hw c
        exact hG.2 _ _ _ _ _ _ _ _ _ (by refine ⟨Or.inr rfl, ?_⟩; refine ⟨Or.inr rfl, ?_⟩; refine ⟨Or.inr rfl, ?_⟩; exact trivial) (Nat.zero_le _) (Nat.zero_le _) (hP _ (ok_some hw :) :)
      · replace hw := ok_f hw c
        refine ⟨(ok_wr hw).1, ?_⟩
        replace hw := (ok_wr hw).2
        replace hw := ok_wI hw
        exact hG.2 _ _ _ _ _ _ _ _ _ (by refine ⟨Or.inr rfl, ?_⟩; refine ⟨Or.inr rfl, ?_⟩; refine ⟨Or.inr rfl, ?_⟩; exact trivial) (Nat.zero_le _) (Nat.zero_le _) (hP _ (ok_some hw :) :)

set_option maxHeartbeats 4000000 in
set_option maxRecDepth 20000 in
theorem g_X9_write_55 {k : Option Value → mj_H → Prop} {G : mj_K} (hG : mj_cl2 cX9_write (TbX9 4 (none) []) k G)   {s : St} (hw : ok (F_X9_write_55 s) (fun p => k none (mkCs p))) : G 55 [] [] (mkCs s) 0 0 := by
  unfold F_X9_write_55 at hw
  refine mj_run hG.1 (fun pc => pc == 3 || pc == 55) 4000 ?_
  simp only [mj_step, mj_W_s, mj_fin, List.getElem?_cons_zero, List.getElem?_cons_succ, mj_go, Nat.reduceAdd, Nat.reduceSub, Nat.reduceLT, Nat.reduceLeDiff, Nat.zero_add, Nat.reduceEqDiff, Nat.reduceBEq, ↓reduceIte, Bool.false_eq_true, List.append_nil, List.nil_append, List.cons_append, Option.toList, and_true, true_and, true_or, or_true, reduceCtorEq, List.map_nil, bI_eq0, bI_eq1, bool_ft, pk_us, vnar0, vnar1, Bool.or_false, Bool.or_true, Bool.false_or, Bool.true_or, mj_kne, eq_self, Int32.reduceLT, Int32.reduceLE, Int32.reduceAdd, Int32.reduceSub, Int32.reduceMul, not_true_eq_false, not_false_eq_true, false_implies, true_implies, D_X9_write, mj_F_aload_n_k, mj_F_bipush_n, mj_F_dup, mj_F_getfield_i, mj_F_goto_off, mj_F_iadd, mj_F_iand, mj_F_iastore, mj_F_iconst_n, mj_F_ifCond_eq_off, mj_F_ifCond_lt_off, mj_F_if_icmp_ge_off, mj_F_iinc_k_n, mj_F_iload_n_k, mj_F_ishr, mj_F_istore_n_k, mj_F_putfield_i, mj_F_return_, mj_F_sipush_n, mj_set, mj_set0, mj_unk, mj_c2, mj_kc, FT_X9, PT_X9, gS_C7, gCf9_1, gCf9_0, gS_C8, sS_Ca_8, sS_Cf_9_1, gCf9len, J_X9_write]
  exact (ok_some hw :)

set_option maxHeartbeats 4000000 in
theorem g_X9_write_3 {k : Option Value → mj_H → Prop} {G : mj_K} (hG : mj_cl2 cX9_write (TbX9 4 (none) []) k G)   {v1 : Int32} {v2 : Int32} {s : St} (hw : ok (F_X9_write_3 v1 v2 s) (fun p => k none (mkCs p))) : G 3 [.ref 7, .int v1, .int v2] [] (mkCs s) 0 0 := by
  unfold F_X9_write_3 at hw
  refine lp_ok (B_X9_write_3 v1) (fun x => G 3 [.ref 7, .int v1, .int x.1] [] (mkCs x.2) 0 0) _ ?_ _ _ (ok_bind hw)
  rintro ⟨v2, s⟩ hb
  exact b_X9_write_3 hG (fun _ z => z) (fun y hw => by exact hG.2 _ _ _ _ _ _ _ _ _ (by exact trivial) (Nat.zero_le _) (Nat.zero_le _) (g_X9_write_55 hG  hw :)) hb

set_option maxHeartbeats 4000000 in
set_option maxRecDepth 20000 in
theorem g_X9_write {k : Option Value → mj_H → Prop} {G : mj_K} (hG : mj_cl2 cX9_write (TbX9 4 (none) []) k G) {v1 : Int32} {s : St} (hw : ok (F_X9_write v1 s) (fun p => k none (mkCs p))) : G 0 [.ref 7, .int v1] [] (mkCs s) 0 0 := by
  unfold F_X9_write at hw
  refine mj_run hG.1 (fun pc => pc == 3 || pc == 55) 4000 ?_
  simp only [mj_step, mj_W_s, mj_fin, List.getElem?_cons_zero, List.getElem?_cons_succ, mj_go, Nat.reduceAdd, Nat.reduceSub, Nat.reduceLT, Nat.reduceLeDiff, Nat.zero_add, Nat.reduceEqDiff, Nat.reduceBEq, ↓reduceIte, Bool.false_eq_true, List.append_nil, List.nil_append, List.cons_append, Option.toList, and_true, true_and, true_or, or_true, reduceCtorEq, List.map_nil, bI_eq0, bI_eq1, bool_ft, pk_us, vnar0, vnar1, Bool.or_false, Bool.or_true, Bool.false_or, Bool.true_or, mj_kne, eq_self, Int32.reduceLT, Int32.reduceLE, Int32.reduceAdd, Int32.reduceSub, Int32.reduceMul, not_true_eq_false, not_false_eq_true, false_implies, true_implies, D_X9_write, mj_F_aload_n_k, mj_F_bipush_n, mj_F_dup, mj_F_getfield_i, mj_F_goto_off, mj_F_iadd, mj_F_iand, mj_F_iastore, mj_F_iconst_n, mj_F_ifCond_eq_off, mj_F_ifCond_lt_off, mj_F_if_icmp_ge_off, mj_F_iinc_k_n, mj_F_iload_n_k, mj_F_ishr, mj_F_istore_n_k, mj_F_putfield_i, mj_F_return_, mj_F_sipush_n, mj_set, mj_set0, mj_unk, mj_c2, mj_kc, FT_X9, PT_X9, gS_C7, gCf9_1, gCf9_0, gS_C8, sS_Ca_8, sS_Cf_9_1, gCf9len, J_X9_write]
  exact hG.2 _ _ _ _ _ _ _ _ _ (by refine ⟨Or.inr rfl, ?_⟩; refine ⟨Or.inr rfl, ?_⟩; refine ⟨Or.inr rfl, ?_⟩; exact trivial) (Nat.zero_le _) (Nat.zero_le _) (g_X9_write_3 hG  hw :)

def c_X9_write : mj_S := fun as h k => ∃ (v1 : Int32) (s : St), as = [.ref 7, .int v1] ∧ h = mkCs s ∧ ok (F_X9_write v1 s) (fun p => k none (mkCs p))
theorem c_X9_write_in {v1 : Int32} {s : St} {k : Option Value → mj_H → Prop} (hw : ok (F_X9_write v1 s) (fun p => k none (mkCs p))) : c_X9_write [.ref 7, .int v1] (mkCs s) k := ⟨v1, s, rfl, rfl, hw⟩
theorem m_X9_write (l : Launch) : mj_Met l yX9_write cX9_write 4 (none) 0 0 0 c_X9_write := by
  refine mj_body2 false (TbX9 4 (none) []) (by decide) rfl rfl (fun h => nomatch h) (tfX9 _ (fun _ h => nomatch h)) ?_
  rintro as h k ⟨v1, s, rfl, rfl, hw⟩
  exact ⟨rfl, fun G hG => g_X9_write hG hw⟩
def F_X11_feed (v1 : Int32) (v2 : Int32) (v3 : Int32) (v4 : Int32) (v5 : Int32) (s : St) : Option (Int32 × St) :=
  (F_X9_bytesOf v1).bind fun r1 =>
  (F_X9_bytesOf v2).bind fun r2 =>
  (F_X9_bytesOf v3).bind fun r3 =>
  (F_X9_bytesOf v4).bind fun r4 =>
  (F_X9_bytesOf v5).bind fun r5 =>
  if ((s.1 901) + ((((r1 + r2) + r3) + r4) + r5)) ≤ 160 then
    (F_X9_write v1 s).bind fun s6 =>
    (F_X9_write v2 s6).bind fun s7 =>
    (F_X9_write v3 s7).bind fun s8 =>
    (F_X9_write v4 s8).bind fun s9 =>
    (F_X9_write v5 s9).bind fun s10 =>
    some ((s10.1 901), s10)
  else
    some ((-1), s)
theorem J_X11_feed : mj_t 41 5 = 46 ∧ (0 ≤ ((41 : Nat) : Int) + 5) = True := by and_intros <;> first | rfl | exact eq_true (by decide)
def ct_X11_feed : List (Nat × mj_Cs) := [(201, 2, 1, 9, 0, 0, c_X9_bytesOf), (208, 0, 2, 9, 0, 0, c_X9_write)]
theorem L_X11_feed : mj_lk ct_X11_feed 201 = some (2, 1, 9, 0, 0, c_X9_bytesOf) ∧ mj_lk ct_X11_feed 208 = some (0, 2, 9, 0, 0, c_X9_write) := ⟨rfl, rfl⟩
set_option maxHeartbeats 4000000 in
set_option maxRecDepth 20000 in
theorem g_X11_feed {k : Option Value → mj_H → Prop} {G : mj_K} (hG : mj_cl2 cX11_feed (TbX11 7 ((some FieldType.int)) ct_X11_feed) k G) {v1 : Int32} {v2 : Int32} {v3 : Int32} {v4 : Int32} {v5 : Int32} {s : St} (hw : ok (F_X11_feed v1 v2 v3 v4 v5 s) (fun p => k (some (.int p.1)) (mkCs p.2))) : G 0 [.ref 0, .int v1, .int v2, .int v3, .int v4, .int v5] [] (mkCs s) 0 0 := by
  unfold F_X11_feed at hw
  refine mj_run hG.1 (fun pc => pc == 4 || pc == 8 || pc == 13 || pc == 19 || pc == 25 || pc == 54 || pc == 62 || pc == 70 || pc == 79 || pc == 88) 4000 ?_
  simp only [mj_step, mj_W_s, mj_fin, List.getElem?_cons_zero, List.getElem?_cons_succ, mj_go, Nat.reduceAdd, Nat.reduceSub, Nat.reduceLT, Nat.reduceLeDiff, Nat.zero_add, Nat.reduceEqDiff, Nat.reduceBEq, ↓reduceIte, Bool.false_eq_true, List.append_nil, List.nil_append, List.cons_append, Option.toList, and_true, true_and, true_or, or_true, reduceCtorEq, List.map_nil, bI_eq0, bI_eq1, bool_ft, pk_us, vnar0, vnar1, Bool.or_false, Bool.or_true, Bool.false_or, Bool.true_or, mj_kne, eq_self, Int32.reduceLT, Int32.reduceLE, Int32.reduceAdd, Int32.reduceSub, Int32.reduceMul, not_true_eq_false, not_false_eq_true, false_implies, true_implies, D_X11_feed, mj_F_aload_n_k, mj_F_getfield_i, mj_F_iadd, mj_F_iconst_n, mj_F_if_icmp_le_off, mj_F_iload_k, mj_F_iload_n_k, mj_F_invokestatic_i, mj_F_invokevirtual_i, mj_F_ireturn, mj_F_istore_k, mj_F_sipush_n, mj_set, mj_set0, mj_unk, mj_c2, mj_kc, FT_X11, L_X11_feed, List.take_succ_cons, List.take_zero, List.drop_succ_cons, List.drop_zero, List.reverse_cons, List.reverse_nil, List.length_cons, List.length_nil, gS_C0, gCf11_2, gS_C7, gCf9_1, J_X11_feed]
  refine c_X9_bytesOf_in (ok_imp (ok_bind hw) ?_)
  intro p hw
  simp only [Option.toList, List.nil_append, List.cons_append, Nat.reduceSub]
  refine mj_run hG.1 (fun pc => pc == 4 || pc == 8 || pc == 13 || pc == 19 || pc == 25 || pc == 54 || pc == 62 || pc == 70 || pc == 79 || pc == 88) 4000 ?_
  simp only [mj_step, mj_W_s, mj_fin, List.getElem?_cons_zero, List.getElem?_cons_succ, mj_go, Nat.reduceAdd, Nat.reduceSub, Nat.reduceLT, Nat.reduceLeDiff, Nat.zero_add, Nat.reduceEqDiff, Nat.reduceBEq, ↓reduceIte, Bool.false_eq_true, List.append_nil, List.nil_append, List.cons_append, Option.toList, and_true, true_and, true_or, or_true, reduceCtorEq, List.map_nil, bI_eq0, bI_eq1, bool_ft, pk_us, vnar0, vnar1, Bool.or_false, Bool.or_true, Bool.false_or, Bool.true_or, mj_kne, eq_self, Int32.reduceLT, Int32.reduceLE, Int32.reduceAdd, Int32.reduceSub, Int32.reduceMul, not_true_eq_false, not_false_eq_true, false_implies, true_implies, D_X11_feed, mj_F_aload_n_k, mj_F_getfield_i, mj_F_iadd, mj_F_iconst_n, mj_F_if_icmp_le_off, mj_F_iload_k, mj_F_iload_n_k, mj_F_invokestatic_i, mj_F_invokevirtual_i, mj_F_ireturn, mj_F_istore_k, mj_F_sipush_n, mj_set, mj_set0, mj_unk, mj_c2, mj_kc, FT_X11, L_X11_feed, List.take_succ_cons, List.take_zero, List.drop_succ_cons, List.drop_zero, List.reverse_cons, List.reverse_nil, List.length_cons, List.length_nil, gS_C0, gCf11_2, gS_C7, gCf9_1, J_X11_feed]
  refine c_X9_bytesOf_in (ok_imp (ok_bind hw) ?_)
  intro p hw
  simp only [Option.toList, List.nil_append, List.cons_append, Nat.reduceSub]
  refine mj_run hG.1 (fun pc => pc == 4 || pc == 8 || pc == 13 || pc == 19 || pc == 25 || pc == 54 || pc == 62 || pc == 70 || pc == 79 || pc == 88) 4000 ?_
  simp only [mj_step, mj_W_s, mj_fin, List.getElem?_cons_zero, List.getElem?_cons_succ, mj_go, Nat.reduceAdd, Nat.reduceSub, Nat.reduceLT, Nat.reduceLeDiff, Nat.zero_add, Nat.reduceEqDiff, Nat.reduceBEq, ↓reduceIte, Bool.false_eq_true, List.append_nil, List.nil_append, List.cons_append, Option.toList, and_true, true_and, true_or, or_true, reduceCtorEq, List.map_nil, bI_eq0, bI_eq1, bool_ft, pk_us, vnar0, vnar1, Bool.or_false, Bool.or_true, Bool.false_or, Bool.true_or, mj_kne, eq_self, Int32.reduceLT, Int32.reduceLE, Int32.reduceAdd, Int32.reduceSub, Int32.reduceMul, not_true_eq_false, not_false_eq_true, false_implies, true_implies, D_X11_feed, mj_F_aload_n_k, mj_F_getfield_i, mj_F_iadd, mj_F_iconst_n, mj_F_if_icmp_le_off, mj_F_iload_k, mj_F_iload_n_k, mj_F_invokestatic_i, mj_F_invokevirtual_i, mj_F_ireturn, mj_F_istore_k, mj_F_sipush_n, mj_set, mj_set0, mj_unk, mj_c2, mj_kc, FT_X11, L_X11_feed, List.take_succ_cons, List.take_zero, List.drop_succ_cons, List.drop_zero, List.reverse_cons, List.reverse_nil, List.length_cons, List.length_nil, gS_C0, gCf11_2, gS_C7, gCf9_1, J_X11_feed]
  refine c_X9_bytesOf_in (ok_imp (ok_bind hw) ?_)
  intro p hw
  simp only [Option.toList, List.nil_append, List.cons_append, Nat.reduceSub]
  refine mj_run hG.1 (fun pc => pc == 4 || pc == 8 || pc == 13 || pc == 19 || pc == 25 || pc == 54 || pc == 62 || pc == 70 || pc == 79 || pc == 88) 4000 ?_
  simp only [mj_step, mj_W_s, mj_fin, List.getElem?_cons_zero, List.getElem?_cons_succ, mj_go, Nat.reduceAdd, Nat.reduceSub, Nat.reduceLT, Nat.reduceLeDiff, Nat.zero_add, Nat.reduceEqDiff, Nat.reduceBEq, ↓reduceIte, Bool.false_eq_true, List.append_nil, List.nil_append, List.cons_append, Option.toList, and_true, true_and, true_or, or_true, reduceCtorEq, List.map_nil, bI_eq0, bI_eq1, bool_ft, pk_us, vnar0, vnar1, Bool.or_false, Bool.or_true, Bool.false_or, Bool.true_or, mj_kne, eq_self, Int32.reduceLT, Int32.reduceLE, Int32.reduceAdd, Int32.reduceSub, Int32.reduceMul, not_true_eq_false, not_false_eq_true, false_implies, true_implies, D_X11_feed, mj_F_aload_n_k, mj_F_getfield_i, mj_F_iadd, mj_F_iconst_n, mj_F_if_icmp_le_off, mj_F_iload_k, mj_F_iload_n_k, mj_F_invokestatic_i, mj_F_invokevirtual_i, mj_F_ireturn, mj_F_istore_k, mj_F_sipush_n, mj_set, mj_set0, mj_unk, mj_c2, mj_kc, FT_X11, L_X11_feed, List.take_succ_cons, List.take_zero, List.drop_succ_cons, List.drop_zero, List.reverse_cons, List.reverse_nil, List.length_cons, List.length_nil, gS_C0, gCf11_2, gS_C7, gCf9_1, J_X11_feed]
  refine c_X9_bytesOf_in (ok_imp (ok_bind hw) ?_)
  intro p hw
  simp only [Option.toList, List.nil_append, List.cons_append, Nat.reduceSub]
  refine mj_run hG.1 (fun pc => pc == 4 || pc == 8 || pc == 13 || pc == 19 || pc == 25 || pc == 54 || pc == 62 || pc == 70 || pc == 79 || pc == 88) 4000 ?_
  simp only [mj_step, mj_W_s, mj_fin, List.getElem?_cons_zero, List.getElem?_cons_succ, mj_go, Nat.reduceAdd, Nat.reduceSub, Nat.reduceLT, Nat.reduceLeDiff, Nat.zero_add, Nat.reduceEqDiff, Nat.reduceBEq, ↓reduceIte, Bool.false_eq_true, List.append_nil, List.nil_append, List.cons_append, Option.toList, and_true, true_and, true_or, or_true, reduceCtorEq, List.map_nil, bI_eq0, bI_eq1, bool_ft, pk_us, vnar0, vnar1, Bool.or_false, Bool.or_true, Bool.false_or, Bool.true_or, mj_kne, eq_self, Int32.reduceLT, Int32.reduceLE, Int32.reduceAdd, Int32.reduceSub, Int32.reduceMul, not_true_eq_false, not_false_eq_true, false_implies, true_implies, D_X11_feed, mj_F_aload_n_k, mj_F_getfield_i, mj_F_iadd, mj_F_iconst_n, mj_F_if_icmp_le_off, mj_F_iload_k, mj_F_iload_n_k, mj_F_invokestatic_i, mj_F_invokevirtual_i, mj_F_ireturn, mj_F_istore_k, mj_F_sipush_n, mj_set, mj_set0, mj_unk, mj_c2, mj_kc, FT_X11, L_X11_feed, List.take_succ_cons, List.take_zero, List.drop_succ_cons, List.drop_zero, List.reverse_cons, List.reverse_nil, List.length_cons, List.length_nil, gS_C0, gCf11_2, gS_C7, gCf9_1, J_X11_feed]
  refine c_X9_bytesOf_in (ok_imp (ok_bind hw) ?_)
  intro p hw
  simp only [Option.toList, List.nil_append, List.cons_append, Nat.reduceSub]
  refine mj_run hG.1 (fun pc => pc == 4 || pc == 8 || pc == 13 || pc == 19 || pc == 25 || pc == 54 || pc == 62 || pc == 70 || pc == 79 || pc == 88) 4000 ?_
  simp only [mj_step, mj_W_s, mj_fin, List.getElem?_cons_zero, List.getElem?_cons_succ, mj_go, Nat.reduceAdd, Nat.reduceSub, Nat.reduceLT, Nat.reduceLeDiff, Nat.zero_add, Nat.reduceEqDiff, Nat.reduceBEq, ↓reduceIte, Bool.false_eq_true, List.append_nil, List.nil_append, List.cons_append, Option.toList, and_true, true_and, true_or, or_true, reduceCtorEq, List.map_nil, bI_eq0, bI_eq1, bool_ft, pk_us, vnar0, vnar1, Bool.or_false, Bool.or_true, Bool.false_or, Bool.true_or, mj_kne, eq_self, Int32.reduceLT, Int32.reduceLE, Int32.reduceAdd, Int32.reduceSub, Int32.reduceMul, not_true_eq_false, not_false_eq_true, false_implies, true_implies, D_X11_feed, mj_F_aload_n_k, mj_F_getfield_i, mj_F_iadd, mj_F_iconst_n, mj_F_if_icmp_le_off, mj_F_iload_k, mj_F_iload_n_k, mj_F_invokestatic_i, mj_F_invokevirtual_i, mj_F_ireturn, mj_F_istore_k, mj_F_sipush_n, mj_set, mj_set0, mj_unk, mj_c2, mj_kc, FT_X11, L_X11_feed, List.take_succ_cons, List.take_zero, List.drop_succ_cons, List.drop_zero, List.reverse_cons, List.reverse_nil, List.length_cons, List.length_nil, gS_C0, gCf11_2, gS_C7, gCf9_1, J_X11_feed]
  refine ⟨fun c => ?_, fun c => ?_⟩
  · replace hw := ok_t hw c
    refine c_X9_write_in (ok_imp (ok_bind hw) ?_)
    intro p hw
    simp only [Option.toList, List.nil_append, List.cons_append, Nat.reduceSub]
    refine mj_run hG.1 (fun pc => pc == 4 || pc == 8 || pc == 13 || pc == 19 || pc == 25 || pc == 54 || pc == 62 || pc == 70 || pc == 79 || pc == 88) 4000 ?_
    simp only [mj_step, mj_W_s, mj_fin, List.getElem?_cons_zero, List.getElem?_cons_succ, mj_go, Nat.reduceAdd, Nat.reduceSub, Nat.reduceLT, Nat.reduceLeDiff, Nat.zero_add, Nat.reduceEqDiff, Nat.reduceBEq, ↓reduceIte, Bool.false_eq_true, List.append_nil, List.nil_append, List.cons_append, Option.toList, and_true, true_and, true_or, or_true, reduceCtorEq, List.map_nil, bI_eq0, bI_eq1, bool_ft, pk_us, vnar0, vnar1, Bool.or_false, Bool.or_true, Bool.false_or, Bool.true_or, mj_kne, eq_self, Int32.reduceLT, Int32.reduceLE, Int32.reduceAdd, Int32.reduceSub, Int32.reduceMul, not_true_eq_false, not_false_eq_true, false_implies, true_implies, D_X11_feed, mj_F_aload_n_k, mj_F_getfield_i, mj_F_iadd, mj_F_iconst_n, mj_F_if_icmp_le_off, mj_F_iload_k, mj_F_iload_n_k, mj_F_invokestatic_i, mj_F_invokevirtual_i, mj_F_ireturn, mj_F_istore_k, mj_F_sipush_n, mj_set, mj_set0, mj_unk, mj_c2, mj_kc, FT_X11, L_X11_feed, List.take_succ_cons, List.take_zero, List.drop_succ_cons, List.drop_zero, List.reverse_cons, List.reverse_nil, List.length_cons, List.length_nil, gS_C0, gCf11_2, gS_C7, gCf9_1, J_X11_feed]
    refine c_X9_write_in (ok_imp (ok_bind hw) ?_)
    intro p hw
    simp only [Option.toList, List.nil_append, List.cons_append, Nat.reduceSub]
    refine mj_run hG.1 (fun pc => pc == 4 || pc == 8 || pc == 13 || pc == 19 || pc == 25 || pc == 54 || pc == 62 || pc == 70 || pc == 79 || pc == 88) 4000 ?_
    simp only [mj_step, mj_W_s, mj_fin, List.getElem?_cons_zero, List.getElem?_cons_succ, mj_go, Nat.reduceAdd, Nat.reduceSub, Nat.reduceLT, Nat.reduceLeDiff, Nat.zero_add, Nat.reduceEqDiff, Nat.reduceBEq, ↓reduceIte, Bool.false_eq_true, List.append_nil, List.nil_append, List.cons_append, Option.toList, and_true, true_and, true_or, or_true, reduceCtorEq, List.map_nil, bI_eq0, bI_eq1, bool_ft, pk_us, vnar0, vnar1, Bool.or_false, Bool.or_true, Bool.false_or, Bool.true_or, mj_kne, eq_self, Int32.reduceLT, Int32.reduceLE, Int32.reduceAdd, Int32.reduceSub, Int32.reduceMul, not_true_eq_false, not_false_eq_true, false_implies, true_implies, D_X11_feed, mj_F_aload_n_k, mj_F_getfield_i, mj_F_iadd, mj_F_iconst_n, mj_F_if_icmp_le_off, mj_F_iload_k, mj_F_iload_n_k, mj_F_invokestatic_i, mj_F_invokevirtual_i, mj_F_ireturn, mj_F_istore_k, mj_F_sipush_n, mj_set, mj_set0, mj_unk, mj_c2, mj_kc, FT_X11, L_X11_feed, List.take_succ_cons, List.take_zero, List.drop_succ_cons, List.drop_zero, List.reverse_cons, List.reverse_nil, List.length_cons, List.length_nil, gS_C0, gCf11_2, gS_C7, gCf9_1, J_X11_feed]
    refine c_X9_write_in (ok_imp (ok_bind hw) ?_)
    intro p hw
    simp only [Option.toList, List.nil_append, List.cons_append, Nat.reduceSub]
    refine mj_run hG.1 (fun pc => pc == 4 || pc == 8 || pc == 13 || pc == 19 || pc == 25 || pc == 54 || pc == 62 || pc == 70 || pc == 79 || pc == 88) 4000 ?_
    simp only [mj_step, mj_W_s, mj_fin, List.getElem?_cons_zero, List.getElem?_cons_succ, mj_go, Nat.reduceAdd, Nat.reduceSub, Nat.reduceLT, Nat.reduceLeDiff, Nat.zero_add, Nat.reduceEqDiff, Nat.reduceBEq, ↓reduceIte, Bool.false_eq_true, List.append_nil, List.nil_append, List.cons_append, Option.toList, and_true, true_and, true_or, or_true, reduceCtorEq, List.map_nil, bI_eq0, bI_eq1, bool_ft, pk_us, vnar0, vnar1, Bool.or_false, Bool.or_true, Bool.false_or, Bool.true_or, mj_kne, eq_self, Int32.reduceLT, Int32.reduceLE, Int32.reduceAdd, Int32.reduceSub, Int32.reduceMul, not_true_eq_false, not_false_eq_true, false_implies, true_implies, D_X11_feed, mj_F_aload_n_k, mj_F_getfield_i, mj_F_iadd, mj_F_iconst_n, mj_F_if_icmp_le_off, mj_F_iload_k, mj_F_iload_n_k, mj_F_invokestatic_i, mj_F_invokevirtual_i, mj_F_ireturn, mj_F_istore_k, mj_F_sipush_n, mj_set, mj_set0, mj_unk, mj_c2, mj_kc, FT_X11, L_X11_feed, List.take_succ_cons, List.take_zero, List.drop_succ_cons, List.drop_zero, List.reverse_cons, List.reverse_nil, List.length_cons, List.length_nil, gS_C0, gCf11_2, gS_C7, gCf9_1, J_X11_feed]
    refine c_X9_write_in (ok_imp (ok_bind hw) ?_)
    intro p hw
    simp only [Option.toList, List.nil_append, List.cons_append, Nat.reduceSub]
    refine mj_run hG.1 (fun pc => pc == 4 || pc == 8 || pc == 13 || pc == 19 || pc == 25 || pc == 54 || pc == 62 || pc == 70 || pc == 79 || pc == 88) 4000 ?_
    simp only [mj_step, mj_W_s, mj_fin, List.getElem?_cons_zero, List.getElem?_cons_succ, mj_go, Nat.reduceAdd, Nat.reduceSub, Nat.reduceLT, Nat.reduceLeDiff, Nat.zero_add, Nat.reduceEqDiff, Nat.reduceBEq, ↓reduceIte, Bool.false_eq_true, List.append_nil, List.nil_append, List.cons_append, Option.toList, and_true, true_and, true_or, or_true, reduceCtorEq, List.map_nil, bI_eq0, bI_eq1, bool_ft, pk_us, vnar0, vnar1, Bool.or_false, Bool.or_true, Bool.false_or, Bool.true_or, mj_kne, eq_self, Int32.reduceLT, Int32.reduceLE, Int32.reduceAdd, Int32.reduceSub, Int32.reduceMul, not_true_eq_false, not_false_eq_true, false_implies, true_implies, D_X11_feed, mj_F_aload_n_k, mj_F_getfield_i, mj_F_iadd, mj_F_iconst_n, mj_F_if_icmp_le_off, mj_F_iload_k, mj_F_iload_n_k, mj_F_invokestatic_i, mj_F_invokevirtual_i, mj_F_ireturn, mj_F_istore_k, mj_F_sipush_n, mj_set, mj_set0, mj_unk, mj_c2, mj_kc, FT_X11, L_X11_feed, List.take_succ_cons, List.take_zero, List.drop_succ_cons, List.drop_zero, List.reverse_cons, List.reverse_nil, List.length_cons, List.length_nil, gS_C0, gCf11_2, gS_C7, gCf9_1, J_X11_feed]
    refine c_X9_write_in (ok_imp (ok_bind hw) ?_)
    intro p hw
    simp only [Option.toList, List.nil_append, List.cons_append, Nat.reduceSub]
    refine mj_run hG.1 (fun pc => pc == 4 || pc == 8 || pc == 13 || pc == 19 || pc == 25 || pc == 54 || pc == 62 || pc == 70 || pc == 79 || pc == 88) 4000 ?_
    simp only [mj_step, mj_W_s, mj_fin, List.getElem?_cons_zero, List.getElem?_cons_succ, mj_go, Nat.reduceAdd, Nat.reduceSub, Nat.reduceLT, Nat.reduceLeDiff, Nat.zero_add, Nat.reduceEqDiff, Nat.reduceBEq, ↓reduceIte, Bool.false_eq_true, List.append_nil, List.nil_append, List.cons_append, Option.toList, and_true, true_and, true_or, or_true, reduceCtorEq, List.map_nil, bI_eq0, bI_eq1, bool_ft, pk_us, vnar0, vnar1, Bool.or_false, Bool.or_true, Bool.false_or, Bool.true_or, mj_kne, eq_self, Int32.reduceLT, Int32.reduceLE, Int32.reduceAdd, Int32.reduceSub, Int32.reduceMul, not_true_eq_false, not_false_eq_true, false_implies, true_implies, D_X11_feed, mj_F_aload_n_k, mj_F_getfield_i, mj_F_iadd, mj_F_iconst_n, mj_F_if_icmp_le_off, mj_F_iload_k, mj_F_iload_n_k, mj_F_invokestatic_i, mj_F_invokevirtual_i, mj_F_ireturn, mj_F_istore_k, mj_F_sipush_n, mj_set, mj_set0, mj_unk, mj_c2, mj_kc, FT_X11, L_X11_feed, List.take_succ_cons, List.take_zero, List.drop_succ_cons, List.drop_zero, List.reverse_cons, List.reverse_nil, List.length_cons, List.length_nil, gS_C0, gCf11_2, gS_C7, gCf9_1, J_X11_feed]
    exact (ok_some hw :)
  · replace hw := ok_f hw c
    exact (ok_some hw :)

def c_X11_feed : mj_S := fun as h k => ∃ (v1 : Int32) (v2 : Int32) (v3 : Int32) (v4 : Int32) (v5 : Int32) (s : St), as = [.ref 0, .int v1, .int v2, .int v3, .int v4, .int v5] ∧ h = mkCs s ∧ ok (F_X11_feed v1 v2 v3 v4 v5 s) (fun p => k (some (.int p.1)) (mkCs p.2))
theorem c_X11_feed_in {v1 : Int32} {v2 : Int32} {v3 : Int32} {v4 : Int32} {v5 : Int32} {s : St} {k : Option Value → mj_H → Prop} (hw : ok (F_X11_feed v1 v2 v3 v4 v5 s) (fun p => k (some (.int p.1)) (mkCs p.2))) : c_X11_feed [.ref 0, .int v1, .int v2, .int v3, .int v4, .int v5] (mkCs s) k := ⟨v1, v2, v3, v4, v5, s, rfl, rfl, hw⟩
theorem m_X11_feed (l : Launch) : mj_Met l yX11_feed cX11_feed 7 ((some FieldType.int)) 1 0 0 c_X11_feed := by
  refine mj_body2 false (TbX11 7 ((some FieldType.int)) ct_X11_feed) (by decide) rfl rfl (fun h => nomatch h) (tfX11 _ (List.forall_mem_cons.mpr ⟨cfX11_201 (m_X9_bytesOf l) (by decide), List.forall_mem_cons.mpr ⟨cfX11_208 (m_X9_write l) (by decide), fun _ h => nomatch h⟩⟩)) ?_
  rintro as h k ⟨v1, v2, v3, v4, v5, s, rfl, rfl, hw⟩
  exact ⟨rfl, fun G hG => g_X11_feed hG hw⟩
def F_X11_end (v1 : Int32) (s : St) : Option (Int32 × St) :=
  if inb v1 0 (s.1 901) = false then
    some (0, s)
  else
    (wI s 901 v1).bind fun s1 =>
    some (1, s1)
theorem J_X11_end : mj_t 12 5 = 17 ∧ (0 ≤ ((12 : Nat) : Int) + 5) = True := by and_intros <;> first | rfl | exact eq_true (by decide)
def ct_X11_end : List (Nat × mj_Cs) := [(96, 2, 3, 11, 0, 0, c_in)]
theorem L_X11_end : mj_lk ct_X11_end 96 = some (2, 3, 11, 0, 0, c_in) := rfl
set_option maxHeartbeats 4000000 in
set_option maxRecDepth 20000 in
theorem g_X11_end {k : Option Value → mj_H → Prop} {G : mj_K} (hG : mj_cl2 cX11_end (TbX11 2 ((some FieldType.boolean)) ct_X11_end) k G) {v1 : Int32} {s : St} (hw : ok (F_X11_end v1 s) (fun p => k (some (.int p.1)) (mkCs p.2))) : G 0 [.ref 0, .int v1] [] (mkCs s) 0 0 := by
  unfold F_X11_end at hw
  refine mj_run hG.1 (fun _ => false) 4000 ?_
  simp only [mj_step, mj_W_s, mj_fin, List.getElem?_cons_zero, List.getElem?_cons_succ, mj_go, Nat.reduceAdd, Nat.reduceSub, Nat.reduceLT, Nat.reduceLeDiff, Nat.zero_add, Nat.reduceEqDiff, Nat.reduceBEq, ↓reduceIte, Bool.false_eq_true, List.append_nil, List.nil_append, List.cons_append, Option.toList, and_true, true_and, true_or, or_true, reduceCtorEq, List.map_nil, bI_eq0, bI_eq1, bool_ft, pk_us, vnar0, vnar1, Bool.or_false, Bool.or_true, Bool.false_or, Bool.true_or, mj_kne, eq_self, Int32.reduceLT, Int32.reduceLE, Int32.reduceAdd, Int32.reduceSub, Int32.reduceMul, not_true_eq_false, not_false_eq_true, false_implies, true_implies, D_X11_end, mj_F_aload_n_k, mj_F_getfield_i, mj_F_iconst_n, mj_F_ifCond_ne_off, mj_F_iload_n_k, mj_F_invokestatic_i, mj_F_ireturn, mj_F_putfield_i, mj_kc, FT_X11, PT_X11, L_X11_end, List.take_succ_cons, List.take_zero, List.drop_succ_cons, List.drop_zero, List.reverse_cons, List.reverse_nil, List.length_cons, List.length_nil, gS_C0, gCf11_2, gS_C7, gCf9_1, sS_Cf_9_1, gCf9len, c_in_eq, J_X11_end]
  refine ⟨fun c => ?_, fun c => ?_⟩
  · replace hw := ok_f hw c
    replace hw := ok_wI hw
    exact (ok_some hw :)
  · replace hw := ok_t hw c
    exact (ok_some hw :)

def c_X11_end : mj_S := fun as h k => ∃ (v1 : Int32) (s : St), as = [.ref 0, .int v1] ∧ h = mkCs s ∧ ok (F_X11_end v1 s) (fun p => k (some (.int p.1)) (mkCs p.2))
theorem c_X11_end_in {v1 : Int32} {s : St} {k : Option Value → mj_H → Prop} (hw : ok (F_X11_end v1 s) (fun p => k (some (.int p.1)) (mkCs p.2))) : c_X11_end [.ref 0, .int v1] (mkCs s) k := ⟨v1, s, rfl, rfl, hw⟩
theorem m_X11_end (l : Launch) : mj_Met l yX11_end cX11_end 2 ((some FieldType.boolean)) 1 0 0 c_X11_end := by
  refine mj_body2 false (TbX11 2 ((some FieldType.boolean)) ct_X11_end) (by decide) rfl rfl (fun h => nomatch h) (tfX11 _ (List.forall_mem_cons.mpr ⟨cfX11_96 (m_X11_within l) (by decide), fun _ h => nomatch h⟩)) ?_
  rintro as h k ⟨v1, s, rfl, rfl, hw⟩
  exact ⟨rfl, fun G hG => g_X11_end hG hw⟩
def B_X9_peek_10  : St → Option ((St) ⊕ ((St)))
  | s =>
  if (s.1 901) ≤ (s.1 902) then
    some (.inr s)
  else
    (rd s 900 160 (s.1 902)).bind fun x1 =>
    if x1 = 32 then
      (wI s 902 ((s.1 902) + 1)).bind fun s2 =>
      some (.inl s2)
    else
      some (.inr s)
def F_X9_peek_48 (s : St) : Option (Int32 × St) :=
  if (s.1 901) ≤ (s.1 902) then
    some (0, s)
  else
    (rd s 900 160 (s.1 902)).bind fun x3 =>
    some (x3, s)
def F_X9_peek_10 (s : St) : Option (Int32 × St) :=
  (lp (B_X9_peek_10 ) FU s).bind (fun y => F_X9_peek_48 y)
def F_X9_peek (s : St) : Option (Int32 × St) :=
  if (s.1 903) = (-1) then
    F_X9_peek_10 s
  else
    some (0, s)
theorem J_X9_peek : mj_t 5 5 = 10 ∧ mj_t 18 30 = 48 ∧ mj_t 32 16 = 48 ∧ mj_t 45 (-35) = 10 ∧ mj_t 56 15 = 71 ∧ mj_t 68 4 = 72 ∧ (0 ≤ ((5 : Nat) : Int) + 5) = True ∧ (0 ≤ ((18 : Nat) : Int) + 30) = True ∧ (0 ≤ ((32 : Nat) : Int) + 16) = True ∧ (0 ≤ ((45 : Nat) : Int) + (-35)) = True ∧ (0 ≤ ((56 : Nat) : Int) + 15) = True ∧ (0 ≤ ((68 : Nat) : Int) + 4) = True := by and_intros <;> first | rfl | exact eq_true (by decide)
set_option maxHeartbeats 4000000 in
set_option maxRecDepth 20000 in
theorem b_X9_peek_10 {k : Option Value → mj_H → Prop} {G : mj_K} (hG : mj_cl2 cX9_peek (TbX9 1 ((some FieldType.int)) []) k G)  {P : St → Prop} {K : (St) → Prop} (hP : ∀ x, P x → G 10 [.ref 7] [] (mkCs x) 0 0) (hK0 : ∀ y, K y → G 48 [.ref 7] [] (mkCs y) 0 0) {s : St} (hw : ok (B_X9_peek_10  s) (Sum.elim P K)) : G 10 [.ref 7] [] (mkCs s) 0 0 := by
  unfold B_X9_peek_10 at hw
  refine mj_run hG.1 (fun pc => pc == 10 || pc == 48) 4000 ?_
  simp only [mj_step, mj_W_s, mj_fin, List.getElem?_cons_zero, List.getElem?_cons_succ, mj_go, Nat.reduceAdd, Nat.reduceSub, Nat.reduceLT, Nat.reduceLeDiff, Nat.zero_add, Nat.reduceEqDiff, Nat.reduceBEq, ↓reduceIte, Bool.false_eq_true, List.append_nil, List.nil_append, List.cons_append, Option.toList, and_true, true_and, true_or, or_true, reduceCtorEq, List.map_nil, bI_eq0, bI_eq1, bool_ft, pk_us, vnar0, vnar1, Bool.or_false, Bool.or_true, Bool.false_or, Bool.true_or, mj_kne, eq_self, Int32.reduceLT, Int32.reduceLE, Int32.reduceAdd, Int32.reduceSub, Int32.reduceMul, not_true_eq_false, not_false_eq_true, false_implies, true_implies, D_X9_peek, mj_F_aload_n_k, mj_F_bipush_n, mj_F_dup, mj_F_getfield_i, mj_F_goto_off, mj_F_iadd, mj_F_iaload, mj_F_iconst_n, mj_F_if_icmp_eq_off, mj_F_if_icmp_ge_off, mj_F_if_icmp_ne_off, mj_F_ireturn, mj_F_putfield_i, mj_c2, mj_kc, FT_X9, PT_X9, gS_C7, gCf9_3, gCf9_2, gCf9_1, gCf9_0, gS_C8, sS_Ca_8, sS_Cf_9_2, gCf9len, J_X9_peek]
  refine ⟨fun c => ?_, fun c => ?_⟩
  · replace hw := ok_t hw c
    exact hG.2 _ _ _ _ _ _ _ _ _ (by refine ⟨Or.inr rfl, ?_⟩; exact trivial) (Nat.zero_le _) (Nat.zero_le _) (hK0 _ (ok_some hw :) :)
  · replace hw := ok_f hw c
    refine ⟨(ok_rd hw).1, ?_⟩
    replace hw := (ok_rd hw).2
    refine ⟨fun c => ?_, fun c => ?_⟩
    · replace hw := ok_f hw c
      exact hG.2 _ _ _ _ _ _ _ _ _ (by refine ⟨Or.inr rfl, ?_⟩; exact trivial) (Nat.zero_le _) (Nat.zero_le _) (hK0 _ (ok_some hw :) :)
    · replace hw := ok_t hw c
      replace hw := ok_wI hw
      exact hG.2 _ _ _ _ _ _ _ _ _ (by refine ⟨Or.inr rfl, ?_⟩; exact trivial) (Nat.zero_le _) (Nat.zero_le _) (hP _ (ok_some hw :) :)

set_option maxHeartbeats 4000000 in
set_option maxRecDepth 20000 in
theorem g_X9_peek_48 {k : Option Value → mj_H → Prop} {G : mj_K} (hG : mj_cl2 cX9_peek (TbX9 1 ((some FieldType.int)) []) k G)   {s : St} (hw : ok (F_X9_peek_48 s) (fun p => k (some (.int p.1)) (mkCs p.2))) : G 48 [.ref 7] [] (mkCs s) 0 0 := by
  unfold F_X9_peek_48 at hw
  refine mj_run hG.1 (fun pc => pc == 10 || pc == 48) 4000 ?_
  simp only [mj_step, mj_W_s, mj_fin, List.getElem?_cons_zero, List.getElem?_cons_succ, mj_go, Nat.reduceAdd, Nat.reduceSub, Nat.reduceLT, Nat.reduceLeDiff, Nat.zero_add, Nat.reduceEqDiff, Nat.reduceBEq, ↓reduceIte, Bool.false_eq_true, List.append_nil, List.nil_append, List.cons_append, Option.toList, and_true, true_and, true_or, or_true, reduceCtorEq, List.map_nil, bI_eq0, bI_eq1, bool_ft, pk_us, vnar0, vnar1, Bool.or_false, Bool.or_true, Bool.false_or, Bool.true_or, mj_kne, eq_self, Int32.reduceLT, Int32.reduceLE, Int32.reduceAdd, Int32.reduceSub, Int32.reduceMul, not_true_eq_false, not_false_eq_true, false_implies, true_implies, D_X9_peek, mj_F_aload_n_k, mj_F_bipush_n, mj_F_dup, mj_F_getfield_i, mj_F_goto_off, mj_F_iadd, mj_F_iaload, mj_F_iconst_n, mj_F_if_icmp_eq_off, mj_F_if_icmp_ge_off, mj_F_if_icmp_ne_off, mj_F_ireturn, mj_F_putfield_i, mj_c2, mj_kc, FT_X9, PT_X9, gS_C7, gCf9_3, gCf9_2, gCf9_1, gCf9_0, gS_C8, sS_Ca_8, sS_Cf_9_2, gCf9len, J_X9_peek]
  refine ⟨fun c => ?_, fun c => ?_⟩
  · replace hw := ok_t hw c
    exact (ok_some hw :)
  · replace hw := ok_f hw c
    refine ⟨(ok_rd hw).1, ?_⟩
    replace hw := (ok_rd hw).2
    exact (ok_some hw :)

set_option maxHeartbeats 4000000 in
theorem g_X9_peek_10 {k : Option Value → mj_H → Prop} {G : mj_K} (hG : mj_cl2 cX9_peek (TbX9 1 ((some FieldType.int)) []) k G)   {s : St} (hw : ok (F_X9_peek_10 s) (fun p => k (some (.int p.1)) (mkCs p.2))) : G 10 [.ref 7] [] (mkCs s) 0 0 := by
  unfold F_X9_peek_10 at hw
  refine lp_ok (B_X9_peek_10 ) (fun x => G 10 [.ref 7] [] (mkCs x) 0 0) _ ?_ _ _ (ok_bind hw)
  rintro s hb
  exact b_X9_peek_10 hG (fun _ z => z) (fun y hw => by exact hG.2 _ _ _ _ _ _ _ _ _ (by refine ⟨Or.inr rfl, ?_⟩; exact trivial) (Nat.zero_le _) (Nat.zero_le _) (g_X9_peek_48 hG  hw :)) hb

set_option maxHeartbeats 4000000 in
set_option maxRecDepth 20000 in
theorem g_X9_peek {k : Option Value → mj_H → Prop} {G : mj_K} (hG : mj_cl2 cX9_peek (TbX9 1 ((some FieldType.int)) []) k G) {s : St} (hw : ok (F_X9_peek s) (fun p => k (some (.int p.1)) (mkCs p.2))) : G 0 [.ref 7] [] (mkCs s) 0 0 := by
  unfold F_X9_peek at hw
  refine mj_run hG.1 (fun pc => pc == 10 || pc == 48) 4000 ?_
  simp only [mj_step, mj_W_s, mj_fin, List.getElem?_cons_zero, List.getElem?_cons_succ, mj_go, Nat.reduceAdd, Nat.reduceSub, Nat.reduceLT, Nat.reduceLeDiff, Nat.zero_add, Nat.reduceEqDiff, Nat.reduceBEq, ↓reduceIte, Bool.false_eq_true, List.append_nil, List.nil_append, List.cons_append, Option.toList, and_true, true_and, true_or, or_true, reduceCtorEq, List.map_nil, bI_eq0, bI_eq1, bool_ft, pk_us, vnar0, vnar1, Bool.or_false, Bool.or_true, Bool.false_or, Bool.true_or, mj_kne, eq_self, Int32.reduceLT, Int32.reduceLE, Int32.reduceAdd, Int32.reduceSub, Int32.reduceMul, not_true_eq_false, not_false_eq_true, false_implies, true_implies, D_X9_peek, mj_F_aload_n_k, mj_F_bipush_n, mj_F_dup, mj_F_getfield_i, mj_F_goto_off, mj_F_iadd, mj_F_iaload, mj_F_iconst_n, mj_F_if_icmp_eq_off, mj_F_if_icmp_ge_off, mj_F_if_icmp_ne_off, mj_F_ireturn, mj_F_putfield_i, mj_c2, mj_kc, FT_X9, PT_X9, gS_C7, gCf9_3, gCf9_2, gCf9_1, gCf9_0, gS_C8, sS_Ca_8, sS_Cf_9_2, gCf9len, J_X9_peek]
  refine ⟨fun c => ?_, fun c => ?_⟩
  · replace hw := ok_t hw c
    exact hG.2 _ _ _ _ _ _ _ _ _ (by refine ⟨Or.inr rfl, ?_⟩; exact trivial) (Nat.zero_le _) (Nat.zero_le _) (g_X9_peek_10 hG  hw :)
  · replace hw := ok_f hw c
    exact (ok_some hw :)

def c_X9_peek : mj_S := fun as h k => ∃ (s : St), as = [.ref 7] ∧ h = mkCs s ∧ ok (F_X9_peek s) (fun p => k (some (.int p.1)) (mkCs p.2))
theorem c_X9_peek_in {s : St} {k : Option Value → mj_H → Prop} (hw : ok (F_X9_peek s) (fun p => k (some (.int p.1)) (mkCs p.2))) : c_X9_peek [.ref 7] (mkCs s) k := ⟨s, rfl, rfl, hw⟩
theorem m_X9_peek (l : Launch) : mj_Met l yX9_peek cX9_peek 1 ((some FieldType.int)) 0 0 0 c_X9_peek := by
  refine mj_body2 false (TbX9 1 ((some FieldType.int)) []) (by decide) rfl rfl (fun h => nomatch h) (tfX9 _ (fun _ h => nomatch h)) ?_
  rintro as h k ⟨s, rfl, rfl, hw⟩
  exact ⟨rfl, fun G hG => g_X9_peek hG hw⟩
def F_X9_fail (s : St) : Option (St) :=
  if (s.1 903) = (-1) then
    (wI s 903 (s.1 902)).bind fun s1 =>
    some s1
  else
    some s
theorem J_X9_fail : mj_t 5 11 = 16 ∧ (0 ≤ ((5 : Nat) : Int) + 11) = True := by and_intros <;> first | rfl | exact eq_true (by decide)
set_option maxHeartbeats 4000000 in
set_option maxRecDepth 20000 in
theorem g_X9_fail {k : Option Value → mj_H → Prop} {G : mj_K} (hG : mj_cl2 cX9_fail (TbX9 1 (none) []) k G) {s : St} (hw : ok (F_X9_fail s) (fun p => k none (mkCs p))) : G 0 [.ref 7] [] (mkCs s) 0 0 := by
  unfold F_X9_fail at hw
  refine mj_run hG.1 (fun _ => false) 4000 ?_
  simp only [mj_step, mj_W_s, mj_fin, List.getElem?_cons_zero, List.getElem?_cons_succ, mj_go, Nat.reduceAdd, Nat.reduceSub, Nat.reduceLT, Nat.reduceLeDiff, Nat.zero_add, Nat.reduceEqDiff, Nat.reduceBEq, ↓reduceIte, Bool.false_eq_true, List.append_nil, List.nil_append, List.cons_append, Option.toList, and_true, true_and, true_or, or_true, reduceCtorEq, List.map_nil, bI_eq0, bI_eq1, bool_ft, pk_us, vnar0, vnar1, Bool.or_false, Bool.or_true, Bool.false_or, Bool.true_or, mj_kne, eq_self, Int32.reduceLT, Int32.reduceLE, Int32.reduceAdd, Int32.reduceSub, Int32.reduceMul, not_true_eq_false, not_false_eq_true, false_implies, true_implies, D_X9_fail, mj_F_aload_n_k, mj_F_getfield_i, mj_F_iconst_n, mj_F_if_icmp_ne_off, mj_F_putfield_i, mj_F_return_, mj_kc, FT_X9, PT_X9, gS_C7, gCf9_3, gCf9_2, sS_Cf_9_3, gCf9len, J_X9_fail]
  refine ⟨fun c => ?_, fun c => ?_⟩
  · replace hw := ok_f hw c
    exact (ok_some hw :)
  · replace hw := ok_t hw c
    replace hw := ok_wI hw
    exact (ok_some hw :)

def c_X9_fail : mj_S := fun as h k => ∃ (s : St), as = [.ref 7] ∧ h = mkCs s ∧ ok (F_X9_fail s) (fun p => k none (mkCs p))
theorem c_X9_fail_in {s : St} {k : Option Value → mj_H → Prop} (hw : ok (F_X9_fail s) (fun p => k none (mkCs p))) : c_X9_fail [.ref 7] (mkCs s) k := ⟨s, rfl, rfl, hw⟩
theorem m_X9_fail (l : Launch) : mj_Met l yX9_fail cX9_fail 1 (none) 0 0 0 c_X9_fail := by
  refine mj_body2 false (TbX9 1 (none) []) (by decide) rfl rfl (fun h => nomatch h) (tfX9 _ (fun _ h => nomatch h)) ?_
  rintro as h k ⟨s, rfl, rfl, hw⟩
  exact ⟨rfl, fun G hG => g_X9_fail hG hw⟩
def B_X0_labelOf_2 (v0 : Int32) : Int32 → Option ((Int32) ⊕ ((Unit) ⊕ (Int32)))
  | v1 =>
  if 7 ≤ v1 then
    some (.inr (.inl ()))
  else
    (rs 0 7 v1).bind fun x1 =>
    if x1 = v0 then
      some (.inr (.inr v1))
    else
      some (.inl (v1 + 1))
def F_X0_labelOf_27  : Option (Int32) :=
  some (-1)
def F_X0_labelOf_19 (v1 : Int32) : Option (Int32) :=
  some v1
def F_X0_labelOf_2 (v0 : Int32) (v1 : Int32) : Option (Int32) :=
  (lp (B_X0_labelOf_2 v0) FU v1).bind (Sum.elim (fun _ => F_X0_labelOf_27 ) (fun y => F_X0_labelOf_19 y))
def F_X0_labelOf (v0 : Int32) : Option (Int32) :=
  F_X0_labelOf_2 v0 0
theorem J_X0_labelOf : mj_t 7 20 = 27 ∧ mj_t 16 5 = 21 ∧ mj_t 24 (-22) = 2 ∧ (0 ≤ ((7 : Nat) : Int) + 20) = True ∧ (0 ≤ ((16 : Nat) : Int) + 5) = True ∧ (0 ≤ ((24 : Nat) : Int) + (-22)) = True := by and_intros <;> first | rfl | exact eq_true (by decide)
set_option maxHeartbeats 4000000 in
set_option maxRecDepth 20000 in
theorem b_X0_labelOf_2 {k : Option Value → mj_H → Prop} {G : mj_K} (hG : mj_cl2 cX0_labelOf (TbX0 2 ((some FieldType.int)) []) k G) {h : mj_H} {v0 : Int32} {P : Int32 → Prop} {K : (Unit) ⊕ (Int32) → Prop} (hP : ∀ x, P x → G 2 [.int v0, .int x] [] h 0 0) (hK0 : ∀ y, K (.inl y) → G 27 [] [] h 0 0) (hK1 : ∀ y, K (.inr y) → G 19 [mj_unk, .int y] [] h 0 0) {v1 : Int32} (hw : ok (B_X0_labelOf_2 v0 v1) (Sum.elim P K)) : G 2 [.int v0, .int v1] [] h 0 0 := by
  unfold B_X0_labelOf_2 at hw
  refine mj_run hG.1 (fun pc => pc == 2 || pc == 19 || pc == 27) 4000 ?_
  simp only [mj_step, mj_W_s, mj_fin, List.getElem?_cons_zero, List.getElem?_cons_succ, mj_go, Nat.reduceAdd, Nat.reduceSub, Nat.reduceLT, Nat.reduceLeDiff, Nat.zero_add, Nat.reduceEqDiff, Nat.reduceBEq, ↓reduceIte, Bool.false_eq_true, List.append_nil, List.nil_append, List.cons_append, Option.toList, and_true, true_and, true_or, or_true, reduceCtorEq, List.map_nil, bI_eq0, bI_eq1, bool_ft, pk_us, vnar0, vnar1, Bool.or_false, Bool.or_true, Bool.false_or, Bool.true_or, mj_kne, eq_self, Int32.reduceLT, Int32.reduceLE, Int32.reduceAdd, Int32.reduceSub, Int32.reduceMul, not_true_eq_false, not_false_eq_true, false_implies, true_implies, D_X0_labelOf, mj_F_arraylength, mj_F_getstatic_i, mj_F_goto_off, mj_F_iaload, mj_F_iconst_n, mj_F_if_icmp_ge_off, mj_F_if_icmp_ne_off, mj_F_iinc_k_n, mj_F_iload_n_k, mj_F_ireturn, mj_F_istore_n_k, mj_set, mj_set0, mj_unk, mj_c2, mj_kc, glX0, mj_st0, mj_st1, mj_st2, mj_lk_hit, mj_lk_miss, mj_nk, mj_isA, J_X0_labelOf]
  refine ⟨fun c => ?_, fun c => ?_⟩
  · replace hw := ok_t hw c
    exact hG.2 _ _ _ _ _ _ _ _ _ (by exact trivial) (Nat.zero_le _) (Nat.zero_le _) (hK0 _ (ok_some hw :) :)
  · replace hw := ok_f hw c
    refine ⟨(ok_rs hw).1, ?_⟩
    replace hw := (ok_rs hw).2
    refine ⟨fun c => ?_, fun c => ?_⟩
    · replace hw := ok_f hw c
      exact hG.2 _ _ _ _ _ _ _ _ _ (by refine ⟨Or.inr rfl, ?_⟩; refine ⟨Or.inr rfl, ?_⟩; exact trivial) (Nat.zero_le _) (Nat.zero_le _) (hP _ (ok_some hw :) :)
    · replace hw := ok_t hw c
      exact hG.2 _ _ _ _ _ _ _ _ _ (by refine ⟨Or.inl rfl, ?_⟩; refine ⟨Or.inr rfl, ?_⟩; exact trivial) (Nat.zero_le _) (Nat.zero_le _) (hK1 _ (ok_some hw :) :)

set_option maxHeartbeats 4000000 in
set_option maxRecDepth 20000 in
theorem g_X0_labelOf_27 {k : Option Value → mj_H → Prop} {G : mj_K} (hG : mj_cl2 cX0_labelOf (TbX0 2 ((some FieldType.int)) []) k G) {h : mj_H}   (hw : ok (F_X0_labelOf_27 ) (fun p => k (some (.int p)) h)) : G 27 [] [] h 0 0 := by
  unfold F_X0_labelOf_27 at hw
  refine mj_run hG.1 (fun pc => pc == 2 || pc == 19 || pc == 27) 4000 ?_
  simp only [mj_step, mj_W_s, mj_fin, List.getElem?_cons_zero, List.getElem?_cons_succ, mj_go, Nat.reduceAdd, Nat.reduceSub, Nat.reduceLT, Nat.reduceLeDiff, Nat.zero_add, Nat.reduceEqDiff, Nat.reduceBEq, ↓reduceIte, Bool.false_eq_true, List.append_nil, List.nil_append, List.cons_append, Option.toList, and_true, true_and, true_or, or_true, reduceCtorEq, List.map_nil, bI_eq0, bI_eq1, bool_ft, pk_us, vnar0, vnar1, Bool.or_false, Bool.or_true, Bool.false_or, Bool.true_or, mj_kne, eq_self, Int32.reduceLT, Int32.reduceLE, Int32.reduceAdd, Int32.reduceSub, Int32.reduceMul, not_true_eq_false, not_false_eq_true, false_implies, true_implies, D_X0_labelOf, mj_F_arraylength, mj_F_getstatic_i, mj_F_goto_off, mj_F_iaload, mj_F_iconst_n, mj_F_if_icmp_ge_off, mj_F_if_icmp_ne_off, mj_F_iinc_k_n, mj_F_iload_n_k, mj_F_ireturn, mj_F_istore_n_k, mj_set, mj_set0, mj_unk, mj_c2, mj_kc, glX0, mj_st0, mj_st1, mj_st2, mj_lk_hit, mj_lk_miss, mj_nk, mj_isA, J_X0_labelOf]
  exact (ok_some hw :)

set_option maxHeartbeats 4000000 in
set_option maxRecDepth 20000 in
theorem g_X0_labelOf_19 {k : Option Value → mj_H → Prop} {G : mj_K} (hG : mj_cl2 cX0_labelOf (TbX0 2 ((some FieldType.int)) []) k G) {h : mj_H}   {v1 : Int32} (hw : ok (F_X0_labelOf_19 v1) (fun p => k (some (.int p)) h)) : G 19 [mj_unk, .int v1] [] h 0 0 := by
  unfold F_X0_labelOf_19 at hw
  refine mj_run hG.1 (fun pc => pc == 2 || pc == 19 || pc == 27) 4000 ?_
  simp only [mj_step, mj_W_s, mj_fin, List.getElem?_cons_zero, List.getElem?_cons_succ, mj_go, Nat.reduceAdd, Nat.reduceSub, Nat.reduceLT, Nat.reduceLeDiff, Nat.zero_add, Nat.reduceEqDiff, Nat.reduceBEq, ↓reduceIte, Bool.false_eq_true, List.append_nil, List.nil_append, List.cons_append, Option.toList, and_true, true_and, true_or, or_true, reduceCtorEq, List.map_nil, bI_eq0, bI_eq1, bool_ft, pk_us, vnar0, vnar1, Bool.or_false, Bool.or_true, Bool.false_or, Bool.true_or, mj_kne, eq_self, Int32.reduceLT, Int32.reduceLE, Int32.reduceAdd, Int32.reduceSub, Int32.reduceMul, not_true_eq_false, not_false_eq_true, false_implies, true_implies, D_X0_labelOf, mj_F_arraylength, mj_F_getstatic_i, mj_F_goto_off, mj_F_iaload, mj_F_iconst_n, mj_F_if_icmp_ge_off, mj_F_if_icmp_ne_off, mj_F_iinc_k_n, mj_F_iload_n_k, mj_F_ireturn, mj_F_istore_n_k, mj_set, mj_set0, mj_unk, mj_c2, mj_kc, glX0, mj_st0, mj_st1, mj_st2, mj_lk_hit, mj_lk_miss, mj_nk, mj_isA, J_X0_labelOf]
  exact (ok_some hw :)

set_option maxHeartbeats 4000000 in
theorem g_X0_labelOf_2 {k : Option Value → mj_H → Prop} {G : mj_K} (hG : mj_cl2 cX0_labelOf (TbX0 2 ((some FieldType.int)) []) k G) {h : mj_H}   {v0 : Int32} {v1 : Int32} (hw : ok (F_X0_labelOf_2 v0 v1) (fun p => k (some (.int p)) h)) : G 2 [.int v0, .int v1] [] h 0 0 := by
  unfold F_X0_labelOf_2 at hw
  refine lp_ok (B_X0_labelOf_2 v0) (fun x => G 2 [.int v0, .int x] [] h 0 0) _ ?_ _ _ (ok_bind hw)
  rintro v1 hb
  exact b_X0_labelOf_2 hG (fun _ z => z) (fun y hw => by exact hG.2 _ _ _ _ _ _ _ _ _ (by exact trivial) (Nat.zero_le _) (Nat.zero_le _) (g_X0_labelOf_27 hG  hw :)) (fun y hw => by exact hG.2 _ _ _ _ _ _ _ _ _ (by refine ⟨Or.inl rfl, ?_⟩; refine ⟨Or.inr rfl, ?_⟩; exact trivial) (Nat.zero_le _) (Nat.zero_le _) (g_X0_labelOf_19 hG  hw :)) hb

set_option maxHeartbeats 4000000 in
set_option maxRecDepth 20000 in
theorem g_X0_labelOf {k : Option Value → mj_H → Prop} {G : mj_K} (hG : mj_cl2 cX0_labelOf (TbX0 2 ((some FieldType.int)) []) k G) {h : mj_H} {v0 : Int32} (hw : ok (F_X0_labelOf v0) (fun p => k (some (.int p)) h)) : G 0 [.int v0] [] h 0 0 := by
  unfold F_X0_labelOf at hw
  refine mj_run hG.1 (fun pc => pc == 2 || pc == 19 || pc == 27) 4000 ?_
  simp only [mj_step, mj_W_s, mj_fin, List.getElem?_cons_zero, List.getElem?_cons_succ, mj_go, Nat.reduceAdd, Nat.reduceSub, Nat.reduceLT, Nat.reduceLeDiff, Nat.zero_add, Nat.reduceEqDiff, Nat.reduceBEq, ↓reduceIte, Bool.false_eq_true, List.append_nil, List.nil_append, List.cons_append, Option.toList, and_true, true_and, true_or, or_true, reduceCtorEq, List.map_nil, bI_eq0, bI_eq1, bool_ft, pk_us, vnar0, vnar1, Bool.or_false, Bool.or_true, Bool.false_or, Bool.true_or, mj_kne, eq_self, Int32.reduceLT, Int32.reduceLE, Int32.reduceAdd, Int32.reduceSub, Int32.reduceMul, not_true_eq_false, not_false_eq_true, false_implies, true_implies, D_X0_labelOf, mj_F_arraylength, mj_F_getstatic_i, mj_F_goto_off, mj_F_iaload, mj_F_iconst_n, mj_F_if_icmp_ge_off, mj_F_if_icmp_ne_off, mj_F_iinc_k_n, mj_F_iload_n_k, mj_F_ireturn, mj_F_istore_n_k, mj_set, mj_set0, mj_unk, mj_c2, mj_kc, glX0, mj_st0, mj_st1, mj_st2, mj_lk_hit, mj_lk_miss, mj_nk, mj_isA, J_X0_labelOf]
  exact hG.2 _ _ _ _ _ _ _ _ _ (by refine ⟨Or.inr rfl, ?_⟩; refine ⟨Or.inr rfl, ?_⟩; exact trivial) (Nat.zero_le _) (Nat.zero_le _) (g_X0_labelOf_2 hG  hw :)

def c_X0_labelOf : mj_S := fun as h k => ∃ (v0 : Int32), as = [.int v0] ∧ ok (F_X0_labelOf v0) (fun p => k (some (.int p)) h)
theorem c_X0_labelOf_in {v0 : Int32} {h : mj_H} {k : Option Value → mj_H → Prop} (hw : ok (F_X0_labelOf v0) (fun p => k (some (.int p)) h)) : c_X0_labelOf [.int v0] h k := ⟨v0, rfl, hw⟩
theorem m_X0_labelOf (l : Launch) : mj_Met l yX0_labelOf cX0_labelOf 2 ((some FieldType.int)) 0 0 0 c_X0_labelOf := by
  refine mj_body2 false (TbX0 2 ((some FieldType.int)) []) (by decide) rfl rfl (fun h => nomatch h) (tfX0 _ (fun _ h => nomatch h)) ?_
  rintro as h k ⟨v0, rfl, hw⟩
  exact ⟨rfl, fun G hG => g_X0_labelOf hG hw⟩
def F_X9_want (v1 : Int32) (s : St) : Option (St) :=
  (F_X9_peek s).bind fun r1 =>
  if r1.1 = v1 then
    (wI r1.2 902 ((r1.2.1 902) + 1)).bind fun s3 =>
    some s3
  else
    (F_X9_fail r1.2).bind fun s2 =>
    some s2
theorem J_X9_want : mj_t 5 16 = 21 ∧ mj_t 18 7 = 25 ∧ (0 ≤ ((5 : Nat) : Int) + 16) = True ∧ (0 ≤ ((18 : Nat) : Int) + 7) = True := by and_intros <;> first | rfl | exact eq_true (by decide)
def ct_X9_want : List (Nat × mj_Cs) := [(50, 0, 1, 9, 0, 0, c_X9_peek), (54, 0, 1, 9, 0, 0, c_X9_fail)]
theorem L_X9_want : mj_lk ct_X9_want 50 = some (0, 1, 9, 0, 0, c_X9_peek) ∧ mj_lk ct_X9_want 54 = some (0, 1, 9, 0, 0, c_X9_fail) := ⟨rfl, rfl⟩
set_option maxHeartbeats 4000000 in
set_option maxRecDepth 20000 in
theorem g_X9_want {k : Option Value → mj_H → Prop} {G : mj_K} (hG : mj_cl2 cX9_want (TbX9 2 (none) ct_X9_want) k G) {v1 : Int32} {s : St} (hw : ok (F_X9_want v1 s) (fun p => k none (mkCs p))) : G 0 [.ref 7, .int v1] [] (mkCs s) 0 0 := by
  unfold F_X9_want at hw
  refine mj_run hG.1 (fun pc => pc == 4 || pc == 25) 4000 ?_
  simp only [mj_step, mj_W_s, mj_fin, List.getElem?_cons_zero, List.getElem?_cons_succ, mj_go, Nat.reduceAdd, Nat.reduceSub, Nat.reduceLT, Nat.reduceLeDiff, Nat.zero_add, Nat.reduceEqDiff, Nat.reduceBEq, ↓reduceIte, Bool.false_eq_true, List.append_nil, List.nil_append, List.cons_append, Option.toList, and_true, true_and, true_or, or_true, reduceCtorEq, List.map_nil, bI_eq0, bI_eq1, bool_ft, pk_us, vnar0, vnar1, Bool.or_false, Bool.or_true, Bool.false_or, Bool.true_or, mj_kne, eq_self, Int32.reduceLT, Int32.reduceLE, Int32.reduceAdd, Int32.reduceSub, Int32.reduceMul, not_true_eq_false, not_false_eq_true, false_implies, true_implies, D_X9_want, mj_F_aload_n_k, mj_F_dup, mj_F_getfield_i, mj_F_goto_off, mj_F_iadd, mj_F_iconst_n, mj_F_if_icmp_ne_off, mj_F_iload_n_k, mj_F_invokevirtual_i, mj_F_putfield_i, mj_F_return_, mj_c2, mj_kc, FT_X9, PT_X9, L_X9_want, List.take_succ_cons, List.take_zero, List.drop_succ_cons, List.drop_zero, List.reverse_cons, List.reverse_nil, List.length_cons, List.length_nil, gS_C7, gCf9_2, sS_Cf_9_2, gCf9len, J_X9_want]
  refine c_X9_peek_in (ok_imp (ok_bind hw) ?_)
  intro p hw
  simp only [Option.toList, List.nil_append, List.cons_append, Nat.reduceSub]
  refine mj_run hG.1 (fun pc => pc == 4 || pc == 25) 4000 ?_
  simp only [mj_step, mj_W_s, mj_fin, List.getElem?_cons_zero, List.getElem?_cons_succ, mj_go, Nat.reduceAdd, Nat.reduceSub, Nat.reduceLT, Nat.reduceLeDiff, Nat.zero_add, Nat.reduceEqDiff, Nat.reduceBEq, ↓reduceIte, Bool.false_eq_true, List.append_nil, List.nil_append, List.cons_append, Option.toList, and_true, true_and, true_or, or_true, reduceCtorEq, List.map_nil, bI_eq0, bI_eq1, bool_ft, pk_us, vnar0, vnar1, Bool.or_false, Bool.or_true, Bool.false_or, Bool.true_or, mj_kne, eq_self, Int32.reduceLT, Int32.reduceLE, Int32.reduceAdd, Int32.reduceSub, Int32.reduceMul, not_true_eq_false, not_false_eq_true, false_implies, true_implies, D_X9_want, mj_F_aload_n_k, mj_F_dup, mj_F_getfield_i, mj_F_goto_off, mj_F_iadd, mj_F_iconst_n, mj_F_if_icmp_ne_off, mj_F_iload_n_k, mj_F_invokevirtual_i, mj_F_putfield_i, mj_F_return_, mj_c2, mj_kc, FT_X9, PT_X9, L_X9_want, List.take_succ_cons, List.take_zero, List.drop_succ_cons, List.drop_zero, List.reverse_cons, List.reverse_nil, List.length_cons, List.length_nil, gS_C7, gCf9_2, sS_Cf_9_2, gCf9len, J_X9_want]
  refine ⟨fun c => ?_, fun c => ?_⟩
  · replace hw := ok_f hw c
    refine c_X9_fail_in (ok_imp (ok_bind hw) ?_)
    intro p hw
    simp only [Option.toList, List.nil_append, List.cons_append, Nat.reduceSub]
    refine mj_run hG.1 (fun pc => pc == 4 || pc == 25) 4000 ?_
    simp only [mj_step, mj_W_s, mj_fin, List.getElem?_cons_zero, List.getElem?_cons_succ, mj_go, Nat.reduceAdd, Nat.reduceSub, Nat.reduceLT, Nat.reduceLeDiff, Nat.zero_add, Nat.reduceEqDiff, Nat.reduceBEq, ↓reduceIte, Bool.false_eq_true, List.append_nil, List.nil_append, List.cons_append, Option.toList, and_true, true_and, true_or, or_true, reduceCtorEq, List.map_nil, bI_eq0, bI_eq1, bool_ft, pk_us, vnar0, vnar1, Bool.or_false, Bool.or_true, Bool.false_or, Bool.true_or, mj_kne, eq_self, Int32.reduceLT, Int32.reduceLE, Int32.reduceAdd, Int32.reduceSub, Int32.reduceMul, not_true_eq_false, not_false_eq_true, false_implies, true_implies, D_X9_want, mj_F_aload_n_k, mj_F_dup, mj_F_getfield_i, mj_F_goto_off, mj_F_iadd, mj_F_iconst_n, mj_F_if_icmp_ne_off, mj_F_iload_n_k, mj_F_invokevirtual_i, mj_F_putfield_i, mj_F_return_, mj_c2, mj_kc, FT_X9, PT_X9, L_X9_want, List.take_succ_cons, List.take_zero, List.drop_succ_cons, List.drop_zero, List.reverse_cons, List.reverse_nil, List.length_cons, List.length_nil, gS_C7, gCf9_2, sS_Cf_9_2, gCf9len, J_X9_want]
    exact (ok_some hw :)
  · replace hw := ok_t hw c
    replace hw := ok_wI hw
    refine mj_run hG.1 (fun pc => pc == 4 || pc == 25) 4000 ?_
    simp only [mj_step, mj_W_s, mj_fin, List.getElem?_cons_zero, List.getElem?_cons_succ, mj_go, Nat.reduceAdd, Nat.reduceSub, Nat.reduceLT, Nat.reduceLeDiff, Nat.zero_add, Nat.reduceEqDiff, Nat.reduceBEq, ↓reduceIte, Bool.false_eq_true, List.append_nil, List.nil_append, List.cons_append, Option.toList, and_true, true_and, true_or, or_true, reduceCtorEq, List.map_nil, bI_eq0, bI_eq1, bool_ft, pk_us, vnar0, vnar1, Bool.or_false, Bool.or_true, Bool.false_or, Bool.true_or, mj_kne, eq_self, Int32.reduceLT, Int32.reduceLE, Int32.reduceAdd, Int32.reduceSub, Int32.reduceMul, not_true_eq_false, not_false_eq_true, false_implies, true_implies, D_X9_want, mj_F_aload_n_k, mj_F_dup, mj_F_getfield_i, mj_F_goto_off, mj_F_iadd, mj_F_iconst_n, mj_F_if_icmp_ne_off, mj_F_iload_n_k, mj_F_invokevirtual_i, mj_F_putfield_i, mj_F_return_, mj_c2, mj_kc, FT_X9, PT_X9, L_X9_want, List.take_succ_cons, List.take_zero, List.drop_succ_cons, List.drop_zero, List.reverse_cons, List.reverse_nil, List.length_cons, List.length_nil, gS_C7, gCf9_2, sS_Cf_9_2, gCf9len, J_X9_want]
    exact (ok_some hw :)

def c_X9_want : mj_S := fun as h k => ∃ (v1 : Int32) (s : St), as = [.ref 7, .int v1] ∧ h = mkCs s ∧ ok (F_X9_want v1 s) (fun p => k none (mkCs p))
theorem c_X9_want_in {v1 : Int32} {s : St} {k : Option Value → mj_H → Prop} (hw : ok (F_X9_want v1 s) (fun p => k none (mkCs p))) : c_X9_want [.ref 7, .int v1] (mkCs s) k := ⟨v1, s, rfl, rfl, hw⟩
theorem m_X9_want (l : Launch) : mj_Met l yX9_want cX9_want 2 (none) 1 0 0 c_X9_want := by
  refine mj_body2 false (TbX9 2 (none) ct_X9_want) (by decide) rfl rfl (fun h => nomatch h) (tfX9 _ (List.forall_mem_cons.mpr ⟨cfX9_50 (m_X9_peek l) (by decide), List.forall_mem_cons.mpr ⟨cfX9_54 (m_X9_fail l) (by decide), fun _ h => nomatch h⟩⟩)) ?_
  rintro as h k ⟨v1, s, rfl, rfl, hw⟩
  exact ⟨rfl, fun G hG => g_X9_want hG hw⟩
def F_X9_emit (v1 : Int32) (s : St) : Option (St) :=
  if 160 ≤ (s.1 906) then
    some s
  else
    (wr s 905 160 (s.1 906) v1).bind fun s1 =>
    (wI s1 906 ((s1.1 906) + 1)).bind fun s2 =>
    some s2
theorem J_X9_emit : mj_t 9 23 = 32 ∧ (0 ≤ ((9 : Nat) : Int) + 23) = True := by and_intros <;> first | rfl | exact eq_true (by decide)
set_option maxHeartbeats 4000000 in
set_option maxRecDepth 20000 in
theorem g_X9_emit {k : Option Value → mj_H → Prop} {G : mj_K} (hG : mj_cl2 cX9_emit (TbX9 2 (none) []) k G) {v1 : Int32} {s : St} (hw : ok (F_X9_emit v1 s) (fun p => k none (mkCs p))) : G 0 [.ref 7, .int v1] [] (mkCs s) 0 0 := by
  unfold F_X9_emit at hw
  refine mj_run hG.1 (fun _ => false) 4000 ?_
  simp only [mj_step, mj_W_s, mj_fin, List.getElem?_cons_zero, List.getElem?_cons_succ, mj_go, Nat.reduceAdd, Nat.reduceSub, Nat.reduceLT, Nat.reduceLeDiff, Nat.zero_add, Nat.reduceEqDiff, Nat.reduceBEq, ↓reduceIte, Bool.false_eq_true, List.append_nil, List.nil_append, List.cons_append, Option.toList, and_true, true_and, true_or, or_true, reduceCtorEq, List.map_nil, bI_eq0, bI_eq1, bool_ft, pk_us, vnar0, vnar1, Bool.or_false, Bool.or_true, Bool.false_or, Bool.true_or, mj_kne, eq_self, Int32.reduceLT, Int32.reduceLE, Int32.reduceAdd, Int32.reduceSub, Int32.reduceMul, not_true_eq_false, not_false_eq_true, false_implies, true_implies, D_X9_emit, mj_F_aload_n_k, mj_F_arraylength, mj_F_dup, mj_F_getfield_i, mj_F_iadd, mj_F_iastore, mj_F_iconst_n, mj_F_if_icmp_ge_off, mj_F_iload_n_k, mj_F_putfield_i, mj_F_return_, mj_c2, mj_kc, FT_X9, PT_X9, gS_C7, gCf9_6, gCf9_5, gS_C9, sS_Ca_9, sS_Cf_9_6, gCf9len, mj_nk, mj_isA, J_X9_emit]
  refine ⟨fun c => ?_, fun c => ?_⟩
  · replace hw := ok_t hw c
    exact (ok_some hw :)
  · replace hw := ok_f hw c
    refine ⟨(ok_wr hw).1, ?_⟩
    replace hw := (ok_wr hw).2
    replace hw := ok_wI hw
    exact (ok_some hw :)

def c_X9_emit : mj_S := fun as h k => ∃ (v1 : Int32) (s : St), as = [.ref 7, .int v1] ∧ h = mkCs s ∧ ok (F_X9_emit v1 s) (fun p => k none (mkCs p))
theorem c_X9_emit_in {v1 : Int32} {s : St} {k : Option Value → mj_H → Prop} (hw : ok (F_X9_emit v1 s) (fun p => k none (mkCs p))) : c_X9_emit [.ref 7, .int v1] (mkCs s) k := ⟨v1, s, rfl, rfl, hw⟩
theorem m_X9_emit (l : Launch) : mj_Met l yX9_emit cX9_emit 2 (none) 0 0 0 c_X9_emit := by
  refine mj_body2 false (TbX9 2 (none) []) (by decide) rfl rfl (fun h => nomatch h) (tfX9 _ (fun _ h => nomatch h)) ?_
  rintro as h k ⟨v1, s, rfl, rfl, hw⟩
  exact ⟨rfl, fun G hG => g_X9_emit hG hw⟩
def B_X9_readNumber_4  : Int32 × Int32 × St → Option ((Int32 × Int32 × St) ⊕ ((Int32 × St)))
  | (v1, v2, s) =>
  if 4 ≤ v2 then
    some (.inr (v1, s))
  else
    if (s.1 901) ≤ (s.1 902) then
      some (.inr (v1, s))
    else
      (rd s 900 160 (s.1 902)).bind fun x1 =>
      if inb x1 48 57 = false then
        some (.inr (v1, s))
      else
        (rd s 900 160 (s.1 902)).bind fun x2 =>
        (wI s 902 ((s.1 902) + 1)).bind fun s3 =>
        some (.inl ((((10 * v1) + x2) - 48), (v2 + 1), s3))
def F_X9_readNumber_69 (v1 : Int32) (s : St) : Option (St) :=
  if (s.1 901) ≤ (s.1 902) then
    (F_X9_emit v1 s).bind fun s4 =>
    some s4
  else
    (rd s 900 160 (s.1 902)).bind fun x5 =>
    if inb x5 48 57 = false then
      (F_X9_emit v1 s).bind fun s6 =>
      some s6
    else
      (F_X9_fail s).bind fun s7 =>
      (F_X9_emit v1 s7).bind fun s8 =>
      some s8
def F_X9_readNumber_4 (v1 : Int32) (v2 : Int32) (s : St) : Option (St) :=
  (lp (B_X9_readNumber_4 ) FU (v1, v2, s)).bind (fun y => F_X9_readNumber_69 y.1 y.2)
def F_X9_readNumber (s : St) : Option (St) :=
  F_X9_readNumber_4 0 0 s
theorem J_X9_readNumber : mj_t 6 63 = 69 ∧ mj_t 17 52 = 69 ∧ mj_t 32 37 = 69 ∧ mj_t 66 (-62) = 4 ∧ mj_t 77 22 = 99 ∧ mj_t 92 7 = 99 ∧ (0 ≤ ((6 : Nat) : Int) + 63) = True ∧ (0 ≤ ((17 : Nat) : Int) + 52) = True ∧ (0 ≤ ((32 : Nat) : Int) + 37) = True ∧ (0 ≤ ((66 : Nat) : Int) + (-62)) = True ∧ (0 ≤ ((77 : Nat) : Int) + 22) = True ∧ (0 ≤ ((92 : Nat) : Int) + 7) = True := by and_intros <;> first | rfl | exact eq_true (by decide)
def ct_X9_readNumber : List (Nat × mj_Cs) := [(54, 0, 1, 9, 0, 0, c_X9_fail), (84, 0, 2, 9, 0, 0, c_X9_emit), (100, 2, 1, 9, 0, 0, c_isDigit)]
theorem L_X9_readNumber : mj_lk ct_X9_readNumber 54 = some (0, 1, 9, 0, 0, c_X9_fail) ∧ mj_lk ct_X9_readNumber 84 = some (0, 2, 9, 0, 0, c_X9_emit) ∧ mj_lk ct_X9_readNumber 100 = some (2, 1, 9, 0, 0, c_isDigit) := ⟨rfl, rfl, rfl⟩
set_option maxHeartbeats 4000000 in
set_option maxRecDepth 20000 in
theorem b_X9_readNumber_4 {k : Option Value → mj_H → Prop} {G : mj_K} (hG : mj_cl2 cX9_readNumber (TbX9 3 (none) ct_X9_readNumber) k G)  {P : Int32 × Int32 × St → Prop} {K : (Int32 × St) → Prop} (hP : ∀ x, P x → G 4 [.ref 7, .int x.1, .int x.2.1] [] (mkCs x.2.2) 0 0) (hK0 : ∀ y, K y → G 69 [.ref 7, .int y.1] [] (mkCs y.2) 0 0) {v1 : Int32} {v2 : Int32} {s : St} (hw : ok (B_X9_readNumber_4  (v1, v2, s)) (Sum.elim P K)) : G 4 [.ref 7, .int v1, .int v2] [] (mkCs s) 0 0 := by
  unfold B_X9_readNumber_4 at hw
  refine mj_run hG.1 (fun pc => pc == 4 || pc == 69 || pc == 99 || pc == 104) 4000 ?_
  simp only [mj_step, mj_W_s, mj_fin, List.getElem?_cons_zero, List.getElem?_cons_succ, mj_go, Nat.reduceAdd, Nat.reduceSub, Nat.reduceLT, Nat.reduceLeDiff, Nat.zero_add, Nat.reduceEqDiff, Nat.reduceBEq, ↓reduceIte, Bool.false_eq_true, List.append_nil, List.nil_append, List.cons_append, Option.toList, and_true, true_and, true_or, or_true, reduceCtorEq, List.map_nil, bI_eq0, bI_eq1, bool_ft, pk_us, vnar0, vnar1, Bool.or_false, Bool.or_true, Bool.false_or, Bool.true_or, mj_kne, eq_self, Int32.reduceLT, Int32.reduceLE, Int32.reduceAdd, Int32.reduceSub, Int32.reduceMul, not_true_eq_false, not_false_eq_true, false_implies, true_implies, D_X9_readNumber_0, D_X9_readNumber_1, mj_F_aload_n_k, mj_F_bipush_n, mj_F_dup, mj_F_getfield_i, mj_F_goto_off, mj_F_iadd, mj_F_iaload, mj_F_iconst_n, mj_F_ifCond_eq_off, mj_F_if_icmp_ge_off, mj_F_iinc_k_n, mj_F_iload_n_k, mj_F_imul, mj_F_invokestatic_i, mj_F_invokevirtual_i, mj_F_istore_n_k, mj_F_isub, mj_F_putfield_i, mj_F_return_, mj_set, mj_set0, mj_unk, mj_c2, mj_kc, FT_X9, PT_X9, L_X9_readNumber, List.take_succ_cons, List.take_zero, List.drop_succ_cons, List.drop_zero, List.reverse_cons, List.reverse_nil, List.length_cons, List.length_nil, gS_C7, gCf9_2, gCf9_1, gCf9_0, gS_C8, sS_Ca_8, sS_Cf_9_2, gCf9len, c_isDigit_eq, J_X9_readNumber]
  refine ⟨fun c => ?_, fun c => ?_⟩
  · replace hw := ok_t hw c
    exact hG.2 _ _ _ _ _ _ _ _ _ (by refine ⟨Or.inr rfl, ?_⟩; refine ⟨Or.inr rfl, ?_⟩; exact trivial) (Nat.zero_le _) (Nat.zero_le _) (hK0 _ (ok_some hw :) :)
  · replace hw := ok_f hw c
    refine ⟨fun c => ?_, fun c => ?_⟩
    · replace hw := ok_t hw c
      exact hG.2 _ _ _ _ _ _ _ _ _ (by refine ⟨Or.inr rfl, ?_⟩; refine ⟨Or.inr rfl, ?_⟩; exact trivial) (Nat.zero_le _) (Nat.zero_le _) (hK0 _ (ok_some hw :) :)
    · replace hw := ok_f hw c
      refine ⟨(ok_rd hw).1, ?_⟩
      replace hw := (ok_rd hw).2
      refine ⟨fun c => ?_, fun c => ?_⟩
      · replace hw := ok_t hw c
        exact hG.2 _ _ _ _ _ _ _ _ _ (by refine ⟨Or.inr rfl, ?_⟩; refine ⟨Or.inr rfl, ?_⟩; exact trivial) (Nat.zero_le _) (Nat.zero_le _) (hK0 _ (ok_some hw :) :)
      · replace hw := ok_f hw c
        refine ⟨(ok_rd hw).1, ?_⟩
        replace hw := (ok_rd hw).2
        replace hw := ok_wI hw
        exact hG.2 _ _ _ _ _ _ _ _ _ (by refine ⟨Or.inr rfl, ?_⟩; refine ⟨Or.inr rfl, ?_⟩; refine ⟨Or.inr rfl, ?_⟩; exact trivial) (Nat.zero_le _) (Nat.zero_le _) (hP _ (ok_some hw :) :)

set_option maxHeartbeats 4000000 in
set_option maxRecDepth 20000 in
theorem g_X9_readNumber_69 {k : Option Value → mj_H → Prop} {G : mj_K} (hG : mj_cl2 cX9_readNumber (TbX9 3 (none) ct_X9_readNumber) k G)   {v1 : Int32} {s : St} (hw : ok (F_X9_readNumber_69 v1 s) (fun p => k none (mkCs p))) : G 69 [.ref 7, .int v1] [] (mkCs s) 0 0 := by
  unfold F_X9_readNumber_69 at hw
  refine mj_run hG.1 (fun pc => pc == 4 || pc == 69 || pc == 99 || pc == 104) 4000 ?_
  simp only [mj_step, mj_W_s, mj_fin, List.getElem?_cons_zero, List.getElem?_cons_succ, mj_go, Nat.reduceAdd, Nat.reduceSub, Nat.reduceLT, Nat.reduceLeDiff, Nat.zero_add, Nat.reduceEqDiff, Nat.reduceBEq, ↓reduceIte, Bool.false_eq_true, List.append_nil, List.nil_append, List.cons_append, Option.toList, and_true, true_and, true_or, or_true, reduceCtorEq, List.map_nil, bI_eq0, bI_eq1, bool_ft, pk_us, vnar0, vnar1, Bool.or_false, Bool.or_true, Bool.false_or, Bool.true_or, mj_kne, eq_self, Int32.reduceLT, Int32.reduceLE, Int32.reduceAdd, Int32.reduceSub, Int32.reduceMul, not_true_eq_false, not_false_eq_true, false_implies, true_implies, D_X9_readNumber_0, D_X9_readNumber_1, mj_F_aload_n_k, mj_F_bipush_n, mj_F_dup, mj_F_getfield_i, mj_F_goto_off, mj_F_iadd, mj_F_iaload, mj_F_iconst_n, mj_F_ifCond_eq_off, mj_F_if_icmp_ge_off, mj_F_iinc_k_n, mj_F_iload_n_k, mj_F_imul, mj_F_invokestatic_i, mj_F_invokevirtual_i, mj_F_istore_n_k, mj_F_isub, mj_F_putfield_i, mj_F_return_, mj_set, mj_set0, mj_unk, mj_c2, mj_kc, FT_X9, PT_X9, L_X9_readNumber, List.take_succ_cons, List.take_zero, List.drop_succ_cons, List.drop_zero, List.reverse_cons, List.reverse_nil, List.length_cons, List.length_nil, gS_C7, gCf9_2, gCf9_1, gCf9_0, gS_C8, sS_Ca_8, sS_Cf_9_2, gCf9len, c_isDigit_eq, J_X9_readNumber]
  refine ⟨fun c => ?_, fun c => ?_⟩
  · replace hw := ok_t hw c
    refine mj_run hG.1 (fun pc => pc == 4 || pc == 69 || pc == 99 || pc == 104) 4000 ?_
    simp only [mj_step, mj_W_s, mj_fin, List.getElem?_cons_zero, List.getElem?_cons_succ, mj_go, Nat.reduceAdd, Nat.reduceSub, Nat.reduceLT, Nat.reduceLeDiff, Nat.zero_add, Nat.reduceEqDiff, Nat.reduceBEq, ↓reduceIte, Bool.false_eq_true, List.append_nil, List.nil_append, List.cons_append, Option.toList, and_true, true_and, true_or, or_true, reduceCtorEq, List.map_nil, bI_eq0, bI_eq1, bool_ft, pk_us, vnar0, vnar1, Bool.or_false, Bool.or_true, Bool.false_or, Bool.true_or, mj_kne, eq_self, Int32.reduceLT, Int32.reduceLE, Int32.reduceAdd, Int32.reduceSub, Int32.reduceMul, not_true_eq_false, not_false_eq_true, false_implies, true_implies, D_X9_readNumber_0, D_X9_readNumber_1, mj_F_aload_n_k, mj_F_bipush_n, mj_F_dup, mj_F_getfield_i, mj_F_goto_off, mj_F_iadd, mj_F_iaload, mj_F_iconst_n, mj_F_ifCond_eq_off, mj_F_if_icmp_ge_off, mj_F_iinc_k_n, mj_F_iload_n_k, mj_F_imul, mj_F_invokestatic_i, mj_F_invokevirtual_i, mj_F_istore_n_k, mj_F_isub, mj_F_putfield_i, mj_F_return_, mj_set, mj_set0, mj_unk, mj_c2, mj_kc, FT_X9, PT_X9, L_X9_readNumber, List.take_succ_cons, List.take_zero, List.drop_succ_cons, List.drop_zero, List.reverse_cons, List.reverse_nil, List.length_cons, List.length_nil, gS_C7, gCf9_2, gCf9_1, gCf9_0, gS_C8, sS_Ca_8, sS_Cf_9_2, gCf9len, c_isDigit_eq, J_X9_readNumber]
    refine c_X9_emit_in (ok_imp (ok_bind hw) ?_)
    intro p hw
    simp only [Option.toList, List.nil_append, List.cons_append, Nat.reduceSub]
    refine mj_run hG.1 (fun pc => pc == 4 || pc == 69 || pc == 99 || pc == 104) 4000 ?_
    simp only [mj_step, mj_W_s, mj_fin, List.getElem?_cons_zero, List.getElem?_cons_succ, mj_go, Nat.reduceAdd, Nat.reduceSub, Nat.reduceLT, Nat.reduceLeDiff, Nat.zero_add, Nat.reduceEqDiff, Nat.reduceBEq, ↓reduceIte, Bool.false_eq_true, List.append_nil, List.nil_append, List.cons_append, Option.toList, and_true, true_and, true_or, or_true, reduceCtorEq, List.map_nil, bI_eq0, bI_eq1, bool_ft, pk_us, vnar0, vnar1, Bool.or_false, Bool.or_true, Bool.false_or, Bool.true_or, mj_kne, eq_self, Int32.reduceLT, Int32.reduceLE, Int32.reduceAdd, Int32.reduceSub, Int32.reduceMul, not_true_eq_false, not_false_eq_true, false_implies, true_implies, D_X9_readNumber_0, D_X9_readNumber_1, mj_F_aload_n_k, mj_F_bipush_n, mj_F_dup, mj_F_getfield_i, mj_F_goto_off, mj_F_iadd, mj_F_iaload, mj_F_iconst_n, mj_F_ifCond_eq_off, mj_F_if_icmp_ge_off, mj_F_iinc_k_n, mj_F_iload_n_k, mj_F_imul, mj_F_invokestatic_i, mj_F_invokevirtual_i, mj_F_istore_n_k, mj_F_isub, mj_F_putfield_i, mj_F_return_, mj_set, mj_set0, mj_unk, mj_c2, mj_kc, FT_X9, PT_X9, L_X9_readNumber, List.take_succ_cons, List.take_zero, List.drop_succ_cons, List.drop_zero, List.reverse_cons, List.reverse_nil, List.length_cons, List.length_nil, gS_C7, gCf9_2, gCf9_1, gCf9_0, gS_C8, sS_Ca_8, sS_Cf_9_2, gCf9len, c_isDigit_eq, J_X9_readNumber]
    exact (ok_some hw :)
  · replace hw := ok_f hw c
    refine ⟨(ok_rd hw).1, ?_⟩
    replace hw := (ok_rd hw).2
    refine ⟨fun c => ?_, fun c => ?_⟩
    · replace hw := ok_t hw c
      refine mj_run hG.1 (fun pc => pc == 4 || pc == 69 || pc == 99 || pc == 104) 4000 ?_
      simp only [mj_step, mj_W_s, mj_fin, List.getElem?_cons_zero, List.getElem?_cons_succ, mj_go, Nat.reduceAdd, Nat.reduceSub, Nat.reduceLT, Nat.reduceLeDiff, Nat.zero_add, Nat.reduceEqDiff, Nat.reduceBEq, ↓reduceIte, Bool.false_eq_true, List.append_nil, List.nil_append, List.cons_append, Option.toList, and_true, true_and, true_or, or_true, reduceCtorEq, List.map_nil, bI_eq0, bI_eq1, bool_ft, pk_us, vnar0, vnar1, Bool.or_false, Bool.or_true, Bool.false_or, Bool.true_or, mj_kne, eq_self, Int32.reduceLT, Int32.reduceLE, Int32.reduceAdd, Int32.reduceSub, Int32.reduceMul, not_true_eq_false, not_false_eq_true, false_implies, true_implies, D_X9_readNumber_0, D_X9_readNumber_1, mj_F_aload_n_k, mj_F_bipush_n, mj_F_dup, mj_F_getfield_i, mj_F_goto_off, mj_F_iadd, mj_F_iaload, mj_F_iconst_n, mj_F_ifCond_eq_off, mj_F_if_icmp_ge_off, mj_F_iinc_k_n, mj_F_iload_n_k, mj_F_imul, mj_F_invokestatic_i, mj_F_invokevirtual_i, mj_F_istore_n_k, mj_F_isub, mj_F_putfield_i, mj_F_return_, mj_set, mj_set0, mj_unk, mj_c2, mj_kc, FT_X9, PT_X9, L_X9_readNumber, List.take_succ_cons, List.take_zero, List.drop_succ_cons, List.drop_zero, List.reverse_cons, List.reverse_nil, List.length_cons, List.length_nil, gS_C7, gCf9_2, gCf9_1, gCf9_0, gS_C8, sS_Ca_8, sS_Cf_9_2, gCf9len, c_isDigit_eq, J_X9_readNumber]
      refine c_X9_emit_in (ok_imp (ok_bind hw) ?_)
      intro p hw
      simp only [Option.toList, List.nil_append, List.cons_append, Nat.reduceSub]
      refine mj_run hG.1 (fun pc => pc == 4 || pc == 69 || pc == 99 || pc == 104) 4000 ?_
      simp only [mj_step, mj_W_s, mj_fin, List.getElem?_cons_zero, List.getElem?_cons_succ, mj_go, Nat.reduceAdd, Nat.reduceSub, Nat.reduceLT, Nat.reduceLeDiff, Nat.zero_add, Nat.reduceEqDiff, Nat.reduceBEq, ↓reduceIte, Bool.false_eq_true, List.append_nil, List.nil_append, List.cons_append, Option.toList, and_true, true_and, true_or, or_true, reduceCtorEq, List.map_nil, bI_eq0, bI_eq1, bool_ft, pk_us, vnar0, vnar1, Bool.or_false, Bool.or_true, Bool.false_or, Bool.true_or, mj_kne, eq_self, Int32.reduceLT, Int32.reduceLE, Int32.reduceAdd, Int32.reduceSub, Int32.reduceMul, not_true_eq_false, not_false_eq_true, false_implies, true_implies, D_X9_readNumber_0, D_X9_readNumber_1, mj_F_aload_n_k, mj_F_bipush_n, mj_F_dup, mj_F_getfield_i, mj_F_goto_off, mj_F_iadd, mj_F_iaload, mj_F_iconst_n, mj_F_ifCond_eq_off, mj_F_if_icmp_ge_off, mj_F_iinc_k_n, mj_F_iload_n_k, mj_F_imul, mj_F_invokestatic_i, mj_F_invokevirtual_i, mj_F_istore_n_k, mj_F_isub, mj_F_putfield_i, mj_F_return_, mj_set, mj_set0, mj_unk, mj_c2, mj_kc, FT_X9, PT_X9, L_X9_readNumber, List.take_succ_cons, List.take_zero, List.drop_succ_cons, List.drop_zero, List.reverse_cons, List.reverse_nil, List.length_cons, List.length_nil, gS_C7, gCf9_2, gCf9_1, gCf9_0, gS_C8, sS_Ca_8, sS_Cf_9_2, gCf9len, c_isDigit_eq, J_X9_readNumber]
      exact (ok_some hw :)
    · replace hw := ok_f hw c
      refine c_X9_fail_in (ok_imp (ok_bind hw) ?_)
      intro p hw
      simp only [Option.toList, List.nil_append, List.cons_append, Nat.reduceSub]
      refine mj_run hG.1 (fun pc => pc == 4 || pc == 69 || pc == 99 || pc == 104) 4000 ?_
      simp only [mj_step, mj_W_s, mj_fin, List.getElem?_cons_zero, List.getElem?_cons_succ, mj_go, Nat.reduceAdd, Nat.reduceSub, Nat.reduceLT, Nat.reduceLeDiff, Nat.zero_add, Nat.reduceEqDiff, Nat.reduceBEq, ↓reduceIte, Bool.false_eq_true, List.append_nil, List.nil_append, List.cons_append, Option.toList, and_true, true_and, true_or, or_true, reduceCtorEq, List.map_nil, bI_eq0, bI_eq1, bool_ft, pk_us, vnar0, vnar1, Bool.or_false, Bool.or_true, Bool.false_or, Bool.true_or, mj_kne, eq_self, Int32.reduceLT, Int32.reduceLE, Int32.reduceAdd, Int32.reduceSub, Int32.reduceMul, not_true_eq_false, not_false_eq_true, false_implies, true_implies, D_X9_readNumber_0, D_X9_readNumber_1, mj_F_aload_n_k, mj_F_bipush_n, mj_F_dup, mj_F_getfield_i, mj_F_goto_off, mj_F_iadd, mj_F_iaload, mj_F_iconst_n, mj_F_ifCond_eq_off, mj_F_if_icmp_ge_off, mj_F_iinc_k_n, mj_F_iload_n_k, mj_F_imul, mj_F_invokestatic_i, mj_F_invokevirtual_i, mj_F_istore_n_k, mj_F_isub, mj_F_putfield_i, mj_F_return_, mj_set, mj_set0, mj_unk, mj_c2, mj_kc, FT_X9, PT_X9, L_X9_readNumber, List.take_succ_cons, List.take_zero, List.drop_succ_cons, List.drop_zero, List.reverse_cons, List.reverse_nil, List.length_cons, List.length_nil, gS_C7, gCf9_2, gCf9_1, gCf9_0, gS_C8, sS_Ca_8, sS_Cf_9_2, gCf9len, c_isDigit_eq, J_X9_readNumber]
      refine c_X9_emit_in (ok_imp (ok_bind hw) ?_)
      intro p hw
      simp only [Option.toList, List.nil_append, List.cons_append, Nat.reduceSub]
      refine mj_run hG.1 (fun pc => pc == 4 || pc == 69 || pc == 99 || pc == 104) 4000 ?_
      simp only [mj_step, mj_W_s, mj_fin, List.getElem?_cons_zero, List.getElem?_cons_succ, mj_go, Nat.reduceAdd, Nat.reduceSub, Nat.reduceLT, Nat.reduceLeDiff, Nat.zero_add, Nat.reduceEqDiff, Nat.reduceBEq, ↓reduceIte, Bool.false_eq_true, List.append_nil, List.nil_append, List.cons_append, Option.toList, and_true, true_and, true_or, or_true, reduceCtorEq, List.map_nil, bI_eq0, bI_eq1, bool_ft, pk_us, vnar0, vnar1, Bool.or_false, Bool.or_true, Bool.false_or, Bool.true_or, mj_kne, eq_self, Int32.reduceLT, Int32.reduceLE, Int32.reduceAdd, Int32.reduceSub, Int32.reduceMul, not_true_eq_false, not_false_eq_true, false_implies, true_implies, D_X9_readNumber_0, D_X9_readNumber_1, mj_F_aload_n_k, mj_F_bipush_n, mj_F_dup, mj_F_getfield_i, mj_F_goto_off, mj_F_iadd, mj_F_iaload, mj_F_iconst_n, mj_F_ifCond_eq_off, mj_F_if_icmp_ge_off, mj_F_iinc_k_n, mj_F_iload_n_k, mj_F_imul, mj_F_invokestatic_i, mj_F_invokevirtual_i, mj_F_istore_n_k, mj_F_isub, mj_F_putfield_i, mj_F_return_, mj_set, mj_set0, mj_unk, mj_c2, mj_kc, FT_X9, PT_X9, L_X9_readNumber, List.take_succ_cons, List.take_zero, List.drop_succ_cons, List.drop_zero, List.reverse_cons, List.reverse_nil, List.length_cons, List.length_nil, gS_C7, gCf9_2, gCf9_1, gCf9_0, gS_C8, sS_Ca_8, sS_Cf_9_2, gCf9len, c_isDigit_eq, J_X9_readNumber]
      exact (ok_some hw :)

set_option maxHeartbeats 4000000 in
theorem g_X9_readNumber_4 {k : Option Value → mj_H → Prop} {G : mj_K} (hG : mj_cl2 cX9_readNumber (TbX9 3 (none) ct_X9_readNumber) k G)   {v1 : Int32} {v2 : Int32} {s : St} (hw : ok (F_X9_readNumber_4 v1 v2 s) (fun p => k none (mkCs p))) : G 4 [.ref 7, .int v1, .int v2] [] (mkCs s) 0 0 := by
  unfold F_X9_readNumber_4 at hw
  refine lp_ok (B_X9_readNumber_4 ) (fun x => G 4 [.ref 7, .int x.1, .int x.2.1] [] (mkCs x.2.2) 0 0) _ ?_ _ _ (ok_bind hw)
  rintro ⟨v1, v2, s⟩ hb
  exact b_X9_readNumber_4 hG (fun _ z => z) (fun y hw => by exact hG.2 _ _ _ _ _ _ _ _ _ (by refine ⟨Or.inr rfl, ?_⟩; refine ⟨Or.inr rfl, ?_⟩; exact trivial) (Nat.zero_le _) (Nat.zero_le _) (g_X9_readNumber_69 hG  hw :)) hb

set_option maxHeartbeats 4000000 in
set_option maxRecDepth 20000 in
theorem g_X9_readNumber {k : Option Value → mj_H → Prop} {G : mj_K} (hG : mj_cl2 cX9_readNumber (TbX9 3 (none) ct_X9_readNumber) k G) {s : St} (hw : ok (F_X9_readNumber s) (fun p => k none (mkCs p))) : G 0 [.ref 7] [] (mkCs s) 0 0 := by
  unfold F_X9_readNumber at hw
  refine mj_run hG.1 (fun pc => pc == 4 || pc == 69 || pc == 99 || pc == 104) 4000 ?_
  simp only [mj_step, mj_W_s, mj_fin, List.getElem?_cons_zero, List.getElem?_cons_succ, mj_go, Nat.reduceAdd, Nat.reduceSub, Nat.reduceLT, Nat.reduceLeDiff, Nat.zero_add, Nat.reduceEqDiff, Nat.reduceBEq, ↓reduceIte, Bool.false_eq_true, List.append_nil, List.nil_append, List.cons_append, Option.toList, and_true, true_and, true_or, or_true, reduceCtorEq, List.map_nil, bI_eq0, bI_eq1, bool_ft, pk_us, vnar0, vnar1, Bool.or_false, Bool.or_true, Bool.false_or, Bool.true_or, mj_kne, eq_self, Int32.reduceLT, Int32.reduceLE, Int32.reduceAdd, Int32.reduceSub, Int32.reduceMul, not_true_eq_false, not_false_eq_true, false_implies, true_implies, D_X9_readNumber_0, D_X9_readNumber_1, mj_F_aload_n_k, mj_F_bipush_n, mj_F_dup, mj_F_getfield_i, mj_F_goto_off, mj_F_iadd, mj_F_iaload, mj_F_iconst_n, mj_F_ifCond_eq_off, mj_F_if_icmp_ge_off, mj_F_iinc_k_n, mj_F_iload_n_k, mj_F_imul, mj_F_invokestatic_i, mj_F_invokevirtual_i, mj_F_istore_n_k, mj_F_isub, mj_F_putfield_i, mj_F_return_, mj_set, mj_set0, mj_unk, mj_c2, mj_kc, FT_X9, PT_X9, L_X9_readNumber, List.take_succ_cons, List.take_zero, List.drop_succ_cons, List.drop_zero, List.reverse_cons, List.reverse_nil, List.length_cons, List.length_nil, gS_C7, gCf9_2, gCf9_1, gCf9_0, gS_C8, sS_Ca_8, sS_Cf_9_2, gCf9len, c_isDigit_eq, J_X9_readNumber]
  exact hG.2 _ _ _ _ _ _ _ _ _ (by refine ⟨Or.inr rfl, ?_⟩; refine ⟨Or.inr rfl, ?_⟩; refine ⟨Or.inr rfl, ?_⟩; exact trivial) (Nat.zero_le _) (Nat.zero_le _) (g_X9_readNumber_4 hG  hw :)

def c_X9_readNumber : mj_S := fun as h k => ∃ (s : St), as = [.ref 7] ∧ h = mkCs s ∧ ok (F_X9_readNumber s) (fun p => k none (mkCs p))
theorem c_X9_readNumber_in {s : St} {k : Option Value → mj_H → Prop} (hw : ok (F_X9_readNumber s) (fun p => k none (mkCs p))) : c_X9_readNumber [.ref 7] (mkCs s) k := ⟨s, rfl, rfl, hw⟩
theorem m_X9_readNumber (l : Launch) : mj_Met l yX9_readNumber cX9_readNumber 3 (none) 1 0 0 c_X9_readNumber := by
  refine mj_body2 false (TbX9 3 (none) ct_X9_readNumber) (by decide) rfl rfl (fun h => nomatch h) (tfX9 _ (List.forall_mem_cons.mpr ⟨cfX9_54 (m_X9_fail l) (by decide), List.forall_mem_cons.mpr ⟨cfX9_84 (m_X9_emit l) (by decide), List.forall_mem_cons.mpr ⟨cfX9_100 (m_X9_isDigit l) (by decide), fun _ h => nomatch h⟩⟩⟩)) ?_
  rintro as h k ⟨s, rfl, rfl, hw⟩
  exact ⟨rfl, fun G hG => g_X9_readNumber hG hw⟩
def F_X9_letterOf (v0 : Int32) : Option (Int32) :=
  if v0 = 105 then
    some 1
  else
  if v0 = 108 then
    some 3
  else
  if v0 = 110 then
    some 2
  else
  if v0 = 114 then
    some 5
  else
  if v0 = 120 then
    some 4
  else
  if v0 = 121 then
    some 0
  else
  some (-1)
theorem J_X9_letterOf : mj_t 1 83 = 84 ∧ mj_t 1 85 = 86 ∧ mj_t 1 87 = 88 ∧ mj_t 1 89 = 90 ∧ mj_t 1 91 = 92 ∧ mj_t 1 93 = 94 ∧ mj_t 1 95 = 96 ∧ (0 ≤ ((1 : Nat) : Int) + 83) = True ∧ (0 ≤ ((1 : Nat) : Int) + 85) = True ∧ (0 ≤ ((1 : Nat) : Int) + 87) = True ∧ (0 ≤ ((1 : Nat) : Int) + 89) = True ∧ (0 ≤ ((1 : Nat) : Int) + 91) = True ∧ (0 ≤ ((1 : Nat) : Int) + 93) = True ∧ (0 ≤ ((1 : Nat) : Int) + 95) = True := by and_intros <;> first | rfl | exact eq_true (by decide)
set_option maxHeartbeats 4000000 in
set_option maxRecDepth 20000 in
theorem g_X9_letterOf {k : Option Value → mj_H → Prop} {G : mj_K} (hG : mj_cl2 cX9_letterOf (TbX9 1 ((some FieldType.int)) []) k G) {h : mj_H} {v0 : Int32} (hw : ok (F_X9_letterOf v0) (fun p => k (some (.int p)) h)) : G 0 [.int v0] [] h 0 0 := by
  unfold F_X9_letterOf at hw
  refine mj_run hG.1 (fun _ => false) 4000 ?_
  simp only [mj_step, mj_W_s, mj_fin, List.getElem?_cons_zero, List.getElem?_cons_succ, mj_go, Nat.reduceAdd, Nat.reduceSub, Nat.reduceLT, Nat.reduceLeDiff, Nat.zero_add, Nat.reduceEqDiff, Nat.reduceBEq, ↓reduceIte, Bool.false_eq_true, List.append_nil, List.nil_append, List.cons_append, Option.toList, and_true, true_and, true_or, or_true, reduceCtorEq, List.map_nil, bI_eq0, bI_eq1, bool_ft, pk_us, vnar0, vnar1, Bool.or_false, Bool.or_true, Bool.false_or, Bool.true_or, mj_kne, eq_self, Int32.reduceLT, Int32.reduceLE, Int32.reduceAdd, Int32.reduceSub, Int32.reduceMul, not_true_eq_false, not_false_eq_true, false_implies, true_implies, D_X9_letterOf, mj_F_iconst_n, mj_F_iload_n_k, mj_F_ireturn, mj_kc, J_X9_letterOf]
  by_cases c1 : v0 = 105
  · replace hw := ok_t hw c1
    have c := c1
    refine mj_tsc 0 85 (by rw [show v0 = 105 from c]; decide) (by decide) rfl (by decide) ?_
    simp only [mj_step, mj_W_s, mj_fin, List.getElem?_cons_zero, List.getElem?_cons_succ, mj_go, Nat.reduceAdd, Nat.reduceSub, Nat.reduceLT, Nat.reduceLeDiff, Nat.zero_add, Nat.reduceEqDiff, Nat.reduceBEq, ↓reduceIte, Bool.false_eq_true, List.append_nil, List.nil_append, List.cons_append, Option.toList, and_true, true_and, true_or, or_true, reduceCtorEq, List.map_nil, bI_eq0, bI_eq1, bool_ft, pk_us, vnar0, vnar1, Bool.or_false, Bool.or_true, Bool.false_or, Bool.true_or, mj_kne, eq_self, Int32.reduceLT, Int32.reduceLE, Int32.reduceAdd, Int32.reduceSub, Int32.reduceMul, not_true_eq_false, not_false_eq_true, false_implies, true_implies, D_X9_letterOf, mj_F_iconst_n, mj_F_iload_n_k, mj_F_ireturn, mj_kc, J_X9_letterOf]
    exact (ok_some hw :)
  replace hw := ok_f hw c1
  by_cases c2 : v0 = 108
  · replace hw := ok_t hw c2
    have c := c2
    refine mj_tsc 3 89 (by rw [show v0 = 108 from c]; decide) (by decide) rfl (by decide) ?_
    simp only [mj_step, mj_W_s, mj_fin, List.getElem?_cons_zero, List.getElem?_cons_succ, mj_go, Nat.reduceAdd, Nat.reduceSub, Nat.reduceLT, Nat.reduceLeDiff, Nat.zero_add, Nat.reduceEqDiff, Nat.reduceBEq, ↓reduceIte, Bool.false_eq_true, List.append_nil, List.nil_append, List.cons_append, Option.toList, and_true, true_and, true_or, or_true, reduceCtorEq, List.map_nil, bI_eq0, bI_eq1, bool_ft, pk_us, vnar0, vnar1, Bool.or_false, Bool.or_true, Bool.false_or, Bool.true_or, mj_kne, eq_self, Int32.reduceLT, Int32.reduceLE, Int32.reduceAdd, Int32.reduceSub, Int32.reduceMul, not_true_eq_false, not_false_eq_true, false_implies, true_implies, D_X9_letterOf, mj_F_iconst_n, mj_F_iload_n_k, mj_F_ireturn, mj_kc, J_X9_letterOf]
    exact (ok_some hw :)
  replace hw := ok_f hw c2
  by_cases c3 : v0 = 110
  · replace hw := ok_t hw c3
    have c := c3
    refine mj_tsc 5 87 (by rw [show v0 = 110 from c]; decide) (by decide) rfl (by decide) ?_
    simp only [mj_step, mj_W_s, mj_fin, List.getElem?_cons_zero, List.getElem?_cons_succ, mj_go, Nat.reduceAdd, Nat.reduceSub, Nat.reduceLT, Nat.reduceLeDiff, Nat.zero_add, Nat.reduceEqDiff, Nat.reduceBEq, ↓reduceIte, Bool.false_eq_true, List.append_nil, List.nil_append, List.cons_append, Option.toList, and_true, true_and, true_or, or_true, reduceCtorEq, List.map_nil, bI_eq0, bI_eq1, bool_ft, pk_us, vnar0, vnar1, Bool.or_false, Bool.or_true, Bool.false_or, Bool.true_or, mj_kne, eq_self, Int32.reduceLT, Int32.reduceLE, Int32.reduceAdd, Int32.reduceSub, Int32.reduceMul, not_true_eq_false, not_false_eq_true, false_implies, true_implies, D_X9_letterOf, mj_F_iconst_n, mj_F_iload_n_k, mj_F_ireturn, mj_kc, J_X9_letterOf]
    exact (ok_some hw :)
  replace hw := ok_f hw c3
  by_cases c4 : v0 = 114
  · replace hw := ok_t hw c4
    have c := c4
    refine mj_tsc 9 93 (by rw [show v0 = 114 from c]; decide) (by decide) rfl (by decide) ?_
    simp only [mj_step, mj_W_s, mj_fin, List.getElem?_cons_zero, List.getElem?_cons_succ, mj_go, Nat.reduceAdd, Nat.reduceSub, Nat.reduceLT, Nat.reduceLeDiff, Nat.zero_add, Nat.reduceEqDiff, Nat.reduceBEq, ↓reduceIte, Bool.false_eq_true, List.append_nil, List.nil_append, List.cons_append, Option.toList, and_true, true_and, true_or, or_true, reduceCtorEq, List.map_nil, bI_eq0, bI_eq1, bool_ft, pk_us, vnar0, vnar1, Bool.or_false, Bool.or_true, Bool.false_or, Bool.true_or, mj_kne, eq_self, Int32.reduceLT, Int32.reduceLE, Int32.reduceAdd, Int32.reduceSub, Int32.reduceMul, not_true_eq_false, not_false_eq_true, false_implies, true_implies, D_X9_letterOf, mj_F_iconst_n, mj_F_iload_n_k, mj_F_ireturn, mj_kc, J_X9_letterOf]
    exact (ok_some hw :)
  replace hw := ok_f hw c4
  by_cases c5 : v0 = 120
  · replace hw := ok_t hw c5
    have c := c5
    refine mj_tsc 15 91 (by rw [show v0 = 120 from c]; decide) (by decide) rfl (by decide) ?_
    simp only [mj_step, mj_W_s, mj_fin, List.getElem?_cons_zero, List.getElem?_cons_succ, mj_go, Nat.reduceAdd, Nat.reduceSub, Nat.reduceLT, Nat.reduceLeDiff, Nat.zero_add, Nat.reduceEqDiff, Nat.reduceBEq, ↓reduceIte, Bool.false_eq_true, List.append_nil, List.nil_append, List.cons_append, Option.toList, and_true, true_and, true_or, or_true, reduceCtorEq, List.map_nil, bI_eq0, bI_eq1, bool_ft, pk_us, vnar0, vnar1, Bool.or_false, Bool.or_true, Bool.false_or, Bool.true_or, mj_kne, eq_self, Int32.reduceLT, Int32.reduceLE, Int32.reduceAdd, Int32.reduceSub, Int32.reduceMul, not_true_eq_false, not_false_eq_true, false_implies, true_implies, D_X9_letterOf, mj_F_iconst_n, mj_F_iload_n_k, mj_F_ireturn, mj_kc, J_X9_letterOf]
    exact (ok_some hw :)
  replace hw := ok_f hw c5
  by_cases c6 : v0 = 121
  · replace hw := ok_t hw c6
    have c := c6
    refine mj_tsc 16 83 (by rw [show v0 = 121 from c]; decide) (by decide) rfl (by decide) ?_
    simp only [mj_step, mj_W_s, mj_fin, List.getElem?_cons_zero, List.getElem?_cons_succ, mj_go, Nat.reduceAdd, Nat.reduceSub, Nat.reduceLT, Nat.reduceLeDiff, Nat.zero_add, Nat.reduceEqDiff, Nat.reduceBEq, ↓reduceIte, Bool.false_eq_true, List.append_nil, List.nil_append, List.cons_append, Option.toList, and_true, true_and, true_or, or_true, reduceCtorEq, List.map_nil, bI_eq0, bI_eq1, bool_ft, pk_us, vnar0, vnar1, Bool.or_false, Bool.or_true, Bool.false_or, Bool.true_or, mj_kne, eq_self, Int32.reduceLT, Int32.reduceLE, Int32.reduceAdd, Int32.reduceSub, Int32.reduceMul, not_true_eq_false, not_false_eq_true, false_implies, true_implies, D_X9_letterOf, mj_F_iconst_n, mj_F_iload_n_k, mj_F_ireturn, mj_kc, J_X9_letterOf]
    exact (ok_some hw :)
  replace hw := ok_f hw c6
  by_cases c7 : v0 = 106
  · have c := c7
    refine mj_tsc 1 95 (by rw [show v0 = 106 from c]; decide) (by decide) rfl (by decide) ?_
    simp only [mj_step, mj_W_s, mj_fin, List.getElem?_cons_zero, List.getElem?_cons_succ, mj_go, Nat.reduceAdd, Nat.reduceSub, Nat.reduceLT, Nat.reduceLeDiff, Nat.zero_add, Nat.reduceEqDiff, Nat.reduceBEq, ↓reduceIte, Bool.false_eq_true, List.append_nil, List.nil_append, List.cons_append, Option.toList, and_true, true_and, true_or, or_true, reduceCtorEq, List.map_nil, bI_eq0, bI_eq1, bool_ft, pk_us, vnar0, vnar1, Bool.or_false, Bool.or_true, Bool.false_or, Bool.true_or, mj_kne, eq_self, Int32.reduceLT, Int32.reduceLE, Int32.reduceAdd, Int32.reduceSub, Int32.reduceMul, not_true_eq_false, not_false_eq_true, false_implies, true_implies, D_X9_letterOf, mj_F_iconst_n, mj_F_iload_n_k, mj_F_ireturn, mj_kc, J_X9_letterOf]
    exact (ok_some hw :)
  by_cases c8 : v0 = 107
  · have c := c8
    refine mj_tsc 2 95 (by rw [show v0 = 107 from c]; decide) (by decide) rfl (by decide) ?_
    simp only [mj_step, mj_W_s, mj_fin, List.getElem?_cons_zero, List.getElem?_cons_succ, mj_go, Nat.reduceAdd, Nat.reduceSub, Nat.reduceLT, Nat.reduceLeDiff, Nat.zero_add, Nat.reduceEqDiff, Nat.reduceBEq, ↓reduceIte, Bool.false_eq_true, List.append_nil, List.nil_append, List.cons_append, Option.toList, and_true, true_and, true_or, or_true, reduceCtorEq, List.map_nil, bI_eq0, bI_eq1, bool_ft, pk_us, vnar0, vnar1, Bool.or_false, Bool.or_true, Bool.false_or, Bool.true_or, mj_kne, eq_self, Int32.reduceLT, Int32.reduceLE, Int32.reduceAdd, Int32.reduceSub, Int32.reduceMul, not_true_eq_false, not_false_eq_true, false_implies, true_implies, D_X9_letterOf, mj_F_iconst_n, mj_F_iload_n_k, mj_F_ireturn, mj_kc, J_X9_letterOf]
    exact (ok_some hw :)
  by_cases c9 : v0 = 109
  · have c := c9
    refine mj_tsc 4 95 (by rw [show v0 = 109 from c]; decide) (by decide) rfl (by decide) ?_
    simp only [mj_step, mj_W_s, mj_fin, List.getElem?_cons_zero, List.getElem?_cons_succ, mj_go, Nat.reduceAdd, Nat.reduceSub, Nat.reduceLT, Nat.reduceLeDiff, Nat.zero_add, Nat.reduceEqDiff, Nat.reduceBEq, ↓reduceIte, Bool.false_eq_true, List.append_nil, List.nil_append, List.cons_append, Option.toList, and_true, true_and, true_or, or_true, reduceCtorEq, List.map_nil, bI_eq0, bI_eq1, bool_ft, pk_us, vnar0, vnar1, Bool.or_false, Bool.or_true, Bool.false_or, Bool.true_or, mj_kne, eq_self, Int32.reduceLT, Int32.reduceLE, Int32.reduceAdd, Int32.reduceSub, Int32.reduceMul, not_true_eq_false, not_false_eq_true, false_implies, true_implies, D_X9_letterOf, mj_F_iconst_n, mj_F_iload_n_k, mj_F_ireturn, mj_kc, J_X9_letterOf]
    exact (ok_some hw :)
  by_cases c10 : v0 = 111
  · have c := c10
    refine mj_tsc 6 95 (by rw [show v0 = 111 from c]; decide) (by decide) rfl (by decide) ?_
    simp only [mj_step, mj_W_s, mj_fin, List.getElem?_cons_zero, List.getElem?_cons_succ, mj_go, Nat.reduceAdd, Nat.reduceSub, Nat.reduceLT, Nat.reduceLeDiff, Nat.zero_add, Nat.reduceEqDiff, Nat.reduceBEq, ↓reduceIte, Bool.false_eq_true, List.append_nil, List.nil_append, List.cons_append, Option.toList, and_true, true_and, true_or, or_true, reduceCtorEq, List.map_nil, bI_eq0, bI_eq1, bool_ft, pk_us, vnar0, vnar1, Bool.or_false, Bool.or_true, Bool.false_or, Bool.true_or, mj_kne, eq_self, Int32.reduceLT, Int32.reduceLE, Int32.reduceAdd, Int32.reduceSub, Int32.reduceMul, not_true_eq_false, not_false_eq_true, false_implies, true_implies, D_X9_letterOf, mj_F_iconst_n, mj_F_iload_n_k, mj_F_ireturn, mj_kc, J_X9_letterOf]
    exact (ok_some hw :)
  by_cases c11 : v0 = 112
  · have c := c11
    refine mj_tsc 7 95 (by rw [show v0 = 112 from c]; decide) (by decide) rfl (by decide) ?_
    simp only [mj_step, mj_W_s, mj_fin, List.getElem?_cons_zero, List.getElem?_cons_succ, mj_go, Nat.reduceAdd, Nat.reduceSub, Nat.reduceLT, Nat.reduceLeDiff, Nat.zero_add, Nat.reduceEqDiff, Nat.reduceBEq, ↓reduceIte, Bool.false_eq_true, List.append_nil, List.nil_append, List.cons_append, Option.toList, and_true, true_and, true_or, or_true, reduceCtorEq, List.map_nil, bI_eq0, bI_eq1, bool_ft, pk_us, vnar0, vnar1, Bool.or_false, Bool.or_true, Bool.false_or, Bool.true_or, mj_kne, eq_self, Int32.reduceLT, Int32.reduceLE, Int32.reduceAdd, Int32.reduceSub, Int32.reduceMul, not_true_eq_false, not_false_eq_true, false_implies, true_implies, D_X9_letterOf, mj_F_iconst_n, mj_F_iload_n_k, mj_F_ireturn, mj_kc, J_X9_letterOf]
    exact (ok_some hw :)
  by_cases c12 : v0 = 113
  · have c := c12
    refine mj_tsc 8 95 (by rw [show v0 = 113 from c]; decide) (by decide) rfl (by decide) ?_
    simp only [mj_step, mj_W_s, mj_fin, List.getElem?_cons_zero, List.getElem?_cons_succ, mj_go, Nat.reduceAdd, Nat.reduceSub, Nat.reduceLT, Nat.reduceLeDiff, Nat.zero_add, Nat.reduceEqDiff, Nat.reduceBEq, ↓reduceIte, Bool.false_eq_true, List.append_nil, List.nil_append, List.cons_append, Option.toList, and_true, true_and, true_or, or_true, reduceCtorEq, List.map_nil, bI_eq0, bI_eq1, bool_ft, pk_us, vnar0, vnar1, Bool.or_false, Bool.or_true, Bool.false_or, Bool.true_or, mj_kne, eq_self, Int32.reduceLT, Int32.reduceLE, Int32.reduceAdd, Int32.reduceSub, Int32.reduceMul, not_true_eq_false, not_false_eq_true, false_implies, true_implies, D_X9_letterOf, mj_F_iconst_n, mj_F_iload_n_k, mj_F_ireturn, mj_kc, J_X9_letterOf]
    exact (ok_some hw :)
  by_cases c13 : v0 = 115
  · have c := c13
    refine mj_tsc 10 95 (by rw [show v0 = 115 from c]; decide) (by decide) rfl (by decide) ?_
    simp only [mj_step, mj_W_s, mj_fin, List.getElem?_cons_zero, List.getElem?_cons_succ, mj_go, Nat.reduceAdd, Nat.reduceSub, Nat.reduceLT, Nat.reduceLeDiff, Nat.zero_add, Nat.reduceEqDiff, Nat.reduceBEq, ↓reduceIte, Bool.false_eq_true, List.append_nil, List.nil_append, List.cons_append, Option.toList, and_true, true_and, true_or, or_true, reduceCtorEq, List.map_nil, bI_eq0, bI_eq1, bool_ft, pk_us, vnar0, vnar1, Bool.or_false, Bool.or_true, Bool.false_or, Bool.true_or, mj_kne, eq_self, Int32.reduceLT, Int32.reduceLE, Int32.reduceAdd, Int32.reduceSub, Int32.reduceMul, not_true_eq_false, not_false_eq_true, false_implies, true_implies, D_X9_letterOf, mj_F_iconst_n, mj_F_iload_n_k, mj_F_ireturn, mj_kc, J_X9_letterOf]
    exact (ok_some hw :)
  by_cases c14 : v0 = 116
  · have c := c14
    refine mj_tsc 11 95 (by rw [show v0 = 116 from c]; decide) (by decide) rfl (by decide) ?_
    simp only [mj_step, mj_W_s, mj_fin, List.getElem?_cons_zero, List.getElem?_cons_succ, mj_go, Nat.reduceAdd, Nat.reduceSub, Nat.reduceLT, Nat.reduceLeDiff, Nat.zero_add, Nat.reduceEqDiff, Nat.reduceBEq, ↓reduceIte, Bool.false_eq_true, List.append_nil, List.nil_append, List.cons_append, Option.toList, and_true, true_and, true_or, or_true, reduceCtorEq, List.map_nil, bI_eq0, bI_eq1, bool_ft, pk_us, vnar0, vnar1, Bool.or_false, Bool.or_true, Bool.false_or, Bool.true_or, mj_kne, eq_self, Int32.reduceLT, Int32.reduceLE, Int32.reduceAdd, Int32.reduceSub, Int32.reduceMul, not_true_eq_false, not_false_eq_true, false_implies, true_implies, D_X9_letterOf, mj_F_iconst_n, mj_F_iload_n_k, mj_F_ireturn, mj_kc, J_X9_letterOf]
    exact (ok_some hw :)
  by_cases c15 : v0 = 117
  · have c := c15
    refine mj_tsc 12 95 (by rw [show v0 = 117 from c]; decide) (by decide) rfl (by decide) ?_
    simp only [mj_step, mj_W_s, mj_fin, List.getElem?_cons_zero, List.getElem?_cons_succ, mj_go, Nat.reduceAdd, Nat.reduceSub, Nat.reduceLT, Nat.reduceLeDiff, Nat.zero_add, Nat.reduceEqDiff, Nat.reduceBEq, ↓reduceIte, Bool.false_eq_true, List.append_nil, List.nil_append, List.cons_append, Option.toList, and_true, true_and, true_or, or_true, reduceCtorEq, List.map_nil, bI_eq0, bI_eq1, bool_ft, pk_us, vnar0, vnar1, Bool.or_false, Bool.or_true, Bool.false_or, Bool.true_or, mj_kne, eq_self, Int32.reduceLT, Int32.reduceLE, Int32.reduceAdd, Int32.reduceSub, Int32.reduceMul, not_true_eq_false, not_false_eq_true, false_implies, true_implies, D_X9_letterOf, mj_F_iconst_n, mj_F_iload_n_k, mj_F_ireturn, mj_kc, J_X9_letterOf]
    exact (ok_some hw :)
  by_cases c16 : v0 = 118
  · have c := c16
    refine mj_tsc 13 95 (by rw [show v0 = 118 from c]; decide) (by decide) rfl (by decide) ?_
    simp only [mj_step, mj_W_s, mj_fin, List.getElem?_cons_zero, List.getElem?_cons_succ, mj_go, Nat.reduceAdd, Nat.reduceSub, Nat.reduceLT, Nat.reduceLeDiff, Nat.zero_add, Nat.reduceEqDiff, Nat.reduceBEq, ↓reduceIte, Bool.false_eq_true, List.append_nil, List.nil_append, List.cons_append, Option.toList, and_true, true_and, true_or, or_true, reduceCtorEq, List.map_nil, bI_eq0, bI_eq1, bool_ft, pk_us, vnar0, vnar1, Bool.or_false, Bool.or_true, Bool.false_or, Bool.true_or, mj_kne, eq_self, Int32.reduceLT, Int32.reduceLE, Int32.reduceAdd, Int32.reduceSub, Int32.reduceMul, not_true_eq_false, not_false_eq_true, false_implies, true_implies, D_X9_letterOf, mj_F_iconst_n, mj_F_iload_n_k, mj_F_ireturn, mj_kc, J_X9_letterOf]
    exact (ok_some hw :)
  by_cases c17 : v0 = 119
  · have c := c17
    refine mj_tsc 14 95 (by rw [show v0 = 119 from c]; decide) (by decide) rfl (by decide) ?_
    simp only [mj_step, mj_W_s, mj_fin, List.getElem?_cons_zero, List.getElem?_cons_succ, mj_go, Nat.reduceAdd, Nat.reduceSub, Nat.reduceLT, Nat.reduceLeDiff, Nat.zero_add, Nat.reduceEqDiff, Nat.reduceBEq, ↓reduceIte, Bool.false_eq_true, List.append_nil, List.nil_append, List.cons_append, Option.toList, and_true, true_and, true_or, or_true, reduceCtorEq, List.map_nil, bI_eq0, bI_eq1, bool_ft, pk_us, vnar0, vnar1, Bool.or_false, Bool.or_true, Bool.false_or, Bool.true_or, mj_kne, eq_self, Int32.reduceLT, Int32.reduceLE, Int32.reduceAdd, Int32.reduceSub, Int32.reduceMul, not_true_eq_false, not_false_eq_true, false_implies, true_implies, D_X9_letterOf, mj_F_iconst_n, mj_F_iload_n_k, mj_F_ireturn, mj_kc, J_X9_letterOf]
    exact (ok_some hw :)
  refine mj_tsd (mj_tsr [105, 106, 107, 108, 109, 110, 111, 112, 113, 114, 115, 116, 117, 118, 119, 120, 121] (List.forall_mem_cons.mpr ⟨mj_nt c1 rfl, List.forall_mem_cons.mpr ⟨mj_nt c7 rfl, List.forall_mem_cons.mpr ⟨mj_nt c8 rfl, List.forall_mem_cons.mpr ⟨mj_nt c2 rfl, List.forall_mem_cons.mpr ⟨mj_nt c9 rfl, List.forall_mem_cons.mpr ⟨mj_nt c3 rfl, List.forall_mem_cons.mpr ⟨mj_nt c10 rfl, List.forall_mem_cons.mpr ⟨mj_nt c11 rfl, List.forall_mem_cons.mpr ⟨mj_nt c12 rfl, List.forall_mem_cons.mpr ⟨mj_nt c4 rfl, List.forall_mem_cons.mpr ⟨mj_nt c13 rfl, List.forall_mem_cons.mpr ⟨mj_nt c14 rfl, List.forall_mem_cons.mpr ⟨mj_nt c15 rfl, List.forall_mem_cons.mpr ⟨mj_nt c16 rfl, List.forall_mem_cons.mpr ⟨mj_nt c17 rfl, List.forall_mem_cons.mpr ⟨mj_nt c5 rfl, List.forall_mem_cons.mpr ⟨mj_nt c6 rfl, fun _ h => (nomatch h)⟩⟩⟩⟩⟩⟩⟩⟩⟩⟩⟩⟩⟩⟩⟩⟩⟩) (by decide)) (by decide) ?_
  simp only [mj_step, mj_W_s, mj_fin, List.getElem?_cons_zero, List.getElem?_cons_succ, mj_go, Nat.reduceAdd, Nat.reduceSub, Nat.reduceLT, Nat.reduceLeDiff, Nat.zero_add, Nat.reduceEqDiff, Nat.reduceBEq, ↓reduceIte, Bool.false_eq_true, List.append_nil, List.nil_append, List.cons_append, Option.toList, and_true, true_and, true_or, or_true, reduceCtorEq, List.map_nil, bI_eq0, bI_eq1, bool_ft, pk_us, vnar0, vnar1, Bool.or_false, Bool.or_true, Bool.false_or, Bool.true_or, mj_kne, eq_self, Int32.reduceLT, Int32.reduceLE, Int32.reduceAdd, Int32.reduceSub, Int32.reduceMul, not_true_eq_false, not_false_eq_true, false_implies, true_implies, D_X9_letterOf, mj_F_iconst_n, mj_F_iload_n_k, mj_F_ireturn, mj_kc, J_X9_letterOf]
  exact (ok_some hw :)

def c_X9_letterOf : mj_S := fun as h k => ∃ (v0 : Int32), as = [.int v0] ∧ ok (F_X9_letterOf v0) (fun p => k (some (.int p)) h)
theorem c_X9_letterOf_in {v0 : Int32} {h : mj_H} {k : Option Value → mj_H → Prop} (hw : ok (F_X9_letterOf v0) (fun p => k (some (.int p)) h)) : c_X9_letterOf [.int v0] h k := ⟨v0, rfl, hw⟩
theorem m_X9_letterOf (l : Launch) : mj_Met l yX9_letterOf cX9_letterOf 1 ((some FieldType.int)) 0 0 0 c_X9_letterOf := by
  refine mj_body2 false (TbX9 1 ((some FieldType.int)) []) (by decide) rfl rfl (fun h => nomatch h) (tfX9 _ (fun _ h => nomatch h)) ?_
  rintro as h k ⟨v0, rfl, hw⟩
  exact ⟨rfl, fun G hG => g_X9_letterOf hG hw⟩
def F_X9_opened (s : St) : Option (Int32 × St) :=
  if (s.1 904) < 6 then
    (wI s 904 ((s.1 904) + 1)).bind fun s1 =>
    (wI s1 902 ((s1.1 902) + 1)).bind fun s2 =>
    some (1, s2)
  else
    (F_X9_fail s).bind fun s3 =>
    some (0, s3)
theorem J_X9_opened : mj_t 6 9 = 15 ∧ (0 ≤ ((6 : Nat) : Int) + 9) = True := by and_intros <;> first | rfl | exact eq_true (by decide)
def ct_X9_opened : List (Nat × mj_Cs) := [(54, 0, 1, 9, 0, 0, c_X9_fail)]
theorem L_X9_opened : mj_lk ct_X9_opened 54 = some (0, 1, 9, 0, 0, c_X9_fail) := rfl
set_option maxHeartbeats 4000000 in
set_option maxRecDepth 20000 in
theorem g_X9_opened {k : Option Value → mj_H → Prop} {G : mj_K} (hG : mj_cl2 cX9_opened (TbX9 1 ((some FieldType.boolean)) ct_X9_opened) k G) {s : St} (hw : ok (F_X9_opened s) (fun p => k (some (.int p.1)) (mkCs p.2))) : G 0 [.ref 7] [] (mkCs s) 0 0 := by
  unfold F_X9_opened at hw
  refine mj_run hG.1 (fun pc => pc == 13) 4000 ?_
  simp only [mj_step, mj_W_s, mj_fin, List.getElem?_cons_zero, List.getElem?_cons_succ, mj_go, Nat.reduceAdd, Nat.reduceSub, Nat.reduceLT, Nat.reduceLeDiff, Nat.zero_add, Nat.reduceEqDiff, Nat.reduceBEq, ↓reduceIte, Bool.false_eq_true, List.append_nil, List.nil_append, List.cons_append, Option.toList, and_true, true_and, true_or, or_true, reduceCtorEq, List.map_nil, bI_eq0, bI_eq1, bool_ft, pk_us, vnar0, vnar1, Bool.or_false, Bool.or_true, Bool.false_or, Bool.true_or, mj_kne, eq_self, Int32.reduceLT, Int32.reduceLE, Int32.reduceAdd, Int32.reduceSub, Int32.reduceMul, not_true_eq_false, not_false_eq_true, false_implies, true_implies, D_X9_opened, mj_F_aload_n_k, mj_F_bipush_n, mj_F_dup, mj_F_getfield_i, mj_F_iadd, mj_F_iconst_n, mj_F_if_icmp_lt_off, mj_F_invokevirtual_i, mj_F_ireturn, mj_F_putfield_i, mj_c2, mj_kc, FT_X9, PT_X9, L_X9_opened, List.take_succ_cons, List.take_zero, List.drop_succ_cons, List.drop_zero, List.reverse_cons, List.reverse_nil, List.length_cons, List.length_nil, gS_C7, gCf9_4, sS_Cf_9_4, gCf9len, gCf9_2, sS_Cf_9_2, J_X9_opened]
  refine ⟨fun c => ?_, fun c => ?_⟩
  · replace hw := ok_t hw c
    replace hw := ok_wI hw
    replace hw := ok_wI hw
    exact (ok_some hw :)
  · replace hw := ok_f hw c
    refine c_X9_fail_in (ok_imp (ok_bind hw) ?_)
    intro p hw
    simp only [Option.toList, List.nil_append, List.cons_append, Nat.reduceSub]
    refine mj_run hG.1 (fun pc => pc == 13) 4000 ?_
    simp only [mj_step, mj_W_s, mj_fin, List.getElem?_cons_zero, List.getElem?_cons_succ, mj_go, Nat.reduceAdd, Nat.reduceSub, Nat.reduceLT, Nat.reduceLeDiff, Nat.zero_add, Nat.reduceEqDiff, Nat.reduceBEq, ↓reduceIte, Bool.false_eq_true, List.append_nil, List.nil_append, List.cons_append, Option.toList, and_true, true_and, true_or, or_true, reduceCtorEq, List.map_nil, bI_eq0, bI_eq1, bool_ft, pk_us, vnar0, vnar1, Bool.or_false, Bool.or_true, Bool.false_or, Bool.true_or, mj_kne, eq_self, Int32.reduceLT, Int32.reduceLE, Int32.reduceAdd, Int32.reduceSub, Int32.reduceMul, not_true_eq_false, not_false_eq_true, false_implies, true_implies, D_X9_opened, mj_F_aload_n_k, mj_F_bipush_n, mj_F_dup, mj_F_getfield_i, mj_F_iadd, mj_F_iconst_n, mj_F_if_icmp_lt_off, mj_F_invokevirtual_i, mj_F_ireturn, mj_F_putfield_i, mj_c2, mj_kc, FT_X9, PT_X9, L_X9_opened, List.take_succ_cons, List.take_zero, List.drop_succ_cons, List.drop_zero, List.reverse_cons, List.reverse_nil, List.length_cons, List.length_nil, gS_C7, gCf9_4, sS_Cf_9_4, gCf9len, gCf9_2, sS_Cf_9_2, J_X9_opened]
    exact (ok_some hw :)

def c_X9_opened : mj_S := fun as h k => ∃ (s : St), as = [.ref 7] ∧ h = mkCs s ∧ ok (F_X9_opened s) (fun p => k (some (.int p.1)) (mkCs p.2))
theorem c_X9_opened_in {s : St} {k : Option Value → mj_H → Prop} (hw : ok (F_X9_opened s) (fun p => k (some (.int p.1)) (mkCs p.2))) : c_X9_opened [.ref 7] (mkCs s) k := ⟨s, rfl, rfl, hw⟩
theorem m_X9_opened (l : Launch) : mj_Met l yX9_opened cX9_opened 1 ((some FieldType.boolean)) 1 0 0 c_X9_opened := by
  refine mj_body2 false (TbX9 1 ((some FieldType.boolean)) ct_X9_opened) (by decide) rfl rfl (fun h => nomatch h) (tfX9 _ (List.forall_mem_cons.mpr ⟨cfX9_54 (m_X9_fail l) (by decide), fun _ h => nomatch h⟩)) ?_
  rintro as h k ⟨s, rfl, rfl, hw⟩
  exact ⟨rfl, fun G hG => g_X9_opened hG hw⟩
def F_X9_took (v1 : Int32) (s : St) : Option (Int32 × St) :=
  (F_X9_peek s).bind fun r1 =>
  if r1.1 = v1 then
    (wI r1.2 902 ((r1.2.1 902) + 1)).bind fun s2 =>
    some (1, s2)
  else
    some (0, r1.2)
theorem J_X9_took : mj_t 5 5 = 10 ∧ (0 ≤ ((5 : Nat) : Int) + 5) = True := by and_intros <;> first | rfl | exact eq_true (by decide)
def ct_X9_took : List (Nat × mj_Cs) := [(50, 0, 1, 9, 0, 0, c_X9_peek)]
theorem L_X9_took : mj_lk ct_X9_took 50 = some (0, 1, 9, 0, 0, c_X9_peek) := rfl
set_option maxHeartbeats 4000000 in
set_option maxRecDepth 20000 in
theorem g_X9_took {k : Option Value → mj_H → Prop} {G : mj_K} (hG : mj_cl2 cX9_took (TbX9 2 ((some FieldType.boolean)) ct_X9_took) k G) {v1 : Int32} {s : St} (hw : ok (F_X9_took v1 s) (fun p => k (some (.int p.1)) (mkCs p.2))) : G 0 [.ref 7, .int v1] [] (mkCs s) 0 0 := by
  unfold F_X9_took at hw
  refine mj_run hG.1 (fun pc => pc == 4) 4000 ?_
  simp only [mj_step, mj_W_s, mj_fin, List.getElem?_cons_zero, List.getElem?_cons_succ, mj_go, Nat.reduceAdd, Nat.reduceSub, Nat.reduceLT, Nat.reduceLeDiff, Nat.zero_add, Nat.reduceEqDiff, Nat.reduceBEq, ↓reduceIte, Bool.false_eq_true, List.append_nil, List.nil_append, List.cons_append, Option.toList, and_true, true_and, true_or, or_true, reduceCtorEq, List.map_nil, bI_eq0, bI_eq1, bool_ft, pk_us, vnar0, vnar1, Bool.or_false, Bool.or_true, Bool.false_or, Bool.true_or, mj_kne, eq_self, Int32.reduceLT, Int32.reduceLE, Int32.reduceAdd, Int32.reduceSub, Int32.reduceMul, not_true_eq_false, not_false_eq_true, false_implies, true_implies, D_X9_took, mj_F_aload_n_k, mj_F_dup, mj_F_getfield_i, mj_F_iadd, mj_F_iconst_n, mj_F_if_icmp_eq_off, mj_F_iload_n_k, mj_F_invokevirtual_i, mj_F_ireturn, mj_F_putfield_i, mj_c2, mj_kc, FT_X9, PT_X9, L_X9_took, List.take_succ_cons, List.take_zero, List.drop_succ_cons, List.drop_zero, List.reverse_cons, List.reverse_nil, List.length_cons, List.length_nil, gS_C7, gCf9_2, sS_Cf_9_2, gCf9len, J_X9_took]
  refine c_X9_peek_in (ok_imp (ok_bind hw) ?_)
  intro p hw
  simp only [Option.toList, List.nil_append, List.cons_append, Nat.reduceSub]
  refine mj_run hG.1 (fun pc => pc == 4) 4000 ?_
  simp only [mj_step, mj_W_s, mj_fin, List.getElem?_cons_zero, List.getElem?_cons_succ, mj_go, Nat.reduceAdd, Nat.reduceSub, Nat.reduceLT, Nat.reduceLeDiff, Nat.zero_add, Nat.reduceEqDiff, Nat.reduceBEq, ↓reduceIte, Bool.false_eq_true, List.append_nil, List.nil_append, List.cons_append, Option.toList, and_true, true_and, true_or, or_true, reduceCtorEq, List.map_nil, bI_eq0, bI_eq1, bool_ft, pk_us, vnar0, vnar1, Bool.or_false, Bool.or_true, Bool.false_or, Bool.true_or, mj_kne, eq_self, Int32.reduceLT, Int32.reduceLE, Int32.reduceAdd, Int32.reduceSub, Int32.reduceMul, not_true_eq_false, not_false_eq_true, false_implies, true_implies, D_X9_took, mj_F_aload_n_k, mj_F_dup, mj_F_getfield_i, mj_F_iadd, mj_F_iconst_n, mj_F_if_icmp_eq_off, mj_F_iload_n_k, mj_F_invokevirtual_i, mj_F_ireturn, mj_F_putfield_i, mj_c2, mj_kc, FT_X9, PT_X9, L_X9_took, List.take_succ_cons, List.take_zero, List.drop_succ_cons, List.drop_zero, List.reverse_cons, List.reverse_nil, List.length_cons, List.length_nil, gS_C7, gCf9_2, sS_Cf_9_2, gCf9len, J_X9_took]
  refine ⟨fun c => ?_, fun c => ?_⟩
  · replace hw := ok_t hw c
    replace hw := ok_wI hw
    exact (ok_some hw :)
  · replace hw := ok_f hw c
    exact (ok_some hw :)

def c_X9_took : mj_S := fun as h k => ∃ (v1 : Int32) (s : St), as = [.ref 7, .int v1] ∧ h = mkCs s ∧ ok (F_X9_took v1 s) (fun p => k (some (.int p.1)) (mkCs p.2))
theorem c_X9_took_in {v1 : Int32} {s : St} {k : Option Value → mj_H → Prop} (hw : ok (F_X9_took v1 s) (fun p => k (some (.int p.1)) (mkCs p.2))) : c_X9_took [.ref 7, .int v1] (mkCs s) k := ⟨v1, s, rfl, rfl, hw⟩
theorem m_X9_took (l : Launch) : mj_Met l yX9_took cX9_took 2 ((some FieldType.boolean)) 1 0 0 c_X9_took := by
  refine mj_body2 false (TbX9 2 ((some FieldType.boolean)) ct_X9_took) (by decide) rfl rfl (fun h => nomatch h) (tfX9 _ (List.forall_mem_cons.mpr ⟨cfX9_50 (m_X9_peek l) (by decide), fun _ h => nomatch h⟩)) ?_
  rintro as h k ⟨v1, s, rfl, rfl, hw⟩
  exact ⟨rfl, fun G hG => g_X9_took hG hw⟩
abbrev RTC : Type := (St → Option St) × (St → Option St) × (St → Option St) × (Int32 → St → Option St) × (Int32 → St → Option St) × (Int32 → St → Option St)
def B_X9_readSum_11 (q : RTC)  : Int32 × Int32 × St → Option ((Int32 × Int32 × St) ⊕ ((St)))
  | (v1, v2, s) =>
  if 160 ≤ v2 then
    some (.inr s)
  else
    if v1 = 43 then
      (wI s 902 ((s.1 902) + 1)).bind fun s3 =>
      (q.2.1 s3).bind fun s4 =>
      (F_X9_emit (20000 + v1) s4).bind fun s5 =>
      (F_X9_peek s5).bind fun r6 =>
      some (.inl (r6.1, (v2 + 1), r6.2))
    else
      if v1 = 45 then
        (wI s 902 ((s.1 902) + 1)).bind fun s7 =>
        (q.2.1 s7).bind fun s8 =>
        (F_X9_emit (20000 + v1) s8).bind fun s9 =>
        (F_X9_peek s9).bind fun r10 =>
        some (.inl (r10.1, (v2 + 1), r10.2))
      else
        some (.inr s)
def F_X9_readSum_64 (q : RTC) (s : St) : Option (St) :=
  some s
def F_X9_readSum_11 (q : RTC) (v1 : Int32) (v2 : Int32) (s : St) : Option (St) :=
  (lp (B_X9_readSum_11 q ) FU (v1, v2, s)).bind (fun y => F_X9_readSum_64 q y)
def F_X9_readSum (q : RTC) (s : St) : Option (St) :=
  (q.2.1 s).bind fun s1 =>
  (F_X9_peek s1).bind fun r2 =>
  F_X9_readSum_11 q r2.1 0 r2.2
def B_X9_readTerm_11 (q : RTC)  : Int32 × Int32 × St → Option ((Int32 × Int32 × St) ⊕ ((St)))
  | (v1, v2, s) =>
  if 160 ≤ v2 then
    some (.inr s)
  else
    if v1 = 42 then
      (wI s 902 ((s.1 902) + 1)).bind fun s3 =>
      (q.2.2.1 s3).bind fun s4 =>
      (F_X9_emit (20000 + v1) s4).bind fun s5 =>
      (F_X9_peek s5).bind fun r6 =>
      some (.inl (r6.1, (v2 + 1), r6.2))
    else
      if v1 = 47 then
        (wI s 902 ((s.1 902) + 1)).bind fun s7 =>
        (q.2.2.1 s7).bind fun s8 =>
        (F_X9_emit (20000 + v1) s8).bind fun s9 =>
        (F_X9_peek s9).bind fun r10 =>
        some (.inl (r10.1, (v2 + 1), r10.2))
      else
        some (.inr s)
def F_X9_readTerm_64 (q : RTC) (s : St) : Option (St) :=
  some s
def F_X9_readTerm_11 (q : RTC) (v1 : Int32) (v2 : Int32) (s : St) : Option (St) :=
  (lp (B_X9_readTerm_11 q ) FU (v1, v2, s)).bind (fun y => F_X9_readTerm_64 q y)
def F_X9_readTerm (q : RTC) (s : St) : Option (St) :=
  (q.2.2.1 s).bind fun s1 =>
  (F_X9_peek s1).bind fun r2 =>
  F_X9_readTerm_11 q r2.1 0 r2.2
def F_X9_readAtom (q : RTC) (s : St) : Option (St) :=
  (F_X9_peek s).bind fun r1 =>
  if inb r1.1 48 57 = false then
    (F_X9_letterOf r1.1).bind fun r2 =>
    if r2 = (-1) then
      if r1.1 = 91 then
        (F_X9_opened r1.2).bind fun r4 =>
        if r4.1 = 0 then
          some r4.2
        else
          (q.1 r4.2).bind fun s5 =>
          (F_X9_want 93 s5).bind fun s6 =>
          (wI s6 904 ((s6.1 904) - 1)).bind fun s7 =>
          some s7
      else
        (F_X9_fail r1.2).bind fun s3 =>
        some s3
    else
      (wI r1.2 902 ((r1.2.1 902) + 1)).bind fun s8 =>
      (F_X9_letterOf r1.1).bind fun r9 =>
      (F_X9_emit (10000 + r9) s8).bind fun s10 =>
      some s10
  else
    (F_X9_readNumber r1.2).bind fun s11 =>
    some s11
def B_X9_readCondition_7 (q : RTC)  : Int32 × St → Option ((Int32 × St) ⊕ ((St)))
  | (v2, s) =>
  if 160 ≤ v2 then
    some (.inr s)
  else
    (F_X9_took 124 s).bind fun r2 =>
    if r2.1 = 0 then
      some (.inr r2.2)
    else
      (q.2.2.2.2.1 0 r2.2).bind fun s3 =>
      (F_X9_emit 20124 s3).bind fun s4 =>
      some (.inl ((v2 + 1), s4))
def F_X9_readCondition_41 (q : RTC) (s : St) : Option (St) :=
  some s
def F_X9_readCondition_7 (q : RTC) (v2 : Int32) (s : St) : Option (St) :=
  (lp (B_X9_readCondition_7 q ) FU (v2, s)).bind (fun y => F_X9_readCondition_41 q y)
def F_X9_readCondition (q : RTC) (v1 : Int32) (s : St) : Option (St) :=
  (q.2.2.2.2.1 v1 s).bind fun s1 =>
  F_X9_readCondition_7 q 0 s1
def B_X9_readPart_7 (q : RTC)  : Int32 × St → Option ((Int32 × St) ⊕ ((St)))
  | (v2, s) =>
  if 160 ≤ v2 then
    some (.inr s)
  else
    (F_X9_took 38 s).bind fun r2 =>
    if r2.1 = 0 then
      some (.inr r2.2)
    else
      (q.2.2.2.2.2 0 r2.2).bind fun s3 =>
      (F_X9_emit 20038 s3).bind fun s4 =>
      some (.inl ((v2 + 1), s4))
def F_X9_readPart_41 (q : RTC) (s : St) : Option (St) :=
  some s
def F_X9_readPart_7 (q : RTC) (v2 : Int32) (s : St) : Option (St) :=
  (lp (B_X9_readPart_7 q ) FU (v2, s)).bind (fun y => F_X9_readPart_41 q y)
def F_X9_readPart (q : RTC) (v1 : Int32) (s : St) : Option (St) :=
  (q.2.2.2.2.2 v1 s).bind fun s1 =>
  F_X9_readPart_7 q 0 s1
def F_X9_readUnit (q : RTC) (v1 : Int32) (s : St) : Option (St) :=
  if v1 = 0 then
    (F_X9_peek s).bind fun r1 =>
    if r1.1 = 33 then
      (F_X9_opened r1.2).bind fun r17 =>
      if r17.1 = 0 then
        some r17.2
      else
        (q.2.2.2.2.2 0 r17.2).bind fun s18 =>
        (wI s18 904 ((s18.1 904) - 1)).bind fun s19 =>
        (F_X9_emit 20033 s19).bind fun s20 =>
        some s20
    else
      if r1.1 = 40 then
        (F_X9_opened r1.2).bind fun r13 =>
        if r13.1 = 0 then
          some r13.2
        else
          (q.2.2.2.1 0 r13.2).bind fun s14 =>
          (F_X9_want 41 s14).bind fun s15 =>
          (wI s15 904 ((s15.1 904) - 1)).bind fun s16 =>
          some s16
      else
        if v1 = 0 then
          (q.1 r1.2).bind fun s7 =>
          (F_X9_peek s7).bind fun r8 =>
          if isRel r8.1 = false then
            (F_X9_fail r8.2).bind fun s9 =>
            some s9
          else
            (wI r8.2 902 ((r8.2.1 902) + 1)).bind fun s10 =>
            (q.1 s10).bind fun s11 =>
            (F_X9_emit (20000 + r8.1) s11).bind fun s12 =>
            some s12
        else
          (F_X9_peek r1.2).bind fun r2 =>
          if isRel r2.1 = false then
            (F_X9_fail r2.2).bind fun s3 =>
            some s3
          else
            (wI r2.2 902 ((r2.2.1 902) + 1)).bind fun s4 =>
            (q.1 s4).bind fun s5 =>
            (F_X9_emit (20000 + r2.1) s5).bind fun s6 =>
            some s6
  else
    if v1 = 0 then
      (q.1 s).bind fun s26 =>
      (F_X9_peek s26).bind fun r27 =>
      if isRel r27.1 = false then
        (F_X9_fail r27.2).bind fun s28 =>
        some s28
      else
        (wI r27.2 902 ((r27.2.1 902) + 1)).bind fun s29 =>
        (q.1 s29).bind fun s30 =>
        (F_X9_emit (20000 + r27.1) s30).bind fun s31 =>
        some s31
    else
      (F_X9_peek s).bind fun r21 =>
      if isRel r21.1 = false then
        (F_X9_fail r21.2).bind fun s22 =>
        some s22
      else
        (wI r21.2 902 ((r21.2.1 902) + 1)).bind fun s23 =>
        (q.1 s23).bind fun s24 =>
        (F_X9_emit (20000 + r21.1) s24).bind fun s25 =>
        some s25
def RGC : Nat → RTC
  | 0 => (fun _ => none, fun _ => none, fun _ => none, fun _ _ => none, fun _ _ => none, fun _ _ => none)
  | d + 1 => (F_X9_readSum (RGC d), F_X9_readTerm (RGC d), F_X9_readAtom (RGC d), F_X9_readCondition (RGC d), F_X9_readPart (RGC d), F_X9_readUnit (RGC d))
def cq_X9_readSum (f : St → Option St) : mj_S := fun as h k => ∃ (s : St), as = [.ref 7] ∧ h = mkCs s ∧ ok (f s) (fun p => k none (mkCs p))
theorem cq_X9_readSum_in {f : St → Option St} {s : St} {k : Option Value → mj_H → Prop} (hw : ok (f s) (fun p => k none (mkCs p))) : cq_X9_readSum f [.ref 7] (mkCs s) k := ⟨s, rfl, rfl, hw⟩
def cq_X9_readTerm (f : St → Option St) : mj_S := fun as h k => ∃ (s : St), as = [.ref 7] ∧ h = mkCs s ∧ ok (f s) (fun p => k none (mkCs p))
theorem cq_X9_readTerm_in {f : St → Option St} {s : St} {k : Option Value → mj_H → Prop} (hw : ok (f s) (fun p => k none (mkCs p))) : cq_X9_readTerm f [.ref 7] (mkCs s) k := ⟨s, rfl, rfl, hw⟩
def cq_X9_readAtom (f : St → Option St) : mj_S := fun as h k => ∃ (s : St), as = [.ref 7] ∧ h = mkCs s ∧ ok (f s) (fun p => k none (mkCs p))
theorem cq_X9_readAtom_in {f : St → Option St} {s : St} {k : Option Value → mj_H → Prop} (hw : ok (f s) (fun p => k none (mkCs p))) : cq_X9_readAtom f [.ref 7] (mkCs s) k := ⟨s, rfl, rfl, hw⟩
def cq_X9_readCondition (f : Int32 → St → Option St) : mj_S := fun as h k => ∃ (v1 : Int32) (s : St), as = [.ref 7, .int v1] ∧ h = mkCs s ∧ ok (f v1 s) (fun p => k none (mkCs p))
theorem cq_X9_readCondition_in {f : Int32 → St → Option St} {v1 : Int32} {s : St} {k : Option Value → mj_H → Prop} (hw : ok (f v1 s) (fun p => k none (mkCs p))) : cq_X9_readCondition f [.ref 7, .int v1] (mkCs s) k := ⟨v1, s, rfl, rfl, hw⟩
def cq_X9_readPart (f : Int32 → St → Option St) : mj_S := fun as h k => ∃ (v1 : Int32) (s : St), as = [.ref 7, .int v1] ∧ h = mkCs s ∧ ok (f v1 s) (fun p => k none (mkCs p))
theorem cq_X9_readPart_in {f : Int32 → St → Option St} {v1 : Int32} {s : St} {k : Option Value → mj_H → Prop} (hw : ok (f v1 s) (fun p => k none (mkCs p))) : cq_X9_readPart f [.ref 7, .int v1] (mkCs s) k := ⟨v1, s, rfl, rfl, hw⟩
def cq_X9_readUnit (f : Int32 → St → Option St) : mj_S := fun as h k => ∃ (v1 : Int32) (s : St), as = [.ref 7, .int v1] ∧ h = mkCs s ∧ ok (f v1 s) (fun p => k none (mkCs p))
theorem cq_X9_readUnit_in {f : Int32 → St → Option St} {v1 : Int32} {s : St} {k : Option Value → mj_H → Prop} (hw : ok (f v1 s) (fun p => k none (mkCs p))) : cq_X9_readUnit f [.ref 7, .int v1] (mkCs s) k := ⟨v1, s, rfl, rfl, hw⟩
theorem J_X9_readSum : mj_t 15 49 = 64 ∧ mj_t 21 9 = 30 ∧ mj_t 27 37 = 64 ∧ mj_t 61 (-50) = 11 ∧ (0 ≤ ((15 : Nat) : Int) + 49) = True ∧ (0 ≤ ((21 : Nat) : Int) + 9) = True ∧ (0 ≤ ((27 : Nat) : Int) + 37) = True ∧ (0 ≤ ((61 : Nat) : Int) + (-50)) = True := by and_intros <;> first | rfl | exact eq_true (by decide)
def ct_X9_readSum (q : RTC) : List (Nat × mj_Cs) := [(50, 0, 1, 9, 0, 0, c_X9_peek), (84, 0, 2, 9, 0, 0, c_X9_emit), (94, 0, 1, 9, 0, 0, (cq_X9_readTerm q.2.1))]
theorem L_X9_readSum (q : RTC) : mj_lk (ct_X9_readSum q) 50 = some (0, 1, 9, 0, 0, c_X9_peek) ∧ mj_lk (ct_X9_readSum q) 84 = some (0, 2, 9, 0, 0, c_X9_emit) ∧ mj_lk (ct_X9_readSum q) 94 = some (0, 1, 9, 0, 0, (cq_X9_readTerm q.2.1)) := ⟨rfl, rfl, rfl⟩
set_option maxHeartbeats 4000000 in
set_option maxRecDepth 20000 in
theorem b_X9_readSum_11 {q : RTC} {k : Option Value → mj_H → Prop} {G : mj_K} (hG : mj_cl2 cX9_readSum (TbX9 3 (none) (ct_X9_readSum q)) k G)  {P : Int32 × Int32 × St → Prop} {K : (St) → Prop} (hP : ∀ x, P x → G 11 [.ref 7, .int x.1, .int x.2.1] [] (mkCs x.2.2) 0 0) (hK0 : ∀ y, K y → G 64 [] [] (mkCs y) 0 0) {v1 : Int32} {v2 : Int32} {s : St} (hw : ok (B_X9_readSum_11 q  (v1, v2, s)) (Sum.elim P K)) : G 11 [.ref 7, .int v1, .int v2] [] (mkCs s) 0 0 := by
  unfold B_X9_readSum_11 at hw
  refine mj_run hG.1 (fun pc => pc == 4 || pc == 8 || pc == 11 || pc == 44 || pc == 53 || pc == 57 || pc == 64) 4000 ?_
  simp only [mj_step, mj_W_s, mj_fin, List.getElem?_cons_zero, List.getElem?_cons_succ, mj_go, Nat.reduceAdd, Nat.reduceSub, Nat.reduceLT, Nat.reduceLeDiff, Nat.zero_add, Nat.reduceEqDiff, Nat.reduceBEq, ↓reduceIte, Bool.false_eq_true, List.append_nil, List.nil_append, List.cons_append, Option.toList, and_true, true_and, true_or, or_true, reduceCtorEq, List.map_nil, bI_eq0, bI_eq1, bool_ft, pk_us, vnar0, vnar1, Bool.or_false, Bool.or_true, Bool.false_or, Bool.true_or, mj_kne, eq_self, Int32.reduceLT, Int32.reduceLE, Int32.reduceAdd, Int32.reduceSub, Int32.reduceMul, not_true_eq_false, not_false_eq_true, false_implies, true_implies, D_X9_readSum, mj_F_aload_n_k, mj_F_bipush_n, mj_F_dup, mj_F_getfield_i, mj_F_goto_off, mj_F_iadd, mj_F_iconst_n, mj_F_if_icmp_eq_off, mj_F_if_icmp_ge_off, mj_F_if_icmp_ne_off, mj_F_iinc_k_n, mj_F_iload_n_k, mj_F_invokevirtual_i, mj_F_istore_n_k, mj_F_putfield_i, mj_F_return_, mj_F_sipush_n, mj_set, mj_set0, mj_unk, mj_c2, mj_kc, FT_X9, PT_X9, L_X9_readSum, List.take_succ_cons, List.take_zero, List.drop_succ_cons, List.drop_zero, List.reverse_cons, List.reverse_nil, List.length_cons, List.length_nil, gS_C7, gCf9_2, sS_Cf_9_2, gCf9len, J_X9_readSum]
  refine ⟨fun c => ?_, fun c => ?_⟩
  · replace hw := ok_t hw c
    exact hG.2 _ _ _ _ _ _ _ _ _ (by exact trivial) (Nat.zero_le _) (Nat.zero_le _) (hK0 _ (ok_some hw :) :)
  · replace hw := ok_f hw c
    refine ⟨fun c => ?_, fun c => ?_⟩
    · replace hw := ok_t hw c
      replace hw := ok_wI hw
      refine cq_X9_readTerm_in (ok_imp (ok_bind hw) ?_)
      intro p hw
      simp only [Option.toList, List.nil_append, List.cons_append, Nat.reduceSub]
      refine mj_run hG.1 (fun pc => pc == 4 || pc == 8 || pc == 11 || pc == 44 || pc == 53 || pc == 57 || pc == 64) 4000 ?_
      simp only [mj_step, mj_W_s, mj_fin, List.getElem?_cons_zero, List.getElem?_cons_succ, mj_go, Nat.reduceAdd, Nat.reduceSub, Nat.reduceLT, Nat.reduceLeDiff, Nat.zero_add, Nat.reduceEqDiff, Nat.reduceBEq, ↓reduceIte, Bool.false_eq_true, List.append_nil, List.nil_append, List.cons_append, Option.toList, and_true, true_and, true_or, or_true, reduceCtorEq, List.map_nil, bI_eq0, bI_eq1, bool_ft, pk_us, vnar0, vnar1, Bool.or_false, Bool.or_true, Bool.false_or, Bool.true_or, mj_kne, eq_self, Int32.reduceLT, Int32.reduceLE, Int32.reduceAdd, Int32.reduceSub, Int32.reduceMul, not_true_eq_false, not_false_eq_true, false_implies, true_implies, D_X9_readSum, mj_F_aload_n_k, mj_F_bipush_n, mj_F_dup, mj_F_getfield_i, mj_F_goto_off, mj_F_iadd, mj_F_iconst_n, mj_F_if_icmp_eq_off, mj_F_if_icmp_ge_off, mj_F_if_icmp_ne_off, mj_F_iinc_k_n, mj_F_iload_n_k, mj_F_invokevirtual_i, mj_F_istore_n_k, mj_F_putfield_i, mj_F_return_, mj_F_sipush_n, mj_set, mj_set0, mj_unk, mj_c2, mj_kc, FT_X9, PT_X9, L_X9_readSum, List.take_succ_cons, List.take_zero, List.drop_succ_cons, List.drop_zero, List.reverse_cons, List.reverse_nil, List.length_cons, List.length_nil, gS_C7, gCf9_2, sS_Cf_9_2, gCf9len, J_X9_readSum]
      refine c_X9_emit_in (ok_imp (ok_bind hw) ?_)
      intro p hw
      simp only [Option.toList, List.nil_append, List.cons_append, Nat.reduceSub]
      refine mj_run hG.1 (fun pc => pc == 4 || pc == 8 || pc == 11 || pc == 44 || pc == 53 || pc == 57 || pc == 64) 4000 ?_
      simp only [mj_step, mj_W_s, mj_fin, List.getElem?_cons_zero, List.getElem?_cons_succ, mj_go, Nat.reduceAdd, Nat.reduceSub, Nat.reduceLT, Nat.reduceLeDiff, Nat.zero_add, Nat.reduceEqDiff, Nat.reduceBEq, ↓reduceIte, Bool.false_eq_true, List.append_nil, List.nil_append, List.cons_append, Option.toList, and_true, true_and, true_or, or_true, reduceCtorEq, List.map_nil, bI_eq0, bI_eq1, bool_ft, pk_us, vnar0, vnar1, Bool.or_false, Bool.or_true, Bool.false_or, Bool.true_or, mj_kne, eq_self, Int32.reduceLT, Int32.reduceLE, Int32.reduceAdd, Int32.reduceSub, Int32.reduceMul, not_true_eq_false, not_false_eq_true, false_implies, true_implies, D_X9_readSum, mj_F_aload_n_k, mj_F_bipush_n, mj_F_dup, mj_F_getfield_i, mj_F_goto_off, mj_F_iadd, mj_F_iconst_n, mj_F_if_icmp_eq_off, mj_F_if_icmp_ge_off, mj_F_if_icmp_ne_off, mj_F_iinc_k_n, mj_F_iload_n_k, mj_F_invokevirtual_i, mj_F_istore_n_k, mj_F_putfield_i, mj_F_return_, mj_F_sipush_n, mj_set, mj_set0, mj_unk, mj_c2, mj_kc, FT_X9, PT_X9, L_X9_readSum, List.take_succ_cons, List.take_zero, List.drop_succ_cons, List.drop_zero, List.reverse_cons, List.reverse_nil, List.length_cons, List.length_nil, gS_C7, gCf9_2, sS_Cf_9_2, gCf9len, J_X9_readSum]
      refine c_X9_peek_in (ok_imp (ok_bind hw) ?_)
      intro p hw
      simp only [Option.toList, List.nil_append, List.cons_append, Nat.reduceSub]
      refine mj_run hG.1 (fun pc => pc == 4 || pc == 8 || pc == 11 || pc == 44 || pc == 53 || pc == 57 || pc == 64) 4000 ?_
      simp only [mj_step, mj_W_s, mj_fin, List.getElem?_cons_zero, List.getElem?_cons_succ, mj_go, Nat.reduceAdd, Nat.reduceSub, Nat.reduceLT, Nat.reduceLeDiff, Nat.zero_add, Nat.reduceEqDiff, Nat.reduceBEq, ↓reduceIte, Bool.false_eq_true, List.append_nil, List.nil_append, List.cons_append, Option.toList, and_true, true_and, true_or, or_true, reduceCtorEq, List.map_nil, bI_eq0, bI_eq1, bool_ft, pk_us, vnar0, vnar1, Bool.or_false, Bool.or_true, Bool.false_or, Bool.true_or, mj_kne, eq_self, Int32.reduceLT, Int32.reduceLE, Int32.reduceAdd, Int32.reduceSub, Int32.reduceMul, not_true_eq_false, not_false_eq_true, false_implies, true_implies, D_X9_readSum, mj_F_aload_n_k, mj_F_bipush_n, mj_F_dup, mj_F_getfield_i, mj_F_goto_off, mj_F_iadd, mj_F_iconst_n, mj_F_if_icmp_eq_off, mj_F_if_icmp_ge_off, mj_F_if_icmp_ne_off, mj_F_iinc_k_n, mj_F_iload_n_k, mj_F_invokevirtual_i, mj_F_istore_n_k, mj_F_putfield_i, mj_F_return_, mj_F_sipush_n, mj_set, mj_set0, mj_unk, mj_c2, mj_kc, FT_X9, PT_X9, L_X9_readSum, List.take_succ_cons, List.take_zero, List.drop_succ_cons, List.drop_zero, List.reverse_cons, List.reverse_nil, List.length_cons, List.length_nil, gS_C7, gCf9_2, sS_Cf_9_2, gCf9len, J_X9_readSum]
      exact hG.2 _ _ _ _ _ _ _ _ _ (by refine ⟨Or.inr rfl, ?_⟩; refine ⟨Or.inr rfl, ?_⟩; refine ⟨Or.inr rfl, ?_⟩; exact trivial) (Nat.zero_le _) (Nat.zero_le _) (hP _ (ok_some hw :) :)
    · replace hw := ok_f hw c
      refine ⟨fun c => ?_, fun c => ?_⟩
      · replace hw := ok_f hw c
        exact hG.2 _ _ _ _ _ _ _ _ _ (by exact trivial) (Nat.zero_le _) (Nat.zero_le _) (hK0 _ (ok_some hw :) :)
      · replace hw := ok_t hw c
        replace hw := ok_wI hw
        refine cq_X9_readTerm_in (ok_imp (ok_bind hw) ?_)
        intro p hw
        simp only [Option.toList, List.nil_append, List.cons_append, Nat.reduceSub]
        refine mj_run hG.1 (fun pc => pc == 4 || pc == 8 || pc == 11 || pc == 44 || pc == 53 || pc == 57 || pc == 64) 4000 ?_
        simp only [mj_step, mj_W_s, mj_fin, List.getElem?_cons_zero, List.getElem?_cons_succ, mj_go, Nat.reduceAdd, Nat.reduceSub, Nat.reduceLT, Nat.reduceLeDiff, Nat.zero_add, Nat.reduceEqDiff, Nat.reduceBEq, ↓reduceIte, Bool.false_eq_true, List.append_nil, List.nil_append, List.cons_append, Option.toList, and_true, true_and, true_or, or_true, reduceCtorEq, List.map_nil, bI_eq0, bI_eq1, bool_ft, pk_us, vnar0, vnar1, Bool.or_false, Bool.or_true, Bool.false_or, Bool.true_or, mj_kne, eq_self, Int32.reduceLT, Int32.reduceLE, Int32.reduceAdd, Int32.reduceSub, Int32.reduceMul, not_true_eq_false, not_false_eq_true, false_implies, true_implies, D_X9_readSum, mj_F_aload_n_k, mj_F_bipush_n, mj_F_dup, mj_F_getfield_i, mj_F_goto_off, mj_F_iadd, mj_F_iconst_n, mj_F_if_icmp_eq_off, mj_F_if_icmp_ge_off, mj_F_if_icmp_ne_off, mj_F_iinc_k_n, mj_F_iload_n_k, mj_F_invokevirtual_i, mj_F_istore_n_k, mj_F_putfield_i, mj_F_return_, mj_F_sipush_n, mj_set, mj_set0, mj_unk, mj_c2, mj_kc, FT_X9, PT_X9, L_X9_readSum, List.take_succ_cons, List.take_zero, List.drop_succ_cons, List.drop_zero, List.reverse_cons, List.reverse_nil, List.length_cons, List.length_nil, gS_C7, gCf9_2, sS_Cf_9_2, gCf9len, J_X9_readSum]
        refine c_X9_emit_in (ok_imp (ok_bind hw) ?_)
        intro p hw
        simp only [Option.toList, List.nil_append, List.cons_append, Nat.reduceSub]
        refine mj_run hG.1 (fun pc => pc == 4 || pc == 8 || pc == 11 || pc == 44 || pc == 53 || pc == 57 || pc == 64) 4000 ?_
        simp only [mj_step, mj_W_s, mj_fin, List.getElem?_cons_zero, List.getElem?_cons_succ, mj_go, Nat.reduceAdd, Nat.reduceSub, Nat.reduceLT, Nat.reduceLeDiff, Nat.zero_add, Nat.reduceEqDiff, Nat.reduceBEq, ↓reduceIte, Bool.false_eq_true, List.append_nil, List.nil_append, List.cons_append, Option.toList, and_true, true_and, true_or, or_true, reduceCtorEq, List.map_nil, bI_eq0, bI_eq1, bool_ft, pk_us, vnar0, vnar1, Bool.or_false, Bool.or_true, Bool.false_or, Bool.true_or, mj_kne, eq_self, Int32.reduceLT, Int32.reduceLE, Int32.reduceAdd, Int32.reduceSub, Int32.reduceMul, not_true_eq_false, not_false_eq_true, false_implies, true_implies, D_X9_readSum, mj_F_aload_n_k, mj_F_bipush_n, mj_F_dup, mj_F_getfield_i, mj_F_goto_off, mj_F_iadd, mj_F_iconst_n, mj_F_if_icmp_eq_off, mj_F_if_icmp_ge_off, mj_F_if_icmp_ne_off, mj_F_iinc_k_n, mj_F_iload_n_k, mj_F_invokevirtual_i, mj_F_istore_n_k, mj_F_putfield_i, mj_F_return_, mj_F_sipush_n, mj_set, mj_set0, mj_unk, mj_c2, mj_kc, FT_X9, PT_X9, L_X9_readSum, List.take_succ_cons, List.take_zero, List.drop_succ_cons, List.drop_zero, List.reverse_cons, List.reverse_nil, List.length_cons, List.length_nil, gS_C7, gCf9_2, sS_Cf_9_2, gCf9len, J_X9_readSum]
        refine c_X9_peek_in (ok_imp (ok_bind hw) ?_)
        intro p hw
        simp only [Option.toList, List.nil_append, List.cons_append, Nat.reduceSub]
        refine mj_run hG.1 (fun pc => pc == 4 || pc == 8 || pc == 11 || pc == 44 || pc == 53 || pc == 57 || pc == 64) 4000 ?_
        simp only [mj_step, mj_W_s, mj_fin, List.getElem?_cons_zero, List.getElem?_cons_succ, mj_go, Nat.reduceAdd, Nat.reduceSub, Nat.reduceLT, Nat.reduceLeDiff, Nat.zero_add, Nat.reduceEqDiff, Nat.reduceBEq, ↓reduceIte, Bool.false_eq_true, List.append_nil, List.nil_append, List.cons_append, Option.toList, and_true, true_and, true_or, or_true, reduceCtorEq, List.map_nil, bI_eq0, bI_eq1, bool_ft, pk_us, vnar0, vnar1, Bool.or_false, Bool.or_true, Bool.false_or, Bool.true_or, mj_kne, eq_self, Int32.reduceLT, Int32.reduceLE, Int32.reduceAdd, Int32.reduceSub, Int32.reduceMul, not_true_eq_false, not_false_eq_true, false_implies, true_implies, D_X9_readSum, mj_F_aload_n_k, mj_F_bipush_n, mj_F_dup, mj_F_getfield_i, mj_F_goto_off, mj_F_iadd, mj_F_iconst_n, mj_F_if_icmp_eq_off, mj_F_if_icmp_ge_off, mj_F_if_icmp_ne_off, mj_F_iinc_k_n, mj_F_iload_n_k, mj_F_invokevirtual_i, mj_F_istore_n_k, mj_F_putfield_i, mj_F_return_, mj_F_sipush_n, mj_set, mj_set0, mj_unk, mj_c2, mj_kc, FT_X9, PT_X9, L_X9_readSum, List.take_succ_cons, List.take_zero, List.drop_succ_cons, List.drop_zero, List.reverse_cons, List.reverse_nil, List.length_cons, List.length_nil, gS_C7, gCf9_2, sS_Cf_9_2, gCf9len, J_X9_readSum]
        exact hG.2 _ _ _ _ _ _ _ _ _ (by refine ⟨Or.inr rfl, ?_⟩; refine ⟨Or.inr rfl, ?_⟩; refine ⟨Or.inr rfl, ?_⟩; exact trivial) (Nat.zero_le _) (Nat.zero_le _) (hP _ (ok_some hw :) :)

set_option maxHeartbeats 4000000 in
set_option maxRecDepth 20000 in
theorem g_X9_readSum_64 {q : RTC} {k : Option Value → mj_H → Prop} {G : mj_K} (hG : mj_cl2 cX9_readSum (TbX9 3 (none) (ct_X9_readSum q)) k G)   {s : St} (hw : ok (F_X9_readSum_64 q s) (fun p => k none (mkCs p))) : G 64 [] [] (mkCs s) 0 0 := by
  unfold F_X9_readSum_64 at hw
  refine mj_run hG.1 (fun pc => pc == 4 || pc == 8 || pc == 11 || pc == 44 || pc == 53 || pc == 57 || pc == 64) 4000 ?_
  simp only [mj_step, mj_W_s, mj_fin, List.getElem?_cons_zero, List.getElem?_cons_succ, mj_go, Nat.reduceAdd, Nat.reduceSub, Nat.reduceLT, Nat.reduceLeDiff, Nat.zero_add, Nat.reduceEqDiff, Nat.reduceBEq, ↓reduceIte, Bool.false_eq_true, List.append_nil, List.nil_append, List.cons_append, Option.toList, and_true, true_and, true_or, or_true, reduceCtorEq, List.map_nil, bI_eq0, bI_eq1, bool_ft, pk_us, vnar0, vnar1, Bool.or_false, Bool.or_true, Bool.false_or, Bool.true_or, mj_kne, eq_self, Int32.reduceLT, Int32.reduceLE, Int32.reduceAdd, Int32.reduceSub, Int32.reduceMul, not_true_eq_false, not_false_eq_true, false_implies, true_implies, D_X9_readSum, mj_F_aload_n_k, mj_F_bipush_n, mj_F_dup, mj_F_getfield_i, mj_F_goto_off, mj_F_iadd, mj_F_iconst_n, mj_F_if_icmp_eq_off, mj_F_if_icmp_ge_off, mj_F_if_icmp_ne_off, mj_F_iinc_k_n, mj_F_iload_n_k, mj_F_invokevirtual_i, mj_F_istore_n_k, mj_F_putfield_i, mj_F_return_, mj_F_sipush_n, mj_set, mj_set0, mj_unk, mj_c2, mj_kc, FT_X9, PT_X9, L_X9_readSum, List.take_succ_cons, List.take_zero, List.drop_succ_cons, List.drop_zero, List.reverse_cons, List.reverse_nil, List.length_cons, List.length_nil, gS_C7, gCf9_2, sS_Cf_9_2, gCf9len, J_X9_readSum]
  exact (ok_some hw :)

set_option maxHeartbeats 4000000 in
theorem g_X9_readSum_11 {q : RTC} {k : Option Value → mj_H → Prop} {G : mj_K} (hG : mj_cl2 cX9_readSum (TbX9 3 (none) (ct_X9_readSum q)) k G)   {v1 : Int32} {v2 : Int32} {s : St} (hw : ok (F_X9_readSum_11 q v1 v2 s) (fun p => k none (mkCs p))) : G 11 [.ref 7, .int v1, .int v2] [] (mkCs s) 0 0 := by
  unfold F_X9_readSum_11 at hw
  refine lp_ok (B_X9_readSum_11 q ) (fun x => G 11 [.ref 7, .int x.1, .int x.2.1] [] (mkCs x.2.2) 0 0) _ ?_ _ _ (ok_bind hw)
  rintro ⟨v1, v2, s⟩ hb
  exact b_X9_readSum_11 hG (fun _ z => z) (fun y hw => by exact hG.2 _ _ _ _ _ _ _ _ _ (by exact trivial) (Nat.zero_le _) (Nat.zero_le _) (g_X9_readSum_64 hG  hw :)) hb

set_option maxHeartbeats 4000000 in
set_option maxRecDepth 20000 in
theorem g_X9_readSum {q : RTC} {k : Option Value → mj_H → Prop} {G : mj_K} (hG : mj_cl2 cX9_readSum (TbX9 3 (none) (ct_X9_readSum q)) k G) {s : St} (hw : ok (F_X9_readSum q s) (fun p => k none (mkCs p))) : G 0 [.ref 7] [] (mkCs s) 0 0 := by
  unfold F_X9_readSum at hw
  refine mj_run hG.1 (fun pc => pc == 4 || pc == 8 || pc == 11 || pc == 44 || pc == 53 || pc == 57 || pc == 64) 4000 ?_
  simp only [mj_step, mj_W_s, mj_fin, List.getElem?_cons_zero, List.getElem?_cons_succ, mj_go, Nat.reduceAdd, Nat.reduceSub, Nat.reduceLT, Nat.reduceLeDiff, Nat.zero_add, Nat.reduceEqDiff, Nat.reduceBEq, ↓reduceIte, Bool.false_eq_true, List.append_nil, List.nil_append, List.cons_append, Option.toList, and_true, true_and, true_or, or_true, reduceCtorEq, List.map_nil, bI_eq0, bI_eq1, bool_ft, pk_us, vnar0, vnar1, Bool.or_false, Bool.or_true, Bool.false_or, Bool.true_or, mj_kne, eq_self, Int32.reduceLT, Int32.reduceLE, Int32.reduceAdd, Int32.reduceSub, Int32.reduceMul, not_true_eq_false, not_false_eq_true, false_implies, true_implies, D_X9_readSum, mj_F_aload_n_k, mj_F_bipush_n, mj_F_dup, mj_F_getfield_i, mj_F_goto_off, mj_F_iadd, mj_F_iconst_n, mj_F_if_icmp_eq_off, mj_F_if_icmp_ge_off, mj_F_if_icmp_ne_off, mj_F_iinc_k_n, mj_F_iload_n_k, mj_F_invokevirtual_i, mj_F_istore_n_k, mj_F_putfield_i, mj_F_return_, mj_F_sipush_n, mj_set, mj_set0, mj_unk, mj_c2, mj_kc, FT_X9, PT_X9, L_X9_readSum, List.take_succ_cons, List.take_zero, List.drop_succ_cons, List.drop_zero, List.reverse_cons, List.reverse_nil, List.length_cons, List.length_nil, gS_C7, gCf9_2, sS_Cf_9_2, gCf9len, J_X9_readSum]
  refine cq_X9_readTerm_in (ok_imp (ok_bind hw) ?_)
  intro p hw
  simp only [Option.toList, List.nil_append, List.cons_append, Nat.reduceSub]
  refine mj_run hG.1 (fun pc => pc == 4 || pc == 8 || pc == 11 || pc == 44 || pc == 53 || pc == 57 || pc == 64) 4000 ?_
  simp only [mj_step, mj_W_s, mj_fin, List.getElem?_cons_zero, List.getElem?_cons_succ, mj_go, Nat.reduceAdd, Nat.reduceSub, Nat.reduceLT, Nat.reduceLeDiff, Nat.zero_add, Nat.reduceEqDiff, Nat.reduceBEq, ↓reduceIte, Bool.false_eq_true, List.append_nil, List.nil_append, List.cons_append, Option.toList, and_true, true_and, true_or, or_true, reduceCtorEq, List.map_nil, bI_eq0, bI_eq1, bool_ft, pk_us, vnar0, vnar1, Bool.or_false, Bool.or_true, Bool.false_or, Bool.true_or, mj_kne, eq_self, Int32.reduceLT, Int32.reduceLE, Int32.reduceAdd, Int32.reduceSub, Int32.reduceMul, not_true_eq_false, not_false_eq_true, false_implies, true_implies, D_X9_readSum, mj_F_aload_n_k, mj_F_bipush_n, mj_F_dup, mj_F_getfield_i, mj_F_goto_off, mj_F_iadd, mj_F_iconst_n, mj_F_if_icmp_eq_off, mj_F_if_icmp_ge_off, mj_F_if_icmp_ne_off, mj_F_iinc_k_n, mj_F_iload_n_k, mj_F_invokevirtual_i, mj_F_istore_n_k, mj_F_putfield_i, mj_F_return_, mj_F_sipush_n, mj_set, mj_set0, mj_unk, mj_c2, mj_kc, FT_X9, PT_X9, L_X9_readSum, List.take_succ_cons, List.take_zero, List.drop_succ_cons, List.drop_zero, List.reverse_cons, List.reverse_nil, List.length_cons, List.length_nil, gS_C7, gCf9_2, sS_Cf_9_2, gCf9len, J_X9_readSum]
  refine c_X9_peek_in (ok_imp (ok_bind hw) ?_)
  intro p hw
  simp only [Option.toList, List.nil_append, List.cons_append, Nat.reduceSub]
  refine mj_run hG.1 (fun pc => pc == 4 || pc == 8 || pc == 11 || pc == 44 || pc == 53 || pc == 57 || pc == 64) 4000 ?_
  simp only [mj_step, mj_W_s, mj_fin, List.getElem?_cons_zero, List.getElem?_cons_succ, mj_go, Nat.reduceAdd, Nat.reduceSub, Nat.reduceLT, Nat.reduceLeDiff, Nat.zero_add, Nat.reduceEqDiff, Nat.reduceBEq, ↓reduceIte, Bool.false_eq_true, List.append_nil, List.nil_append, List.cons_append, Option.toList, and_true, true_and, true_or, or_true, reduceCtorEq, List.map_nil, bI_eq0, bI_eq1, bool_ft, pk_us, vnar0, vnar1, Bool.or_false, Bool.or_true, Bool.false_or, Bool.true_or, mj_kne, eq_self, Int32.reduceLT, Int32.reduceLE, Int32.reduceAdd, Int32.reduceSub, Int32.reduceMul, not_true_eq_false, not_false_eq_true, false_implies, true_implies, D_X9_readSum, mj_F_aload_n_k, mj_F_bipush_n, mj_F_dup, mj_F_getfield_i, mj_F_goto_off, mj_F_iadd, mj_F_iconst_n, mj_F_if_icmp_eq_off, mj_F_if_icmp_ge_off, mj_F_if_icmp_ne_off, mj_F_iinc_k_n, mj_F_iload_n_k, mj_F_invokevirtual_i, mj_F_istore_n_k, mj_F_putfield_i, mj_F_return_, mj_F_sipush_n, mj_set, mj_set0, mj_unk, mj_c2, mj_kc, FT_X9, PT_X9, L_X9_readSum, List.take_succ_cons, List.take_zero, List.drop_succ_cons, List.drop_zero, List.reverse_cons, List.reverse_nil, List.length_cons, List.length_nil, gS_C7, gCf9_2, sS_Cf_9_2, gCf9len, J_X9_readSum]
  exact hG.2 _ _ _ _ _ _ _ _ _ (by refine ⟨Or.inr rfl, ?_⟩; refine ⟨Or.inr rfl, ?_⟩; refine ⟨Or.inr rfl, ?_⟩; exact trivial) (Nat.zero_le _) (Nat.zero_le _) (g_X9_readSum_11 hG  hw :)

theorem J_X9_readTerm : mj_t 15 49 = 64 ∧ mj_t 21 9 = 30 ∧ mj_t 27 37 = 64 ∧ mj_t 61 (-50) = 11 ∧ (0 ≤ ((15 : Nat) : Int) + 49) = True ∧ (0 ≤ ((21 : Nat) : Int) + 9) = True ∧ (0 ≤ ((27 : Nat) : Int) + 37) = True ∧ (0 ≤ ((61 : Nat) : Int) + (-50)) = True := by and_intros <;> first | rfl | exact eq_true (by decide)
def ct_X9_readTerm (q : RTC) : List (Nat × mj_Cs) := [(50, 0, 1, 9, 0, 0, c_X9_peek), (84, 0, 2, 9, 0, 0, c_X9_emit), (97, 0, 1, 9, 0, 0, (cq_X9_readAtom q.2.2.1))]
theorem L_X9_readTerm (q : RTC) : mj_lk (ct_X9_readTerm q) 50 = some (0, 1, 9, 0, 0, c_X9_peek) ∧ mj_lk (ct_X9_readTerm q) 84 = some (0, 2, 9, 0, 0, c_X9_emit) ∧ mj_lk (ct_X9_readTerm q) 97 = some (0, 1, 9, 0, 0, (cq_X9_readAtom q.2.2.1)) := ⟨rfl, rfl, rfl⟩
set_option maxHeartbeats 4000000 in
set_option maxRecDepth 20000 in
theorem b_X9_readTerm_11 {q : RTC} {k : Option Value → mj_H → Prop} {G : mj_K} (hG : mj_cl2 cX9_readTerm (TbX9 3 (none) (ct_X9_readTerm q)) k G)  {P : Int32 × Int32 × St → Prop} {K : (St) → Prop} (hP : ∀ x, P x → G 11 [.ref 7, .int x.1, .int x.2.1] [] (mkCs x.2.2) 0 0) (hK0 : ∀ y, K y → G 64 [] [] (mkCs y) 0 0) {v1 : Int32} {v2 : Int32} {s : St} (hw : ok (B_X9_readTerm_11 q  (v1, v2, s)) (Sum.elim P K)) : G 11 [.ref 7, .int v1, .int v2] [] (mkCs s) 0 0 := by
  unfold B_X9_readTerm_11 at hw
  refine mj_run hG.1 (fun pc => pc == 4 || pc == 8 || pc == 11 || pc == 44 || pc == 53 || pc == 57 || pc == 64) 4000 ?_
  simp only [mj_step, mj_W_s, mj_fin, List.getElem?_cons_zero, List.getElem?_cons_succ, mj_go, Nat.reduceAdd, Nat.reduceSub, Nat.reduceLT, Nat.reduceLeDiff, Nat.zero_add, Nat.reduceEqDiff, Nat.reduceBEq, ↓reduceIte, Bool.false_eq_true, List.append_nil, List.nil_append, List.cons_append, Option.toList, and_true, true_and, true_or, or_true, reduceCtorEq, List.map_nil, bI_eq0, bI_eq1, bool_ft, pk_us, vnar0, vnar1, Bool.or_false, Bool.or_true, Bool.false_or, Bool.true_or, mj_kne, eq_self, Int32.reduceLT, Int32.reduceLE, Int32.reduceAdd, Int32.reduceSub, Int32.reduceMul, not_true_eq_false, not_false_eq_true, false_implies, true_implies, D_X9_readTerm, mj_F_aload_n_k, mj_F_bipush_n, mj_F_dup, mj_F_getfield_i, mj_F_goto_off, mj_F_iadd, mj_F_iconst_n, mj_F_if_icmp_eq_off, mj_F_if_icmp_ge_off, mj_F_if_icmp_ne_off, mj_F_iinc_k_n, mj_F_iload_n_k, mj_F_invokevirtual_i, mj_F_istore_n_k, mj_F_putfield_i, mj_F_return_, mj_F_sipush_n, mj_set, mj_set0, mj_unk, mj_c2, mj_kc, FT_X9, PT_X9, L_X9_readTerm, List.take_succ_cons, List.take_zero, List.drop_succ_cons, List.drop_zero, List.reverse_cons, List.reverse_nil, List.length_cons, List.length_nil, gS_C7, gCf9_2, sS_Cf_9_2, gCf9len, J_X9_readTerm]
  refine ⟨fun c => ?_, fun c => ?_⟩
  · replace hw := ok_t hw c
    exact hG.2 _ _ _ _ _ _ _ _ _ (by exact trivial) (Nat.zero_le _) (Nat.zero_le _) (hK0 _ (ok_some hw :) :)
  · replace hw := ok_f hw c
    refine ⟨fun c => ?_, fun c => ?_⟩
    · replace hw := ok_t hw c
      replace hw := ok_wI hw
      refine cq_X9_readAtom_in (ok_imp (ok_bind hw) ?_)
      intro p hw
      simp only [Option.toList, List.nil_append, List.cons_append, Nat.reduceSub]
      refine mj_run hG.1 (fun pc => pc == 4 || pc == 8 || pc == 11 || pc == 44 || pc == 53 || pc == 57 || pc == 64) 4000 ?_
      simp only [mj_step, mj_W_s, mj_fin, List.getElem?_cons_zero, List.getElem?_cons_succ, mj_go, Nat.reduceAdd, Nat.reduceSub, Nat.reduceLT, Nat.reduceLeDiff, Nat.zero_add, Nat.reduceEqDiff, Nat.reduceBEq, ↓reduceIte, Bool.false_eq_true, List.append_nil, List.nil_append, List.cons_append, Option.toList, and_true, true_and, true_or, or_true, reduceCtorEq, List.map_nil, bI_eq0, bI_eq1, bool_ft, pk_us, vnar0, vnar1, Bool.or_false, Bool.or_true, Bool.false_or, Bool.true_or, mj_kne, eq_self, Int32.reduceLT, Int32.reduceLE, Int32.reduceAdd, Int32.reduceSub, Int32.reduceMul, not_true_eq_false, not_false_eq_true, false_implies, true_implies, D_X9_readTerm, mj_F_aload_n_k, mj_F_bipush_n, mj_F_dup, mj_F_getfield_i, mj_F_goto_off, mj_F_iadd, mj_F_iconst_n, mj_F_if_icmp_eq_off, mj_F_if_icmp_ge_off, mj_F_if_icmp_ne_off, mj_F_iinc_k_n, mj_F_iload_n_k, mj_F_invokevirtual_i, mj_F_istore_n_k, mj_F_putfield_i, mj_F_return_, mj_F_sipush_n, mj_set, mj_set0, mj_unk, mj_c2, mj_kc, FT_X9, PT_X9, L_X9_readTerm, List.take_succ_cons, List.take_zero, List.drop_succ_cons, List.drop_zero, List.reverse_cons, List.reverse_nil, List.length_cons, List.length_nil, gS_C7, gCf9_2, sS_Cf_9_2, gCf9len, J_X9_readTerm]
      refine c_X9_emit_in (ok_imp (ok_bind hw) ?_)
      intro p hw
      simp only [Option.toList, List.nil_append, List.cons_append, Nat.reduceSub]
      refine mj_run hG.1 (fun pc => pc == 4 || pc == 8 || pc == 11 || pc == 44 || pc == 53 || pc == 57 || pc == 64) 4000 ?_
      simp only [mj_step, mj_W_s, mj_fin, List.getElem?_cons_zero, List.getElem?_cons_succ, mj_go, Nat.reduceAdd, Nat.reduceSub, Nat.reduceLT, Nat.reduceLeDiff, Nat.zero_add, Nat.reduceEqDiff, Nat.reduceBEq, ↓reduceIte, Bool.false_eq_true, List.append_nil, List.nil_append, List.cons_append, Option.toList, and_true, true_and, true_or, or_true, reduceCtorEq, List.map_nil, bI_eq0, bI_eq1, bool_ft, pk_us, vnar0, vnar1, Bool.or_false, Bool.or_true, Bool.false_or, Bool.true_or, mj_kne, eq_self, Int32.reduceLT, Int32.reduceLE, Int32.reduceAdd, Int32.reduceSub, Int32.reduceMul, not_true_eq_false, not_false_eq_true, false_implies, true_implies, D_X9_readTerm, mj_F_aload_n_k, mj_F_bipush_n, mj_F_dup, mj_F_getfield_i, mj_F_goto_off, mj_F_iadd, mj_F_iconst_n, mj_F_if_icmp_eq_off, mj_F_if_icmp_ge_off, mj_F_if_icmp_ne_off, mj_F_iinc_k_n, mj_F_iload_n_k, mj_F_invokevirtual_i, mj_F_istore_n_k, mj_F_putfield_i, mj_F_return_, mj_F_sipush_n, mj_set, mj_set0, mj_unk, mj_c2, mj_kc, FT_X9, PT_X9, L_X9_readTerm, List.take_succ_cons, List.take_zero, List.drop_succ_cons, List.drop_zero, List.reverse_cons, List.reverse_nil, List.length_cons, List.length_nil, gS_C7, gCf9_2, sS_Cf_9_2, gCf9len, J_X9_readTerm]
      refine c_X9_peek_in (ok_imp (ok_bind hw) ?_)
      intro p hw
      simp only [Option.toList, List.nil_append, List.cons_append, Nat.reduceSub]
      refine mj_run hG.1 (fun pc => pc == 4 || pc == 8 || pc == 11 || pc == 44 || pc == 53 || pc == 57 || pc == 64) 4000 ?_
      simp only [mj_step, mj_W_s, mj_fin, List.getElem?_cons_zero, List.getElem?_cons_succ, mj_go, Nat.reduceAdd, Nat.reduceSub, Nat.reduceLT, Nat.reduceLeDiff, Nat.zero_add, Nat.reduceEqDiff, Nat.reduceBEq, ↓reduceIte, Bool.false_eq_true, List.append_nil, List.nil_append, List.cons_append, Option.toList, and_true, true_and, true_or, or_true, reduceCtorEq, List.map_nil, bI_eq0, bI_eq1, bool_ft, pk_us, vnar0, vnar1, Bool.or_false, Bool.or_true, Bool.false_or, Bool.true_or, mj_kne, eq_self, Int32.reduceLT, Int32.reduceLE, Int32.reduceAdd, Int32.reduceSub, Int32.reduceMul, not_true_eq_false, not_false_eq_true, false_implies, true_implies, D_X9_readTerm, mj_F_aload_n_k, mj_F_bipush_n, mj_F_dup, mj_F_getfield_i, mj_F_goto_off, mj_F_iadd, mj_F_iconst_n, mj_F_if_icmp_eq_off, mj_F_if_icmp_ge_off, mj_F_if_icmp_ne_off, mj_F_iinc_k_n, mj_F_iload_n_k, mj_F_invokevirtual_i, mj_F_istore_n_k, mj_F_putfield_i, mj_F_return_, mj_F_sipush_n, mj_set, mj_set0, mj_unk, mj_c2, mj_kc, FT_X9, PT_X9, L_X9_readTerm, List.take_succ_cons, List.take_zero, List.drop_succ_cons, List.drop_zero, List.reverse_cons, List.reverse_nil, List.length_cons, List.length_nil, gS_C7, gCf9_2, sS_Cf_9_2, gCf9len, J_X9_readTerm]
      exact hG.2 _ _ _ _ _ _ _ _ _ (by refine ⟨Or.inr rfl, ?_⟩; refine ⟨Or.inr rfl, ?_⟩; refine ⟨Or.inr rfl, ?_⟩; exact trivial) (Nat.zero_le _) (Nat.zero_le _) (hP _ (ok_some hw :) :)
    · replace hw := ok_f hw c
      refine ⟨fun c => ?_, fun c => ?_⟩
      · replace hw := ok_f hw c
        exact hG.2 _ _ _ _ _ _ _ _ _ (by exact trivial) (Nat.zero_le _) (Nat.zero_le _) (hK0 _ (ok_some hw :) :)
      · replace hw := ok_t hw c
        replace hw := ok_wI hw
        refine cq_X9_readAtom_in (ok_imp (ok_bind hw) ?_)
        intro p hw
        simp only [Option.toList, List.nil_append, List.cons_append, Nat.reduceSub]
        refine mj_run hG.1 (fun pc => pc == 4 || pc == 8 || pc == 11 || pc == 44 || pc == 53 || pc == 57 || pc == 64) 4000 ?_
        simp only [mj_step, mj_W_s, mj_fin, List.getElem?_cons_zero, List.getElem?_cons_succ, mj_go, Nat.reduceAdd, Nat.reduceSub, Nat.reduceLT, Nat.reduceLeDiff, Nat.zero_add, Nat.reduceEqDiff, Nat.reduceBEq, ↓reduceIte, Bool.false_eq_true, List.append_nil, List.nil_append, List.cons_append, Option.toList, and_true, true_and, true_or, or_true, reduceCtorEq, List.map_nil, bI_eq0, bI_eq1, bool_ft, pk_us, vnar0, vnar1, Bool.or_false, Bool.or_true, Bool.false_or, Bool.true_or, mj_kne, eq_self, Int32.reduceLT, Int32.reduceLE, Int32.reduceAdd, Int32.reduceSub, Int32.reduceMul, not_true_eq_false, not_false_eq_true, false_implies, true_implies, D_X9_readTerm, mj_F_aload_n_k, mj_F_bipush_n, mj_F_dup, mj_F_getfield_i, mj_F_goto_off, mj_F_iadd, mj_F_iconst_n, mj_F_if_icmp_eq_off, mj_F_if_icmp_ge_off, mj_F_if_icmp_ne_off, mj_F_iinc_k_n, mj_F_iload_n_k, mj_F_invokevirtual_i, mj_F_istore_n_k, mj_F_putfield_i, mj_F_return_, mj_F_sipush_n, mj_set, mj_set0, mj_unk, mj_c2, mj_kc, FT_X9, PT_X9, L_X9_readTerm, List.take_succ_cons, List.take_zero, List.drop_succ_cons, List.drop_zero, List.reverse_cons, List.reverse_nil, List.length_cons, List.length_nil, gS_C7, gCf9_2, sS_Cf_9_2, gCf9len, J_X9_readTerm]
        refine c_X9_emit_in (ok_imp (ok_bind hw) ?_)
        intro p hw
        simp only [Option.toList, List.nil_append, List.cons_append, Nat.reduceSub]
        refine mj_run hG.1 (fun pc => pc == 4 || pc == 8 || pc == 11 || pc == 44 || pc == 53 || pc == 57 || pc == 64) 4000 ?_
        simp only [mj_step, mj_W_s, mj_fin, List.getElem?_cons_zero, List.getElem?_cons_succ, mj_go, Nat.reduceAdd, Nat.reduceSub, Nat.reduceLT, Nat.reduceLeDiff, Nat.zero_add, Nat.reduceEqDiff, Nat.reduceBEq, ↓reduceIte, Bool.false_eq_true, List.append_nil, List.nil_append, List.cons_append, Option.toList, and_true, true_and, true_or, or_true, reduceCtorEq, List.map_nil, bI_eq0, bI_eq1, bool_ft, pk_us, vnar0, vnar1, Bool.or_false, Bool.or_true, Bool.false_or, Bool.true_or, mj_kne, eq_self, Int32.reduceLT, Int32.reduceLE, Int32.reduceAdd, Int32.reduceSub, Int32.reduceMul, not_true_eq_false, not_false_eq_true, false_implies, true_implies, D_X9_readTerm, mj_F_aload_n_k, mj_F_bipush_n, mj_F_dup, mj_F_getfield_i, mj_F_goto_off, mj_F_iadd, mj_F_iconst_n, mj_F_if_icmp_eq_off, mj_F_if_icmp_ge_off, mj_F_if_icmp_ne_off, mj_F_iinc_k_n, mj_F_iload_n_k, mj_F_invokevirtual_i, mj_F_istore_n_k, mj_F_putfield_i, mj_F_return_, mj_F_sipush_n, mj_set, mj_set0, mj_unk, mj_c2, mj_kc, FT_X9, PT_X9, L_X9_readTerm, List.take_succ_cons, List.take_zero, List.drop_succ_cons, List.drop_zero, List.reverse_cons, List.reverse_nil, List.length_cons, List.length_nil, gS_C7, gCf9_2, sS_Cf_9_2, gCf9len, J_X9_readTerm]
        refine c_X9_peek_in (ok_imp (ok_bind hw) ?_)
        intro p hw
        simp only [Option.toList, List.nil_append, List.cons_append, Nat.reduceSub]
        refine mj_run hG.1 (fun pc => pc == 4 || pc == 8 || pc == 11 || pc == 44 || pc == 53 || pc == 57 || pc == 64) 4000 ?_
        simp only [mj_step, mj_W_s, mj_fin, List.getElem?_cons_zero, List.getElem?_cons_succ, mj_go, Nat.reduceAdd, Nat.reduceSub, Nat.reduceLT, Nat.reduceLeDiff, Nat.zero_add, Nat.reduceEqDiff, Nat.reduceBEq, ↓reduceIte, Bool.false_eq_true, List.append_nil, List.nil_append, List.cons_append, Option.toList, and_true, true_and, true_or, or_true, reduceCtorEq, List.map_nil, bI_eq0, bI_eq1, bool_ft, pk_us, vnar0, vnar1, Bool.or_false, Bool.or_true, Bool.false_or, Bool.true_or, mj_kne, eq_self, Int32.reduceLT, Int32.reduceLE, Int32.reduceAdd, Int32.reduceSub, Int32.reduceMul, not_true_eq_false, not_false_eq_true, false_implies, true_implies, D_X9_readTerm, mj_F_aload_n_k, mj_F_bipush_n, mj_F_dup, mj_F_getfield_i, mj_F_goto_off, mj_F_iadd, mj_F_iconst_n, mj_F_if_icmp_eq_off, mj_F_if_icmp_ge_off, mj_F_if_icmp_ne_off, mj_F_iinc_k_n, mj_F_iload_n_k, mj_F_invokevirtual_i, mj_F_istore_n_k, mj_F_putfield_i, mj_F_return_, mj_F_sipush_n, mj_set, mj_set0, mj_unk, mj_c2, mj_kc, FT_X9, PT_X9, L_X9_readTerm, List.take_succ_cons, List.take_zero, List.drop_succ_cons, List.drop_zero, List.reverse_cons, List.reverse_nil, List.length_cons, List.length_nil, gS_C7, gCf9_2, sS_Cf_9_2, gCf9len, J_X9_readTerm]
        exact hG.2 _ _ _ _ _ _ _ _ _ (by refine ⟨Or.inr rfl, ?_⟩; refine ⟨Or.inr rfl, ?_⟩; refine ⟨Or.inr rfl, ?_⟩; exact trivial) (Nat.zero_le _) (Nat.zero_le _) (hP _ (ok_some hw :) :)

set_option maxHeartbeats 4000000 in
set_option maxRecDepth 20000 in
theorem g_X9_readTerm_64 {q : RTC} {k : Option Value → mj_H → Prop} {G : mj_K} (hG : mj_cl2 cX9_readTerm (TbX9 3 (none) (ct_X9_readTerm q)) k G)   {s : St} (hw : ok (F_X9_readTerm_64 q s) (fun p => k none (mkCs p))) : G 64 [] [] (mkCs s) 0 0 := by
  unfold F_X9_readTerm_64 at hw
  refine mj_run hG.1 (fun pc => pc == 4 || pc == 8 || pc == 11 || pc == 44 || pc == 53 || pc == 57 || pc == 64) 4000 ?_
  simp only [mj_step, mj_W_s, mj_fin, List.getElem?_cons_zero, List.getElem?_cons_succ, mj_go, Nat.reduceAdd, Nat.reduceSub, Nat.reduceLT, Nat.reduceLeDiff, Nat.zero_add, Nat.reduceEqDiff, Nat.reduceBEq, ↓reduceIte, Bool.false_eq_true, List.append_nil, List.nil_append, List.cons_append, Option.toList, and_true, true_and, true_or, or_true, reduceCtorEq, List.map_nil, bI_eq0, bI_eq1, bool_ft, pk_us, vnar0, vnar1, Bool.or_false, Bool.or_true, Bool.false_or, Bool.true_or, mj_kne, eq_self, Int32.reduceLT, Int32.reduceLE, Int32.reduceAdd, Int32.reduceSub, Int32.reduceMul, not_true_eq_false, not_false_eq_true, false_implies, true_implies, D_X9_readTerm, mj_F_aload_n_k, mj_F_bipush_n, mj_F_dup, mj_F_getfield_i, mj_F_goto_off, mj_F_iadd, mj_F_iconst_n, mj_F_if_icmp_eq_off, mj_F_if_icmp_ge_off, mj_F_if_icmp_ne_off, mj_F_iinc_k_n, mj_F_iload_n_k, mj_F_invokevirtual_i, mj_F_istore_n_k, mj_F_putfield_i, mj_F_return_, mj_F_sipush_n, mj_set, mj_set0, mj_unk, mj_c2, mj_kc, FT_X9, PT_X9, L_X9_readTerm, List.take_succ_cons, List.take_zero, List.drop_succ_cons, List.drop_zero, List.reverse_cons, List.reverse_nil, List.length_cons, List.length_nil, gS_C7, gCf9_2, sS_Cf_9_2, gCf9len, J_X9_readTerm]
  exact (ok_some hw :)

set_option maxHeartbeats 4000000 in
theorem g_X9_readTerm_11 {q : RTC} {k : Option Value → mj_H → Prop} {G : mj_K} (hG : mj_cl2 cX9_readTerm (TbX9 3 (none) (ct_X9_readTerm q)) k G)   {v1 : Int32} {v2 : Int32} {s : St} (hw : ok (F_X9_readTerm_11 q v1 v2 s) (fun p => k none (mkCs p))) : G 11 [.ref 7, .int v1, .int v2] [] (mkCs s) 0 0 := by
  unfold F_X9_readTerm_11 at hw
  refine lp_ok (B_X9_readTerm_11 q ) (fun x => G 11 [.ref 7, .int x.1, .int x.2.1] [] (mkCs x.2.2) 0 0) _ ?_ _ _ (ok_bind hw)
  rintro ⟨v1, v2, s⟩ hb
  exact b_X9_readTerm_11 hG (fun _ z => z) (fun y hw => by exact hG.2 _ _ _ _ _ _ _ _ _ (by exact trivial) (Nat.zero_le _) (Nat.zero_le _) (g_X9_readTerm_64 hG  hw :)) hb

set_option maxHeartbeats 4000000 in
set_option maxRecDepth 20000 in
theorem g_X9_readTerm {q : RTC} {k : Option Value → mj_H → Prop} {G : mj_K} (hG : mj_cl2 cX9_readTerm (TbX9 3 (none) (ct_X9_readTerm q)) k G) {s : St} (hw : ok (F_X9_readTerm q s) (fun p => k none (mkCs p))) : G 0 [.ref 7] [] (mkCs s) 0 0 := by
  unfold F_X9_readTerm at hw
  refine mj_run hG.1 (fun pc => pc == 4 || pc == 8 || pc == 11 || pc == 44 || pc == 53 || pc == 57 || pc == 64) 4000 ?_
  simp only [mj_step, mj_W_s, mj_fin, List.getElem?_cons_zero, List.getElem?_cons_succ, mj_go, Nat.reduceAdd, Nat.reduceSub, Nat.reduceLT, Nat.reduceLeDiff, Nat.zero_add, Nat.reduceEqDiff, Nat.reduceBEq, ↓reduceIte, Bool.false_eq_true, List.append_nil, List.nil_append, List.cons_append, Option.toList, and_true, true_and, true_or, or_true, reduceCtorEq, List.map_nil, bI_eq0, bI_eq1, bool_ft, pk_us, vnar0, vnar1, Bool.or_false, Bool.or_true, Bool.false_or, Bool.true_or, mj_kne, eq_self, Int32.reduceLT, Int32.reduceLE, Int32.reduceAdd, Int32.reduceSub, Int32.reduceMul, not_true_eq_false, not_false_eq_true, false_implies, true_implies, D_X9_readTerm, mj_F_aload_n_k, mj_F_bipush_n, mj_F_dup, mj_F_getfield_i, mj_F_goto_off, mj_F_iadd, mj_F_iconst_n, mj_F_if_icmp_eq_off, mj_F_if_icmp_ge_off, mj_F_if_icmp_ne_off, mj_F_iinc_k_n, mj_F_iload_n_k, mj_F_invokevirtual_i, mj_F_istore_n_k, mj_F_putfield_i, mj_F_return_, mj_F_sipush_n, mj_set, mj_set0, mj_unk, mj_c2, mj_kc, FT_X9, PT_X9, L_X9_readTerm, List.take_succ_cons, List.take_zero, List.drop_succ_cons, List.drop_zero, List.reverse_cons, List.reverse_nil, List.length_cons, List.length_nil, gS_C7, gCf9_2, sS_Cf_9_2, gCf9len, J_X9_readTerm]
  refine cq_X9_readAtom_in (ok_imp (ok_bind hw) ?_)
  intro p hw
  simp only [Option.toList, List.nil_append, List.cons_append, Nat.reduceSub]
  refine mj_run hG.1 (fun pc => pc == 4 || pc == 8 || pc == 11 || pc == 44 || pc == 53 || pc == 57 || pc == 64) 4000 ?_
  simp only [mj_step, mj_W_s, mj_fin, List.getElem?_cons_zero, List.getElem?_cons_succ, mj_go, Nat.reduceAdd, Nat.reduceSub, Nat.reduceLT, Nat.reduceLeDiff, Nat.zero_add, Nat.reduceEqDiff, Nat.reduceBEq, ↓reduceIte, Bool.false_eq_true, List.append_nil, List.nil_append, List.cons_append, Option.toList, and_true, true_and, true_or, or_true, reduceCtorEq, List.map_nil, bI_eq0, bI_eq1, bool_ft, pk_us, vnar0, vnar1, Bool.or_false, Bool.or_true, Bool.false_or, Bool.true_or, mj_kne, eq_self, Int32.reduceLT, Int32.reduceLE, Int32.reduceAdd, Int32.reduceSub, Int32.reduceMul, not_true_eq_false, not_false_eq_true, false_implies, true_implies, D_X9_readTerm, mj_F_aload_n_k, mj_F_bipush_n, mj_F_dup, mj_F_getfield_i, mj_F_goto_off, mj_F_iadd, mj_F_iconst_n, mj_F_if_icmp_eq_off, mj_F_if_icmp_ge_off, mj_F_if_icmp_ne_off, mj_F_iinc_k_n, mj_F_iload_n_k, mj_F_invokevirtual_i, mj_F_istore_n_k, mj_F_putfield_i, mj_F_return_, mj_F_sipush_n, mj_set, mj_set0, mj_unk, mj_c2, mj_kc, FT_X9, PT_X9, L_X9_readTerm, List.take_succ_cons, List.take_zero, List.drop_succ_cons, List.drop_zero, List.reverse_cons, List.reverse_nil, List.length_cons, List.length_nil, gS_C7, gCf9_2, sS_Cf_9_2, gCf9len, J_X9_readTerm]
  refine c_X9_peek_in (ok_imp (ok_bind hw) ?_)
  intro p hw
  simp only [Option.toList, List.nil_append, List.cons_append, Nat.reduceSub]
  refine mj_run hG.1 (fun pc => pc == 4 || pc == 8 || pc == 11 || pc == 44 || pc == 53 || pc == 57 || pc == 64) 4000 ?_
  simp only [mj_step, mj_W_s, mj_fin, List.getElem?_cons_zero, List.getElem?_cons_succ, mj_go, Nat.reduceAdd, Nat.reduceSub, Nat.reduceLT, Nat.reduceLeDiff, Nat.zero_add, Nat.reduceEqDiff, Nat.reduceBEq, ↓reduceIte, Bool.false_eq_true, List.append_nil, List.nil_append, List.cons_append, Option.toList, and_true, true_and, true_or, or_true, reduceCtorEq, List.map_nil, bI_eq0, bI_eq1, bool_ft, pk_us, vnar0, vnar1, Bool.or_false, Bool.or_true, Bool.false_or, Bool.true_or, mj_kne, eq_self, Int32.reduceLT, Int32.reduceLE, Int32.reduceAdd, Int32.reduceSub, Int32.reduceMul, not_true_eq_false, not_false_eq_true, false_implies, true_implies, D_X9_readTerm, mj_F_aload_n_k, mj_F_bipush_n, mj_F_dup, mj_F_getfield_i, mj_F_goto_off, mj_F_iadd, mj_F_iconst_n, mj_F_if_icmp_eq_off, mj_F_if_icmp_ge_off, mj_F_if_icmp_ne_off, mj_F_iinc_k_n, mj_F_iload_n_k, mj_F_invokevirtual_i, mj_F_istore_n_k, mj_F_putfield_i, mj_F_return_, mj_F_sipush_n, mj_set, mj_set0, mj_unk, mj_c2, mj_kc, FT_X9, PT_X9, L_X9_readTerm, List.take_succ_cons, List.take_zero, List.drop_succ_cons, List.drop_zero, List.reverse_cons, List.reverse_nil, List.length_cons, List.length_nil, gS_C7, gCf9_2, sS_Cf_9_2, gCf9len, J_X9_readTerm]
  exact hG.2 _ _ _ _ _ _ _ _ _ (by refine ⟨Or.inr rfl, ?_⟩; refine ⟨Or.inr rfl, ?_⟩; refine ⟨Or.inr rfl, ?_⟩; exact trivial) (Nat.zero_le _) (Nat.zero_le _) (g_X9_readTerm_11 hG  hw :)

theorem J_X9_readAtom : mj_t 9 10 = 19 ∧ mj_t 16 76 = 92 ∧ mj_t 24 28 = 52 ∧ mj_t 49 43 = 92 ∧ mj_t 55 33 = 88 ∧ mj_t 62 30 = 92 ∧ mj_t 85 7 = 92 ∧ (0 ≤ ((9 : Nat) : Int) + 10) = True ∧ (0 ≤ ((16 : Nat) : Int) + 76) = True ∧ (0 ≤ ((24 : Nat) : Int) + 28) = True ∧ (0 ≤ ((49 : Nat) : Int) + 43) = True ∧ (0 ≤ ((55 : Nat) : Int) + 33) = True ∧ (0 ≤ ((62 : Nat) : Int) + 30) = True ∧ (0 ≤ ((85 : Nat) : Int) + 7) = True := by and_intros <;> first | rfl | exact eq_true (by decide)
def ct_X9_readAtom (q : RTC) : List (Nat × mj_Cs) := [(50, 0, 1, 9, 0, 0, c_X9_peek), (54, 0, 1, 9, 0, 0, c_X9_fail), (63, 0, 2, 9, 0, 0, c_X9_want), (67, 0, 1, 9, 0, 0, (cq_X9_readSum q.1)), (84, 0, 2, 9, 0, 0, c_X9_emit), (90, 0, 1, 9, 0, 0, c_X9_opened), (100, 2, 1, 9, 0, 0, c_isDigit), (103, 0, 1, 9, 0, 0, c_X9_readNumber), (106, 2, 1, 9, 0, 0, c_X9_letterOf)]
theorem L_X9_readAtom (q : RTC) : mj_lk (ct_X9_readAtom q) 50 = some (0, 1, 9, 0, 0, c_X9_peek) ∧ mj_lk (ct_X9_readAtom q) 54 = some (0, 1, 9, 0, 0, c_X9_fail) ∧ mj_lk (ct_X9_readAtom q) 63 = some (0, 2, 9, 0, 0, c_X9_want) ∧ mj_lk (ct_X9_readAtom q) 67 = some (0, 1, 9, 0, 0, (cq_X9_readSum q.1)) ∧ mj_lk (ct_X9_readAtom q) 84 = some (0, 2, 9, 0, 0, c_X9_emit) ∧ mj_lk (ct_X9_readAtom q) 90 = some (0, 1, 9, 0, 0, c_X9_opened) ∧ mj_lk (ct_X9_readAtom q) 100 = some (2, 1, 9, 0, 0, c_isDigit) ∧ mj_lk (ct_X9_readAtom q) 103 = some (0, 1, 9, 0, 0, c_X9_readNumber) ∧ mj_lk (ct_X9_readAtom q) 106 = some (2, 1, 9, 0, 0, c_X9_letterOf) := ⟨rfl, rfl, rfl, rfl, rfl, rfl, rfl, rfl, rfl⟩
set_option maxHeartbeats 4000000 in
set_option maxRecDepth 20000 in
theorem g_X9_readAtom {q : RTC} {k : Option Value → mj_H → Prop} {G : mj_K} (hG : mj_cl2 cX9_readAtom (TbX9 2 (none) (ct_X9_readAtom q)) k G) {s : St} (hw : ok (F_X9_readAtom q s) (fun p => k none (mkCs p))) : G 0 [.ref 7] [] (mkCs s) 0 0 := by
  unfold F_X9_readAtom at hw
  refine mj_run hG.1 (fun pc => pc == 4 || pc == 16 || pc == 23 || pc == 45 || pc == 49 || pc == 62 || pc == 69 || pc == 75 || pc == 92) 4000 ?_
  simp only [mj_step, mj_W_s, mj_fin, List.getElem?_cons_zero, List.getElem?_cons_succ, mj_go, Nat.reduceAdd, Nat.reduceSub, Nat.reduceLT, Nat.reduceLeDiff, Nat.zero_add, Nat.reduceEqDiff, Nat.reduceBEq, ↓reduceIte, Bool.false_eq_true, List.append_nil, List.nil_append, List.cons_append, Option.toList, and_true, true_and, true_or, or_true, reduceCtorEq, List.map_nil, bI_eq0, bI_eq1, bool_ft, pk_us, vnar0, vnar1, Bool.or_false, Bool.or_true, Bool.false_or, Bool.true_or, mj_kne, eq_self, Int32.reduceLT, Int32.reduceLE, Int32.reduceAdd, Int32.reduceSub, Int32.reduceMul, not_true_eq_false, not_false_eq_true, false_implies, true_implies, D_X9_readAtom, mj_F_aload_n_k, mj_F_bipush_n, mj_F_dup, mj_F_getfield_i, mj_F_goto_off, mj_F_iadd, mj_F_iconst_n, mj_F_ifCond_eq_off, mj_F_if_icmp_eq_off, mj_F_if_icmp_ne_off, mj_F_iload_n_k, mj_F_invokestatic_i, mj_F_invokevirtual_i, mj_F_istore_n_k, mj_F_isub, mj_F_putfield_i, mj_F_return_, mj_F_sipush_n, mj_set, mj_set0, mj_unk, mj_c2, mj_kc, FT_X9, PT_X9, L_X9_readAtom, List.take_succ_cons, List.take_zero, List.drop_succ_cons, List.drop_zero, List.reverse_cons, List.reverse_nil, List.length_cons, List.length_nil, gS_C7, gCf9_2, sS_Cf_9_2, gCf9len, gCf9_4, sS_Cf_9_4, c_isDigit_eq, J_X9_readAtom]
  refine c_X9_peek_in (ok_imp (ok_bind hw) ?_)
  intro p hw
  simp only [Option.toList, List.nil_append, List.cons_append, Nat.reduceSub]
  refine mj_run hG.1 (fun pc => pc == 4 || pc == 16 || pc == 23 || pc == 45 || pc == 49 || pc == 62 || pc == 69 || pc == 75 || pc == 92) 4000 ?_
  simp only [mj_step, mj_W_s, mj_fin, List.getElem?_cons_zero, List.getElem?_cons_succ, mj_go, Nat.reduceAdd, Nat.reduceSub, Nat.reduceLT, Nat.reduceLeDiff, Nat.zero_add, Nat.reduceEqDiff, Nat.reduceBEq, ↓reduceIte, Bool.false_eq_true, List.append_nil, List.nil_append, List.cons_append, Option.toList, and_true, true_and, true_or, or_true, reduceCtorEq, List.map_nil, bI_eq0, bI_eq1, bool_ft, pk_us, vnar0, vnar1, Bool.or_false, Bool.or_true, Bool.false_or, Bool.true_or, mj_kne, eq_self, Int32.reduceLT, Int32.reduceLE, Int32.reduceAdd, Int32.reduceSub, Int32.reduceMul, not_true_eq_false, not_false_eq_true, false_implies, true_implies, D_X9_readAtom, mj_F_aload_n_k, mj_F_bipush_n, mj_F_dup, mj_F_getfield_i, mj_F_goto_off, mj_F_iadd, mj_F_iconst_n, mj_F_ifCond_eq_off, mj_F_if_icmp_eq_off, mj_F_if_icmp_ne_off, mj_F_iload_n_k, mj_F_invokestatic_i, mj_F_invokevirtual_i, mj_F_istore_n_k, mj_F_isub, mj_F_putfield_i, mj_F_return_, mj_F_sipush_n, mj_set, mj_set0, mj_unk, mj_c2, mj_kc, FT_X9, PT_X9, L_X9_readAtom, List.take_succ_cons, List.take_zero, List.drop_succ_cons, List.drop_zero, List.reverse_cons, List.reverse_nil, List.length_cons, List.length_nil, gS_C7, gCf9_2, sS_Cf_9_2, gCf9len, gCf9_4, sS_Cf_9_4, c_isDigit_eq, J_X9_readAtom]
  refine ⟨fun c => ?_, fun c => ?_⟩
  · replace hw := ok_t hw c
    refine c_X9_letterOf_in (ok_imp (ok_bind hw) ?_)
    intro p hw
    simp only [Option.toList, List.nil_append, List.cons_append, Nat.reduceSub]
    refine mj_run hG.1 (fun pc => pc == 4 || pc == 16 || pc == 23 || pc == 45 || pc == 49 || pc == 62 || pc == 69 || pc == 75 || pc == 92) 4000 ?_
    simp only [mj_step, mj_W_s, mj_fin, List.getElem?_cons_zero, List.getElem?_cons_succ, mj_go, Nat.reduceAdd, Nat.reduceSub, Nat.reduceLT, Nat.reduceLeDiff, Nat.zero_add, Nat.reduceEqDiff, Nat.reduceBEq, ↓reduceIte, Bool.false_eq_true, List.append_nil, List.nil_append, List.cons_append, Option.toList, and_true, true_and, true_or, or_true, reduceCtorEq, List.map_nil, bI_eq0, bI_eq1, bool_ft, pk_us, vnar0, vnar1, Bool.or_false, Bool.or_true, Bool.false_or, Bool.true_or, mj_kne, eq_self, Int32.reduceLT, Int32.reduceLE, Int32.reduceAdd, Int32.reduceSub, Int32.reduceMul, not_true_eq_false, not_false_eq_true, false_implies, true_implies, D_X9_readAtom, mj_F_aload_n_k, mj_F_bipush_n, mj_F_dup, mj_F_getfield_i, mj_F_goto_off, mj_F_iadd, mj_F_iconst_n, mj_F_ifCond_eq_off, mj_F_if_icmp_eq_off, mj_F_if_icmp_ne_off, mj_F_iload_n_k, mj_F_invokestatic_i, mj_F_invokevirtual_i, mj_F_istore_n_k, mj_F_isub, mj_F_putfield_i, mj_F_return_, mj_F_sipush_n, mj_set, mj_set0, mj_unk, mj_c2, mj_kc, FT_X9, PT_X9, L_X9_readAtom, List.take_succ_cons, List.take_zero, List.drop_succ_cons, List.drop_zero, List.reverse_cons, List.reverse_nil, List.length_cons, List.length_nil, gS_C7, gCf9_2, sS_Cf_9_2, gCf9len, gCf9_4, sS_Cf_9_4, c_isDigit_eq, J_X9_readAtom]
    refine ⟨fun c => ?_, fun c => ?_⟩
    · replace hw := ok_t hw c
      refine ⟨fun c => ?_, fun c => ?_⟩
      · replace hw := ok_f hw c
        refine c_X9_fail_in (ok_imp (ok_bind hw) ?_)
        intro p hw
        simp only [Option.toList, List.nil_append, List.cons_append, Nat.reduceSub]
        refine mj_run hG.1 (fun pc => pc == 4 || pc == 16 || pc == 23 || pc == 45 || pc == 49 || pc == 62 || pc == 69 || pc == 75 || pc == 92) 4000 ?_
        simp only [mj_step, mj_W_s, mj_fin, List.getElem?_cons_zero, List.getElem?_cons_succ, mj_go, Nat.reduceAdd, Nat.reduceSub, Nat.reduceLT, Nat.reduceLeDiff, Nat.zero_add, Nat.reduceEqDiff, Nat.reduceBEq, ↓reduceIte, Bool.false_eq_true, List.append_nil, List.nil_append, List.cons_append, Option.toList, and_true, true_and, true_or, or_true, reduceCtorEq, List.map_nil, bI_eq0, bI_eq1, bool_ft, pk_us, vnar0, vnar1, Bool.or_false, Bool.or_true, Bool.false_or, Bool.true_or, mj_kne, eq_self, Int32.reduceLT, Int32.reduceLE, Int32.reduceAdd, Int32.reduceSub, Int32.reduceMul, not_true_eq_false, not_false_eq_true, false_implies, true_implies, D_X9_readAtom, mj_F_aload_n_k, mj_F_bipush_n, mj_F_dup, mj_F_getfield_i, mj_F_goto_off, mj_F_iadd, mj_F_iconst_n, mj_F_ifCond_eq_off, mj_F_if_icmp_eq_off, mj_F_if_icmp_ne_off, mj_F_iload_n_k, mj_F_invokestatic_i, mj_F_invokevirtual_i, mj_F_istore_n_k, mj_F_isub, mj_F_putfield_i, mj_F_return_, mj_F_sipush_n, mj_set, mj_set0, mj_unk, mj_c2, mj_kc, FT_X9, PT_X9, L_X9_readAtom, List.take_succ_cons, List.take_zero, List.drop_succ_cons, List.drop_zero, List.reverse_cons, List.reverse_nil, List.length_cons, List.length_nil, gS_C7, gCf9_2, sS_Cf_9_2, gCf9len, gCf9_4, sS_Cf_9_4, c_isDigit_eq, J_X9_readAtom]
        exact (ok_some hw :)
      · replace hw := ok_t hw c
        refine c_X9_opened_in (ok_imp (ok_bind hw) ?_)
        intro p hw
        simp only [Option.toList, List.nil_append, List.cons_append, Nat.reduceSub]
        refine mj_run hG.1 (fun pc => pc == 4 || pc == 16 || pc == 23 || pc == 45 || pc == 49 || pc == 62 || pc == 69 || pc == 75 || pc == 92) 4000 ?_
        simp only [mj_step, mj_W_s, mj_fin, List.getElem?_cons_zero, List.getElem?_cons_succ, mj_go, Nat.reduceAdd, Nat.reduceSub, Nat.reduceLT, Nat.reduceLeDiff, Nat.zero_add, Nat.reduceEqDiff, Nat.reduceBEq, ↓reduceIte, Bool.false_eq_true, List.append_nil, List.nil_append, List.cons_append, Option.toList, and_true, true_and, true_or, or_true, reduceCtorEq, List.map_nil, bI_eq0, bI_eq1, bool_ft, pk_us, vnar0, vnar1, Bool.or_false, Bool.or_true, Bool.false_or, Bool.true_or, mj_kne, eq_self, Int32.reduceLT, Int32.reduceLE, Int32.reduceAdd, Int32.reduceSub, Int32.reduceMul, not_true_eq_false, not_false_eq_true, false_implies, true_implies, D_X9_readAtom, mj_F_aload_n_k, mj_F_bipush_n, mj_F_dup, mj_F_getfield_i, mj_F_goto_off, mj_F_iadd, mj_F_iconst_n, mj_F_ifCond_eq_off, mj_F_if_icmp_eq_off, mj_F_if_icmp_ne_off, mj_F_iload_n_k, mj_F_invokestatic_i, mj_F_invokevirtual_i, mj_F_istore_n_k, mj_F_isub, mj_F_putfield_i, mj_F_return_, mj_F_sipush_n, mj_set, mj_set0, mj_unk, mj_c2, mj_kc, FT_X9, PT_X9, L_X9_readAtom, List.take_succ_cons, List.take_zero, List.drop_succ_cons, List.drop_zero, List.reverse_cons, List.reverse_nil, List.length_cons, List.length_nil, gS_C7, gCf9_2, sS_Cf_9_2, gCf9len, gCf9_4, sS_Cf_9_4, c_isDigit_eq, J_X9_readAtom]
        refine ⟨fun c => ?_, fun c => ?_⟩
        · replace hw := ok_t hw c
          refine mj_run hG.1 (fun pc => pc == 4 || pc == 16 || pc == 23 || pc == 45 || pc == 49 || pc == 62 || pc == 69 || pc == 75 || pc == 92) 4000 ?_
          simp only [mj_step, mj_W_s, mj_fin, List.getElem?_cons_zero, List.getElem?_cons_succ, mj_go, Nat.reduceAdd, Nat.reduceSub, Nat.reduceLT, Nat.reduceLeDiff, Nat.zero_add, Nat.reduceEqDiff, Nat.reduceBEq, ↓reduceIte, Bool.false_eq_true, List.append_nil, List.nil_append, List.cons_append, Option.toList, and_true, true_and, true_or, or_true, reduceCtorEq, List.map_nil, bI_eq0, bI_eq1, bool_ft, pk_us, vnar0, vnar1, Bool.or_false, Bool.or_true, Bool.false_or, Bool.true_or, mj_kne, eq_self, Int32.reduceLT, Int32.reduceLE, Int32.reduceAdd, Int32.reduceSub, Int32.reduceMul, not_true_eq_false, not_false_eq_true, false_implies, true_implies, D_X9_readAtom, mj_F_aload_n_k, mj_F_bipush_n, mj_F_dup, mj_F_getfield_i, mj_F_goto_off, mj_F_iadd, mj_F_iconst_n, mj_F_ifCond_eq_off, mj_F_if_icmp_eq_off, mj_F_if_icmp_ne_off, mj_F_iload_n_k, mj_F_invokestatic_i, mj_F_invokevirtual_i, mj_F_istore_n_k, mj_F_isub, mj_F_putfield_i, mj_F_return_, mj_F_sipush_n, mj_set, mj_set0, mj_unk, mj_c2, mj_kc, FT_X9, PT_X9, L_X9_readAtom, List.take_succ_cons, List.take_zero, List.drop_succ_cons, List.drop_zero, List.reverse_cons, List.reverse_nil, List.length_cons, List.length_nil, gS_C7, gCf9_2, sS_Cf_9_2, gCf9len, gCf9_4, sS_Cf_9_4, c_isDigit_eq, J_X9_readAtom]
          exact (ok_some hw :)
        · replace hw := ok_f hw c
          refine cq_X9_readSum_in (ok_imp (ok_bind hw) ?_)
          intro p hw
          simp only [Option.toList, List.nil_append, List.cons_append, Nat.reduceSub]
          refine mj_run hG.1 (fun pc => pc == 4 || pc == 16 || pc == 23 || pc == 45 || pc == 49 || pc == 62 || pc == 69 || pc == 75 || pc == 92) 4000 ?_
          simp only [mj_step, mj_W_s, mj_fin, List.getElem?_cons_zero, List.getElem?_cons_succ, mj_go, Nat.reduceAdd, Nat.reduceSub, Nat.reduceLT, Nat.reduceLeDiff, Nat.zero_add, Nat.reduceEqDiff, Nat.reduceBEq, ↓reduceIte, Bool.false_eq_true, List.append_nil, List.nil_append, List.cons_append, Option.toList, and_true, true_and, true_or, or_true, reduceCtorEq, List.map_nil, bI_eq0, bI_eq1, bool_ft, pk_us, vnar0, vnar1, Bool.or_false, Bool.or_true, Bool.false_or, Bool.true_or, mj_kne, eq_self, Int32.reduceLT, Int32.reduceLE, Int32.reduceAdd, Int32.reduceSub, Int32.reduceMul, not_true_eq_false, not_false_eq_true, false_implies, true_implies, D_X9_readAtom, mj_F_aload_n_k, mj_F_bipush_n, mj_F_dup, mj_F_getfield_i, mj_F_goto_off, mj_F_iadd, mj_F_iconst_n, mj_F_ifCond_eq_off, mj_F_if_icmp_eq_off, mj_F_if_icmp_ne_off, mj_F_iload_n_k, mj_F_invokestatic_i, mj_F_invokevirtual_i, mj_F_istore_n_k, mj_F_isub, mj_F_putfield_i, mj_F_return_, mj_F_sipush_n, mj_set, mj_set0, mj_unk, mj_c2, mj_kc, FT_X9, PT_X9, L_X9_readAtom, List.take_succ_cons, List.take_zero, List.drop_succ_cons, List.drop_zero, List.reverse_cons, List.reverse_nil, List.length_cons, List.length_nil, gS_C7, gCf9_2, sS_Cf_9_2, gCf9len, gCf9_4, sS_Cf_9_4, c_isDigit_eq, J_X9_readAtom]
          refine c_X9_want_in (ok_imp (ok_bind hw) ?_)
          intro p hw
          simp only [Option.toList, List.nil_append, List.cons_append, Nat.reduceSub]
          refine mj_run hG.1 (fun pc => pc == 4 || pc == 16 || pc == 23 || pc == 45 || pc == 49 || pc == 62 || pc == 69 || pc == 75 || pc == 92) 4000 ?_
          simp only [mj_step, mj_W_s, mj_fin, List.getElem?_cons_zero, List.getElem?_cons_succ, mj_go, Nat.reduceAdd, Nat.reduceSub, Nat.reduceLT, Nat.reduceLeDiff, Nat.zero_add, Nat.reduceEqDiff, Nat.reduceBEq, ↓reduceIte, Bool.false_eq_true, List.append_nil, List.nil_append, List.cons_append, Option.toList, and_true, true_and, true_or, or_true, reduceCtorEq, List.map_nil, bI_eq0, bI_eq1, bool_ft, pk_us, vnar0, vnar1, Bool.or_false, Bool.or_true, Bool.false_or, Bool.true_or, mj_kne, eq_self, Int32.reduceLT, Int32.reduceLE, Int32.reduceAdd, Int32.reduceSub, Int32.reduceMul, not_true_eq_false, not_false_eq_true, false_implies, true_implies, D_X9_readAtom, mj_F_aload_n_k, mj_F_bipush_n, mj_F_dup, mj_F_getfield_i, mj_F_goto_off, mj_F_iadd, mj_F_iconst_n, mj_F_ifCond_eq_off, mj_F_if_icmp_eq_off, mj_F_if_icmp_ne_off, mj_F_iload_n_k, mj_F_invokestatic_i, mj_F_invokevirtual_i, mj_F_istore_n_k, mj_F_isub, mj_F_putfield_i, mj_F_return_, mj_F_sipush_n, mj_set, mj_set0, mj_unk, mj_c2, mj_kc, FT_X9, PT_X9, L_X9_readAtom, List.take_succ_cons, List.take_zero, List.drop_succ_cons, List.drop_zero, List.reverse_cons, List.reverse_nil, List.length_cons, List.length_nil, gS_C7, gCf9_2, sS_Cf_9_2, gCf9len, gCf9_4, sS_Cf_9_4, c_isDigit_eq, J_X9_readAtom]
          replace hw := ok_wI hw
          refine mj_run hG.1 (fun pc => pc == 4 || pc == 16 || pc == 23 || pc == 45 || pc == 49 || pc == 62 || pc == 69 || pc == 75 || pc == 92) 4000 ?_
          simp only [mj_step, mj_W_s, mj_fin, List.getElem?_cons_zero, List.getElem?_cons_succ, mj_go, Nat.reduceAdd, Nat.reduceSub, Nat.reduceLT, Nat.reduceLeDiff, Nat.zero_add, Nat.reduceEqDiff, Nat.reduceBEq, ↓reduceIte, Bool.false_eq_true, List.append_nil, List.nil_append, List.cons_append, Option.toList, and_true, true_and, true_or, or_true, reduceCtorEq, List.map_nil, bI_eq0, bI_eq1, bool_ft, pk_us, vnar0, vnar1, Bool.or_false, Bool.or_true, Bool.false_or, Bool.true_or, mj_kne, eq_self, Int32.reduceLT, Int32.reduceLE, Int32.reduceAdd, Int32.reduceSub, Int32.reduceMul, not_true_eq_false, not_false_eq_true, false_implies, true_implies, D_X9_readAtom, mj_F_aload_n_k, mj_F_bipush_n, mj_F_dup, mj_F_getfield_i, mj_F_goto_off, mj_F_iadd, mj_F_iconst_n, mj_F_ifCond_eq_off, mj_F_if_icmp_eq_off, mj_F_if_icmp_ne_off, mj_F_iload_n_k, mj_F_invokestatic_i, mj_F_invokevirtual_i, mj_F_istore_n_k, mj_F_isub, mj_F_putfield_i, mj_F_return_, mj_F_sipush_n, mj_set, mj_set0, mj_unk, mj_c2, mj_kc, FT_X9, PT_X9, L_X9_readAtom, List.take_succ_cons, List.take_zero, List.drop_succ_cons, List.drop_zero, List.reverse_cons, List.reverse_nil, List.length_cons, List.length_nil, gS_C7, gCf9_2, sS_Cf_9_2, gCf9len, gCf9_4, sS_Cf_9_4, c_isDigit_eq, J_X9_readAtom]
          exact (ok_some hw :)
    · replace hw := ok_f hw c
      replace hw := ok_wI hw
      refine c_X9_letterOf_in (ok_imp (ok_bind hw) ?_)
      intro p hw
      simp only [Option.toList, List.nil_append, List.cons_append, Nat.reduceSub]
      refine mj_run hG.1 (fun pc => pc == 4 || pc == 16 || pc == 23 || pc == 45 || pc == 49 || pc == 62 || pc == 69 || pc == 75 || pc == 92) 4000 ?_
      simp only [mj_step, mj_W_s, mj_fin, List.getElem?_cons_zero, List.getElem?_cons_succ, mj_go, Nat.reduceAdd, Nat.reduceSub, Nat.reduceLT, Nat.reduceLeDiff, Nat.zero_add, Nat.reduceEqDiff, Nat.reduceBEq, ↓reduceIte, Bool.false_eq_true, List.append_nil, List.nil_append, List.cons_append, Option.toList, and_true, true_and, true_or, or_true, reduceCtorEq, List.map_nil, bI_eq0, bI_eq1, bool_ft, pk_us, vnar0, vnar1, Bool.or_false, Bool.or_true, Bool.false_or, Bool.true_or, mj_kne, eq_self, Int32.reduceLT, Int32.reduceLE, Int32.reduceAdd, Int32.reduceSub, Int32.reduceMul, not_true_eq_false, not_false_eq_true, false_implies, true_implies, D_X9_readAtom, mj_F_aload_n_k, mj_F_bipush_n, mj_F_dup, mj_F_getfield_i, mj_F_goto_off, mj_F_iadd, mj_F_iconst_n, mj_F_ifCond_eq_off, mj_F_if_icmp_eq_off, mj_F_if_icmp_ne_off, mj_F_iload_n_k, mj_F_invokestatic_i, mj_F_invokevirtual_i, mj_F_istore_n_k, mj_F_isub, mj_F_putfield_i, mj_F_return_, mj_F_sipush_n, mj_set, mj_set0, mj_unk, mj_c2, mj_kc, FT_X9, PT_X9, L_X9_readAtom, List.take_succ_cons, List.take_zero, List.drop_succ_cons, List.drop_zero, List.reverse_cons, List.reverse_nil, List.length_cons, List.length_nil, gS_C7, gCf9_2, sS_Cf_9_2, gCf9len, gCf9_4, sS_Cf_9_4, c_isDigit_eq, J_X9_readAtom]
      refine c_X9_emit_in (ok_imp (ok_bind hw) ?_)
      intro p hw
      simp only [Option.toList, List.nil_append, List.cons_append, Nat.reduceSub]
      refine mj_run hG.1 (fun pc => pc == 4 || pc == 16 || pc == 23 || pc == 45 || pc == 49 || pc == 62 || pc == 69 || pc == 75 || pc == 92) 4000 ?_
      simp only [mj_step, mj_W_s, mj_fin, List.getElem?_cons_zero, List.getElem?_cons_succ, mj_go, Nat.reduceAdd, Nat.reduceSub, Nat.reduceLT, Nat.reduceLeDiff, Nat.zero_add, Nat.reduceEqDiff, Nat.reduceBEq, ↓reduceIte, Bool.false_eq_true, List.append_nil, List.nil_append, List.cons_append, Option.toList, and_true, true_and, true_or, or_true, reduceCtorEq, List.map_nil, bI_eq0, bI_eq1, bool_ft, pk_us, vnar0, vnar1, Bool.or_false, Bool.or_true, Bool.false_or, Bool.true_or, mj_kne, eq_self, Int32.reduceLT, Int32.reduceLE, Int32.reduceAdd, Int32.reduceSub, Int32.reduceMul, not_true_eq_false, not_false_eq_true, false_implies, true_implies, D_X9_readAtom, mj_F_aload_n_k, mj_F_bipush_n, mj_F_dup, mj_F_getfield_i, mj_F_goto_off, mj_F_iadd, mj_F_iconst_n, mj_F_ifCond_eq_off, mj_F_if_icmp_eq_off, mj_F_if_icmp_ne_off, mj_F_iload_n_k, mj_F_invokestatic_i, mj_F_invokevirtual_i, mj_F_istore_n_k, mj_F_isub, mj_F_putfield_i, mj_F_return_, mj_F_sipush_n, mj_set, mj_set0, mj_unk, mj_c2, mj_kc, FT_X9, PT_X9, L_X9_readAtom, List.take_succ_cons, List.take_zero, List.drop_succ_cons, List.drop_zero, List.reverse_cons, List.reverse_nil, List.length_cons, List.length_nil, gS_C7, gCf9_2, sS_Cf_9_2, gCf9len, gCf9_4, sS_Cf_9_4, c_isDigit_eq, J_X9_readAtom]
      refine mj_run hG.1 (fun pc => pc == 4 || pc == 16 || pc == 23 || pc == 45 || pc == 49 || pc == 62 || pc == 69 || pc == 75 || pc == 92) 4000 ?_
      simp only [mj_step, mj_W_s, mj_fin, List.getElem?_cons_zero, List.getElem?_cons_succ, mj_go, Nat.reduceAdd, Nat.reduceSub, Nat.reduceLT, Nat.reduceLeDiff, Nat.zero_add, Nat.reduceEqDiff, Nat.reduceBEq, ↓reduceIte, Bool.false_eq_true, List.append_nil, List.nil_append, List.cons_append, Option.toList, and_true, true_and, true_or, or_true, reduceCtorEq, List.map_nil, bI_eq0, bI_eq1, bool_ft, pk_us, vnar0, vnar1, Bool.or_false, Bool.or_true, Bool.false_or, Bool.true_or, mj_kne, eq_self, Int32.reduceLT, Int32.reduceLE, Int32.reduceAdd, Int32.reduceSub, Int32.reduceMul, not_true_eq_false, not_false_eq_true, false_implies, true_implies, D_X9_readAtom, mj_F_aload_n_k, mj_F_bipush_n, mj_F_dup, mj_F_getfield_i, mj_F_goto_off, mj_F_iadd, mj_F_iconst_n, mj_F_ifCond_eq_off, mj_F_if_icmp_eq_off, mj_F_if_icmp_ne_off, mj_F_iload_n_k, mj_F_invokestatic_i, mj_F_invokevirtual_i, mj_F_istore_n_k, mj_F_isub, mj_F_putfield_i, mj_F_return_, mj_F_sipush_n, mj_set, mj_set0, mj_unk, mj_c2, mj_kc, FT_X9, PT_X9, L_X9_readAtom, List.take_succ_cons, List.take_zero, List.drop_succ_cons, List.drop_zero, List.reverse_cons, List.reverse_nil, List.length_cons, List.length_nil, gS_C7, gCf9_2, sS_Cf_9_2, gCf9len, gCf9_4, sS_Cf_9_4, c_isDigit_eq, J_X9_readAtom]
      exact (ok_some hw :)
  · replace hw := ok_f hw c
    refine c_X9_readNumber_in (ok_imp (ok_bind hw) ?_)
    intro p hw
    simp only [Option.toList, List.nil_append, List.cons_append, Nat.reduceSub]
    refine mj_run hG.1 (fun pc => pc == 4 || pc == 16 || pc == 23 || pc == 45 || pc == 49 || pc == 62 || pc == 69 || pc == 75 || pc == 92) 4000 ?_
    simp only [mj_step, mj_W_s, mj_fin, List.getElem?_cons_zero, List.getElem?_cons_succ, mj_go, Nat.reduceAdd, Nat.reduceSub, Nat.reduceLT, Nat.reduceLeDiff, Nat.zero_add, Nat.reduceEqDiff, Nat.reduceBEq, ↓reduceIte, Bool.false_eq_true, List.append_nil, List.nil_append, List.cons_append, Option.toList, and_true, true_and, true_or, or_true, reduceCtorEq, List.map_nil, bI_eq0, bI_eq1, bool_ft, pk_us, vnar0, vnar1, Bool.or_false, Bool.or_true, Bool.false_or, Bool.true_or, mj_kne, eq_self, Int32.reduceLT, Int32.reduceLE, Int32.reduceAdd, Int32.reduceSub, Int32.reduceMul, not_true_eq_false, not_false_eq_true, false_implies, true_implies, D_X9_readAtom, mj_F_aload_n_k, mj_F_bipush_n, mj_F_dup, mj_F_getfield_i, mj_F_goto_off, mj_F_iadd, mj_F_iconst_n, mj_F_ifCond_eq_off, mj_F_if_icmp_eq_off, mj_F_if_icmp_ne_off, mj_F_iload_n_k, mj_F_invokestatic_i, mj_F_invokevirtual_i, mj_F_istore_n_k, mj_F_isub, mj_F_putfield_i, mj_F_return_, mj_F_sipush_n, mj_set, mj_set0, mj_unk, mj_c2, mj_kc, FT_X9, PT_X9, L_X9_readAtom, List.take_succ_cons, List.take_zero, List.drop_succ_cons, List.drop_zero, List.reverse_cons, List.reverse_nil, List.length_cons, List.length_nil, gS_C7, gCf9_2, sS_Cf_9_2, gCf9len, gCf9_4, sS_Cf_9_4, c_isDigit_eq, J_X9_readAtom]
    refine mj_run hG.1 (fun pc => pc == 4 || pc == 16 || pc == 23 || pc == 45 || pc == 49 || pc == 62 || pc == 69 || pc == 75 || pc == 92) 4000 ?_
    simp only [mj_step, mj_W_s, mj_fin, List.getElem?_cons_zero, List.getElem?_cons_succ, mj_go, Nat.reduceAdd, Nat.reduceSub, Nat.reduceLT, Nat.reduceLeDiff, Nat.zero_add, Nat.reduceEqDiff, Nat.reduceBEq, ↓reduceIte, Bool.false_eq_true, List.append_nil, List.nil_append, List.cons_append, Option.toList, and_true, true_and, true_or, or_true, reduceCtorEq, List.map_nil, bI_eq0, bI_eq1, bool_ft, pk_us, vnar0, vnar1, Bool.or_false, Bool.or_true, Bool.false_or, Bool.true_or, mj_kne, eq_self, Int32.reduceLT, Int32.reduceLE, Int32.reduceAdd, Int32.reduceSub, Int32.reduceMul, not_true_eq_false, not_false_eq_true, false_implies, true_implies, D_X9_readAtom, mj_F_aload_n_k, mj_F_bipush_n, mj_F_dup, mj_F_getfield_i, mj_F_goto_off, mj_F_iadd, mj_F_iconst_n, mj_F_ifCond_eq_off, mj_F_if_icmp_eq_off, mj_F_if_icmp_ne_off, mj_F_iload_n_k, mj_F_invokestatic_i, mj_F_invokevirtual_i, mj_F_istore_n_k, mj_F_isub, mj_F_putfield_i, mj_F_return_, mj_F_sipush_n, mj_set, mj_set0, mj_unk, mj_c2, mj_kc, FT_X9, PT_X9, L_X9_readAtom, List.take_succ_cons, List.take_zero, List.drop_succ_cons, List.drop_zero, List.reverse_cons, List.reverse_nil, List.length_cons, List.length_nil, gS_C7, gCf9_2, sS_Cf_9_2, gCf9len, gCf9_4, sS_Cf_9_4, c_isDigit_eq, J_X9_readAtom]
    exact (ok_some hw :)

theorem J_X9_readCondition : mj_t 11 30 = 41 ∧ mj_t 20 21 = 41 ∧ mj_t 38 (-31) = 7 ∧ (0 ≤ ((11 : Nat) : Int) + 30) = True ∧ (0 ≤ ((20 : Nat) : Int) + 21) = True ∧ (0 ≤ ((38 : Nat) : Int) + (-31)) = True := by and_intros <;> first | rfl | exact eq_true (by decide)
def ct_X9_readCondition (q : RTC) : List (Nat × mj_Cs) := [(46, 0, 2, 9, 0, 0, c_X9_took), (81, 0, 2, 9, 0, 0, (cq_X9_readPart q.2.2.2.2.1)), (84, 0, 2, 9, 0, 0, c_X9_emit)]
theorem L_X9_readCondition (q : RTC) : mj_lk (ct_X9_readCondition q) 46 = some (0, 2, 9, 0, 0, c_X9_took) ∧ mj_lk (ct_X9_readCondition q) 81 = some (0, 2, 9, 0, 0, (cq_X9_readPart q.2.2.2.2.1)) ∧ mj_lk (ct_X9_readCondition q) 84 = some (0, 2, 9, 0, 0, c_X9_emit) := ⟨rfl, rfl, rfl⟩
set_option maxHeartbeats 4000000 in
set_option maxRecDepth 20000 in
theorem b_X9_readCondition_7 {q : RTC} {k : Option Value → mj_H → Prop} {G : mj_K} (hG : mj_cl2 cX9_readCondition (TbX9 3 (none) (ct_X9_readCondition q)) k G)  {P : Int32 × St → Prop} {K : (St) → Prop} (hP : ∀ x, P x → G 7 [.ref 7, mj_unk, .int x.1] [] (mkCs x.2) 0 0) (hK0 : ∀ y, K y → G 41 [] [] (mkCs y) 0 0) {v2 : Int32} {s : St} (hw : ok (B_X9_readCondition_7 q  (v2, s)) (Sum.elim P K)) : G 7 [.ref 7, mj_unk, .int v2] [] (mkCs s) 0 0 := by
  unfold B_X9_readCondition_7 at hw
  refine mj_run hG.1 (fun pc => pc == 5 || pc == 7 || pc == 20 || pc == 28 || pc == 35 || pc == 41) 4000 ?_
  simp only [mj_step, mj_W_s, mj_fin, List.getElem?_cons_zero, List.getElem?_cons_succ, mj_go, Nat.reduceAdd, Nat.reduceSub, Nat.reduceLT, Nat.reduceLeDiff, Nat.zero_add, Nat.reduceEqDiff, Nat.reduceBEq, ↓reduceIte, Bool.false_eq_true, List.append_nil, List.nil_append, List.cons_append, Option.toList, and_true, true_and, true_or, or_true, reduceCtorEq, List.map_nil, bI_eq0, bI_eq1, bool_ft, pk_us, vnar0, vnar1, Bool.or_false, Bool.or_true, Bool.false_or, Bool.true_or, mj_kne, eq_self, Int32.reduceLT, Int32.reduceLE, Int32.reduceAdd, Int32.reduceSub, Int32.reduceMul, not_true_eq_false, not_false_eq_true, false_implies, true_implies, D_X9_readCondition, mj_F_aload_n_k, mj_F_bipush_n, mj_F_goto_off, mj_F_iconst_n, mj_F_ifCond_eq_off, mj_F_if_icmp_ge_off, mj_F_iinc_k_n, mj_F_iload_n_k, mj_F_invokevirtual_i, mj_F_istore_n_k, mj_F_return_, mj_F_sipush_n, mj_set, mj_set0, mj_unk, mj_c2, mj_kc, L_X9_readCondition, List.take_succ_cons, List.take_zero, List.drop_succ_cons, List.drop_zero, List.reverse_cons, List.reverse_nil, List.length_cons, List.length_nil, gS_C7, J_X9_readCondition]
  refine ⟨fun c => ?_, fun c => ?_⟩
  · replace hw := ok_t hw c
    exact hG.2 _ _ _ _ _ _ _ _ _ (by exact trivial) (Nat.zero_le _) (Nat.zero_le _) (hK0 _ (ok_some hw :) :)
  · replace hw := ok_f hw c
    refine c_X9_took_in (ok_imp (ok_bind hw) ?_)
    intro p hw
    simp only [Option.toList, List.nil_append, List.cons_append, Nat.reduceSub]
    refine mj_run hG.1 (fun pc => pc == 5 || pc == 7 || pc == 20 || pc == 28 || pc == 35 || pc == 41) 4000 ?_
    simp only [mj_step, mj_W_s, mj_fin, List.getElem?_cons_zero, List.getElem?_cons_succ, mj_go, Nat.reduceAdd, Nat.reduceSub, Nat.reduceLT, Nat.reduceLeDiff, Nat.zero_add, Nat.reduceEqDiff, Nat.reduceBEq, ↓reduceIte, Bool.false_eq_true, List.append_nil, List.nil_append, List.cons_append, Option.toList, and_true, true_and, true_or, or_true, reduceCtorEq, List.map_nil, bI_eq0, bI_eq1, bool_ft, pk_us, vnar0, vnar1, Bool.or_false, Bool.or_true, Bool.false_or, Bool.true_or, mj_kne, eq_self, Int32.reduceLT, Int32.reduceLE, Int32.reduceAdd, Int32.reduceSub, Int32.reduceMul, not_true_eq_false, not_false_eq_true, false_implies, true_implies, D_X9_readCondition, mj_F_aload_n_k, mj_F_bipush_n, mj_F_goto_off, mj_F_iconst_n, mj_F_ifCond_eq_off, mj_F_if_icmp_ge_off, mj_F_iinc_k_n, mj_F_iload_n_k, mj_F_invokevirtual_i, mj_F_istore_n_k, mj_F_return_, mj_F_sipush_n, mj_set, mj_set0, mj_unk, mj_c2, mj_kc, L_X9_readCondition, List.take_succ_cons, List.take_zero, List.drop_succ_cons, List.drop_zero, List.reverse_cons, List.reverse_nil, List.length_cons, List.length_nil, gS_C7, J_X9_readCondition]
    refine ⟨fun c => ?_, fun c => ?_⟩
    · replace hw := ok_t hw c
      exact hG.2 _ _ _ _ _ _ _ _ _ (by exact trivial) (Nat.zero_le _) (Nat.zero_le _) (hK0 _ (ok_some hw :) :)
    · replace hw := ok_f hw c
      refine cq_X9_readPart_in (ok_imp (ok_bind hw) ?_)
      intro p hw
      simp only [Option.toList, List.nil_append, List.cons_append, Nat.reduceSub]
      refine mj_run hG.1 (fun pc => pc == 5 || pc == 7 || pc == 20 || pc == 28 || pc == 35 || pc == 41) 4000 ?_
      simp only [mj_step, mj_W_s, mj_fin, List.getElem?_cons_zero, List.getElem?_cons_succ, mj_go, Nat.reduceAdd, Nat.reduceSub, Nat.reduceLT, Nat.reduceLeDiff, Nat.zero_add, Nat.reduceEqDiff, Nat.reduceBEq, ↓reduceIte, Bool.false_eq_true, List.append_nil, List.nil_append, List.cons_append, Option.toList, and_true, true_and, true_or, or_true, reduceCtorEq, List.map_nil, bI_eq0, bI_eq1, bool_ft, pk_us, vnar0, vnar1, Bool.or_false, Bool.or_true, Bool.false_or, Bool.true_or, mj_kne, eq_self, Int32.reduceLT, Int32.reduceLE, Int32.reduceAdd, Int32.reduceSub, Int32.reduceMul, not_true_eq_false, not_false_eq_true, false_implies, true_implies, D_X9_readCondition, mj_F_aload_n_k, mj_F_bipush_n, mj_F_goto_off, mj_F_iconst_n, mj_F_ifCond_eq_off, mj_F_if_icmp_ge_off, mj_F_iinc_k_n, mj_F_iload_n_k, mj_F_invokevirtual_i, mj_F_istore_n_k, mj_F_return_, mj_F_sipush_n, mj_set, mj_set0, mj_unk, mj_c2, mj_kc, L_X9_readCondition, List.take_succ_cons, List.take_zero, List.drop_succ_cons, List.drop_zero, List.reverse_cons, List.reverse_nil, List.length_cons, List.length_nil, gS_C7, J_X9_readCondition]
      refine c_X9_emit_in (ok_imp (ok_bind hw) ?_)
      intro p hw
      simp only [Option.toList, List.nil_append, List.cons_append, Nat.reduceSub]
      refine mj_run hG.1 (fun pc => pc == 5 || pc == 7 || pc == 20 || pc == 28 || pc == 35 || pc == 41) 4000 ?_
      simp only [mj_step, mj_W_s, mj_fin, List.getElem?_cons_zero, List.getElem?_cons_succ, mj_go, Nat.reduceAdd, Nat.reduceSub, Nat.reduceLT, Nat.reduceLeDiff, Nat.zero_add, Nat.reduceEqDiff, Nat.reduceBEq, ↓reduceIte, Bool.false_eq_true, List.append_nil, List.nil_append, List.cons_append, Option.toList, and_true, true_and, true_or, or_true, reduceCtorEq, List.map_nil, bI_eq0, bI_eq1, bool_ft, pk_us, vnar0, vnar1, Bool.or_false, Bool.or_true, Bool.false_or, Bool.true_or, mj_kne, eq_self, Int32.reduceLT, Int32.reduceLE, Int32.reduceAdd, Int32.reduceSub, Int32.reduceMul, not_true_eq_false, not_false_eq_true, false_implies, true_implies, D_X9_readCondition, mj_F_aload_n_k, mj_F_bipush_n, mj_F_goto_off, mj_F_iconst_n, mj_F_ifCond_eq_off, mj_F_if_icmp_ge_off, mj_F_iinc_k_n, mj_F_iload_n_k, mj_F_invokevirtual_i, mj_F_istore_n_k, mj_F_return_, mj_F_sipush_n, mj_set, mj_set0, mj_unk, mj_c2, mj_kc, L_X9_readCondition, List.take_succ_cons, List.take_zero, List.drop_succ_cons, List.drop_zero, List.reverse_cons, List.reverse_nil, List.length_cons, List.length_nil, gS_C7, J_X9_readCondition]
      exact hG.2 _ _ _ _ _ _ _ _ _ (by refine ⟨Or.inr rfl, ?_⟩; refine ⟨Or.inl rfl, ?_⟩; refine ⟨Or.inr rfl, ?_⟩; exact trivial) (Nat.zero_le _) (Nat.zero_le _) (hP _ (ok_some hw :) :)

set_option maxHeartbeats 4000000 in
set_option maxRecDepth 20000 in
theorem g_X9_readCondition_41 {q : RTC} {k : Option Value → mj_H → Prop} {G : mj_K} (hG : mj_cl2 cX9_readCondition (TbX9 3 (none) (ct_X9_readCondition q)) k G)   {s : St} (hw : ok (F_X9_readCondition_41 q s) (fun p => k none (mkCs p))) : G 41 [] [] (mkCs s) 0 0 := by
  unfold F_X9_readCondition_41 at hw
  refine mj_run hG.1 (fun pc => pc == 5 || pc == 7 || pc == 20 || pc == 28 || pc == 35 || pc == 41) 4000 ?_
  simp only [mj_step, mj_W_s, mj_fin, List.getElem?_cons_zero, List.getElem?_cons_succ, mj_go, Nat.reduceAdd, Nat.reduceSub, Nat.reduceLT, Nat.reduceLeDiff, Nat.zero_add, Nat.reduceEqDiff, Nat.reduceBEq, ↓reduceIte, Bool.false_eq_true, List.append_nil, List.nil_append, List.cons_append, Option.toList, and_true, true_and, true_or, or_true, reduceCtorEq, List.map_nil, bI_eq0, bI_eq1, bool_ft, pk_us, vnar0, vnar1, Bool.or_false, Bool.or_true, Bool.false_or, Bool.true_or, mj_kne, eq_self, Int32.reduceLT, Int32.reduceLE, Int32.reduceAdd, Int32.reduceSub, Int32.reduceMul, not_true_eq_false, not_false_eq_true, false_implies, true_implies, D_X9_readCondition, mj_F_aload_n_k, mj_F_bipush_n, mj_F_goto_off, mj_F_iconst_n, mj_F_ifCond_eq_off, mj_F_if_icmp_ge_off, mj_F_iinc_k_n, mj_F_iload_n_k, mj_F_invokevirtual_i, mj_F_istore_n_k, mj_F_return_, mj_F_sipush_n, mj_set, mj_set0, mj_unk, mj_c2, mj_kc, L_X9_readCondition, List.take_succ_cons, List.take_zero, List.drop_succ_cons, List.drop_zero, List.reverse_cons, List.reverse_nil, List.length_cons, List.length_nil, gS_C7, J_X9_readCondition]
  exact (ok_some hw :)

set_option maxHeartbeats 4000000 in
theorem g_X9_readCondition_7 {q : RTC} {k : Option Value → mj_H → Prop} {G : mj_K} (hG : mj_cl2 cX9_readCondition (TbX9 3 (none) (ct_X9_readCondition q)) k G)   {v2 : Int32} {s : St} (hw : ok (F_X9_readCondition_7 q v2 s) (fun p => k none (mkCs p))) : G 7 [.ref 7, mj_unk, .int v2] [] (mkCs s) 0 0 := by
  unfold F_X9_readCondition_7 at hw
  refine lp_ok (B_X9_readCondition_7 q ) (fun x => G 7 [.ref 7, mj_unk, .int x.1] [] (mkCs x.2) 0 0) _ ?_ _ _ (ok_bind hw)
  rintro ⟨v2, s⟩ hb
  exact b_X9_readCondition_7 hG (fun _ z => z) (fun y hw => by exact hG.2 _ _ _ _ _ _ _ _ _ (by exact trivial) (Nat.zero_le _) (Nat.zero_le _) (g_X9_readCondition_41 hG  hw :)) hb

set_option maxHeartbeats 4000000 in
set_option maxRecDepth 20000 in
theorem g_X9_readCondition {q : RTC} {k : Option Value → mj_H → Prop} {G : mj_K} (hG : mj_cl2 cX9_readCondition (TbX9 3 (none) (ct_X9_readCondition q)) k G) {v1 : Int32} {s : St} (hw : ok (F_X9_readCondition q v1 s) (fun p => k none (mkCs p))) : G 0 [.ref 7, .int v1] [] (mkCs s) 0 0 := by
  unfold F_X9_readCondition at hw
  refine mj_run hG.1 (fun pc => pc == 5 || pc == 7 || pc == 20 || pc == 28 || pc == 35 || pc == 41) 4000 ?_
  simp only [mj_step, mj_W_s, mj_fin, List.getElem?_cons_zero, List.getElem?_cons_succ, mj_go, Nat.reduceAdd, Nat.reduceSub, Nat.reduceLT, Nat.reduceLeDiff, Nat.zero_add, Nat.reduceEqDiff, Nat.reduceBEq, ↓reduceIte, Bool.false_eq_true, List.append_nil, List.nil_append, List.cons_append, Option.toList, and_true, true_and, true_or, or_true, reduceCtorEq, List.map_nil, bI_eq0, bI_eq1, bool_ft, pk_us, vnar0, vnar1, Bool.or_false, Bool.or_true, Bool.false_or, Bool.true_or, mj_kne, eq_self, Int32.reduceLT, Int32.reduceLE, Int32.reduceAdd, Int32.reduceSub, Int32.reduceMul, not_true_eq_false, not_false_eq_true, false_implies, true_implies, D_X9_readCondition, mj_F_aload_n_k, mj_F_bipush_n, mj_F_goto_off, mj_F_iconst_n, mj_F_ifCond_eq_off, mj_F_if_icmp_ge_off, mj_F_iinc_k_n, mj_F_iload_n_k, mj_F_invokevirtual_i, mj_F_istore_n_k, mj_F_return_, mj_F_sipush_n, mj_set, mj_set0, mj_unk, mj_c2, mj_kc, L_X9_readCondition, List.take_succ_cons, List.take_zero, List.drop_succ_cons, List.drop_zero, List.reverse_cons, List.reverse_nil, List.length_cons, List.length_nil, gS_C7, J_X9_readCondition]
  refine cq_X9_readPart_in (ok_imp (ok_bind hw) ?_)
  intro p hw
  simp only [Option.toList, List.nil_append, List.cons_append, Nat.reduceSub]
  refine mj_run hG.1 (fun pc => pc == 5 || pc == 7 || pc == 20 || pc == 28 || pc == 35 || pc == 41) 4000 ?_
  simp only [mj_step, mj_W_s, mj_fin, List.getElem?_cons_zero, List.getElem?_cons_succ, mj_go, Nat.reduceAdd, Nat.reduceSub, Nat.reduceLT, Nat.reduceLeDiff, Nat.zero_add, Nat.reduceEqDiff, Nat.reduceBEq, ↓reduceIte, Bool.false_eq_true, List.append_nil, List.nil_append, List.cons_append, Option.toList, and_true, true_and, true_or, or_true, reduceCtorEq, List.map_nil, bI_eq0, bI_eq1, bool_ft, pk_us, vnar0, vnar1, Bool.or_false, Bool.or_true, Bool.false_or, Bool.true_or, mj_kne, eq_self, Int32.reduceLT, Int32.reduceLE, Int32.reduceAdd, Int32.reduceSub, Int32.reduceMul, not_true_eq_false, not_false_eq_true, false_implies, true_implies, D_X9_readCondition, mj_F_aload_n_k, mj_F_bipush_n, mj_F_goto_off, mj_F_iconst_n, mj_F_ifCond_eq_off, mj_F_if_icmp_ge_off, mj_F_iinc_k_n, mj_F_iload_n_k, mj_F_invokevirtual_i, mj_F_istore_n_k, mj_F_return_, mj_F_sipush_n, mj_set, mj_set0, mj_unk, mj_c2, mj_kc, L_X9_readCondition, List.take_succ_cons, List.take_zero, List.drop_succ_cons, List.drop_zero, List.reverse_cons, List.reverse_nil, List.length_cons, List.length_nil, gS_C7, J_X9_readCondition]
  exact hG.2 _ _ _ _ _ _ _ _ _ (by refine ⟨Or.inr rfl, ?_⟩; refine ⟨Or.inl rfl, ?_⟩; refine ⟨Or.inr rfl, ?_⟩; exact trivial) (Nat.zero_le _) (Nat.zero_le _) (g_X9_readCondition_7 hG  hw :)

theorem J_X9_readPart : mj_t 11 30 = 41 ∧ mj_t 20 21 = 41 ∧ mj_t 38 (-31) = 7 ∧ (0 ≤ ((11 : Nat) : Int) + 30) = True ∧ (0 ≤ ((20 : Nat) : Int) + 21) = True ∧ (0 ≤ ((38 : Nat) : Int) + (-31)) = True := by and_intros <;> first | rfl | exact eq_true (by decide)
def ct_X9_readPart (q : RTC) : List (Nat × mj_Cs) := [(46, 0, 2, 9, 0, 0, c_X9_took), (84, 0, 2, 9, 0, 0, c_X9_emit), (87, 0, 2, 9, 0, 0, (cq_X9_readUnit q.2.2.2.2.2))]
theorem L_X9_readPart (q : RTC) : mj_lk (ct_X9_readPart q) 46 = some (0, 2, 9, 0, 0, c_X9_took) ∧ mj_lk (ct_X9_readPart q) 84 = some (0, 2, 9, 0, 0, c_X9_emit) ∧ mj_lk (ct_X9_readPart q) 87 = some (0, 2, 9, 0, 0, (cq_X9_readUnit q.2.2.2.2.2)) := ⟨rfl, rfl, rfl⟩
set_option maxHeartbeats 4000000 in
set_option maxRecDepth 20000 in
theorem b_X9_readPart_7 {q : RTC} {k : Option Value → mj_H → Prop} {G : mj_K} (hG : mj_cl2 cX9_readPart (TbX9 3 (none) (ct_X9_readPart q)) k G)  {P : Int32 × St → Prop} {K : (St) → Prop} (hP : ∀ x, P x → G 7 [.ref 7, mj_unk, .int x.1] [] (mkCs x.2) 0 0) (hK0 : ∀ y, K y → G 41 [] [] (mkCs y) 0 0) {v2 : Int32} {s : St} (hw : ok (B_X9_readPart_7 q  (v2, s)) (Sum.elim P K)) : G 7 [.ref 7, mj_unk, .int v2] [] (mkCs s) 0 0 := by
  unfold B_X9_readPart_7 at hw
  refine mj_run hG.1 (fun pc => pc == 5 || pc == 7 || pc == 20 || pc == 28 || pc == 35 || pc == 41) 4000 ?_
  simp only [mj_step, mj_W_s, mj_fin, List.getElem?_cons_zero, List.getElem?_cons_succ, mj_go, Nat.reduceAdd, Nat.reduceSub, Nat.reduceLT, Nat.reduceLeDiff, Nat.zero_add, Nat.reduceEqDiff, Nat.reduceBEq, ↓reduceIte, Bool.false_eq_true, List.append_nil, List.nil_append, List.cons_append, Option.toList, and_true, true_and, true_or, or_true, reduceCtorEq, List.map_nil, bI_eq0, bI_eq1, bool_ft, pk_us, vnar0, vnar1, Bool.or_false, Bool.or_true, Bool.false_or, Bool.true_or, mj_kne, eq_self, Int32.reduceLT, Int32.reduceLE, Int32.reduceAdd, Int32.reduceSub, Int32.reduceMul, not_true_eq_false, not_false_eq_true, false_implies, true_implies, D_X9_readPart, mj_F_aload_n_k, mj_F_bipush_n, mj_F_goto_off, mj_F_iconst_n, mj_F_ifCond_eq_off, mj_F_if_icmp_ge_off, mj_F_iinc_k_n, mj_F_iload_n_k, mj_F_invokevirtual_i, mj_F_istore_n_k, mj_F_return_, mj_F_sipush_n, mj_set, mj_set0, mj_unk, mj_c2, mj_kc, L_X9_readPart, List.take_succ_cons, List.take_zero, List.drop_succ_cons, List.drop_zero, List.reverse_cons, List.reverse_nil, List.length_cons, List.length_nil, gS_C7, J_X9_readPart]
  refine ⟨fun c => ?_, fun c => ?_⟩
  · replace hw := ok_t hw c
    exact hG.2 _ _ _ _ _ _ _ _ _ (by exact trivial) (Nat.zero_le _) (Nat.zero_le _) (hK0 _ (ok_some hw :) :)
  · replace hw := ok_f hw c
    refine c_X9_took_in (ok_imp (ok_bind hw) ?_)
    intro p hw
    simp only [Option.toList, List.nil_append, List.cons_append, Nat.reduceSub]
    refine mj_run hG.1 (fun pc => pc == 5 || pc == 7 || pc == 20 || pc == 28 || pc == 35 || pc == 41) 4000 ?_
    simp only [mj_step, mj_W_s, mj_fin, List.getElem?_cons_zero, List.getElem?_cons_succ, mj_go, Nat.reduceAdd, Nat.reduceSub, Nat.reduceLT, Nat.reduceLeDiff, Nat.zero_add, Nat.reduceEqDiff, Nat.reduceBEq, ↓reduceIte, Bool.false_eq_true, List.append_nil, List.nil_append, List.cons_append, Option.toList, and_true, true_and, true_or, or_true, reduceCtorEq, List.map_nil, bI_eq0, bI_eq1, bool_ft, pk_us, vnar0, vnar1, Bool.or_false, Bool.or_true, Bool.false_or, Bool.true_or, mj_kne, eq_self, Int32.reduceLT, Int32.reduceLE, Int32.reduceAdd, Int32.reduceSub, Int32.reduceMul, not_true_eq_false, not_false_eq_true, false_implies, true_implies, D_X9_readPart, mj_F_aload_n_k, mj_F_bipush_n, mj_F_goto_off, mj_F_iconst_n, mj_F_ifCond_eq_off, mj_F_if_icmp_ge_off, mj_F_iinc_k_n, mj_F_iload_n_k, mj_F_invokevirtual_i, mj_F_istore_n_k, mj_F_return_, mj_F_sipush_n, mj_set, mj_set0, mj_unk, mj_c2, mj_kc, L_X9_readPart, List.take_succ_cons, List.take_zero, List.drop_succ_cons, List.drop_zero, List.reverse_cons, List.reverse_nil, List.length_cons, List.length_nil, gS_C7, J_X9_readPart]
    refine ⟨fun c => ?_, fun c => ?_⟩
    · replace hw := ok_t hw c
      exact hG.2 _ _ _ _ _ _ _ _ _ (by exact trivial) (Nat.zero_le _) (Nat.zero_le _) (hK0 _ (ok_some hw :) :)
    · replace hw := ok_f hw c
      refine cq_X9_readUnit_in (ok_imp (ok_bind hw) ?_)
      intro p hw
      simp only [Option.toList, List.nil_append, List.cons_append, Nat.reduceSub]
      refine mj_run hG.1 (fun pc => pc == 5 || pc == 7 || pc == 20 || pc == 28 || pc == 35 || pc == 41) 4000 ?_
      simp only [mj_step, mj_W_s, mj_fin, List.getElem?_cons_zero, List.getElem?_cons_succ, mj_go, Nat.reduceAdd, Nat.reduceSub, Nat.reduceLT, Nat.reduceLeDiff, Nat.zero_add, Nat.reduceEqDiff, Nat.reduceBEq, ↓reduceIte, Bool.false_eq_true, List.append_nil, List.nil_append, List.cons_append, Option.toList, and_true, true_and, true_or, or_true, reduceCtorEq, List.map_nil, bI_eq0, bI_eq1, bool_ft, pk_us, vnar0, vnar1, Bool.or_false, Bool.or_true, Bool.false_or, Bool.true_or, mj_kne, eq_self, Int32.reduceLT, Int32.reduceLE, Int32.reduceAdd, Int32.reduceSub, Int32.reduceMul, not_true_eq_false, not_false_eq_true, false_implies, true_implies, D_X9_readPart, mj_F_aload_n_k, mj_F_bipush_n, mj_F_goto_off, mj_F_iconst_n, mj_F_ifCond_eq_off, mj_F_if_icmp_ge_off, mj_F_iinc_k_n, mj_F_iload_n_k, mj_F_invokevirtual_i, mj_F_istore_n_k, mj_F_return_, mj_F_sipush_n, mj_set, mj_set0, mj_unk, mj_c2, mj_kc, L_X9_readPart, List.take_succ_cons, List.take_zero, List.drop_succ_cons, List.drop_zero, List.reverse_cons, List.reverse_nil, List.length_cons, List.length_nil, gS_C7, J_X9_readPart]
      refine c_X9_emit_in (ok_imp (ok_bind hw) ?_)
      intro p hw
      simp only [Option.toList, List.nil_append, List.cons_append, Nat.reduceSub]
      refine mj_run hG.1 (fun pc => pc == 5 || pc == 7 || pc == 20 || pc == 28 || pc == 35 || pc == 41) 4000 ?_
      simp only [mj_step, mj_W_s, mj_fin, List.getElem?_cons_zero, List.getElem?_cons_succ, mj_go, Nat.reduceAdd, Nat.reduceSub, Nat.reduceLT, Nat.reduceLeDiff, Nat.zero_add, Nat.reduceEqDiff, Nat.reduceBEq, ↓reduceIte, Bool.false_eq_true, List.append_nil, List.nil_append, List.cons_append, Option.toList, and_true, true_and, true_or, or_true, reduceCtorEq, List.map_nil, bI_eq0, bI_eq1, bool_ft, pk_us, vnar0, vnar1, Bool.or_false, Bool.or_true, Bool.false_or, Bool.true_or, mj_kne, eq_self, Int32.reduceLT, Int32.reduceLE, Int32.reduceAdd, Int32.reduceSub, Int32.reduceMul, not_true_eq_false, not_false_eq_true, false_implies, true_implies, D_X9_readPart, mj_F_aload_n_k, mj_F_bipush_n, mj_F_goto_off, mj_F_iconst_n, mj_F_ifCond_eq_off, mj_F_if_icmp_ge_off, mj_F_iinc_k_n, mj_F_iload_n_k, mj_F_invokevirtual_i, mj_F_istore_n_k, mj_F_return_, mj_F_sipush_n, mj_set, mj_set0, mj_unk, mj_c2, mj_kc, L_X9_readPart, List.take_succ_cons, List.take_zero, List.drop_succ_cons, List.drop_zero, List.reverse_cons, List.reverse_nil, List.length_cons, List.length_nil, gS_C7, J_X9_readPart]
      exact hG.2 _ _ _ _ _ _ _ _ _ (by refine ⟨Or.inr rfl, ?_⟩; refine ⟨Or.inl rfl, ?_⟩; refine ⟨Or.inr rfl, ?_⟩; exact trivial) (Nat.zero_le _) (Nat.zero_le _) (hP _ (ok_some hw :) :)

set_option maxHeartbeats 4000000 in
set_option maxRecDepth 20000 in
theorem g_X9_readPart_41 {q : RTC} {k : Option Value → mj_H → Prop} {G : mj_K} (hG : mj_cl2 cX9_readPart (TbX9 3 (none) (ct_X9_readPart q)) k G)   {s : St} (hw : ok (F_X9_readPart_41 q s) (fun p => k none (mkCs p))) : G 41 [] [] (mkCs s) 0 0 := by
  unfold F_X9_readPart_41 at hw
  refine mj_run hG.1 (fun pc => pc == 5 || pc == 7 || pc == 20 || pc == 28 || pc == 35 || pc == 41) 4000 ?_
  simp only [mj_step, mj_W_s, mj_fin, List.getElem?_cons_zero, List.getElem?_cons_succ, mj_go, Nat.reduceAdd, Nat.reduceSub, Nat.reduceLT, Nat.reduceLeDiff, Nat.zero_add, Nat.reduceEqDiff, Nat.reduceBEq, ↓reduceIte, Bool.false_eq_true, List.append_nil, List.nil_append, List.cons_append, Option.toList, and_true, true_and, true_or, or_true, reduceCtorEq, List.map_nil, bI_eq0, bI_eq1, bool_ft, pk_us, vnar0, vnar1, Bool.or_false, Bool.or_true, Bool.false_or, Bool.true_or, mj_kne, eq_self, Int32.reduceLT, Int32.reduceLE, Int32.reduceAdd, Int32.reduceSub, Int32.reduceMul, not_true_eq_false, not_false_eq_true, false_implies, true_implies, D_X9_readPart, mj_F_aload_n_k, mj_F_bipush_n, mj_F_goto_off, mj_F_iconst_n, mj_F_ifCond_eq_off, mj_F_if_icmp_ge_off, mj_F_iinc_k_n, mj_F_iload_n_k, mj_F_invokevirtual_i, mj_F_istore_n_k, mj_F_return_, mj_F_sipush_n, mj_set, mj_set0, mj_unk, mj_c2, mj_kc, L_X9_readPart, List.take_succ_cons, List.take_zero, List.drop_succ_cons, List.drop_zero, List.reverse_cons, List.reverse_nil, List.length_cons, List.length_nil, gS_C7, J_X9_readPart]
  exact (ok_some hw :)

set_option maxHeartbeats 4000000 in
theorem g_X9_readPart_7 {q : RTC} {k : Option Value → mj_H → Prop} {G : mj_K} (hG : mj_cl2 cX9_readPart (TbX9 3 (none) (ct_X9_readPart q)) k G)   {v2 : Int32} {s : St} (hw : ok (F_X9_readPart_7 q v2 s) (fun p => k none (mkCs p))) : G 7 [.ref 7, mj_unk, .int v2] [] (mkCs s) 0 0 := by
  unfold F_X9_readPart_7 at hw
  refine lp_ok (B_X9_readPart_7 q ) (fun x => G 7 [.ref 7, mj_unk, .int x.1] [] (mkCs x.2) 0 0) _ ?_ _ _ (ok_bind hw)
  rintro ⟨v2, s⟩ hb
  exact b_X9_readPart_7 hG (fun _ z => z) (fun y hw => by exact hG.2 _ _ _ _ _ _ _ _ _ (by exact trivial) (Nat.zero_le _) (Nat.zero_le _) (g_X9_readPart_41 hG  hw :)) hb

set_option maxHeartbeats 4000000 in
set_option maxRecDepth 20000 in
theorem g_X9_readPart {q : RTC} {k : Option Value → mj_H → Prop} {G : mj_K} (hG : mj_cl2 cX9_readPart (TbX9 3 (none) (ct_X9_readPart q)) k G) {v1 : Int32} {s : St} (hw : ok (F_X9_readPart q v1 s) (fun p => k none (mkCs p))) : G 0 [.ref 7, .int v1] [] (mkCs s) 0 0 := by
  unfold F_X9_readPart at hw
  refine mj_run hG.1 (fun pc => pc == 5 || pc == 7 || pc == 20 || pc == 28 || pc == 35 || pc == 41) 4000 ?_
  simp only [mj_step, mj_W_s, mj_fin, List.getElem?_cons_zero, List.getElem?_cons_succ, mj_go, Nat.reduceAdd, Nat.reduceSub, Nat.reduceLT, Nat.reduceLeDiff, Nat.zero_add, Nat.reduceEqDiff, Nat.reduceBEq, ↓reduceIte, Bool.false_eq_true, List.append_nil, List.nil_append, List.cons_append, Option.toList, and_true, true_and, true_or, or_true, reduceCtorEq, List.map_nil, bI_eq0, bI_eq1, bool_ft, pk_us, vnar0, vnar1, Bool.or_false, Bool.or_true, Bool.false_or, Bool.true_or, mj_kne, eq_self, Int32.reduceLT, Int32.reduceLE, Int32.reduceAdd, Int32.reduceSub, Int32.reduceMul, not_true_eq_false, not_false_eq_true, false_implies, true_implies, D_X9_readPart, mj_F_aload_n_k, mj_F_bipush_n, mj_F_goto_off, mj_F_iconst_n, mj_F_ifCond_eq_off, mj_F_if_icmp_ge_off, mj_F_iinc_k_n, mj_F_iload_n_k, mj_F_invokevirtual_i, mj_F_istore_n_k, mj_F_return_, mj_F_sipush_n, mj_set, mj_set0, mj_unk, mj_c2, mj_kc, L_X9_readPart, List.take_succ_cons, List.take_zero, List.drop_succ_cons, List.drop_zero, List.reverse_cons, List.reverse_nil, List.length_cons, List.length_nil, gS_C7, J_X9_readPart]
  refine cq_X9_readUnit_in (ok_imp (ok_bind hw) ?_)
  intro p hw
  simp only [Option.toList, List.nil_append, List.cons_append, Nat.reduceSub]
  refine mj_run hG.1 (fun pc => pc == 5 || pc == 7 || pc == 20 || pc == 28 || pc == 35 || pc == 41) 4000 ?_
  simp only [mj_step, mj_W_s, mj_fin, List.getElem?_cons_zero, List.getElem?_cons_succ, mj_go, Nat.reduceAdd, Nat.reduceSub, Nat.reduceLT, Nat.reduceLeDiff, Nat.zero_add, Nat.reduceEqDiff, Nat.reduceBEq, ↓reduceIte, Bool.false_eq_true, List.append_nil, List.nil_append, List.cons_append, Option.toList, and_true, true_and, true_or, or_true, reduceCtorEq, List.map_nil, bI_eq0, bI_eq1, bool_ft, pk_us, vnar0, vnar1, Bool.or_false, Bool.or_true, Bool.false_or, Bool.true_or, mj_kne, eq_self, Int32.reduceLT, Int32.reduceLE, Int32.reduceAdd, Int32.reduceSub, Int32.reduceMul, not_true_eq_false, not_false_eq_true, false_implies, true_implies, D_X9_readPart, mj_F_aload_n_k, mj_F_bipush_n, mj_F_goto_off, mj_F_iconst_n, mj_F_ifCond_eq_off, mj_F_if_icmp_ge_off, mj_F_iinc_k_n, mj_F_iload_n_k, mj_F_invokevirtual_i, mj_F_istore_n_k, mj_F_return_, mj_F_sipush_n, mj_set, mj_set0, mj_unk, mj_c2, mj_kc, L_X9_readPart, List.take_succ_cons, List.take_zero, List.drop_succ_cons, List.drop_zero, List.reverse_cons, List.reverse_nil, List.length_cons, List.length_nil, gS_C7, J_X9_readPart]
  exact hG.2 _ _ _ _ _ _ _ _ _ (by refine ⟨Or.inr rfl, ?_⟩; refine ⟨Or.inl rfl, ?_⟩; refine ⟨Or.inr rfl, ?_⟩; exact trivial) (Nat.zero_le _) (Nat.zero_le _) (g_X9_readPart_7 hG  hw :)

theorem J_X9_readUnit : mj_t 1 7 = 8 ∧ mj_t 5 7 = 12 ∧ mj_t 16 35 = 51 ∧ mj_t 23 115 = 138 ∧ mj_t 48 90 = 138 ∧ mj_t 54 34 = 88 ∧ mj_t 61 77 = 138 ∧ mj_t 85 53 = 138 ∧ mj_t 89 7 = 96 ∧ mj_t 105 29 = 134 ∧ mj_t 131 7 = 138 ∧ (0 ≤ ((1 : Nat) : Int) + 7) = True ∧ (0 ≤ ((5 : Nat) : Int) + 7) = True ∧ (0 ≤ ((16 : Nat) : Int) + 35) = True ∧ (0 ≤ ((23 : Nat) : Int) + 115) = True ∧ (0 ≤ ((48 : Nat) : Int) + 90) = True ∧ (0 ≤ ((54 : Nat) : Int) + 34) = True ∧ (0 ≤ ((61 : Nat) : Int) + 77) = True ∧ (0 ≤ ((85 : Nat) : Int) + 53) = True ∧ (0 ≤ ((89 : Nat) : Int) + 7) = True ∧ (0 ≤ ((105 : Nat) : Int) + 29) = True ∧ (0 ≤ ((131 : Nat) : Int) + 7) = True := by and_intros <;> first | rfl | exact eq_true (by decide)
theorem KN_X9_readUnit : ((0 : Int32) = 33) = False ∧ ((0 : Int32) = 40) = False := by and_intros <;> exact eq_false (by decide)
def ct_X9_readUnit (q : RTC) : List (Nat × mj_Cs) := [(50, 0, 1, 9, 0, 0, c_X9_peek), (54, 0, 1, 9, 0, 0, c_X9_fail), (63, 0, 2, 9, 0, 0, c_X9_want), (67, 0, 1, 9, 0, 0, (cq_X9_readSum q.1)), (70, 2, 1, 9, 0, 0, c_isRel), (73, 0, 2, 9, 0, 0, (cq_X9_readCondition q.2.2.2.1)), (84, 0, 2, 9, 0, 0, c_X9_emit), (87, 0, 2, 9, 0, 0, (cq_X9_readUnit q.2.2.2.2.2)), (90, 0, 1, 9, 0, 0, c_X9_opened)]
theorem L_X9_readUnit (q : RTC) : mj_lk (ct_X9_readUnit q) 50 = some (0, 1, 9, 0, 0, c_X9_peek) ∧ mj_lk (ct_X9_readUnit q) 54 = some (0, 1, 9, 0, 0, c_X9_fail) ∧ mj_lk (ct_X9_readUnit q) 63 = some (0, 2, 9, 0, 0, c_X9_want) ∧ mj_lk (ct_X9_readUnit q) 67 = some (0, 1, 9, 0, 0, (cq_X9_readSum q.1)) ∧ mj_lk (ct_X9_readUnit q) 70 = some (2, 1, 9, 0, 0, c_isRel) ∧ mj_lk (ct_X9_readUnit q) 73 = some (0, 2, 9, 0, 0, (cq_X9_readCondition q.2.2.2.1)) ∧ mj_lk (ct_X9_readUnit q) 84 = some (0, 2, 9, 0, 0, c_X9_emit) ∧ mj_lk (ct_X9_readUnit q) 87 = some (0, 2, 9, 0, 0, (cq_X9_readUnit q.2.2.2.2.2)) ∧ mj_lk (ct_X9_readUnit q) 90 = some (0, 1, 9, 0, 0, c_X9_opened) := ⟨rfl, rfl, rfl, rfl, rfl, rfl, rfl, rfl, rfl⟩
set_option maxHeartbeats 4000000 in
set_option maxRecDepth 20000 in
theorem g_X9_readUnit {q : RTC} {k : Option Value → mj_H → Prop} {G : mj_K} (hG : mj_cl2 cX9_readUnit (TbX9 4 (none) (ct_X9_readUnit q)) k G) {v1 : Int32} {s : St} (hw : ok (F_X9_readUnit q v1 s) (fun p => k none (mkCs p))) : G 0 [.ref 7, .int v1] [] (mkCs s) 0 0 := by
  unfold F_X9_readUnit at hw
  refine mj_run hG.1 (fun pc => pc == 12 || pc == 23 || pc == 31 || pc == 48 || pc == 61 || pc == 69 || pc == 75 || pc == 96 || pc == 100 || pc == 122 || pc == 131 || pc == 138) 4000 ?_
  simp only [mj_step, mj_W_s, mj_fin, List.getElem?_cons_zero, List.getElem?_cons_succ, mj_go, Nat.reduceAdd, Nat.reduceSub, Nat.reduceLT, Nat.reduceLeDiff, Nat.zero_add, Nat.reduceEqDiff, Nat.reduceBEq, ↓reduceIte, Bool.false_eq_true, List.append_nil, List.nil_append, List.cons_append, Option.toList, and_true, true_and, true_or, or_true, reduceCtorEq, List.map_nil, bI_eq0, bI_eq1, bool_ft, pk_us, vnar0, vnar1, Bool.or_false, Bool.or_true, Bool.false_or, Bool.true_or, mj_kne, eq_self, Int32.reduceLT, Int32.reduceLE, Int32.reduceAdd, Int32.reduceSub, Int32.reduceMul, not_true_eq_false, not_false_eq_true, false_implies, true_implies, D_X9_readUnit_0, D_X9_readUnit_1, mj_F_aload_n_k, mj_F_bipush_n, mj_F_dup, mj_F_getfield_i, mj_F_goto_off, mj_F_iadd, mj_F_iconst_n, mj_F_ifCond_eq_off, mj_F_ifCond_ne_off, mj_F_if_icmp_ne_off, mj_F_iload_n_k, mj_F_invokestatic_i, mj_F_invokevirtual_i, mj_F_istore_n_k, mj_F_isub, mj_F_putfield_i, mj_F_return_, mj_F_sipush_n, mj_set, mj_set0, mj_unk, mj_c2, mj_kc, FT_X9, PT_X9, L_X9_readUnit, List.take_succ_cons, List.take_zero, List.drop_succ_cons, List.drop_zero, List.reverse_cons, List.reverse_nil, List.length_cons, List.length_nil, gS_C7, gCf9_4, sS_Cf_9_4, gCf9len, gCf9_2, sS_Cf_9_2, c_isRel_eq, KN_X9_readUnit, J_X9_readUnit]
  refine ⟨fun c => ?_, fun c => ?_⟩
  · replace hw := ok_t hw c
    refine c_X9_peek_in (ok_imp (ok_bind hw) ?_)
    intro p hw
    simp only [Option.toList, List.nil_append, List.cons_append, Nat.reduceSub]
    refine mj_run hG.1 (fun pc => pc == 12 || pc == 23 || pc == 31 || pc == 48 || pc == 61 || pc == 69 || pc == 75 || pc == 96 || pc == 100 || pc == 122 || pc == 131 || pc == 138) 4000 ?_
    simp only [mj_step, mj_W_s, mj_fin, List.getElem?_cons_zero, List.getElem?_cons_succ, mj_go, Nat.reduceAdd, Nat.reduceSub, Nat.reduceLT, Nat.reduceLeDiff, Nat.zero_add, Nat.reduceEqDiff, Nat.reduceBEq, ↓reduceIte, Bool.false_eq_true, List.append_nil, List.nil_append, List.cons_append, Option.toList, and_true, true_and, true_or, or_true, reduceCtorEq, List.map_nil, bI_eq0, bI_eq1, bool_ft, pk_us, vnar0, vnar1, Bool.or_false, Bool.or_true, Bool.false_or, Bool.true_or, mj_kne, eq_self, Int32.reduceLT, Int32.reduceLE, Int32.reduceAdd, Int32.reduceSub, Int32.reduceMul, not_true_eq_false, not_false_eq_true, false_implies, true_implies, D_X9_readUnit_0, D_X9_readUnit_1, mj_F_aload_n_k, mj_F_bipush_n, mj_F_dup, mj_F_getfield_i, mj_F_goto_off, mj_F_iadd, mj_F_iconst_n, mj_F_ifCond_eq_off, mj_F_ifCond_ne_off, mj_F_if_icmp_ne_off, mj_F_iload_n_k, mj_F_invokestatic_i, mj_F_invokevirtual_i, mj_F_istore_n_k, mj_F_isub, mj_F_putfield_i, mj_F_return_, mj_F_sipush_n, mj_set, mj_set0, mj_unk, mj_c2, mj_kc, FT_X9, PT_X9, L_X9_readUnit, List.take_succ_cons, List.take_zero, List.drop_succ_cons, List.drop_zero, List.reverse_cons, List.reverse_nil, List.length_cons, List.length_nil, gS_C7, gCf9_4, sS_Cf_9_4, gCf9len, gCf9_2, sS_Cf_9_2, c_isRel_eq, KN_X9_readUnit, J_X9_readUnit]
    refine ⟨fun c => ?_, fun c => ?_⟩
    · replace hw := ok_f hw c
      refine ⟨fun c => ?_, fun c => ?_⟩
      · replace hw := ok_f hw c
        refine ⟨fun c => ?_, fun c => ?_⟩
        · replace hw := ok_f hw c
          refine mj_run hG.1 (fun pc => pc == 12 || pc == 23 || pc == 31 || pc == 48 || pc == 61 || pc == 69 || pc == 75 || pc == 96 || pc == 100 || pc == 122 || pc == 131 || pc == 138) 4000 ?_
          simp only [mj_step, mj_W_s, mj_fin, List.getElem?_cons_zero, List.getElem?_cons_succ, mj_go, Nat.reduceAdd, Nat.reduceSub, Nat.reduceLT, Nat.reduceLeDiff, Nat.zero_add, Nat.reduceEqDiff, Nat.reduceBEq, ↓reduceIte, Bool.false_eq_true, List.append_nil, List.nil_append, List.cons_append, Option.toList, and_true, true_and, true_or, or_true, reduceCtorEq, List.map_nil, bI_eq0, bI_eq1, bool_ft, pk_us, vnar0, vnar1, Bool.or_false, Bool.or_true, Bool.false_or, Bool.true_or, mj_kne, eq_self, Int32.reduceLT, Int32.reduceLE, Int32.reduceAdd, Int32.reduceSub, Int32.reduceMul, not_true_eq_false, not_false_eq_true, false_implies, true_implies, D_X9_readUnit_0, D_X9_readUnit_1, mj_F_aload_n_k, mj_F_bipush_n, mj_F_dup, mj_F_getfield_i, mj_F_goto_off, mj_F_iadd, mj_F_iconst_n, mj_F_ifCond_eq_off, mj_F_ifCond_ne_off, mj_F_if_icmp_ne_off, mj_F_iload_n_k, mj_F_invokestatic_i, mj_F_invokevirtual_i, mj_F_istore_n_k, mj_F_isub, mj_F_putfield_i, mj_F_return_, mj_F_sipush_n, mj_set, mj_set0, mj_unk, mj_c2, mj_kc, FT_X9, PT_X9, L_X9_readUnit, List.take_succ_cons, List.take_zero, List.drop_succ_cons, List.drop_zero, List.reverse_cons, List.reverse_nil, List.length_cons, List.length_nil, gS_C7, gCf9_4, sS_Cf_9_4, gCf9len, gCf9_2, sS_Cf_9_2, c_isRel_eq, KN_X9_readUnit, J_X9_readUnit]
          refine c_X9_peek_in (ok_imp (ok_bind hw) ?_)
          intro p hw
          simp only [Option.toList, List.nil_append, List.cons_append, Nat.reduceSub]
          refine mj_run hG.1 (fun pc => pc == 12 || pc == 23 || pc == 31 || pc == 48 || pc == 61 || pc == 69 || pc == 75 || pc == 96 || pc == 100 || pc == 122 || pc == 131 || pc == 138) 4000 ?_
          simp only [mj_step, mj_W_s, mj_fin, List.getElem?_cons_zero, List.getElem?_cons_succ, mj_go, Nat.reduceAdd, Nat.reduceSub, Nat.reduceLT, Nat.reduceLeDiff, Nat.zero_add, Nat.reduceEqDiff, Nat.reduceBEq, ↓reduceIte, Bool.false_eq_true, List.append_nil, List.nil_append, List.cons_append, Option.toList, and_true, true_and, true_or, or_true, reduceCtorEq, List.map_nil, bI_eq0, bI_eq1, bool_ft, pk_us, vnar0, vnar1, Bool.or_false, Bool.or_true, Bool.false_or, Bool.true_or, mj_kne, eq_self, Int32.reduceLT, Int32.reduceLE, Int32.reduceAdd, Int32.reduceSub, Int32.reduceMul, not_true_eq_false, not_false_eq_true, false_implies, true_implies, D_X9_readUnit_0, D_X9_readUnit_1, mj_F_aload_n_k, mj_F_bipush_n, mj_F_dup, mj_F_getfield_i, mj_F_goto_off, mj_F_iadd, mj_F_iconst_n, mj_F_ifCond_eq_off, mj_F_ifCond_ne_off, mj_F_if_icmp_ne_off, mj_F_iload_n_k, mj_F_invokestatic_i, mj_F_invokevirtual_i, mj_F_istore_n_k, mj_F_isub, mj_F_putfield_i, mj_F_return_, mj_F_sipush_n, mj_set, mj_set0, mj_unk, mj_c2, mj_kc, FT_X9, PT_X9, L_X9_readUnit, List.take_succ_cons, List.take_zero, List.drop_succ_cons, List.drop_zero, List.reverse_cons, List.reverse_nil, List.length_cons, List.length_nil, gS_C7, gCf9_4, sS_Cf_9_4, gCf9len, gCf9_2, sS_Cf_9_2, c_isRel_eq, KN_X9_readUnit, J_X9_readUnit]
          refine ⟨fun c => ?_, fun c => ?_⟩
          · replace hw := ok_t hw c
            refine c_X9_fail_in (ok_imp (ok_bind hw) ?_)
            intro p hw
            simp only [Option.toList, List.nil_append, List.cons_append, Nat.reduceSub]
            refine mj_run hG.1 (fun pc => pc == 12 || pc == 23 || pc == 31 || pc == 48 || pc == 61 || pc == 69 || pc == 75 || pc == 96 || pc == 100 || pc == 122 || pc == 131 || pc == 138) 4000 ?_
            simp only [mj_step, mj_W_s, mj_fin, List.getElem?_cons_zero, List.getElem?_cons_succ, mj_go, Nat.reduceAdd, Nat.reduceSub, Nat.reduceLT, Nat.reduceLeDiff, Nat.zero_add, Nat.reduceEqDiff, Nat.reduceBEq, ↓reduceIte, Bool.false_eq_true, List.append_nil, List.nil_append, List.cons_append, Option.toList, and_true, true_and, true_or, or_true, reduceCtorEq, List.map_nil, bI_eq0, bI_eq1, bool_ft, pk_us, vnar0, vnar1, Bool.or_false, Bool.or_true, Bool.false_or, Bool.true_or, mj_kne, eq_self, Int32.reduceLT, Int32.reduceLE, Int32.reduceAdd, Int32.reduceSub, Int32.reduceMul, not_true_eq_false, not_false_eq_true, false_implies, true_implies, D_X9_readUnit_0, D_X9_readUnit_1, mj_F_aload_n_k, mj_F_bipush_n, mj_F_dup, mj_F_getfield_i, mj_F_goto_off, mj_F_iadd, mj_F_iconst_n, mj_F_ifCond_eq_off, mj_F_ifCond_ne_off, mj_F_if_icmp_ne_off, mj_F_iload_n_k, mj_F_invokestatic_i, mj_F_invokevirtual_i, mj_F_istore_n_k, mj_F_isub, mj_F_putfield_i, mj_F_return_, mj_F_sipush_n, mj_set, mj_set0, mj_unk, mj_c2, mj_kc, FT_X9, PT_X9, L_X9_readUnit, List.take_succ_cons, List.take_zero, List.drop_succ_cons, List.drop_zero, List.reverse_cons, List.reverse_nil, List.length_cons, List.length_nil, gS_C7, gCf9_4, sS_Cf_9_4, gCf9len, gCf9_2, sS_Cf_9_2, c_isRel_eq, KN_X9_readUnit, J_X9_readUnit]
            exact (ok_some hw :)
          · replace hw := ok_f hw c
            replace hw := ok_wI hw
            refine cq_X9_readSum_in (ok_imp (ok_bind hw) ?_)
            intro p hw
            simp only [Option.toList, List.nil_append, List.cons_append, Nat.reduceSub]
            refine mj_run hG.1 (fun pc => pc == 12 || pc == 23 || pc == 31 || pc == 48 || pc == 61 || pc == 69 || pc == 75 || pc == 96 || pc == 100 || pc == 122 || pc == 131 || pc == 138) 4000 ?_
            simp only [mj_step, mj_W_s, mj_fin, List.getElem?_cons_zero, List.getElem?_cons_succ, mj_go, Nat.reduceAdd, Nat.reduceSub, Nat.reduceLT, Nat.reduceLeDiff, Nat.zero_add, Nat.reduceEqDiff, Nat.reduceBEq, ↓reduceIte, Bool.false_eq_true, List.append_nil, List.nil_append, List.cons_append, Option.toList, and_true, true_and, true_or, or_true, reduceCtorEq, List.map_nil, bI_eq0, bI_eq1, bool_ft, pk_us, vnar0, vnar1, Bool.or_false, Bool.or_true, Bool.false_or, Bool.true_or, mj_kne, eq_self, Int32.reduceLT, Int32.reduceLE, Int32.reduceAdd, Int32.reduceSub, Int32.reduceMul, not_true_eq_false, not_false_eq_true, false_implies, true_implies, D_X9_readUnit_0, D_X9_readUnit_1, mj_F_aload_n_k, mj_F_bipush_n, mj_F_dup, mj_F_getfield_i, mj_F_goto_off, mj_F_iadd, mj_F_iconst_n, mj_F_ifCond_eq_off, mj_F_ifCond_ne_off, mj_F_if_icmp_ne_off, mj_F_iload_n_k, mj_F_invokestatic_i, mj_F_invokevirtual_i, mj_F_istore_n_k, mj_F_isub, mj_F_putfield_i, mj_F_return_, mj_F_sipush_n, mj_set, mj_set0, mj_unk, mj_c2, mj_kc, FT_X9, PT_X9, L_X9_readUnit, List.take_succ_cons, List.take_zero, List.drop_succ_cons, List.drop_zero, List.reverse_cons, List.reverse_nil, List.length_cons, List.length_nil, gS_C7, gCf9_4, sS_Cf_9_4, gCf9len, gCf9_2, sS_Cf_9_2, c_isRel_eq, KN_X9_readUnit, J_X9_readUnit]
            refine c_X9_emit_in (ok_imp (ok_bind hw) ?_)
            intro p hw
            simp only [Option.toList, List.nil_append, List.cons_append, Nat.reduceSub]
            refine mj_run hG.1 (fun pc => pc == 12 || pc == 23 || pc == 31 || pc == 48 || pc == 61 || pc == 69 || pc == 75 || pc == 96 || pc == 100 || pc == 122 || pc == 131 || pc == 138) 4000 ?_
            simp only [mj_step, mj_W_s, mj_fin, List.getElem?_cons_zero, List.getElem?_cons_succ, mj_go, Nat.reduceAdd, Nat.reduceSub, Nat.reduceLT, Nat.reduceLeDiff, Nat.zero_add, Nat.reduceEqDiff, Nat.reduceBEq, ↓reduceIte, Bool.false_eq_true, List.append_nil, List.nil_append, List.cons_append, Option.toList, and_true, true_and, true_or, or_true, reduceCtorEq, List.map_nil, bI_eq0, bI_eq1, bool_ft, pk_us, vnar0, vnar1, Bool.or_false, Bool.or_true, Bool.false_or, Bool.true_or, mj_kne, eq_self, Int32.reduceLT, Int32.reduceLE, Int32.reduceAdd, Int32.reduceSub, Int32.reduceMul, not_true_eq_false, not_false_eq_true, false_implies, true_implies, D_X9_readUnit_0, D_X9_readUnit_1, mj_F_aload_n_k, mj_F_bipush_n, mj_F_dup, mj_F_getfield_i, mj_F_goto_off, mj_F_iadd, mj_F_iconst_n, mj_F_ifCond_eq_off, mj_F_ifCond_ne_off, mj_F_if_icmp_ne_off, mj_F_iload_n_k, mj_F_invokestatic_i, mj_F_invokevirtual_i, mj_F_istore_n_k, mj_F_isub, mj_F_putfield_i, mj_F_return_, mj_F_sipush_n, mj_set, mj_set0, mj_unk, mj_c2, mj_kc, FT_X9, PT_X9, L_X9_readUnit, List.take_succ_cons, List.take_zero, List.drop_succ_cons, List.drop_zero, List.reverse_cons, List.reverse_nil, List.length_cons, List.length_nil, gS_C7, gCf9_4, sS_Cf_9_4, gCf9len, gCf9_2, sS_Cf_9_2, c_isRel_eq, KN_X9_readUnit, J_X9_readUnit]
            refine mj_run hG.1 (fun pc => pc == 12 || pc == 23 || pc == 31 || pc == 48 || pc == 61 || pc == 69 || pc == 75 || pc == 96 || pc == 100 || pc == 122 || pc == 131 || pc == 138) 4000 ?_
            simp only [mj_step, mj_W_s, mj_fin, List.getElem?_cons_zero, List.getElem?_cons_succ, mj_go, Nat.reduceAdd, Nat.reduceSub, Nat.reduceLT, Nat.reduceLeDiff, Nat.zero_add, Nat.reduceEqDiff, Nat.reduceBEq, ↓reduceIte, Bool.false_eq_true, List.append_nil, List.nil_append, List.cons_append, Option.toList, and_true, true_and, true_or, or_true, reduceCtorEq, List.map_nil, bI_eq0, bI_eq1, bool_ft, pk_us, vnar0, vnar1, Bool.or_false, Bool.or_true, Bool.false_or, Bool.true_or, mj_kne, eq_self, Int32.reduceLT, Int32.reduceLE, Int32.reduceAdd, Int32.reduceSub, Int32.reduceMul, not_true_eq_false, not_false_eq_true, false_implies, true_implies, D_X9_readUnit_0, D_X9_readUnit_1, mj_F_aload_n_k, mj_F_bipush_n, mj_F_dup, mj_F_getfield_i, mj_F_goto_off, mj_F_iadd, mj_F_iconst_n, mj_F_ifCond_eq_off, mj_F_ifCond_ne_off, mj_F_if_icmp_ne_off, mj_F_iload_n_k, mj_F_invokestatic_i, mj_F_invokevirtual_i, mj_F_istore_n_k, mj_F_isub, mj_F_putfield_i, mj_F_return_, mj_F_sipush_n, mj_set, mj_set0, mj_unk, mj_c2, mj_kc, FT_X9, PT_X9, L_X9_readUnit, List.take_succ_cons, List.take_zero, List.drop_succ_cons, List.drop_zero, List.reverse_cons, List.reverse_nil, List.length_cons, List.length_nil, gS_C7, gCf9_4, sS_Cf_9_4, gCf9len, gCf9_2, sS_Cf_9_2, c_isRel_eq, KN_X9_readUnit, J_X9_readUnit]
            exact (ok_some hw :)
        · replace hw := ok_t hw c
          refine cq_X9_readSum_in (ok_imp (ok_bind hw) ?_)
          intro p hw
          simp only [Option.toList, List.nil_append, List.cons_append, Nat.reduceSub]
          refine mj_run hG.1 (fun pc => pc == 12 || pc == 23 || pc == 31 || pc == 48 || pc == 61 || pc == 69 || pc == 75 || pc == 96 || pc == 100 || pc == 122 || pc == 131 || pc == 138) 4000 ?_
          simp only [mj_step, mj_W_s, mj_fin, List.getElem?_cons_zero, List.getElem?_cons_succ, mj_go, Nat.reduceAdd, Nat.reduceSub, Nat.reduceLT, Nat.reduceLeDiff, Nat.zero_add, Nat.reduceEqDiff, Nat.reduceBEq, ↓reduceIte, Bool.false_eq_true, List.append_nil, List.nil_append, List.cons_append, Option.toList, and_true, true_and, true_or, or_true, reduceCtorEq, List.map_nil, bI_eq0, bI_eq1, bool_ft, pk_us, vnar0, vnar1, Bool.or_false, Bool.or_true, Bool.false_or, Bool.true_or, mj_kne, eq_self, Int32.reduceLT, Int32.reduceLE, Int32.reduceAdd, Int32.reduceSub, Int32.reduceMul, not_true_eq_false, not_false_eq_true, false_implies, true_implies, D_X9_readUnit_0, D_X9_readUnit_1, mj_F_aload_n_k, mj_F_bipush_n, mj_F_dup, mj_F_getfield_i, mj_F_goto_off, mj_F_iadd, mj_F_iconst_n, mj_F_ifCond_eq_off, mj_F_ifCond_ne_off, mj_F_if_icmp_ne_off, mj_F_iload_n_k, mj_F_invokestatic_i, mj_F_invokevirtual_i, mj_F_istore_n_k, mj_F_isub, mj_F_putfield_i, mj_F_return_, mj_F_sipush_n, mj_set, mj_set0, mj_unk, mj_c2, mj_kc, FT_X9, PT_X9, L_X9_readUnit, List.take_succ_cons, List.take_zero, List.drop_succ_cons, List.drop_zero, List.reverse_cons, List.reverse_nil, List.length_cons, List.length_nil, gS_C7, gCf9_4, sS_Cf_9_4, gCf9len, gCf9_2, sS_Cf_9_2, c_isRel_eq, KN_X9_readUnit, J_X9_readUnit]
          refine c_X9_peek_in (ok_imp (ok_bind hw) ?_)
          intro p hw
          simp only [Option.toList, List.nil_append, List.cons_append, Nat.reduceSub]
          refine mj_run hG.1 (fun pc => pc == 12 || pc == 23 || pc == 31 || pc == 48 || pc == 61 || pc == 69 || pc == 75 || pc == 96 || pc == 100 || pc == 122 || pc == 131 || pc == 138) 4000 ?_
          simp only [mj_step, mj_W_s, mj_fin, List.getElem?_cons_zero, List.getElem?_cons_succ, mj_go, Nat.reduceAdd, Nat.reduceSub, Nat.reduceLT, Nat.reduceLeDiff, Nat.zero_add, Nat.reduceEqDiff, Nat.reduceBEq, ↓reduceIte, Bool.false_eq_true, List.append_nil, List.nil_append, List.cons_append, Option.toList, and_true, true_and, true_or, or_true, reduceCtorEq, List.map_nil, bI_eq0, bI_eq1, bool_ft, pk_us, vnar0, vnar1, Bool.or_false, Bool.or_true, Bool.false_or, Bool.true_or, mj_kne, eq_self, Int32.reduceLT, Int32.reduceLE, Int32.reduceAdd, Int32.reduceSub, Int32.reduceMul, not_true_eq_false, not_false_eq_true, false_implies, true_implies, D_X9_readUnit_0, D_X9_readUnit_1, mj_F_aload_n_k, mj_F_bipush_n, mj_F_dup, mj_F_getfield_i, mj_F_goto_off, mj_F_iadd, mj_F_iconst_n, mj_F_ifCond_eq_off, mj_F_ifCond_ne_off, mj_F_if_icmp_ne_off, mj_F_iload_n_k, mj_F_invokestatic_i, mj_F_invokevirtual_i, mj_F_istore_n_k, mj_F_isub, mj_F_putfield_i, mj_F_return_, mj_F_sipush_n, mj_set, mj_set0, mj_unk, mj_c2, mj_kc, FT_X9, PT_X9, L_X9_readUnit, List.take_succ_cons, List.take_zero, List.drop_succ_cons, List.drop_zero, List.reverse_cons, List.reverse_nil, List.length_cons, List.length_nil, gS_C7, gCf9_4, sS_Cf_9_4, gCf9len, gCf9_2, sS_Cf_9_2, c_isRel_eq, KN_X9_readUnit, J_X9_readUnit]
          refine ⟨fun c => ?_, fun c => ?_⟩
          · replace hw := ok_t hw c
            refine c_X9_fail_in (ok_imp (ok_bind hw) ?_)
            intro p hw
            simp only [Option.toList, List.nil_append, List.cons_append, Nat.reduceSub]
            refine mj_run hG.1 (fun pc => pc == 12 || pc == 23 || pc == 31 || pc == 48 || pc == 61 || pc == 69 || pc == 75 || pc == 96 || pc == 100 || pc == 122 || pc == 131 || pc == 138) 4000 ?_
            simp only [mj_step, mj_W_s, mj_fin, List.getElem?_cons_zero, List.getElem?_cons_succ, mj_go, Nat.reduceAdd, Nat.reduceSub, Nat.reduceLT, Nat.reduceLeDiff, Nat.zero_add, Nat.reduceEqDiff, Nat.reduceBEq, ↓reduceIte, Bool.false_eq_true, List.append_nil, List.nil_append, List.cons_append, Option.toList, and_true, true_and, true_or, or_true, reduceCtorEq, List.map_nil, bI_eq0, bI_eq1, bool_ft, pk_us, vnar0, vnar1, Bool.or_false, Bool.or_true, Bool.false_or, Bool.true_or, mj_kne, eq_self, Int32.reduceLT, Int32.reduceLE, Int32.reduceAdd, Int32.reduceSub, Int32.reduceMul, not_true_eq_false, not_false_eq_true, false_implies, true_implies, D_X9_readUnit_0, D_X9_readUnit_1, mj_F_aload_n_k, mj_F_bipush_n, mj_F_dup, mj_F_getfield_i, mj_F_goto_off, mj_F_iadd, mj_F_iconst_n, mj_F_ifCond_eq_off, mj_F_ifCond_ne_off, mj_F_if_icmp_ne_off, mj_F_iload_n_k, mj_F_invokestatic_i, mj_F_invokevirtual_i, mj_F_istore_n_k, mj_F_isub, mj_F_putfield_i, mj_F_return_, mj_F_sipush_n, mj_set, mj_set0, mj_unk, mj_c2, mj_kc, FT_X9, PT_X9, L_X9_readUnit, List.take_succ_cons, List.take_zero, List.drop_succ_cons, List.drop_zero, List.reverse_cons, List.reverse_nil, List.length_cons, List.length_nil, gS_C7, gCf9_4, sS_Cf_9_4, gCf9len, gCf9_2, sS_Cf_9_2, c_isRel_eq, KN_X9_readUnit, J_X9_readUnit]
            exact (ok_some hw :)
          · replace hw := ok_f hw c
            replace hw := ok_wI hw
            refine cq_X9_readSum_in (ok_imp (ok_bind hw) ?_)
            intro p hw
            simp only [Option.toList, List.nil_append, List.cons_append, Nat.reduceSub]
            refine mj_run hG.1 (fun pc => pc == 12 || pc == 23 || pc == 31 || pc == 48 || pc == 61 || pc == 69 || pc == 75 || pc == 96 || pc == 100 || pc == 122 || pc == 131 || pc == 138) 4000 ?_
            simp only [mj_step, mj_W_s, mj_fin, List.getElem?_cons_zero, List.getElem?_cons_succ, mj_go, Nat.reduceAdd, Nat.reduceSub, Nat.reduceLT, Nat.reduceLeDiff, Nat.zero_add, Nat.reduceEqDiff, Nat.reduceBEq, ↓reduceIte, Bool.false_eq_true, List.append_nil, List.nil_append, List.cons_append, Option.toList, and_true, true_and, true_or, or_true, reduceCtorEq, List.map_nil, bI_eq0, bI_eq1, bool_ft, pk_us, vnar0, vnar1, Bool.or_false, Bool.or_true, Bool.false_or, Bool.true_or, mj_kne, eq_self, Int32.reduceLT, Int32.reduceLE, Int32.reduceAdd, Int32.reduceSub, Int32.reduceMul, not_true_eq_false, not_false_eq_true, false_implies, true_implies, D_X9_readUnit_0, D_X9_readUnit_1, mj_F_aload_n_k, mj_F_bipush_n, mj_F_dup, mj_F_getfield_i, mj_F_goto_off, mj_F_iadd, mj_F_iconst_n, mj_F_ifCond_eq_off, mj_F_ifCond_ne_off, mj_F_if_icmp_ne_off, mj_F_iload_n_k, mj_F_invokestatic_i, mj_F_invokevirtual_i, mj_F_istore_n_k, mj_F_isub, mj_F_putfield_i, mj_F_return_, mj_F_sipush_n, mj_set, mj_set0, mj_unk, mj_c2, mj_kc, FT_X9, PT_X9, L_X9_readUnit, List.take_succ_cons, List.take_zero, List.drop_succ_cons, List.drop_zero, List.reverse_cons, List.reverse_nil, List.length_cons, List.length_nil, gS_C7, gCf9_4, sS_Cf_9_4, gCf9len, gCf9_2, sS_Cf_9_2, c_isRel_eq, KN_X9_readUnit, J_X9_readUnit]
            refine c_X9_emit_in (ok_imp (ok_bind hw) ?_)
            intro p hw
            simp only [Option.toList, List.nil_append, List.cons_append, Nat.reduceSub]
            refine mj_run hG.1 (fun pc => pc == 12 || pc == 23 || pc == 31 || pc == 48 || pc == 61 || pc == 69 || pc == 75 || pc == 96 || pc == 100 || pc == 122 || pc == 131 || pc == 138) 4000 ?_
            simp only [mj_step, mj_W_s, mj_fin, List.getElem?_cons_zero, List.getElem?_cons_succ, mj_go, Nat.reduceAdd, Nat.reduceSub, Nat.reduceLT, Nat.reduceLeDiff, Nat.zero_add, Nat.reduceEqDiff, Nat.reduceBEq, ↓reduceIte, Bool.false_eq_true, List.append_nil, List.nil_append, List.cons_append, Option.toList, and_true, true_and, true_or, or_true, reduceCtorEq, List.map_nil, bI_eq0, bI_eq1, bool_ft, pk_us, vnar0, vnar1, Bool.or_false, Bool.or_true, Bool.false_or, Bool.true_or, mj_kne, eq_self, Int32.reduceLT, Int32.reduceLE, Int32.reduceAdd, Int32.reduceSub, Int32.reduceMul, not_true_eq_false, not_false_eq_true, false_implies, true_implies, D_X9_readUnit_0, D_X9_readUnit_1, mj_F_aload_n_k, mj_F_bipush_n, mj_F_dup, mj_F_getfield_i, mj_F_goto_off, mj_F_iadd, mj_F_iconst_n, mj_F_ifCond_eq_off, mj_F_ifCond_ne_off, mj_F_if_icmp_ne_off, mj_F_iload_n_k, mj_F_invokestatic_i, mj_F_invokevirtual_i, mj_F_istore_n_k, mj_F_isub, mj_F_putfield_i, mj_F_return_, mj_F_sipush_n, mj_set, mj_set0, mj_unk, mj_c2, mj_kc, FT_X9, PT_X9, L_X9_readUnit, List.take_succ_cons, List.take_zero, List.drop_succ_cons, List.drop_zero, List.reverse_cons, List.reverse_nil, List.length_cons, List.length_nil, gS_C7, gCf9_4, sS_Cf_9_4, gCf9len, gCf9_2, sS_Cf_9_2, c_isRel_eq, KN_X9_readUnit, J_X9_readUnit]
            refine mj_run hG.1 (fun pc => pc == 12 || pc == 23 || pc == 31 || pc == 48 || pc == 61 || pc == 69 || pc == 75 || pc == 96 || pc == 100 || pc == 122 || pc == 131 || pc == 138) 4000 ?_
            simp only [mj_step, mj_W_s, mj_fin, List.getElem?_cons_zero, List.getElem?_cons_succ, mj_go, Nat.reduceAdd, Nat.reduceSub, Nat.reduceLT, Nat.reduceLeDiff, Nat.zero_add, Nat.reduceEqDiff, Nat.reduceBEq, ↓reduceIte, Bool.false_eq_true, List.append_nil, List.nil_append, List.cons_append, Option.toList, and_true, true_and, true_or, or_true, reduceCtorEq, List.map_nil, bI_eq0, bI_eq1, bool_ft, pk_us, vnar0, vnar1, Bool.or_false, Bool.or_true, Bool.false_or, Bool.true_or, mj_kne, eq_self, Int32.reduceLT, Int32.reduceLE, Int32.reduceAdd, Int32.reduceSub, Int32.reduceMul, not_true_eq_false, not_false_eq_true, false_implies, true_implies, D_X9_readUnit_0, D_X9_readUnit_1, mj_F_aload_n_k, mj_F_bipush_n, mj_F_dup, mj_F_getfield_i, mj_F_goto_off, mj_F_iadd, mj_F_iconst_n, mj_F_ifCond_eq_off, mj_F_ifCond_ne_off, mj_F_if_icmp_ne_off, mj_F_iload_n_k, mj_F_invokestatic_i, mj_F_invokevirtual_i, mj_F_istore_n_k, mj_F_isub, mj_F_putfield_i, mj_F_return_, mj_F_sipush_n, mj_set, mj_set0, mj_unk, mj_c2, mj_kc, FT_X9, PT_X9, L_X9_readUnit, List.take_succ_cons, List.take_zero, List.drop_succ_cons, List.drop_zero, List.reverse_cons, List.reverse_nil, List.length_cons, List.length_nil, gS_C7, gCf9_4, sS_Cf_9_4, gCf9len, gCf9_2, sS_Cf_9_2, c_isRel_eq, KN_X9_readUnit, J_X9_readUnit]
            exact (ok_some hw :)
      · replace hw := ok_t hw c
        refine c_X9_opened_in (ok_imp (ok_bind hw) ?_)
        intro p hw
        simp only [Option.toList, List.nil_append, List.cons_append, Nat.reduceSub]
        refine mj_run hG.1 (fun pc => pc == 12 || pc == 23 || pc == 31 || pc == 48 || pc == 61 || pc == 69 || pc == 75 || pc == 96 || pc == 100 || pc == 122 || pc == 131 || pc == 138) 4000 ?_
        simp only [mj_step, mj_W_s, mj_fin, List.getElem?_cons_zero, List.getElem?_cons_succ, mj_go, Nat.reduceAdd, Nat.reduceSub, Nat.reduceLT, Nat.reduceLeDiff, Nat.zero_add, Nat.reduceEqDiff, Nat.reduceBEq, ↓reduceIte, Bool.false_eq_true, List.append_nil, List.nil_append, List.cons_append, Option.toList, and_true, true_and, true_or, or_true, reduceCtorEq, List.map_nil, bI_eq0, bI_eq1, bool_ft, pk_us, vnar0, vnar1, Bool.or_false, Bool.or_true, Bool.false_or, Bool.true_or, mj_kne, eq_self, Int32.reduceLT, Int32.reduceLE, Int32.reduceAdd, Int32.reduceSub, Int32.reduceMul, not_true_eq_false, not_false_eq_true, false_implies, true_implies, D_X9_readUnit_0, D_X9_readUnit_1, mj_F_aload_n_k, mj_F_bipush_n, mj_F_dup, mj_F_getfield_i, mj_F_goto_off, mj_F_iadd, mj_F_iconst_n, mj_F_ifCond_eq_off, mj_F_ifCond_ne_off, mj_F_if_icmp_ne_off, mj_F_iload_n_k, mj_F_invokestatic_i, mj_F_invokevirtual_i, mj_F_istore_n_k, mj_F_isub, mj_F_putfield_i, mj_F_return_, mj_F_sipush_n, mj_set, mj_set0, mj_unk, mj_c2, mj_kc, FT_X9, PT_X9, L_X9_readUnit, List.take_succ_cons, List.take_zero, List.drop_succ_cons, List.drop_zero, List.reverse_cons, List.reverse_nil, List.length_cons, List.length_nil, gS_C7, gCf9_4, sS_Cf_9_4, gCf9len, gCf9_2, sS_Cf_9_2, c_isRel_eq, KN_X9_readUnit, J_X9_readUnit]
        refine ⟨fun c => ?_, fun c => ?_⟩
        · replace hw := ok_t hw c
          refine mj_run hG.1 (fun pc => pc == 12 || pc == 23 || pc == 31 || pc == 48 || pc == 61 || pc == 69 || pc == 75 || pc == 96 || pc == 100 || pc == 122 || pc == 131 || pc == 138) 4000 ?_
          simp only [mj_step, mj_W_s, mj_fin, List.getElem?_cons_zero, List.getElem?_cons_succ, mj_go, Nat.reduceAdd, Nat.reduceSub, Nat.reduceLT, Nat.reduceLeDiff, Nat.zero_add, Nat.reduceEqDiff, Nat.reduceBEq, ↓reduceIte, Bool.false_eq_true, List.append_nil, List.nil_append, List.cons_append, Option.toList, and_true, true_and, true_or, or_true, reduceCtorEq, List.map_nil, bI_eq0, bI_eq1, bool_ft, pk_us, vnar0, vnar1, Bool.or_false, Bool.or_true, Bool.false_or, Bool.true_or, mj_kne, eq_self, Int32.reduceLT, Int32.reduceLE, Int32.reduceAdd, Int32.reduceSub, Int32.reduceMul, not_true_eq_false, not_false_eq_true, false_implies, true_implies, D_X9_readUnit_0, D_X9_readUnit_1, mj_F_aload_n_k, mj_F_bipush_n, mj_F_dup, mj_F_getfield_i, mj_F_goto_off, mj_F_iadd, mj_F_iconst_n, mj_F_ifCond_eq_off, mj_F_ifCond_ne_off, mj_F_if_icmp_ne_off, mj_F_iload_n_k, mj_F_invokestatic_i, mj_F_invokevirtual_i, mj_F_istore_n_k, mj_F_isub, mj_F_putfield_i, mj_F_return_, mj_F_sipush_n, mj_set, mj_set0, mj_unk, mj_c2, mj_kc, FT_X9, PT_X9, L_X9_readUnit, List.take_succ_cons, List.take_zero, List.drop_succ_cons, List.drop_zero, List.reverse_cons, List.reverse_nil, List.length_cons, List.length_nil, gS_C7, gCf9_4, sS_Cf_9_4, gCf9len, gCf9_2, sS_Cf_9_2, c_isRel_eq, KN_X9_readUnit, J_X9_readUnit]
          exact (ok_some hw :)
        · replace hw := ok_f hw c
          refine cq_X9_readCondition_in (ok_imp (ok_bind hw) ?_)
          intro p hw
          simp only [Option.toList, List.nil_append, List.cons_append, Nat.reduceSub]
          refine mj_run hG.1 (fun pc => pc == 12 || pc == 23 || pc == 31 || pc == 48 || pc == 61 || pc == 69 || pc == 75 || pc == 96 || pc == 100 || pc == 122 || pc == 131 || pc == 138) 4000 ?_
          simp only [mj_step, mj_W_s, mj_fin, List.getElem?_cons_zero, List.getElem?_cons_succ, mj_go, Nat.reduceAdd, Nat.reduceSub, Nat.reduceLT, Nat.reduceLeDiff, Nat.zero_add, Nat.reduceEqDiff, Nat.reduceBEq, ↓reduceIte, Bool.false_eq_true, List.append_nil, List.nil_append, List.cons_append, Option.toList, and_true, true_and, true_or, or_true, reduceCtorEq, List.map_nil, bI_eq0, bI_eq1, bool_ft, pk_us, vnar0, vnar1, Bool.or_false, Bool.or_true, Bool.false_or, Bool.true_or, mj_kne, eq_self, Int32.reduceLT, Int32.reduceLE, Int32.reduceAdd, Int32.reduceSub, Int32.reduceMul, not_true_eq_false, not_false_eq_true, false_implies, true_implies, D_X9_readUnit_0, D_X9_readUnit_1, mj_F_aload_n_k, mj_F_bipush_n, mj_F_dup, mj_F_getfield_i, mj_F_goto_off, mj_F_iadd, mj_F_iconst_n, mj_F_ifCond_eq_off, mj_F_ifCond_ne_off, mj_F_if_icmp_ne_off, mj_F_iload_n_k, mj_F_invokestatic_i, mj_F_invokevirtual_i, mj_F_istore_n_k, mj_F_isub, mj_F_putfield_i, mj_F_return_, mj_F_sipush_n, mj_set, mj_set0, mj_unk, mj_c2, mj_kc, FT_X9, PT_X9, L_X9_readUnit, List.take_succ_cons, List.take_zero, List.drop_succ_cons, List.drop_zero, List.reverse_cons, List.reverse_nil, List.length_cons, List.length_nil, gS_C7, gCf9_4, sS_Cf_9_4, gCf9len, gCf9_2, sS_Cf_9_2, c_isRel_eq, KN_X9_readUnit, J_X9_readUnit]
          refine c_X9_want_in (ok_imp (ok_bind hw) ?_)
          intro p hw
          simp only [Option.toList, List.nil_append, List.cons_append, Nat.reduceSub]
          refine mj_run hG.1 (fun pc => pc == 12 || pc == 23 || pc == 31 || pc == 48 || pc == 61 || pc == 69 || pc == 75 || pc == 96 || pc == 100 || pc == 122 || pc == 131 || pc == 138) 4000 ?_
          simp only [mj_step, mj_W_s, mj_fin, List.getElem?_cons_zero, List.getElem?_cons_succ, mj_go, Nat.reduceAdd, Nat.reduceSub, Nat.reduceLT, Nat.reduceLeDiff, Nat.zero_add, Nat.reduceEqDiff, Nat.reduceBEq, ↓reduceIte, Bool.false_eq_true, List.append_nil, List.nil_append, List.cons_append, Option.toList, and_true, true_and, true_or, or_true, reduceCtorEq, List.map_nil, bI_eq0, bI_eq1, bool_ft, pk_us, vnar0, vnar1, Bool.or_false, Bool.or_true, Bool.false_or, Bool.true_or, mj_kne, eq_self, Int32.reduceLT, Int32.reduceLE, Int32.reduceAdd, Int32.reduceSub, Int32.reduceMul, not_true_eq_false, not_false_eq_true, false_implies, true_implies, D_X9_readUnit_0, D_X9_readUnit_1, mj_F_aload_n_k, mj_F_bipush_n, mj_F_dup, mj_F_getfield_i, mj_F_goto_off, mj_F_iadd, mj_F_iconst_n, mj_F_ifCond_eq_off, mj_F_ifCond_ne_off, mj_F_if_icmp_ne_off, mj_F_iload_n_k, mj_F_invokestatic_i, mj_F_invokevirtual_i, mj_F_istore_n_k, mj_F_isub, mj_F_putfield_i, mj_F_return_, mj_F_sipush_n, mj_set, mj_set0, mj_unk, mj_c2, mj_kc, FT_X9, PT_X9, L_X9_readUnit, List.take_succ_cons, List.take_zero, List.drop_succ_cons, List.drop_zero, List.reverse_cons, List.reverse_nil, List.length_cons, List.length_nil, gS_C7, gCf9_4, sS_Cf_9_4, gCf9len, gCf9_2, sS_Cf_9_2, c_isRel_eq, KN_X9_readUnit, J_X9_readUnit]
          replace hw := ok_wI hw
          refine mj_run hG.1 (fun pc => pc == 12 || pc == 23 || pc == 31 || pc == 48 || pc == 61 || pc == 69 || pc == 75 || pc == 96 || pc == 100 || pc == 122 || pc == 131 || pc == 138) 4000 ?_
          simp only [mj_step, mj_W_s, mj_fin, List.getElem?_cons_zero, List.getElem?_cons_succ, mj_go, Nat.reduceAdd, Nat.reduceSub, Nat.reduceLT, Nat.reduceLeDiff, Nat.zero_add, Nat.reduceEqDiff, Nat.reduceBEq, ↓reduceIte, Bool.false_eq_true, List.append_nil, List.nil_append, List.cons_append, Option.toList, and_true, true_and, true_or, or_true, reduceCtorEq, List.map_nil, bI_eq0, bI_eq1, bool_ft, pk_us, vnar0, vnar1, Bool.or_false, Bool.or_true, Bool.false_or, Bool.true_or, mj_kne, eq_self, Int32.reduceLT, Int32.reduceLE, Int32.reduceAdd, Int32.reduceSub, Int32.reduceMul, not_true_eq_false, not_false_eq_true, false_implies, true_implies, D_X9_readUnit_0, D_X9_readUnit_1, mj_F_aload_n_k, mj_F_bipush_n, mj_F_dup, mj_F_getfield_i, mj_F_goto_off, mj_F_iadd, mj_F_iconst_n, mj_F_ifCond_eq_off, mj_F_ifCond_ne_off, mj_F_if_icmp_ne_off, mj_F_iload_n_k, mj_F_invokestatic_i, mj_F_invokevirtual_i, mj_F_istore_n_k, mj_F_isub, mj_F_putfield_i, mj_F_return_, mj_F_sipush_n, mj_set, mj_set0, mj_unk, mj_c2, mj_kc, FT_X9, PT_X9, L_X9_readUnit, List.take_succ_cons, List.take_zero, List.drop_succ_cons, List.drop_zero, List.reverse_cons, List.reverse_nil, List.length_cons, List.length_nil, gS_C7, gCf9_4, sS_Cf_9_4, gCf9len, gCf9_2, sS_Cf_9_2, c_isRel_eq, KN_X9_readUnit, J_X9_readUnit]
          exact (ok_some hw :)
    · replace hw := ok_t hw c
      refine c_X9_opened_in (ok_imp (ok_bind hw) ?_)
      intro p hw
      simp only [Option.toList, List.nil_append, List.cons_append, Nat.reduceSub]
      refine mj_run hG.1 (fun pc => pc == 12 || pc == 23 || pc == 31 || pc == 48 || pc == 61 || pc == 69 || pc == 75 || pc == 96 || pc == 100 || pc == 122 || pc == 131 || pc == 138) 4000 ?_
      simp only [mj_step, mj_W_s, mj_fin, List.getElem?_cons_zero, List.getElem?_cons_succ, mj_go, Nat.reduceAdd, Nat.reduceSub, Nat.reduceLT, Nat.reduceLeDiff, Nat.zero_add, Nat.reduceEqDiff, Nat.reduceBEq, ↓reduceIte, Bool.false_eq_true, List.append_nil, List.nil_append, List.cons_append, Option.toList, and_true, true_and, true_or, or_true, reduceCtorEq, List.map_nil, bI_eq0, bI_eq1, bool_ft, pk_us, vnar0, vnar1, Bool.or_false, Bool.or_true, Bool.false_or, Bool.true_or, mj_kne, eq_self, Int32.reduceLT, Int32.reduceLE, Int32.reduceAdd, Int32.reduceSub, Int32.reduceMul, not_true_eq_false, not_false_eq_true, false_implies, true_implies, D_X9_readUnit_0, D_X9_readUnit_1, mj_F_aload_n_k, mj_F_bipush_n, mj_F_dup, mj_F_getfield_i, mj_F_goto_off, mj_F_iadd, mj_F_iconst_n, mj_F_ifCond_eq_off, mj_F_ifCond_ne_off, mj_F_if_icmp_ne_off, mj_F_iload_n_k, mj_F_invokestatic_i, mj_F_invokevirtual_i, mj_F_istore_n_k, mj_F_isub, mj_F_putfield_i, mj_F_return_, mj_F_sipush_n, mj_set, mj_set0, mj_unk, mj_c2, mj_kc, FT_X9, PT_X9, L_X9_readUnit, List.take_succ_cons, List.take_zero, List.drop_succ_cons, List.drop_zero, List.reverse_cons, List.reverse_nil, List.length_cons, List.length_nil, gS_C7, gCf9_4, sS_Cf_9_4, gCf9len, gCf9_2, sS_Cf_9_2, c_isRel_eq, KN_X9_readUnit, J_X9_readUnit]
      refine ⟨fun c => ?_, fun c => ?_⟩
      · replace hw := ok_t hw c
        refine mj_run hG.1 (fun pc => pc == 12 || pc == 23 || pc == 31 || pc == 48 || pc == 61 || pc == 69 || pc == 75 || pc == 96 || pc == 100 || pc == 122 || pc == 131 || pc == 138) 4000 ?_
        simp only [mj_step, mj_W_s, mj_fin, List.getElem?_cons_zero, List.getElem?_cons_succ, mj_go, Nat.reduceAdd, Nat.reduceSub, Nat.reduceLT, Nat.reduceLeDiff, Nat.zero_add, Nat.reduceEqDiff, Nat.reduceBEq, ↓reduceIte, Bool.false_eq_true, List.append_nil, List.nil_append, List.cons_append, Option.toList, and_true, true_and, true_or, or_true, reduceCtorEq, List.map_nil, bI_eq0, bI_eq1, bool_ft, pk_us, vnar0, vnar1, Bool.or_false, Bool.or_true, Bool.false_or, Bool.true_or, mj_kne, eq_self, Int32.reduceLT, Int32.reduceLE, Int32.reduceAdd, Int32.reduceSub, Int32.reduceMul, not_true_eq_false, not_false_eq_true, false_implies, true_implies, D_X9_readUnit_0, D_X9_readUnit_1, mj_F_aload_n_k, mj_F_bipush_n, mj_F_dup, mj_F_getfield_i, mj_F_goto_off, mj_F_iadd, mj_F_iconst_n, mj_F_ifCond_eq_off, mj_F_ifCond_ne_off, mj_F_if_icmp_ne_off, mj_F_iload_n_k, mj_F_invokestatic_i, mj_F_invokevirtual_i, mj_F_istore_n_k, mj_F_isub, mj_F_putfield_i, mj_F_return_, mj_F_sipush_n, mj_set, mj_set0, mj_unk, mj_c2, mj_kc, FT_X9, PT_X9, L_X9_readUnit, List.take_succ_cons, List.take_zero, List.drop_succ_cons, List.drop_zero, List.reverse_cons, List.reverse_nil, List.length_cons, List.length_nil, gS_C7, gCf9_4, sS_Cf_9_4, gCf9len, gCf9_2, sS_Cf_9_2, c_isRel_eq, KN_X9_readUnit, J_X9_readUnit]
        exact (ok_some hw :)
      · replace hw := ok_f hw c
        refine cq_X9_readUnit_in (ok_imp (ok_bind hw) ?_)
        intro p hw
        simp only [Option.toList, List.nil_append, List.cons_append, Nat.reduceSub]
        refine mj_run hG.1 (fun pc => pc == 12 || pc == 23 || pc == 31 || pc == 48 || pc == 61 || pc == 69 || pc == 75 || pc == 96 || pc == 100 || pc == 122 || pc == 131 || pc == 138) 4000 ?_
        simp only [mj_step, mj_W_s, mj_fin, List.getElem?_cons_zero, List.getElem?_cons_succ, mj_go, Nat.reduceAdd, Nat.reduceSub, Nat.reduceLT, Nat.reduceLeDiff, Nat.zero_add, Nat.reduceEqDiff, Nat.reduceBEq, ↓reduceIte, Bool.false_eq_true, List.append_nil, List.nil_append, List.cons_append, Option.toList, and_true, true_and, true_or, or_true, reduceCtorEq, List.map_nil, bI_eq0, bI_eq1, bool_ft, pk_us, vnar0, vnar1, Bool.or_false, Bool.or_true, Bool.false_or, Bool.true_or, mj_kne, eq_self, Int32.reduceLT, Int32.reduceLE, Int32.reduceAdd, Int32.reduceSub, Int32.reduceMul, not_true_eq_false, not_false_eq_true, false_implies, true_implies, D_X9_readUnit_0, D_X9_readUnit_1, mj_F_aload_n_k, mj_F_bipush_n, mj_F_dup, mj_F_getfield_i, mj_F_goto_off, mj_F_iadd, mj_F_iconst_n, mj_F_ifCond_eq_off, mj_F_ifCond_ne_off, mj_F_if_icmp_ne_off, mj_F_iload_n_k, mj_F_invokestatic_i, mj_F_invokevirtual_i, mj_F_istore_n_k, mj_F_isub, mj_F_putfield_i, mj_F_return_, mj_F_sipush_n, mj_set, mj_set0, mj_unk, mj_c2, mj_kc, FT_X9, PT_X9, L_X9_readUnit, List.take_succ_cons, List.take_zero, List.drop_succ_cons, List.drop_zero, List.reverse_cons, List.reverse_nil, List.length_cons, List.length_nil, gS_C7, gCf9_4, sS_Cf_9_4, gCf9len, gCf9_2, sS_Cf_9_2, c_isRel_eq, KN_X9_readUnit, J_X9_readUnit]
        replace hw := ok_wI hw
        refine c_X9_emit_in (ok_imp (ok_bind hw) ?_)
        intro p hw
        simp only [Option.toList, List.nil_append, List.cons_append, Nat.reduceSub]
        refine mj_run hG.1 (fun pc => pc == 12 || pc == 23 || pc == 31 || pc == 48 || pc == 61 || pc == 69 || pc == 75 || pc == 96 || pc == 100 || pc == 122 || pc == 131 || pc == 138) 4000 ?_
        simp only [mj_step, mj_W_s, mj_fin, List.getElem?_cons_zero, List.getElem?_cons_succ, mj_go, Nat.reduceAdd, Nat.reduceSub, Nat.reduceLT, Nat.reduceLeDiff, Nat.zero_add, Nat.reduceEqDiff, Nat.reduceBEq, ↓reduceIte, Bool.false_eq_true, List.append_nil, List.nil_append, List.cons_append, Option.toList, and_true, true_and, true_or, or_true, reduceCtorEq, List.map_nil, bI_eq0, bI_eq1, bool_ft, pk_us, vnar0, vnar1, Bool.or_false, Bool.or_true, Bool.false_or, Bool.true_or, mj_kne, eq_self, Int32.reduceLT, Int32.reduceLE, Int32.reduceAdd, Int32.reduceSub, Int32.reduceMul, not_true_eq_false, not_false_eq_true, false_implies, true_implies, D_X9_readUnit_0, D_X9_readUnit_1, mj_F_aload_n_k, mj_F_bipush_n, mj_F_dup, mj_F_getfield_i, mj_F_goto_off, mj_F_iadd, mj_F_iconst_n, mj_F_ifCond_eq_off, mj_F_ifCond_ne_off, mj_F_if_icmp_ne_off, mj_F_iload_n_k, mj_F_invokestatic_i, mj_F_invokevirtual_i, mj_F_istore_n_k, mj_F_isub, mj_F_putfield_i, mj_F_return_, mj_F_sipush_n, mj_set, mj_set0, mj_unk, mj_c2, mj_kc, FT_X9, PT_X9, L_X9_readUnit, List.take_succ_cons, List.take_zero, List.drop_succ_cons, List.drop_zero, List.reverse_cons, List.reverse_nil, List.length_cons, List.length_nil, gS_C7, gCf9_4, sS_Cf_9_4, gCf9len, gCf9_2, sS_Cf_9_2, c_isRel_eq, KN_X9_readUnit, J_X9_readUnit]
        refine mj_run hG.1 (fun pc => pc == 12 || pc == 23 || pc == 31 || pc == 48 || pc == 61 || pc == 69 || pc == 75 || pc == 96 || pc == 100 || pc == 122 || pc == 131 || pc == 138) 4000 ?_
        simp only [mj_step, mj_W_s, mj_fin, List.getElem?_cons_zero, List.getElem?_cons_succ, mj_go, Nat.reduceAdd, Nat.reduceSub, Nat.reduceLT, Nat.reduceLeDiff, Nat.zero_add, Nat.reduceEqDiff, Nat.reduceBEq, ↓reduceIte, Bool.false_eq_true, List.append_nil, List.nil_append, List.cons_append, Option.toList, and_true, true_and, true_or, or_true, reduceCtorEq, List.map_nil, bI_eq0, bI_eq1, bool_ft, pk_us, vnar0, vnar1, Bool.or_false, Bool.or_true, Bool.false_or, Bool.true_or, mj_kne, eq_self, Int32.reduceLT, Int32.reduceLE, Int32.reduceAdd, Int32.reduceSub, Int32.reduceMul, not_true_eq_false, not_false_eq_true, false_implies, true_implies, D_X9_readUnit_0, D_X9_readUnit_1, mj_F_aload_n_k, mj_F_bipush_n, mj_F_dup, mj_F_getfield_i, mj_F_goto_off, mj_F_iadd, mj_F_iconst_n, mj_F_ifCond_eq_off, mj_F_ifCond_ne_off, mj_F_if_icmp_ne_off, mj_F_iload_n_k, mj_F_invokestatic_i, mj_F_invokevirtual_i, mj_F_istore_n_k, mj_F_isub, mj_F_putfield_i, mj_F_return_, mj_F_sipush_n, mj_set, mj_set0, mj_unk, mj_c2, mj_kc, FT_X9, PT_X9, L_X9_readUnit, List.take_succ_cons, List.take_zero, List.drop_succ_cons, List.drop_zero, List.reverse_cons, List.reverse_nil, List.length_cons, List.length_nil, gS_C7, gCf9_4, sS_Cf_9_4, gCf9len, gCf9_2, sS_Cf_9_2, c_isRel_eq, KN_X9_readUnit, J_X9_readUnit]
        exact (ok_some hw :)
  · replace hw := ok_f hw c
    refine mj_run hG.1 (fun pc => pc == 12 || pc == 23 || pc == 31 || pc == 48 || pc == 61 || pc == 69 || pc == 75 || pc == 96 || pc == 100 || pc == 122 || pc == 131 || pc == 138) 4000 ?_
    simp only [mj_step, mj_W_s, mj_fin, List.getElem?_cons_zero, List.getElem?_cons_succ, mj_go, Nat.reduceAdd, Nat.reduceSub, Nat.reduceLT, Nat.reduceLeDiff, Nat.zero_add, Nat.reduceEqDiff, Nat.reduceBEq, ↓reduceIte, Bool.false_eq_true, List.append_nil, List.nil_append, List.cons_append, Option.toList, and_true, true_and, true_or, or_true, reduceCtorEq, List.map_nil, bI_eq0, bI_eq1, bool_ft, pk_us, vnar0, vnar1, Bool.or_false, Bool.or_true, Bool.false_or, Bool.true_or, mj_kne, eq_self, Int32.reduceLT, Int32.reduceLE, Int32.reduceAdd, Int32.reduceSub, Int32.reduceMul, not_true_eq_false, not_false_eq_true, false_implies, true_implies, D_X9_readUnit_0, D_X9_readUnit_1, mj_F_aload_n_k, mj_F_bipush_n, mj_F_dup, mj_F_getfield_i, mj_F_goto_off, mj_F_iadd, mj_F_iconst_n, mj_F_ifCond_eq_off, mj_F_ifCond_ne_off, mj_F_if_icmp_ne_off, mj_F_iload_n_k, mj_F_invokestatic_i, mj_F_invokevirtual_i, mj_F_istore_n_k, mj_F_isub, mj_F_putfield_i, mj_F_return_, mj_F_sipush_n, mj_set, mj_set0, mj_unk, mj_c2, mj_kc, FT_X9, PT_X9, L_X9_readUnit, List.take_succ_cons, List.take_zero, List.drop_succ_cons, List.drop_zero, List.reverse_cons, List.reverse_nil, List.length_cons, List.length_nil, gS_C7, gCf9_4, sS_Cf_9_4, gCf9len, gCf9_2, sS_Cf_9_2, c_isRel_eq, KN_X9_readUnit, J_X9_readUnit]
    refine ⟨fun c => ?_, fun c => ?_⟩
    · replace hw := ok_f hw c
      refine mj_run hG.1 (fun pc => pc == 12 || pc == 23 || pc == 31 || pc == 48 || pc == 61 || pc == 69 || pc == 75 || pc == 96 || pc == 100 || pc == 122 || pc == 131 || pc == 138) 4000 ?_
      simp only [mj_step, mj_W_s, mj_fin, List.getElem?_cons_zero, List.getElem?_cons_succ, mj_go, Nat.reduceAdd, Nat.reduceSub, Nat.reduceLT, Nat.reduceLeDiff, Nat.zero_add, Nat.reduceEqDiff, Nat.reduceBEq, ↓reduceIte, Bool.false_eq_true, List.append_nil, List.nil_append, List.cons_append, Option.toList, and_true, true_and, true_or, or_true, reduceCtorEq, List.map_nil, bI_eq0, bI_eq1, bool_ft, pk_us, vnar0, vnar1, Bool.or_false, Bool.or_true, Bool.false_or, Bool.true_or, mj_kne, eq_self, Int32.reduceLT, Int32.reduceLE, Int32.reduceAdd, Int32.reduceSub, Int32.reduceMul, not_true_eq_false, not_false_eq_true, false_implies, true_implies, D_X9_readUnit_0, D_X9_readUnit_1, mj_F_aload_n_k, mj_F_bipush_n, mj_F_dup, mj_F_getfield_i, mj_F_goto_off, mj_F_iadd, mj_F_iconst_n, mj_F_ifCond_eq_off, mj_F_ifCond_ne_off, mj_F_if_icmp_ne_off, mj_F_iload_n_k, mj_F_invokestatic_i, mj_F_invokevirtual_i, mj_F_istore_n_k, mj_F_isub, mj_F_putfield_i, mj_F_return_, mj_F_sipush_n, mj_set, mj_set0, mj_unk, mj_c2, mj_kc, FT_X9, PT_X9, L_X9_readUnit, List.take_succ_cons, List.take_zero, List.drop_succ_cons, List.drop_zero, List.reverse_cons, List.reverse_nil, List.length_cons, List.length_nil, gS_C7, gCf9_4, sS_Cf_9_4, gCf9len, gCf9_2, sS_Cf_9_2, c_isRel_eq, KN_X9_readUnit, J_X9_readUnit]
      refine c_X9_peek_in (ok_imp (ok_bind hw) ?_)
      intro p hw
      simp only [Option.toList, List.nil_append, List.cons_append, Nat.reduceSub]
      refine mj_run hG.1 (fun pc => pc == 12 || pc == 23 || pc == 31 || pc == 48 || pc == 61 || pc == 69 || pc == 75 || pc == 96 || pc == 100 || pc == 122 || pc == 131 || pc == 138) 4000 ?_
      simp only [mj_step, mj_W_s, mj_fin, List.getElem?_cons_zero, List.getElem?_cons_succ, mj_go, Nat.reduceAdd, Nat.reduceSub, Nat.reduceLT, Nat.reduceLeDiff, Nat.zero_add, Nat.reduceEqDiff, Nat.reduceBEq, ↓reduceIte, Bool.false_eq_true, List.append_nil, List.nil_append, List.cons_append, Option.toList, and_true, true_and, true_or, or_true, reduceCtorEq, List.map_nil, bI_eq0, bI_eq1, bool_ft, pk_us, vnar0, vnar1, Bool.or_false, Bool.or_true, Bool.false_or, Bool.true_or, mj_kne, eq_self, Int32.reduceLT, Int32.reduceLE, Int32.reduceAdd, Int32.reduceSub, Int32.reduceMul, not_true_eq_false, not_false_eq_true, false_implies, true_implies, D_X9_readUnit_0, D_X9_readUnit_1, mj_F_aload_n_k, mj_F_bipush_n, mj_F_dup, mj_F_getfield_i, mj_F_goto_off, mj_F_iadd, mj_F_iconst_n, mj_F_ifCond_eq_off, mj_F_ifCond_ne_off, mj_F_if_icmp_ne_off, mj_F_iload_n_k, mj_F_invokestatic_i, mj_F_invokevirtual_i, mj_F_istore_n_k, mj_F_isub, mj_F_putfield_i, mj_F_return_, mj_F_sipush_n, mj_set, mj_set0, mj_unk, mj_c2, mj_kc, FT_X9, PT_X9, L_X9_readUnit, List.take_succ_cons, List.take_zero, List.drop_succ_cons, List.drop_zero, List.reverse_cons, List.reverse_nil, List.length_cons, List.length_nil, gS_C7, gCf9_4, sS_Cf_9_4, gCf9len, gCf9_2, sS_Cf_9_2, c_isRel_eq, KN_X9_readUnit, J_X9_readUnit]
      refine ⟨fun c => ?_, fun c => ?_⟩
      · replace hw := ok_t hw c
        refine c_X9_fail_in (ok_imp (ok_bind hw) ?_)
        intro p hw
        simp only [Option.toList, List.nil_append, List.cons_append, Nat.reduceSub]
        refine mj_run hG.1 (fun pc => pc == 12 || pc == 23 || pc == 31 || pc == 48 || pc == 61 || pc == 69 || pc == 75 || pc == 96 || pc == 100 || pc == 122 || pc == 131 || pc == 138) 4000 ?_
        simp only [mj_step, mj_W_s, mj_fin, List.getElem?_cons_zero, List.getElem?_cons_succ, mj_go, Nat.reduceAdd, Nat.reduceSub, Nat.reduceLT, Nat.reduceLeDiff, Nat.zero_add, Nat.reduceEqDiff, Nat.reduceBEq, ↓reduceIte, Bool.false_eq_true, List.append_nil, List.nil_append, List.cons_append, Option.toList, and_true, true_and, true_or, or_true, reduceCtorEq, List.map_nil, bI_eq0, bI_eq1, bool_ft, pk_us, vnar0, vnar1, Bool.or_false, Bool.or_true, Bool.false_or, Bool.true_or, mj_kne, eq_self, Int32.reduceLT, Int32.reduceLE, Int32.reduceAdd, Int32.reduceSub, Int32.reduceMul, not_true_eq_false, not_false_eq_true, false_implies, true_implies, D_X9_readUnit_0, D_X9_readUnit_1, mj_F_aload_n_k, mj_F_bipush_n, mj_F_dup, mj_F_getfield_i, mj_F_goto_off, mj_F_iadd, mj_F_iconst_n, mj_F_ifCond_eq_off, mj_F_ifCond_ne_off, mj_F_if_icmp_ne_off, mj_F_iload_n_k, mj_F_invokestatic_i, mj_F_invokevirtual_i, mj_F_istore_n_k, mj_F_isub, mj_F_putfield_i, mj_F_return_, mj_F_sipush_n, mj_set, mj_set0, mj_unk, mj_c2, mj_kc, FT_X9, PT_X9, L_X9_readUnit, List.take_succ_cons, List.take_zero, List.drop_succ_cons, List.drop_zero, List.reverse_cons, List.reverse_nil, List.length_cons, List.length_nil, gS_C7, gCf9_4, sS_Cf_9_4, gCf9len, gCf9_2, sS_Cf_9_2, c_isRel_eq, KN_X9_readUnit, J_X9_readUnit]
        exact (ok_some hw :)
      · replace hw := ok_f hw c
        replace hw := ok_wI hw
        refine cq_X9_readSum_in (ok_imp (ok_bind hw) ?_)
        intro p hw
        simp only [Option.toList, List.nil_append, List.cons_append, Nat.reduceSub]
        refine mj_run hG.1 (fun pc => pc == 12 || pc == 23 || pc == 31 || pc == 48 || pc == 61 || pc == 69 || pc == 75 || pc == 96 || pc == 100 || pc == 122 || pc == 131 || pc == 138) 4000 ?_
        simp only [mj_step, mj_W_s, mj_fin, List.getElem?_cons_zero, List.getElem?_cons_succ, mj_go, Nat.reduceAdd, Nat.reduceSub, Nat.reduceLT, Nat.reduceLeDiff, Nat.zero_add, Nat.reduceEqDiff, Nat.reduceBEq, ↓reduceIte, Bool.false_eq_true, List.append_nil, List.nil_append, List.cons_append, Option.toList, and_true, true_and, true_or, or_true, reduceCtorEq, List.map_nil, bI_eq0, bI_eq1, bool_ft, pk_us, vnar0, vnar1, Bool.or_false, Bool.or_true, Bool.false_or, Bool.true_or, mj_kne, eq_self, Int32.reduceLT, Int32.reduceLE, Int32.reduceAdd, Int32.reduceSub, Int32.reduceMul, not_true_eq_false, not_false_eq_true, false_implies, true_implies, D_X9_readUnit_0, D_X9_readUnit_1, mj_F_aload_n_k, mj_F_bipush_n, mj_F_dup, mj_F_getfield_i, mj_F_goto_off, mj_F_iadd, mj_F_iconst_n, mj_F_ifCond_eq_off, mj_F_ifCond_ne_off, mj_F_if_icmp_ne_off, mj_F_iload_n_k, mj_F_invokestatic_i, mj_F_invokevirtual_i, mj_F_istore_n_k, mj_F_isub, mj_F_putfield_i, mj_F_return_, mj_F_sipush_n, mj_set, mj_set0, mj_unk, mj_c2, mj_kc, FT_X9, PT_X9, L_X9_readUnit, List.take_succ_cons, List.take_zero, List.drop_succ_cons, List.drop_zero, List.reverse_cons, List.reverse_nil, List.length_cons, List.length_nil, gS_C7, gCf9_4, sS_Cf_9_4, gCf9len, gCf9_2, sS_Cf_9_2, c_isRel_eq, KN_X9_readUnit, J_X9_readUnit]
        refine c_X9_emit_in (ok_imp (ok_bind hw) ?_)
        intro p hw
        simp only [Option.toList, List.nil_append, List.cons_append, Nat.reduceSub]
        refine mj_run hG.1 (fun pc => pc == 12 || pc == 23 || pc == 31 || pc == 48 || pc == 61 || pc == 69 || pc == 75 || pc == 96 || pc == 100 || pc == 122 || pc == 131 || pc == 138) 4000 ?_
        simp only [mj_step, mj_W_s, mj_fin, List.getElem?_cons_zero, List.getElem?_cons_succ, mj_go, Nat.reduceAdd, Nat.reduceSub, Nat.reduceLT, Nat.reduceLeDiff, Nat.zero_add, Nat.reduceEqDiff, Nat.reduceBEq, ↓reduceIte, Bool.false_eq_true, List.append_nil, List.nil_append, List.cons_append, Option.toList, and_true, true_and, true_or, or_true, reduceCtorEq, List.map_nil, bI_eq0, bI_eq1, bool_ft, pk_us, vnar0, vnar1, Bool.or_false, Bool.or_true, Bool.false_or, Bool.true_or, mj_kne, eq_self, Int32.reduceLT, Int32.reduceLE, Int32.reduceAdd, Int32.reduceSub, Int32.reduceMul, not_true_eq_false, not_false_eq_true, false_implies, true_implies, D_X9_readUnit_0, D_X9_readUnit_1, mj_F_aload_n_k, mj_F_bipush_n, mj_F_dup, mj_F_getfield_i, mj_F_goto_off, mj_F_iadd, mj_F_iconst_n, mj_F_ifCond_eq_off, mj_F_ifCond_ne_off, mj_F_if_icmp_ne_off, mj_F_iload_n_k, mj_F_invokestatic_i, mj_F_invokevirtual_i, mj_F_istore_n_k, mj_F_isub, mj_F_putfield_i, mj_F_return_, mj_F_sipush_n, mj_set, mj_set0, mj_unk, mj_c2, mj_kc, FT_X9, PT_X9, L_X9_readUnit, List.take_succ_cons, List.take_zero, List.drop_succ_cons, List.drop_zero, List.reverse_cons, List.reverse_nil, List.length_cons, List.length_nil, gS_C7, gCf9_4, sS_Cf_9_4, gCf9len, gCf9_2, sS_Cf_9_2, c_isRel_eq, KN_X9_readUnit, J_X9_readUnit]
        refine mj_run hG.1 (fun pc => pc == 12 || pc == 23 || pc == 31 || pc == 48 || pc == 61 || pc == 69 || pc == 75 || pc == 96 || pc == 100 || pc == 122 || pc == 131 || pc == 138) 4000 ?_
        simp only [mj_step, mj_W_s, mj_fin, List.getElem?_cons_zero, List.getElem?_cons_succ, mj_go, Nat.reduceAdd, Nat.reduceSub, Nat.reduceLT, Nat.reduceLeDiff, Nat.zero_add, Nat.reduceEqDiff, Nat.reduceBEq, ↓reduceIte, Bool.false_eq_true, List.append_nil, List.nil_append, List.cons_append, Option.toList, and_true, true_and, true_or, or_true, reduceCtorEq, List.map_nil, bI_eq0, bI_eq1, bool_ft, pk_us, vnar0, vnar1, Bool.or_false, Bool.or_true, Bool.false_or, Bool.true_or, mj_kne, eq_self, Int32.reduceLT, Int32.reduceLE, Int32.reduceAdd, Int32.reduceSub, Int32.reduceMul, not_true_eq_false, not_false_eq_true, false_implies, true_implies, D_X9_readUnit_0, D_X9_readUnit_1, mj_F_aload_n_k, mj_F_bipush_n, mj_F_dup, mj_F_getfield_i, mj_F_goto_off, mj_F_iadd, mj_F_iconst_n, mj_F_ifCond_eq_off, mj_F_ifCond_ne_off, mj_F_if_icmp_ne_off, mj_F_iload_n_k, mj_F_invokestatic_i, mj_F_invokevirtual_i, mj_F_istore_n_k, mj_F_isub, mj_F_putfield_i, mj_F_return_, mj_F_sipush_n, mj_set, mj_set0, mj_unk, mj_c2, mj_kc, FT_X9, PT_X9, L_X9_readUnit, List.take_succ_cons, List.take_zero, List.drop_succ_cons, List.drop_zero, List.reverse_cons, List.reverse_nil, List.length_cons, List.length_nil, gS_C7, gCf9_4, sS_Cf_9_4, gCf9len, gCf9_2, sS_Cf_9_2, c_isRel_eq, KN_X9_readUnit, J_X9_readUnit]
        exact (ok_some hw :)
    · replace hw := ok_t hw c
      refine cq_X9_readSum_in (ok_imp (ok_bind hw) ?_)
      intro p hw
      simp only [Option.toList, List.nil_append, List.cons_append, Nat.reduceSub]
      refine mj_run hG.1 (fun pc => pc == 12 || pc == 23 || pc == 31 || pc == 48 || pc == 61 || pc == 69 || pc == 75 || pc == 96 || pc == 100 || pc == 122 || pc == 131 || pc == 138) 4000 ?_
      simp only [mj_step, mj_W_s, mj_fin, List.getElem?_cons_zero, List.getElem?_cons_succ, mj_go, Nat.reduceAdd, Nat.reduceSub, Nat.reduceLT, Nat.reduceLeDiff, Nat.zero_add, Nat.reduceEqDiff, Nat.reduceBEq, ↓reduceIte, Bool.false_eq_true, List.append_nil, List.nil_append, List.cons_append, Option.toList, and_true, true_and, true_or, or_true, reduceCtorEq, List.map_nil, bI_eq0, bI_eq1, bool_ft, pk_us, vnar0, vnar1, Bool.or_false, Bool.or_true, Bool.false_or, Bool.true_or, mj_kne, eq_self, Int32.reduceLT, Int32.reduceLE, Int32.reduceAdd, Int32.reduceSub, Int32.reduceMul, not_true_eq_false, not_false_eq_true, false_implies, true_implies, D_X9_readUnit_0, D_X9_readUnit_1, mj_F_aload_n_k, mj_F_bipush_n, mj_F_dup, mj_F_getfield_i, mj_F_goto_off, mj_F_iadd, mj_F_iconst_n, mj_F_ifCond_eq_off, mj_F_ifCond_ne_off, mj_F_if_icmp_ne_off, mj_F_iload_n_k, mj_F_invokestatic_i, mj_F_invokevirtual_i, mj_F_istore_n_k, mj_F_isub, mj_F_putfield_i, mj_F_return_, mj_F_sipush_n, mj_set, mj_set0, mj_unk, mj_c2, mj_kc, FT_X9, PT_X9, L_X9_readUnit, List.take_succ_cons, List.take_zero, List.drop_succ_cons, List.drop_zero, List.reverse_cons, List.reverse_nil, List.length_cons, List.length_nil, gS_C7, gCf9_4, sS_Cf_9_4, gCf9len, gCf9_2, sS_Cf_9_2, c_isRel_eq, KN_X9_readUnit, J_X9_readUnit]
      refine c_X9_peek_in (ok_imp (ok_bind hw) ?_)
      intro p hw
      simp only [Option.toList, List.nil_append, List.cons_append, Nat.reduceSub]
      refine mj_run hG.1 (fun pc => pc == 12 || pc == 23 || pc == 31 || pc == 48 || pc == 61 || pc == 69 || pc == 75 || pc == 96 || pc == 100 || pc == 122 || pc == 131 || pc == 138) 4000 ?_
      simp only [mj_step, mj_W_s, mj_fin, List.getElem?_cons_zero, List.getElem?_cons_succ, mj_go, Nat.reduceAdd, Nat.reduceSub, Nat.reduceLT, Nat.reduceLeDiff, Nat.zero_add, Nat.reduceEqDiff, Nat.reduceBEq, ↓reduceIte, Bool.false_eq_true, List.append_nil, List.nil_append, List.cons_append, Option.toList, and_true, true_and, true_or, or_true, reduceCtorEq, List.map_nil, bI_eq0, bI_eq1, bool_ft, pk_us, vnar0, vnar1, Bool.or_false, Bool.or_true, Bool.false_or, Bool.true_or, mj_kne, eq_self, Int32.reduceLT, Int32.reduceLE, Int32.reduceAdd, Int32.reduceSub, Int32.reduceMul, not_true_eq_false, not_false_eq_true, false_implies, true_implies, D_X9_readUnit_0, D_X9_readUnit_1, mj_F_aload_n_k, mj_F_bipush_n, mj_F_dup, mj_F_getfield_i, mj_F_goto_off, mj_F_iadd, mj_F_iconst_n, mj_F_ifCond_eq_off, mj_F_ifCond_ne_off, mj_F_if_icmp_ne_off, mj_F_iload_n_k, mj_F_invokestatic_i, mj_F_invokevirtual_i, mj_F_istore_n_k, mj_F_isub, mj_F_putfield_i, mj_F_return_, mj_F_sipush_n, mj_set, mj_set0, mj_unk, mj_c2, mj_kc, FT_X9, PT_X9, L_X9_readUnit, List.take_succ_cons, List.take_zero, List.drop_succ_cons, List.drop_zero, List.reverse_cons, List.reverse_nil, List.length_cons, List.length_nil, gS_C7, gCf9_4, sS_Cf_9_4, gCf9len, gCf9_2, sS_Cf_9_2, c_isRel_eq, KN_X9_readUnit, J_X9_readUnit]
      refine ⟨fun c => ?_, fun c => ?_⟩
      · replace hw := ok_t hw c
        refine c_X9_fail_in (ok_imp (ok_bind hw) ?_)
        intro p hw
        simp only [Option.toList, List.nil_append, List.cons_append, Nat.reduceSub]
        refine mj_run hG.1 (fun pc => pc == 12 || pc == 23 || pc == 31 || pc == 48 || pc == 61 || pc == 69 || pc == 75 || pc == 96 || pc == 100 || pc == 122 || pc == 131 || pc == 138) 4000 ?_
        simp only [mj_step, mj_W_s, mj_fin, List.getElem?_cons_zero, List.getElem?_cons_succ, mj_go, Nat.reduceAdd, Nat.reduceSub, Nat.reduceLT, Nat.reduceLeDiff, Nat.zero_add, Nat.reduceEqDiff, Nat.reduceBEq, ↓reduceIte, Bool.false_eq_true, List.append_nil, List.nil_append, List.cons_append, Option.toList, and_true, true_and, true_or, or_true, reduceCtorEq, List.map_nil, bI_eq0, bI_eq1, bool_ft, pk_us, vnar0, vnar1, Bool.or_false, Bool.or_true, Bool.false_or, Bool.true_or, mj_kne, eq_self, Int32.reduceLT, Int32.reduceLE, Int32.reduceAdd, Int32.reduceSub, Int32.reduceMul, not_true_eq_false, not_false_eq_true, false_implies, true_implies, D_X9_readUnit_0, D_X9_readUnit_1, mj_F_aload_n_k, mj_F_bipush_n, mj_F_dup, mj_F_getfield_i, mj_F_goto_off, mj_F_iadd, mj_F_iconst_n, mj_F_ifCond_eq_off, mj_F_ifCond_ne_off, mj_F_if_icmp_ne_off, mj_F_iload_n_k, mj_F_invokestatic_i, mj_F_invokevirtual_i, mj_F_istore_n_k, mj_F_isub, mj_F_putfield_i, mj_F_return_, mj_F_sipush_n, mj_set, mj_set0, mj_unk, mj_c2, mj_kc, FT_X9, PT_X9, L_X9_readUnit, List.take_succ_cons, List.take_zero, List.drop_succ_cons, List.drop_zero, List.reverse_cons, List.reverse_nil, List.length_cons, List.length_nil, gS_C7, gCf9_4, sS_Cf_9_4, gCf9len, gCf9_2, sS_Cf_9_2, c_isRel_eq, KN_X9_readUnit, J_X9_readUnit]
        exact (ok_some hw :)
      · replace hw := ok_f hw c
        replace hw := ok_wI hw
        refine cq_X9_readSum_in (ok_imp (ok_bind hw) ?_)
        intro p hw
        simp only [Option.toList, List.nil_append, List.cons_append, Nat.reduceSub]
        refine mj_run hG.1 (fun pc => pc == 12 || pc == 23 || pc == 31 || pc == 48 || pc == 61 || pc == 69 || pc == 75 || pc == 96 || pc == 100 || pc == 122 || pc == 131 || pc == 138) 4000 ?_
        simp only [mj_step, mj_W_s, mj_fin, List.getElem?_cons_zero, List.getElem?_cons_succ, mj_go, Nat.reduceAdd, Nat.reduceSub, Nat.reduceLT, Nat.reduceLeDiff, Nat.zero_add, Nat.reduceEqDiff, Nat.reduceBEq, ↓reduceIte, Bool.false_eq_true, List.append_nil, List.nil_append, List.cons_append, Option.toList, and_true, true_and, true_or, or_true, reduceCtorEq, List.map_nil, bI_eq0, bI_eq1, bool_ft, pk_us, vnar0, vnar1, Bool.or_false, Bool.or_true, Bool.false_or, Bool.true_or, mj_kne, eq_self, Int32.reduceLT, Int32.reduceLE, Int32.reduceAdd, Int32.reduceSub, Int32.reduceMul, not_true_eq_false, not_false_eq_true, false_implies, true_implies, D_X9_readUnit_0, D_X9_readUnit_1, mj_F_aload_n_k, mj_F_bipush_n, mj_F_dup, mj_F_getfield_i, mj_F_goto_off, mj_F_iadd, mj_F_iconst_n, mj_F_ifCond_eq_off, mj_F_ifCond_ne_off, mj_F_if_icmp_ne_off, mj_F_iload_n_k, mj_F_invokestatic_i, mj_F_invokevirtual_i, mj_F_istore_n_k, mj_F_isub, mj_F_putfield_i, mj_F_return_, mj_F_sipush_n, mj_set, mj_set0, mj_unk, mj_c2, mj_kc, FT_X9, PT_X9, L_X9_readUnit, List.take_succ_cons, List.take_zero, List.drop_succ_cons, List.drop_zero, List.reverse_cons, List.reverse_nil, List.length_cons, List.length_nil, gS_C7, gCf9_4, sS_Cf_9_4, gCf9len, gCf9_2, sS_Cf_9_2, c_isRel_eq, KN_X9_readUnit, J_X9_readUnit]
        refine c_X9_emit_in (ok_imp (ok_bind hw) ?_)
        intro p hw
        simp only [Option.toList, List.nil_append, List.cons_append, Nat.reduceSub]
        refine mj_run hG.1 (fun pc => pc == 12 || pc == 23 || pc == 31 || pc == 48 || pc == 61 || pc == 69 || pc == 75 || pc == 96 || pc == 100 || pc == 122 || pc == 131 || pc == 138) 4000 ?_
        simp only [mj_step, mj_W_s, mj_fin, List.getElem?_cons_zero, List.getElem?_cons_succ, mj_go, Nat.reduceAdd, Nat.reduceSub, Nat.reduceLT, Nat.reduceLeDiff, Nat.zero_add, Nat.reduceEqDiff, Nat.reduceBEq, ↓reduceIte, Bool.false_eq_true, List.append_nil, List.nil_append, List.cons_append, Option.toList, and_true, true_and, true_or, or_true, reduceCtorEq, List.map_nil, bI_eq0, bI_eq1, bool_ft, pk_us, vnar0, vnar1, Bool.or_false, Bool.or_true, Bool.false_or, Bool.true_or, mj_kne, eq_self, Int32.reduceLT, Int32.reduceLE, Int32.reduceAdd, Int32.reduceSub, Int32.reduceMul, not_true_eq_false, not_false_eq_true, false_implies, true_implies, D_X9_readUnit_0, D_X9_readUnit_1, mj_F_aload_n_k, mj_F_bipush_n, mj_F_dup, mj_F_getfield_i, mj_F_goto_off, mj_F_iadd, mj_F_iconst_n, mj_F_ifCond_eq_off, mj_F_ifCond_ne_off, mj_F_if_icmp_ne_off, mj_F_iload_n_k, mj_F_invokestatic_i, mj_F_invokevirtual_i, mj_F_istore_n_k, mj_F_isub, mj_F_putfield_i, mj_F_return_, mj_F_sipush_n, mj_set, mj_set0, mj_unk, mj_c2, mj_kc, FT_X9, PT_X9, L_X9_readUnit, List.take_succ_cons, List.take_zero, List.drop_succ_cons, List.drop_zero, List.reverse_cons, List.reverse_nil, List.length_cons, List.length_nil, gS_C7, gCf9_4, sS_Cf_9_4, gCf9len, gCf9_2, sS_Cf_9_2, c_isRel_eq, KN_X9_readUnit, J_X9_readUnit]
        refine mj_run hG.1 (fun pc => pc == 12 || pc == 23 || pc == 31 || pc == 48 || pc == 61 || pc == 69 || pc == 75 || pc == 96 || pc == 100 || pc == 122 || pc == 131 || pc == 138) 4000 ?_
        simp only [mj_step, mj_W_s, mj_fin, List.getElem?_cons_zero, List.getElem?_cons_succ, mj_go, Nat.reduceAdd, Nat.reduceSub, Nat.reduceLT, Nat.reduceLeDiff, Nat.zero_add, Nat.reduceEqDiff, Nat.reduceBEq, ↓reduceIte, Bool.false_eq_true, List.append_nil, List.nil_append, List.cons_append, Option.toList, and_true, true_and, true_or, or_true, reduceCtorEq, List.map_nil, bI_eq0, bI_eq1, bool_ft, pk_us, vnar0, vnar1, Bool.or_false, Bool.or_true, Bool.false_or, Bool.true_or, mj_kne, eq_self, Int32.reduceLT, Int32.reduceLE, Int32.reduceAdd, Int32.reduceSub, Int32.reduceMul, not_true_eq_false, not_false_eq_true, false_implies, true_implies, D_X9_readUnit_0, D_X9_readUnit_1, mj_F_aload_n_k, mj_F_bipush_n, mj_F_dup, mj_F_getfield_i, mj_F_goto_off, mj_F_iadd, mj_F_iconst_n, mj_F_ifCond_eq_off, mj_F_ifCond_ne_off, mj_F_if_icmp_ne_off, mj_F_iload_n_k, mj_F_invokestatic_i, mj_F_invokevirtual_i, mj_F_istore_n_k, mj_F_isub, mj_F_putfield_i, mj_F_return_, mj_F_sipush_n, mj_set, mj_set0, mj_unk, mj_c2, mj_kc, FT_X9, PT_X9, L_X9_readUnit, List.take_succ_cons, List.take_zero, List.drop_succ_cons, List.drop_zero, List.reverse_cons, List.reverse_nil, List.length_cons, List.length_nil, gS_C7, gCf9_4, sS_Cf_9_4, gCf9len, gCf9_2, sS_Cf_9_2, c_isRel_eq, KN_X9_readUnit, J_X9_readUnit]
        exact (ok_some hw :)

theorem m_X9_readSum_q (l : Launch) (q : RTC) (d : Nat) (h_X9_readSum : mj_Met l yX9_readSum cX9_readSum 3 (none) (d + 3) 0 0 (cq_X9_readSum q.1)) (h_X9_readTerm : mj_Met l yX9_readTerm cX9_readTerm 3 (none) (d + 3) 0 0 (cq_X9_readTerm q.2.1)) (h_X9_readAtom : mj_Met l yX9_readAtom cX9_readAtom 2 (none) (d + 3) 0 0 (cq_X9_readAtom q.2.2.1)) (h_X9_readCondition : mj_Met l yX9_readCondition cX9_readCondition 3 (none) (d + 3) 0 0 (cq_X9_readCondition q.2.2.2.1)) (h_X9_readPart : mj_Met l yX9_readPart cX9_readPart 3 (none) (d + 3) 0 0 (cq_X9_readPart q.2.2.2.2.1)) (h_X9_readUnit : mj_Met l yX9_readUnit cX9_readUnit 4 (none) (d + 3) 0 0 (cq_X9_readUnit q.2.2.2.2.2)) : mj_Met l yX9_readSum cX9_readSum 3 (none) (d + 1 + 3) 0 0 (cq_X9_readSum (F_X9_readSum q)) := by
  refine mj_body2 false (TbX9 3 (none) (ct_X9_readSum q)) (by decide) rfl rfl (fun h => nomatch h) (tfX9 _ (List.forall_mem_cons.mpr ⟨cfX9_50 (m_X9_peek l) (by omega), List.forall_mem_cons.mpr ⟨cfX9_84 (m_X9_emit l) (by omega), List.forall_mem_cons.mpr ⟨cfX9_94 h_X9_readTerm (by omega), fun _ h => nomatch h⟩⟩⟩)) ?_
  rintro as h k ⟨s, rfl, rfl, hw⟩
  exact ⟨rfl, fun G hG => g_X9_readSum hG hw⟩
theorem m_X9_readTerm_q (l : Launch) (q : RTC) (d : Nat) (h_X9_readSum : mj_Met l yX9_readSum cX9_readSum 3 (none) (d + 3) 0 0 (cq_X9_readSum q.1)) (h_X9_readTerm : mj_Met l yX9_readTerm cX9_readTerm 3 (none) (d + 3) 0 0 (cq_X9_readTerm q.2.1)) (h_X9_readAtom : mj_Met l yX9_readAtom cX9_readAtom 2 (none) (d + 3) 0 0 (cq_X9_readAtom q.2.2.1)) (h_X9_readCondition : mj_Met l yX9_readCondition cX9_readCondition 3 (none) (d + 3) 0 0 (cq_X9_readCondition q.2.2.2.1)) (h_X9_readPart : mj_Met l yX9_readPart cX9_readPart 3 (none) (d + 3) 0 0 (cq_X9_readPart q.2.2.2.2.1)) (h_X9_readUnit : mj_Met l yX9_readUnit cX9_readUnit 4 (none) (d + 3) 0 0 (cq_X9_readUnit q.2.2.2.2.2)) : mj_Met l yX9_readTerm cX9_readTerm 3 (none) (d + 1 + 3) 0 0 (cq_X9_readTerm (F_X9_readTerm q)) := by
  refine mj_body2 false (TbX9 3 (none) (ct_X9_readTerm q)) (by decide) rfl rfl (fun h => nomatch h) (tfX9 _ (List.forall_mem_cons.mpr ⟨cfX9_50 (m_X9_peek l) (by omega), List.forall_mem_cons.mpr ⟨cfX9_84 (m_X9_emit l) (by omega), List.forall_mem_cons.mpr ⟨cfX9_97 h_X9_readAtom (by omega), fun _ h => nomatch h⟩⟩⟩)) ?_
  rintro as h k ⟨s, rfl, rfl, hw⟩
  exact ⟨rfl, fun G hG => g_X9_readTerm hG hw⟩
theorem m_X9_readAtom_q (l : Launch) (q : RTC) (d : Nat) (h_X9_readSum : mj_Met l yX9_readSum cX9_readSum 3 (none) (d + 3) 0 0 (cq_X9_readSum q.1)) (h_X9_readTerm : mj_Met l yX9_readTerm cX9_readTerm 3 (none) (d + 3) 0 0 (cq_X9_readTerm q.2.1)) (h_X9_readAtom : mj_Met l yX9_readAtom cX9_readAtom 2 (none) (d + 3) 0 0 (cq_X9_readAtom q.2.2.1)) (h_X9_readCondition : mj_Met l yX9_readCondition cX9_readCondition 3 (none) (d + 3) 0 0 (cq_X9_readCondition q.2.2.2.1)) (h_X9_readPart : mj_Met l yX9_readPart cX9_readPart 3 (none) (d + 3) 0 0 (cq_X9_readPart q.2.2.2.2.1)) (h_X9_readUnit : mj_Met l yX9_readUnit cX9_readUnit 4 (none) (d + 3) 0 0 (cq_X9_readUnit q.2.2.2.2.2)) : mj_Met l yX9_readAtom cX9_readAtom 2 (none) (d + 1 + 3) 0 0 (cq_X9_readAtom (F_X9_readAtom q)) := by
  refine mj_body2 false (TbX9 2 (none) (ct_X9_readAtom q)) (by decide) rfl rfl (fun h => nomatch h) (tfX9 _ (List.forall_mem_cons.mpr ⟨cfX9_50 (m_X9_peek l) (by omega), List.forall_mem_cons.mpr ⟨cfX9_54 (m_X9_fail l) (by omega), List.forall_mem_cons.mpr ⟨cfX9_63 (m_X9_want l) (by omega), List.forall_mem_cons.mpr ⟨cfX9_67 h_X9_readSum (by omega), List.forall_mem_cons.mpr ⟨cfX9_84 (m_X9_emit l) (by omega), List.forall_mem_cons.mpr ⟨cfX9_90 (m_X9_opened l) (by omega), List.forall_mem_cons.mpr ⟨cfX9_100 (m_X9_isDigit l) (by omega), List.forall_mem_cons.mpr ⟨cfX9_103 (m_X9_readNumber l) (by omega), List.forall_mem_cons.mpr ⟨cfX9_106 (m_X9_letterOf l) (by omega), fun _ h => nomatch h⟩⟩⟩⟩⟩⟩⟩⟩⟩)) ?_
  rintro as h k ⟨s, rfl, rfl, hw⟩
  exact ⟨rfl, fun G hG => g_X9_readAtom hG hw⟩
theorem m_X9_readCondition_q (l : Launch) (q : RTC) (d : Nat) (h_X9_readSum : mj_Met l yX9_readSum cX9_readSum 3 (none) (d + 3) 0 0 (cq_X9_readSum q.1)) (h_X9_readTerm : mj_Met l yX9_readTerm cX9_readTerm 3 (none) (d + 3) 0 0 (cq_X9_readTerm q.2.1)) (h_X9_readAtom : mj_Met l yX9_readAtom cX9_readAtom 2 (none) (d + 3) 0 0 (cq_X9_readAtom q.2.2.1)) (h_X9_readCondition : mj_Met l yX9_readCondition cX9_readCondition 3 (none) (d + 3) 0 0 (cq_X9_readCondition q.2.2.2.1)) (h_X9_readPart : mj_Met l yX9_readPart cX9_readPart 3 (none) (d + 3) 0 0 (cq_X9_readPart q.2.2.2.2.1)) (h_X9_readUnit : mj_Met l yX9_readUnit cX9_readUnit 4 (none) (d + 3) 0 0 (cq_X9_readUnit q.2.2.2.2.2)) : mj_Met l yX9_readCondition cX9_readCondition 3 (none) (d + 1 + 3) 0 0 (cq_X9_readCondition (F_X9_readCondition q)) := by
  refine mj_body2 false (TbX9 3 (none) (ct_X9_readCondition q)) (by decide) rfl rfl (fun h => nomatch h) (tfX9 _ (List.forall_mem_cons.mpr ⟨cfX9_46 (m_X9_took l) (by omega), List.forall_mem_cons.mpr ⟨cfX9_81 h_X9_readPart (by omega), List.forall_mem_cons.mpr ⟨cfX9_84 (m_X9_emit l) (by omega), fun _ h => nomatch h⟩⟩⟩)) ?_
  rintro as h k ⟨v1, s, rfl, rfl, hw⟩
  exact ⟨rfl, fun G hG => g_X9_readCondition hG hw⟩
theorem m_X9_readPart_q (l : Launch) (q : RTC) (d : Nat) (h_X9_readSum : mj_Met l yX9_readSum cX9_readSum 3 (none) (d + 3) 0 0 (cq_X9_readSum q.1)) (h_X9_readTerm : mj_Met l yX9_readTerm cX9_readTerm 3 (none) (d + 3) 0 0 (cq_X9_readTerm q.2.1)) (h_X9_readAtom : mj_Met l yX9_readAtom cX9_readAtom 2 (none) (d + 3) 0 0 (cq_X9_readAtom q.2.2.1)) (h_X9_readCondition : mj_Met l yX9_readCondition cX9_readCondition 3 (none) (d + 3) 0 0 (cq_X9_readCondition q.2.2.2.1)) (h_X9_readPart : mj_Met l yX9_readPart cX9_readPart 3 (none) (d + 3) 0 0 (cq_X9_readPart q.2.2.2.2.1)) (h_X9_readUnit : mj_Met l yX9_readUnit cX9_readUnit 4 (none) (d + 3) 0 0 (cq_X9_readUnit q.2.2.2.2.2)) : mj_Met l yX9_readPart cX9_readPart 3 (none) (d + 1 + 3) 0 0 (cq_X9_readPart (F_X9_readPart q)) := by
  refine mj_body2 false (TbX9 3 (none) (ct_X9_readPart q)) (by decide) rfl rfl (fun h => nomatch h) (tfX9 _ (List.forall_mem_cons.mpr ⟨cfX9_46 (m_X9_took l) (by omega), List.forall_mem_cons.mpr ⟨cfX9_84 (m_X9_emit l) (by omega), List.forall_mem_cons.mpr ⟨cfX9_87 h_X9_readUnit (by omega), fun _ h => nomatch h⟩⟩⟩)) ?_
  rintro as h k ⟨v1, s, rfl, rfl, hw⟩
  exact ⟨rfl, fun G hG => g_X9_readPart hG hw⟩
theorem m_X9_readUnit_q (l : Launch) (q : RTC) (d : Nat) (h_X9_readSum : mj_Met l yX9_readSum cX9_readSum 3 (none) (d + 3) 0 0 (cq_X9_readSum q.1)) (h_X9_readTerm : mj_Met l yX9_readTerm cX9_readTerm 3 (none) (d + 3) 0 0 (cq_X9_readTerm q.2.1)) (h_X9_readAtom : mj_Met l yX9_readAtom cX9_readAtom 2 (none) (d + 3) 0 0 (cq_X9_readAtom q.2.2.1)) (h_X9_readCondition : mj_Met l yX9_readCondition cX9_readCondition 3 (none) (d + 3) 0 0 (cq_X9_readCondition q.2.2.2.1)) (h_X9_readPart : mj_Met l yX9_readPart cX9_readPart 3 (none) (d + 3) 0 0 (cq_X9_readPart q.2.2.2.2.1)) (h_X9_readUnit : mj_Met l yX9_readUnit cX9_readUnit 4 (none) (d + 3) 0 0 (cq_X9_readUnit q.2.2.2.2.2)) : mj_Met l yX9_readUnit cX9_readUnit 4 (none) (d + 1 + 3) 0 0 (cq_X9_readUnit (F_X9_readUnit q)) := by
  refine mj_body2 false (TbX9 4 (none) (ct_X9_readUnit q)) (by decide) rfl rfl (fun h => nomatch h) (tfX9 _ (List.forall_mem_cons.mpr ⟨cfX9_50 (m_X9_peek l) (by omega), List.forall_mem_cons.mpr ⟨cfX9_54 (m_X9_fail l) (by omega), List.forall_mem_cons.mpr ⟨cfX9_63 (m_X9_want l) (by omega), List.forall_mem_cons.mpr ⟨cfX9_67 h_X9_readSum (by omega), List.forall_mem_cons.mpr ⟨cfX9_70 (m_X9_isRelation l) (by omega), List.forall_mem_cons.mpr ⟨cfX9_73 h_X9_readCondition (by omega), List.forall_mem_cons.mpr ⟨cfX9_84 (m_X9_emit l) (by omega), List.forall_mem_cons.mpr ⟨cfX9_87 h_X9_readUnit (by omega), List.forall_mem_cons.mpr ⟨cfX9_90 (m_X9_opened l) (by omega), fun _ h => nomatch h⟩⟩⟩⟩⟩⟩⟩⟩⟩)) ?_
  rintro as h k ⟨v1, s, rfl, rfl, hw⟩
  exact ⟨rfl, fun G hG => g_X9_readUnit hG hw⟩
theorem rg_C (l : Launch) : ∀ d : Nat, mj_Met l yX9_readSum cX9_readSum 3 (none) (d + 3) 0 0 (cq_X9_readSum (RGC d).1) ∧ mj_Met l yX9_readTerm cX9_readTerm 3 (none) (d + 3) 0 0 (cq_X9_readTerm (RGC d).2.1) ∧ mj_Met l yX9_readAtom cX9_readAtom 2 (none) (d + 3) 0 0 (cq_X9_readAtom (RGC d).2.2.1) ∧ mj_Met l yX9_readCondition cX9_readCondition 3 (none) (d + 3) 0 0 (cq_X9_readCondition (RGC d).2.2.2.1) ∧ mj_Met l yX9_readPart cX9_readPart 3 (none) (d + 3) 0 0 (cq_X9_readPart (RGC d).2.2.2.2.1) ∧ mj_Met l yX9_readUnit cX9_readUnit 4 (none) (d + 3) 0 0 (cq_X9_readUnit (RGC d).2.2.2.2.2)
  | 0 => ⟨fun _ _ _ _ _ _ as h k _ ⟨_, _, _, hw⟩ => absurd hw ok_none, fun _ _ _ _ _ _ as h k _ ⟨_, _, _, hw⟩ => absurd hw ok_none, fun _ _ _ _ _ _ as h k _ ⟨_, _, _, hw⟩ => absurd hw ok_none, fun _ _ _ _ _ _ as h k _ ⟨_, _, _, _, hw⟩ => absurd hw ok_none, fun _ _ _ _ _ _ as h k _ ⟨_, _, _, _, hw⟩ => absurd hw ok_none, fun _ _ _ _ _ _ as h k _ ⟨_, _, _, _, hw⟩ => absurd hw ok_none⟩
  | d + 1 => by
    obtain ⟨h0, h1, h2, h3, h4, h5⟩ := rg_C l d
    exact ⟨m_X9_readSum_q l (RGC d) d h0 h1 h2 h3 h4 h5, m_X9_readTerm_q l (RGC d) d h0 h1 h2 h3 h4 h5, m_X9_readAtom_q l (RGC d) d h0 h1 h2 h3 h4 h5, m_X9_readCondition_q l (RGC d) d h0 h1 h2 h3 h4 h5, m_X9_readPart_q l (RGC d) d h0 h1 h2 h3 h4 h5, m_X9_readUnit_q l (RGC d) d h0 h1 h2 h3 h4 h5⟩
theorem m_X9_readSum (l : Launch) : mj_Met l yX9_readSum cX9_readSum 3 (none) 67 0 0 (cq_X9_readSum (RGC 64).1) := (rg_C l 64).1
theorem m_X9_readTerm (l : Launch) : mj_Met l yX9_readTerm cX9_readTerm 3 (none) 67 0 0 (cq_X9_readTerm (RGC 64).2.1) := (rg_C l 64).2.1
theorem m_X9_readAtom (l : Launch) : mj_Met l yX9_readAtom cX9_readAtom 2 (none) 67 0 0 (cq_X9_readAtom (RGC 64).2.2.1) := (rg_C l 64).2.2.1
theorem m_X9_readCondition (l : Launch) : mj_Met l yX9_readCondition cX9_readCondition 3 (none) 67 0 0 (cq_X9_readCondition (RGC 64).2.2.2.1) := (rg_C l 64).2.2.2.1
theorem m_X9_readPart (l : Launch) : mj_Met l yX9_readPart cX9_readPart 3 (none) 67 0 0 (cq_X9_readPart (RGC 64).2.2.2.2.1) := (rg_C l 64).2.2.2.2.1
theorem m_X9_readUnit (l : Launch) : mj_Met l yX9_readUnit cX9_readUnit 4 (none) 67 0 0 (cq_X9_readUnit (RGC 64).2.2.2.2.2) := (rg_C l 64).2.2.2.2.2
def F_X9_keepClause (v1 : Int32) (v2 : Int32) (v3 : Int32) (s : St) : Option (St) :=
  if 164 ≤ ((4 * (s.1 908)) + 3) then
    some s
  else
    (wr s 907 164 (4 * (s.1 908)) v1).bind fun s1 =>
    (wr s1 907 164 ((4 * (s.1 908)) + 1) v2).bind fun s2 =>
    (wr s2 907 164 ((4 * (s.1 908)) + 2) v3).bind fun s3 =>
    (wr s3 907 164 ((4 * (s.1 908)) + 3) (s3.1 906)).bind fun s4 =>
    (wI s4 908 ((s4.1 908) + 1)).bind fun s5 =>
    (wI s5 909 ((s5.1 909) ||| (1 <<< (v1 &&& 31)))).bind fun s6 =>
    some s6
theorem J_X9_keepClause : mj_t 17 66 = 83 ∧ (0 ≤ ((17 : Nat) : Int) + 66) = True := by and_intros <;> first | rfl | exact eq_true (by decide)
set_option maxHeartbeats 4000000 in
set_option maxRecDepth 20000 in
theorem g_X9_keepClause {k : Option Value → mj_H → Prop} {G : mj_K} (hG : mj_cl2 cX9_keepClause (TbX9 5 (none) []) k G) {v1 : Int32} {v2 : Int32} {v3 : Int32} {s : St} (hw : ok (F_X9_keepClause v1 v2 v3 s) (fun p => k none (mkCs p))) : G 0 [.ref 7, .int v1, .int v2, .int v3] [] (mkCs s) 0 0 := by
  unfold F_X9_keepClause at hw
  refine mj_run hG.1 (fun _ => false) 4000 ?_
  simp only [mj_step, mj_W_s, mj_fin, List.getElem?_cons_zero, List.getElem?_cons_succ, mj_go, Nat.reduceAdd, Nat.reduceSub, Nat.reduceLT, Nat.reduceLeDiff, Nat.zero_add, Nat.reduceEqDiff, Nat.reduceBEq, ↓reduceIte, Bool.false_eq_true, List.append_nil, List.nil_append, List.cons_append, Option.toList, and_true, true_and, true_or, or_true, reduceCtorEq, List.map_nil, bI_eq0, bI_eq1, bool_ft, pk_us, vnar0, vnar1, Bool.or_false, Bool.or_true, Bool.false_or, Bool.true_or, mj_kne, eq_self, Int32.reduceLT, Int32.reduceLE, Int32.reduceAdd, Int32.reduceSub, Int32.reduceMul, not_true_eq_false, not_false_eq_true, false_implies, true_implies, D_X9_keepClause_0, D_X9_keepClause_1, mj_F_aload_n_k, mj_F_arraylength, mj_F_dup, mj_F_getfield_i, mj_F_iadd, mj_F_iastore, mj_F_iconst_n, mj_F_if_icmp_ge_off, mj_F_iload_k, mj_F_iload_n_k, mj_F_imul, mj_F_ior, mj_F_ishl, mj_F_istore_k, mj_F_putfield_i, mj_F_return_, mj_set, mj_set0, mj_unk, mj_c2, mj_kc, FT_X9, PT_X9, gS_C7, gCf9_8, gCf9_7, gS_C10, sS_Ca_10, gCf9_6, sS_Cf_9_8, gCf9len, gCf9_9, sS_Cf_9_9, mj_nk, mj_isA, J_X9_keepClause]
  refine ⟨fun c => ?_, fun c => ?_⟩
  · replace hw := ok_t hw c
    exact (ok_some hw :)
  · replace hw := ok_f hw c
    refine ⟨(ok_wr hw).1, ?_⟩
    replace hw := (ok_wr hw).2
    refine ⟨(ok_wr hw).1, ?_⟩
    replace hw := (ok_wr hw).2
    refine ⟨(ok_wr hw).1, ?_⟩
    replace hw := (ok_wr hw).2
    refine ⟨(ok_wr hw).1, ?_⟩
    replace hw := (ok_wr hw).2
    replace hw := ok_wI hw
    replace hw := ok_wI hw
    exact (ok_some hw :)

def c_X9_keepClause : mj_S := fun as h k => ∃ (v1 : Int32) (v2 : Int32) (v3 : Int32) (s : St), as = [.ref 7, .int v1, .int v2, .int v3] ∧ h = mkCs s ∧ ok (F_X9_keepClause v1 v2 v3 s) (fun p => k none (mkCs p))
theorem c_X9_keepClause_in {v1 : Int32} {v2 : Int32} {v3 : Int32} {s : St} {k : Option Value → mj_H → Prop} (hw : ok (F_X9_keepClause v1 v2 v3 s) (fun p => k none (mkCs p))) : c_X9_keepClause [.ref 7, .int v1, .int v2, .int v3] (mkCs s) k := ⟨v1, v2, v3, s, rfl, rfl, hw⟩
theorem m_X9_keepClause (l : Launch) : mj_Met l yX9_keepClause cX9_keepClause 5 (none) 0 0 0 c_X9_keepClause := by
  refine mj_body2 false (TbX9 5 (none) []) (by decide) rfl rfl (fun h => nomatch h) (tfX9 _ (fun _ h => nomatch h)) ?_
  rintro as h k ⟨v1, v2, v3, s, rfl, rfl, hw⟩
  exact ⟨rfl, fun G hG => g_X9_keepClause hG hw⟩
def F_X9_readClause (s : St) : Option (St) :=
  (F_X9_peek s).bind fun r1 =>
  (F_X0_labelOf r1.1).bind fun r2 =>
  if r2 = (-1) then
    (F_X9_fail r1.2).bind fun s21 =>
    some s21
  else
    (wI r1.2 902 ((r1.2.1 902) + 1)).bind fun s3 =>
    (F_X9_want 58 s3).bind fun s4 =>
    (F_X9_peek s4).bind fun r5 =>
    if r5.1 = 33 then
      ((RGC 64).2.2.2.1 0 r5.2).bind fun s6 =>
      (F_X9_want 63 s6).bind fun s7 =>
      ((RGC 64).1 s7).bind fun s8 =>
      (F_X9_keepClause r2 (s4.1 906) (s7.1 906) s8).bind fun s9 =>
      some s9
    else
      if r5.1 = 40 then
        ((RGC 64).2.2.2.1 0 r5.2).bind fun s17 =>
        (F_X9_want 63 s17).bind fun s18 =>
        ((RGC 64).1 s18).bind fun s19 =>
        (F_X9_keepClause r2 (s4.1 906) (s18.1 906) s19).bind fun s20 =>
        some s20
      else
        ((RGC 64).1 r5.2).bind fun s10 =>
        (F_X9_peek s10).bind fun r11 =>
        if isRel r11.1 = false then
          (F_X9_keepClause r2 (s4.1 906) (s4.1 906) r11.2).bind fun s12 =>
          some s12
        else
          ((RGC 64).2.2.2.1 1 r11.2).bind fun s13 =>
          (F_X9_want 63 s13).bind fun s14 =>
          ((RGC 64).1 s14).bind fun s15 =>
          (F_X9_keepClause r2 (s4.1 906) (s14.1 906) s15).bind fun s16 =>
          some s16
theorem J_X9_readClause : mj_t 10 8 = 18 ∧ mj_t 54 10 = 64 ∧ mj_t 61 7 = 68 ∧ mj_t 65 4 = 69 ∧ mj_t 73 7 = 80 ∧ mj_t 82 13 = 95 ∧ mj_t 92 32 = 124 ∧ mj_t 98 7 = 105 ∧ mj_t 102 4 = 106 ∧ (0 ≤ ((10 : Nat) : Int) + 8) = True ∧ (0 ≤ ((54 : Nat) : Int) + 10) = True ∧ (0 ≤ ((61 : Nat) : Int) + 7) = True ∧ (0 ≤ ((65 : Nat) : Int) + 4) = True ∧ (0 ≤ ((73 : Nat) : Int) + 7) = True ∧ (0 ≤ ((82 : Nat) : Int) + 13) = True ∧ (0 ≤ ((92 : Nat) : Int) + 32) = True ∧ (0 ≤ ((98 : Nat) : Int) + 7) = True ∧ (0 ≤ ((102 : Nat) : Int) + 4) = True := by and_intros <;> first | rfl | exact eq_true (by decide)
def ct_X9_readClause : List (Nat × mj_Cs) := [(50, 0, 1, 9, 0, 0, c_X9_peek), (54, 0, 1, 9, 0, 0, c_X9_fail), (57, 2, 1, 0, 0, 0, c_X0_labelOf), (63, 0, 2, 9, 0, 0, c_X9_want), (67, 0, 1, 9, 0, 0, (cq_X9_readSum (RGC 64).1)), (70, 2, 1, 9, 0, 0, c_isRel), (73, 0, 2, 9, 0, 0, (cq_X9_readCondition (RGC 64).2.2.2.1)), (77, 0, 4, 9, 0, 0, c_X9_keepClause)]
theorem L_X9_readClause : mj_lk ct_X9_readClause 50 = some (0, 1, 9, 0, 0, c_X9_peek) ∧ mj_lk ct_X9_readClause 54 = some (0, 1, 9, 0, 0, c_X9_fail) ∧ mj_lk ct_X9_readClause 57 = some (2, 1, 0, 0, 0, c_X0_labelOf) ∧ mj_lk ct_X9_readClause 63 = some (0, 2, 9, 0, 0, c_X9_want) ∧ mj_lk ct_X9_readClause 67 = some (0, 1, 9, 0, 0, (cq_X9_readSum (RGC 64).1)) ∧ mj_lk ct_X9_readClause 70 = some (2, 1, 9, 0, 0, c_isRel) ∧ mj_lk ct_X9_readClause 73 = some (0, 2, 9, 0, 0, (cq_X9_readCondition (RGC 64).2.2.2.1)) ∧ mj_lk ct_X9_readClause 77 = some (0, 4, 9, 0, 0, c_X9_keepClause) := ⟨rfl, rfl, rfl, rfl, rfl, rfl, rfl, rfl⟩
set_option maxHeartbeats 4000000 in
set_option maxRecDepth 20000 in
theorem g_X9_readClause {k : Option Value → mj_H → Prop} {G : mj_K} (hG : mj_cl2 cX9_readClause (TbX9 6 (none) ct_X9_readClause) k G) {s : St} (hw : ok (F_X9_readClause s) (fun p => k none (mkCs p))) : G 0 [.ref 7] [] (mkCs s) 0 0 := by
  unfold F_X9_readClause at hw
  refine mj_run hG.1 (fun pc => pc == 4 || pc == 7 || pc == 17 || pc == 34 || pc == 48 || pc == 80 || pc == 89 || pc == 109 || pc == 115 || pc == 124 || pc == 131) 4000 ?_
  simp only [mj_step, mj_W_s, mj_fin, List.getElem?_cons_zero, List.getElem?_cons_succ, mj_go, Nat.reduceAdd, Nat.reduceSub, Nat.reduceLT, Nat.reduceLeDiff, Nat.zero_add, Nat.reduceEqDiff, Nat.reduceBEq, ↓reduceIte, Bool.false_eq_true, List.append_nil, List.nil_append, List.cons_append, Option.toList, and_true, true_and, true_or, or_true, reduceCtorEq, List.map_nil, bI_eq0, bI_eq1, bool_ft, pk_us, vnar0, vnar1, Bool.or_false, Bool.or_true, Bool.false_or, Bool.true_or, mj_kne, eq_self, Int32.reduceLT, Int32.reduceLE, Int32.reduceAdd, Int32.reduceSub, Int32.reduceMul, not_true_eq_false, not_false_eq_true, false_implies, true_implies, D_X9_readClause_0, D_X9_readClause_1, mj_F_aload_n_k, mj_F_bipush_n, mj_F_dup, mj_F_getfield_i, mj_F_goto_off, mj_F_iadd, mj_F_iconst_n, mj_F_ifCond_eq_off, mj_F_ifCond_ne_off, mj_F_if_icmp_eq_off, mj_F_if_icmp_ne_off, mj_F_iload_k, mj_F_iload_n_k, mj_F_invokestatic_i, mj_F_invokevirtual_i, mj_F_istore_k, mj_F_istore_n_k, mj_F_putfield_i, mj_F_return_, mj_set, mj_set0, mj_unk, mj_c2, mj_kc, FT_X9, PT_X9, L_X9_readClause, List.take_succ_cons, List.take_zero, List.drop_succ_cons, List.drop_zero, List.reverse_cons, List.reverse_nil, List.length_cons, List.length_nil, gS_C7, gCf9_2, sS_Cf_9_2, gCf9len, gCf9_6, c_isRel_eq, J_X9_readClause]
  refine c_X9_peek_in (ok_imp (ok_bind hw) ?_)
  intro p hw
  simp only [Option.toList, List.nil_append, List.cons_append, Nat.reduceSub]
  refine mj_run hG.1 (fun pc => pc == 4 || pc == 7 || pc == 17 || pc == 34 || pc == 48 || pc == 80 || pc == 89 || pc == 109 || pc == 115 || pc == 124 || pc == 131) 4000 ?_
  simp only [mj_step, mj_W_s, mj_fin, List.getElem?_cons_zero, List.getElem?_cons_succ, mj_go, Nat.reduceAdd, Nat.reduceSub, Nat.reduceLT, Nat.reduceLeDiff, Nat.zero_add, Nat.reduceEqDiff, Nat.reduceBEq, ↓reduceIte, Bool.false_eq_true, List.append_nil, List.nil_append, List.cons_append, Option.toList, and_true, true_and, true_or, or_true, reduceCtorEq, List.map_nil, bI_eq0, bI_eq1, bool_ft, pk_us, vnar0, vnar1, Bool.or_false, Bool.or_true, Bool.false_or, Bool.true_or, mj_kne, eq_self, Int32.reduceLT, Int32.reduceLE, Int32.reduceAdd, Int32.reduceSub, Int32.reduceMul, not_true_eq_false, not_false_eq_true, false_implies, true_implies, D_X9_readClause_0, D_X9_readClause_1, mj_F_aload_n_k, mj_F_bipush_n, mj_F_dup, mj_F_getfield_i, mj_F_goto_off, mj_F_iadd, mj_F_iconst_n, mj_F_ifCond_eq_off, mj_F_ifCond_ne_off, mj_F_if_icmp_eq_off, mj_F_if_icmp_ne_off, mj_F_iload_k, mj_F_iload_n_k, mj_F_invokestatic_i, mj_F_invokevirtual_i, mj_F_istore_k, mj_F_istore_n_k, mj_F_putfield_i, mj_F_return_, mj_set, mj_set0, mj_unk, mj_c2, mj_kc, FT_X9, PT_X9, L_X9_readClause, List.take_succ_cons, List.take_zero, List.drop_succ_cons, List.drop_zero, List.reverse_cons, List.reverse_nil, List.length_cons, List.length_nil, gS_C7, gCf9_2, sS_Cf_9_2, gCf9len, gCf9_6, c_isRel_eq, J_X9_readClause]
  refine c_X0_labelOf_in (ok_imp (ok_bind hw) ?_)
  intro p hw
  simp only [Option.toList, List.nil_append, List.cons_append, Nat.reduceSub]
  refine mj_run hG.1 (fun pc => pc == 4 || pc == 7 || pc == 17 || pc == 34 || pc == 48 || pc == 80 || pc == 89 || pc == 109 || pc == 115 || pc == 124 || pc == 131) 4000 ?_
  simp only [mj_step, mj_W_s, mj_fin, List.getElem?_cons_zero, List.getElem?_cons_succ, mj_go, Nat.reduceAdd, Nat.reduceSub, Nat.reduceLT, Nat.reduceLeDiff, Nat.zero_add, Nat.reduceEqDiff, Nat.reduceBEq, ↓reduceIte, Bool.false_eq_true, List.append_nil, List.nil_append, List.cons_append, Option.toList, and_true, true_and, true_or, or_true, reduceCtorEq, List.map_nil, bI_eq0, bI_eq1, bool_ft, pk_us, vnar0, vnar1, Bool.or_false, Bool.or_true, Bool.false_or, Bool.true_or, mj_kne, eq_self, Int32.reduceLT, Int32.reduceLE, Int32.reduceAdd, Int32.reduceSub, Int32.reduceMul, not_true_eq_false, not_false_eq_true, false_implies, true_implies, D_X9_readClause_0, D_X9_readClause_1, mj_F_aload_n_k, mj_F_bipush_n, mj_F_dup, mj_F_getfield_i, mj_F_goto_off, mj_F_iadd, mj_F_iconst_n, mj_F_ifCond_eq_off, mj_F_ifCond_ne_off, mj_F_if_icmp_eq_off, mj_F_if_icmp_ne_off, mj_F_iload_k, mj_F_iload_n_k, mj_F_invokestatic_i, mj_F_invokevirtual_i, mj_F_istore_k, mj_F_istore_n_k, mj_F_putfield_i, mj_F_return_, mj_set, mj_set0, mj_unk, mj_c2, mj_kc, FT_X9, PT_X9, L_X9_readClause, List.take_succ_cons, List.take_zero, List.drop_succ_cons, List.drop_zero, List.reverse_cons, List.reverse_nil, List.length_cons, List.length_nil, gS_C7, gCf9_2, sS_Cf_9_2, gCf9len, gCf9_6, c_isRel_eq, J_X9_readClause]
  refine ⟨fun c => ?_, fun c => ?_⟩
  · replace hw := ok_f hw c
    replace hw := ok_wI hw
    refine c_X9_want_in (ok_imp (ok_bind hw) ?_)
    intro p hw
    simp only [Option.toList, List.nil_append, List.cons_append, Nat.reduceSub]
    refine mj_run hG.1 (fun pc => pc == 4 || pc == 7 || pc == 17 || pc == 34 || pc == 48 || pc == 80 || pc == 89 || pc == 109 || pc == 115 || pc == 124 || pc == 131) 4000 ?_
    simp only [mj_step, mj_W_s, mj_fin, List.getElem?_cons_zero, List.getElem?_cons_succ, mj_go, Nat.reduceAdd, Nat.reduceSub, Nat.reduceLT, Nat.reduceLeDiff, Nat.zero_add, Nat.reduceEqDiff, Nat.reduceBEq, ↓reduceIte, Bool.false_eq_true, List.append_nil, List.nil_append, List.cons_append, Option.toList, and_true, true_and, true_or, or_true, reduceCtorEq, List.map_nil, bI_eq0, bI_eq1, bool_ft, pk_us, vnar0, vnar1, Bool.or_false, Bool.or_true, Bool.false_or, Bool.true_or, mj_kne, eq_self, Int32.reduceLT, Int32.reduceLE, Int32.reduceAdd, Int32.reduceSub, Int32.reduceMul, not_true_eq_false, not_false_eq_true, false_implies, true_implies, D_X9_readClause_0, D_X9_readClause_1, mj_F_aload_n_k, mj_F_bipush_n, mj_F_dup, mj_F_getfield_i, mj_F_goto_off, mj_F_iadd, mj_F_iconst_n, mj_F_ifCond_eq_off, mj_F_ifCond_ne_off, mj_F_if_icmp_eq_off, mj_F_if_icmp_ne_off, mj_F_iload_k, mj_F_iload_n_k, mj_F_invokestatic_i, mj_F_invokevirtual_i, mj_F_istore_k, mj_F_istore_n_k, mj_F_putfield_i, mj_F_return_, mj_set, mj_set0, mj_unk, mj_c2, mj_kc, FT_X9, PT_X9, L_X9_readClause, List.take_succ_cons, List.take_zero, List.drop_succ_cons, List.drop_zero, List.reverse_cons, List.reverse_nil, List.length_cons, List.length_nil, gS_C7, gCf9_2, sS_Cf_9_2, gCf9len, gCf9_6, c_isRel_eq, J_X9_readClause]
    refine c_X9_peek_in (ok_imp (ok_bind hw) ?_)
    intro p hw
    simp only [Option.toList, List.nil_append, List.cons_append, Nat.reduceSub]
    refine mj_run hG.1 (fun pc => pc == 4 || pc == 7 || pc == 17 || pc == 34 || pc == 48 || pc == 80 || pc == 89 || pc == 109 || pc == 115 || pc == 124 || pc == 131) 4000 ?_
    simp only [mj_step, mj_W_s, mj_fin, List.getElem?_cons_zero, List.getElem?_cons_succ, mj_go, Nat.reduceAdd, Nat.reduceSub, Nat.reduceLT, Nat.reduceLeDiff, Nat.zero_add, Nat.reduceEqDiff, Nat.reduceBEq, ↓reduceIte, Bool.false_eq_true, List.append_nil, List.nil_append, List.cons_append, Option.toList, and_true, true_and, true_or, or_true, reduceCtorEq, List.map_nil, bI_eq0, bI_eq1, bool_ft, pk_us, vnar0, vnar1, Bool.or_false, Bool.or_true, Bool.false_or, Bool.true_or, mj_kne, eq_self, Int32.reduceLT, Int32.reduceLE, Int32.reduceAdd, Int32.reduceSub, Int32.reduceMul, not_true_eq_false, not_false_eq_true, false_implies, true_implies, D_X9_readClause_0, D_X9_readClause_1, mj_F_aload_n_k, mj_F_bipush_n, mj_F_dup, mj_F_getfield_i, mj_F_goto_off, mj_F_iadd, mj_F_iconst_n, mj_F_ifCond_eq_off, mj_F_ifCond_ne_off, mj_F_if_icmp_eq_off, mj_F_if_icmp_ne_off, mj_F_iload_k, mj_F_iload_n_k, mj_F_invokestatic_i, mj_F_invokevirtual_i, mj_F_istore_k, mj_F_istore_n_k, mj_F_putfield_i, mj_F_return_, mj_set, mj_set0, mj_unk, mj_c2, mj_kc, FT_X9, PT_X9, L_X9_readClause, List.take_succ_cons, List.take_zero, List.drop_succ_cons, List.drop_zero, List.reverse_cons, List.reverse_nil, List.length_cons, List.length_nil, gS_C7, gCf9_2, sS_Cf_9_2, gCf9len, gCf9_6, c_isRel_eq, J_X9_readClause]
    refine ⟨fun c => ?_, fun c => ?_⟩
    · replace hw := ok_t hw c
      refine mj_run hG.1 (fun pc => pc == 4 || pc == 7 || pc == 17 || pc == 34 || pc == 48 || pc == 80 || pc == 89 || pc == 109 || pc == 115 || pc == 124 || pc == 131) 4000 ?_
      simp only [mj_step, mj_W_s, mj_fin, List.getElem?_cons_zero, List.getElem?_cons_succ, mj_go, Nat.reduceAdd, Nat.reduceSub, Nat.reduceLT, Nat.reduceLeDiff, Nat.zero_add, Nat.reduceEqDiff, Nat.reduceBEq, ↓reduceIte, Bool.false_eq_true, List.append_nil, List.nil_append, List.cons_append, Option.toList, and_true, true_and, true_or, or_true, reduceCtorEq, List.map_nil, bI_eq0, bI_eq1, bool_ft, pk_us, vnar0, vnar1, Bool.or_false, Bool.or_true, Bool.false_or, Bool.true_or, mj_kne, eq_self, Int32.reduceLT, Int32.reduceLE, Int32.reduceAdd, Int32.reduceSub, Int32.reduceMul, not_true_eq_false, not_false_eq_true, false_implies, true_implies, D_X9_readClause_0, D_X9_readClause_1, mj_F_aload_n_k, mj_F_bipush_n, mj_F_dup, mj_F_getfield_i, mj_F_goto_off, mj_F_iadd, mj_F_iconst_n, mj_F_ifCond_eq_off, mj_F_ifCond_ne_off, mj_F_if_icmp_eq_off, mj_F_if_icmp_ne_off, mj_F_iload_k, mj_F_iload_n_k, mj_F_invokestatic_i, mj_F_invokevirtual_i, mj_F_istore_k, mj_F_istore_n_k, mj_F_putfield_i, mj_F_return_, mj_set, mj_set0, mj_unk, mj_c2, mj_kc, FT_X9, PT_X9, L_X9_readClause, List.take_succ_cons, List.take_zero, List.drop_succ_cons, List.drop_zero, List.reverse_cons, List.reverse_nil, List.length_cons, List.length_nil, gS_C7, gCf9_2, sS_Cf_9_2, gCf9len, gCf9_6, c_isRel_eq, J_X9_readClause]
      refine cq_X9_readCondition_in (ok_imp (ok_bind hw) ?_)
      intro p hw
      simp only [Option.toList, List.nil_append, List.cons_append, Nat.reduceSub]
      refine mj_run hG.1 (fun pc => pc == 4 || pc == 7 || pc == 17 || pc == 34 || pc == 48 || pc == 80 || pc == 89 || pc == 109 || pc == 115 || pc == 124 || pc == 131) 4000 ?_
      simp only [mj_step, mj_W_s, mj_fin, List.getElem?_cons_zero, List.getElem?_cons_succ, mj_go, Nat.reduceAdd, Nat.reduceSub, Nat.reduceLT, Nat.reduceLeDiff, Nat.zero_add, Nat.reduceEqDiff, Nat.reduceBEq, ↓reduceIte, Bool.false_eq_true, List.append_nil, List.nil_append, List.cons_append, Option.toList, and_true, true_and, true_or, or_true, reduceCtorEq, List.map_nil, bI_eq0, bI_eq1, bool_ft, pk_us, vnar0, vnar1, Bool.or_false, Bool.or_true, Bool.false_or, Bool.true_or, mj_kne, eq_self, Int32.reduceLT, Int32.reduceLE, Int32.reduceAdd, Int32.reduceSub, Int32.reduceMul, not_true_eq_false, not_false_eq_true, false_implies, true_implies, D_X9_readClause_0, D_X9_readClause_1, mj_F_aload_n_k, mj_F_bipush_n, mj_F_dup, mj_F_getfield_i, mj_F_goto_off, mj_F_iadd, mj_F_iconst_n, mj_F_ifCond_eq_off, mj_F_ifCond_ne_off, mj_F_if_icmp_eq_off, mj_F_if_icmp_ne_off, mj_F_iload_k, mj_F_iload_n_k, mj_F_invokestatic_i, mj_F_invokevirtual_i, mj_F_istore_k, mj_F_istore_n_k, mj_F_putfield_i, mj_F_return_, mj_set, mj_set0, mj_unk, mj_c2, mj_kc, FT_X9, PT_X9, L_X9_readClause, List.take_succ_cons, List.take_zero, List.drop_succ_cons, List.drop_zero, List.reverse_cons, List.reverse_nil, List.length_cons, List.length_nil, gS_C7, gCf9_2, sS_Cf_9_2, gCf9len, gCf9_6, c_isRel_eq, J_X9_readClause]
      refine c_X9_want_in (ok_imp (ok_bind hw) ?_)
      intro p hw
      simp only [Option.toList, List.nil_append, List.cons_append, Nat.reduceSub]
      refine mj_run hG.1 (fun pc => pc == 4 || pc == 7 || pc == 17 || pc == 34 || pc == 48 || pc == 80 || pc == 89 || pc == 109 || pc == 115 || pc == 124 || pc == 131) 4000 ?_
      simp only [mj_step, mj_W_s, mj_fin, List.getElem?_cons_zero, List.getElem?_cons_succ, mj_go, Nat.reduceAdd, Nat.reduceSub, Nat.reduceLT, Nat.reduceLeDiff, Nat.zero_add, Nat.reduceEqDiff, Nat.reduceBEq, ↓reduceIte, Bool.false_eq_true, List.append_nil, List.nil_append, List.cons_append, Option.toList, and_true, true_and, true_or, or_true, reduceCtorEq, List.map_nil, bI_eq0, bI_eq1, bool_ft, pk_us, vnar0, vnar1, Bool.or_false, Bool.or_true, Bool.false_or, Bool.true_or, mj_kne, eq_self, Int32.reduceLT, Int32.reduceLE, Int32.reduceAdd, Int32.reduceSub, Int32.reduceMul, not_true_eq_false, not_false_eq_true, false_implies, true_implies, D_X9_readClause_0, D_X9_readClause_1, mj_F_aload_n_k, mj_F_bipush_n, mj_F_dup, mj_F_getfield_i, mj_F_goto_off, mj_F_iadd, mj_F_iconst_n, mj_F_ifCond_eq_off, mj_F_ifCond_ne_off, mj_F_if_icmp_eq_off, mj_F_if_icmp_ne_off, mj_F_iload_k, mj_F_iload_n_k, mj_F_invokestatic_i, mj_F_invokevirtual_i, mj_F_istore_k, mj_F_istore_n_k, mj_F_putfield_i, mj_F_return_, mj_set, mj_set0, mj_unk, mj_c2, mj_kc, FT_X9, PT_X9, L_X9_readClause, List.take_succ_cons, List.take_zero, List.drop_succ_cons, List.drop_zero, List.reverse_cons, List.reverse_nil, List.length_cons, List.length_nil, gS_C7, gCf9_2, sS_Cf_9_2, gCf9len, gCf9_6, c_isRel_eq, J_X9_readClause]
      refine cq_X9_readSum_in (ok_imp (ok_bind hw) ?_)
      intro p hw
      simp only [Option.toList, List.nil_append, List.cons_append, Nat.reduceSub]
      refine mj_run hG.1 (fun pc => pc == 4 || pc == 7 || pc == 17 || pc == 34 || pc == 48 || pc == 80 || pc == 89 || pc == 109 || pc == 115 || pc == 124 || pc == 131) 4000 ?_
      simp only [mj_step, mj_W_s, mj_fin, List.getElem?_cons_zero, List.getElem?_cons_succ, mj_go, Nat.reduceAdd, Nat.reduceSub, Nat.reduceLT, Nat.reduceLeDiff, Nat.zero_add, Nat.reduceEqDiff, Nat.reduceBEq, ↓reduceIte, Bool.false_eq_true, List.append_nil, List.nil_append, List.cons_append, Option.toList, and_true, true_and, true_or, or_true, reduceCtorEq, List.map_nil, bI_eq0, bI_eq1, bool_ft, pk_us, vnar0, vnar1, Bool.or_false, Bool.or_true, Bool.false_or, Bool.true_or, mj_kne, eq_self, Int32.reduceLT, Int32.reduceLE, Int32.reduceAdd, Int32.reduceSub, Int32.reduceMul, not_true_eq_false, not_false_eq_true, false_implies, true_implies, D_X9_readClause_0, D_X9_readClause_1, mj_F_aload_n_k, mj_F_bipush_n, mj_F_dup, mj_F_getfield_i, mj_F_goto_off, mj_F_iadd, mj_F_iconst_n, mj_F_ifCond_eq_off, mj_F_ifCond_ne_off, mj_F_if_icmp_eq_off, mj_F_if_icmp_ne_off, mj_F_iload_k, mj_F_iload_n_k, mj_F_invokestatic_i, mj_F_invokevirtual_i, mj_F_istore_k, mj_F_istore_n_k, mj_F_putfield_i, mj_F_return_, mj_set, mj_set0, mj_unk, mj_c2, mj_kc, FT_X9, PT_X9, L_X9_readClause, List.take_succ_cons, List.take_zero, List.drop_succ_cons, List.drop_zero, List.reverse_cons, List.reverse_nil, List.length_cons, List.length_nil, gS_C7, gCf9_2, sS_Cf_9_2, gCf9len, gCf9_6, c_isRel_eq, J_X9_readClause]
      refine c_X9_keepClause_in (ok_imp (ok_bind hw) ?_)
      intro p hw
      simp only [Option.toList, List.nil_append, List.cons_append, Nat.reduceSub]
      refine mj_run hG.1 (fun pc => pc == 4 || pc == 7 || pc == 17 || pc == 34 || pc == 48 || pc == 80 || pc == 89 || pc == 109 || pc == 115 || pc == 124 || pc == 131) 4000 ?_
      simp only [mj_step, mj_W_s, mj_fin, List.getElem?_cons_zero, List.getElem?_cons_succ, mj_go, Nat.reduceAdd, Nat.reduceSub, Nat.reduceLT, Nat.reduceLeDiff, Nat.zero_add, Nat.reduceEqDiff, Nat.reduceBEq, ↓reduceIte, Bool.false_eq_true, List.append_nil, List.nil_append, List.cons_append, Option.toList, and_true, true_and, true_or, or_true, reduceCtorEq, List.map_nil, bI_eq0, bI_eq1, bool_ft, pk_us, vnar0, vnar1, Bool.or_false, Bool.or_true, Bool.false_or, Bool.true_or, mj_kne, eq_self, Int32.reduceLT, Int32.reduceLE, Int32.reduceAdd, Int32.reduceSub, Int32.reduceMul, not_true_eq_false, not_false_eq_true, false_implies, true_implies, D_X9_readClause_0, D_X9_readClause_1, mj_F_aload_n_k, mj_F_bipush_n, mj_F_dup, mj_F_getfield_i, mj_F_goto_off, mj_F_iadd, mj_F_iconst_n, mj_F_ifCond_eq_off, mj_F_ifCond_ne_off, mj_F_if_icmp_eq_off, mj_F_if_icmp_ne_off, mj_F_iload_k, mj_F_iload_n_k, mj_F_invokestatic_i, mj_F_invokevirtual_i, mj_F_istore_k, mj_F_istore_n_k, mj_F_putfield_i, mj_F_return_, mj_set, mj_set0, mj_unk, mj_c2, mj_kc, FT_X9, PT_X9, L_X9_readClause, List.take_succ_cons, List.take_zero, List.drop_succ_cons, List.drop_zero, List.reverse_cons, List.reverse_nil, List.length_cons, List.length_nil, gS_C7, gCf9_2, sS_Cf_9_2, gCf9len, gCf9_6, c_isRel_eq, J_X9_readClause]
      exact (ok_some hw :)
    · replace hw := ok_f hw c
      refine ⟨fun c => ?_, fun c => ?_⟩
      · replace hw := ok_f hw c
        refine cq_X9_readSum_in (ok_imp (ok_bind hw) ?_)
        intro p hw
        simp only [Option.toList, List.nil_append, List.cons_append, Nat.reduceSub]
        refine mj_run hG.1 (fun pc => pc == 4 || pc == 7 || pc == 17 || pc == 34 || pc == 48 || pc == 80 || pc == 89 || pc == 109 || pc == 115 || pc == 124 || pc == 131) 4000 ?_
        simp only [mj_step, mj_W_s, mj_fin, List.getElem?_cons_zero, List.getElem?_cons_succ, mj_go, Nat.reduceAdd, Nat.reduceSub, Nat.reduceLT, Nat.reduceLeDiff, Nat.zero_add, Nat.reduceEqDiff, Nat.reduceBEq, ↓reduceIte, Bool.false_eq_true, List.append_nil, List.nil_append, List.cons_append, Option.toList, and_true, true_and, true_or, or_true, reduceCtorEq, List.map_nil, bI_eq0, bI_eq1, bool_ft, pk_us, vnar0, vnar1, Bool.or_false, Bool.or_true, Bool.false_or, Bool.true_or, mj_kne, eq_self, Int32.reduceLT, Int32.reduceLE, Int32.reduceAdd, Int32.reduceSub, Int32.reduceMul, not_true_eq_false, not_false_eq_true, false_implies, true_implies, D_X9_readClause_0, D_X9_readClause_1, mj_F_aload_n_k, mj_F_bipush_n, mj_F_dup, mj_F_getfield_i, mj_F_goto_off, mj_F_iadd, mj_F_iconst_n, mj_F_ifCond_eq_off, mj_F_ifCond_ne_off, mj_F_if_icmp_eq_off, mj_F_if_icmp_ne_off, mj_F_iload_k, mj_F_iload_n_k, mj_F_invokestatic_i, mj_F_invokevirtual_i, mj_F_istore_k, mj_F_istore_n_k, mj_F_putfield_i, mj_F_return_, mj_set, mj_set0, mj_unk, mj_c2, mj_kc, FT_X9, PT_X9, L_X9_readClause, List.take_succ_cons, List.take_zero, List.drop_succ_cons, List.drop_zero, List.reverse_cons, List.reverse_nil, List.length_cons, List.length_nil, gS_C7, gCf9_2, sS_Cf_9_2, gCf9len, gCf9_6, c_isRel_eq, J_X9_readClause]
        refine c_X9_peek_in (ok_imp (ok_bind hw) ?_)
        intro p hw
        simp only [Option.toList, List.nil_append, List.cons_append, Nat.reduceSub]
        refine mj_run hG.1 (fun pc => pc == 4 || pc == 7 || pc == 17 || pc == 34 || pc == 48 || pc == 80 || pc == 89 || pc == 109 || pc == 115 || pc == 124 || pc == 131) 4000 ?_
        simp only [mj_step, mj_W_s, mj_fin, List.getElem?_cons_zero, List.getElem?_cons_succ, mj_go, Nat.reduceAdd, Nat.reduceSub, Nat.reduceLT, Nat.reduceLeDiff, Nat.zero_add, Nat.reduceEqDiff, Nat.reduceBEq, ↓reduceIte, Bool.false_eq_true, List.append_nil, List.nil_append, List.cons_append, Option.toList, and_true, true_and, true_or, or_true, reduceCtorEq, List.map_nil, bI_eq0, bI_eq1, bool_ft, pk_us, vnar0, vnar1, Bool.or_false, Bool.or_true, Bool.false_or, Bool.true_or, mj_kne, eq_self, Int32.reduceLT, Int32.reduceLE, Int32.reduceAdd, Int32.reduceSub, Int32.reduceMul, not_true_eq_false, not_false_eq_true, false_implies, true_implies, D_X9_readClause_0, D_X9_readClause_1, mj_F_aload_n_k, mj_F_bipush_n, mj_F_dup, mj_F_getfield_i, mj_F_goto_off, mj_F_iadd, mj_F_iconst_n, mj_F_ifCond_eq_off, mj_F_ifCond_ne_off, mj_F_if_icmp_eq_off, mj_F_if_icmp_ne_off, mj_F_iload_k, mj_F_iload_n_k, mj_F_invokestatic_i, mj_F_invokevirtual_i, mj_F_istore_k, mj_F_istore_n_k, mj_F_putfield_i, mj_F_return_, mj_set, mj_set0, mj_unk, mj_c2, mj_kc, FT_X9, PT_X9, L_X9_readClause, List.take_succ_cons, List.take_zero, List.drop_succ_cons, List.drop_zero, List.reverse_cons, List.reverse_nil, List.length_cons, List.length_nil, gS_C7, gCf9_2, sS_Cf_9_2, gCf9len, gCf9_6, c_isRel_eq, J_X9_readClause]
        refine ⟨fun c => ?_, fun c => ?_⟩
        · replace hw := ok_t hw c
          refine mj_run hG.1 (fun pc => pc == 4 || pc == 7 || pc == 17 || pc == 34 || pc == 48 || pc == 80 || pc == 89 || pc == 109 || pc == 115 || pc == 124 || pc == 131) 4000 ?_
          simp only [mj_step, mj_W_s, mj_fin, List.getElem?_cons_zero, List.getElem?_cons_succ, mj_go, Nat.reduceAdd, Nat.reduceSub, Nat.reduceLT, Nat.reduceLeDiff, Nat.zero_add, Nat.reduceEqDiff, Nat.reduceBEq, ↓reduceIte, Bool.false_eq_true, List.append_nil, List.nil_append, List.cons_append, Option.toList, and_true, true_and, true_or, or_true, reduceCtorEq, List.map_nil, bI_eq0, bI_eq1, bool_ft, pk_us, vnar0, vnar1, Bool.or_false, Bool.or_true, Bool.false_or, Bool.true_or, mj_kne, eq_self, Int32.reduceLT, Int32.reduceLE, Int32.reduceAdd, Int32.reduceSub, Int32.reduceMul, not_true_eq_false, not_false_eq_true, false_implies, true_implies, D_X9_readClause_0, D_X9_readClause_1, mj_F_aload_n_k, mj_F_bipush_n, mj_F_dup, mj_F_getfield_i, mj_F_goto_off, mj_F_iadd, mj_F_iconst_n, mj_F_ifCond_eq_off, mj_F_ifCond_ne_off, mj_F_if_icmp_eq_off, mj_F_if_icmp_ne_off, mj_F_iload_k, mj_F_iload_n_k, mj_F_invokestatic_i, mj_F_invokevirtual_i, mj_F_istore_k, mj_F_istore_n_k, mj_F_putfield_i, mj_F_return_, mj_set, mj_set0, mj_unk, mj_c2, mj_kc, FT_X9, PT_X9, L_X9_readClause, List.take_succ_cons, List.take_zero, List.drop_succ_cons, List.drop_zero, List.reverse_cons, List.reverse_nil, List.length_cons, List.length_nil, gS_C7, gCf9_2, sS_Cf_9_2, gCf9len, gCf9_6, c_isRel_eq, J_X9_readClause]
          refine c_X9_keepClause_in (ok_imp (ok_bind hw) ?_)
          intro p hw
          simp only [Option.toList, List.nil_append, List.cons_append, Nat.reduceSub]
          refine mj_run hG.1 (fun pc => pc == 4 || pc == 7 || pc == 17 || pc == 34 || pc == 48 || pc == 80 || pc == 89 || pc == 109 || pc == 115 || pc == 124 || pc == 131) 4000 ?_
          simp only [mj_step, mj_W_s, mj_fin, List.getElem?_cons_zero, List.getElem?_cons_succ, mj_go, Nat.reduceAdd, Nat.reduceSub, Nat.reduceLT, Nat.reduceLeDiff, Nat.zero_add, Nat.reduceEqDiff, Nat.reduceBEq, ↓reduceIte, Bool.false_eq_true, List.append_nil, List.nil_append, List.cons_append, Option.toList, and_true, true_and, true_or, or_true, reduceCtorEq, List.map_nil, bI_eq0, bI_eq1, bool_ft, pk_us, vnar0, vnar1, Bool.or_false, Bool.or_true, Bool.false_or, Bool.true_or, mj_kne, eq_self, Int32.reduceLT, Int32.reduceLE, Int32.reduceAdd, Int32.reduceSub, Int32.reduceMul, not_true_eq_false, not_false_eq_true, false_implies, true_implies, D_X9_readClause_0, D_X9_readClause_1, mj_F_aload_n_k, mj_F_bipush_n, mj_F_dup, mj_F_getfield_i, mj_F_goto_off, mj_F_iadd, mj_F_iconst_n, mj_F_ifCond_eq_off, mj_F_ifCond_ne_off, mj_F_if_icmp_eq_off, mj_F_if_icmp_ne_off, mj_F_iload_k, mj_F_iload_n_k, mj_F_invokestatic_i, mj_F_invokevirtual_i, mj_F_istore_k, mj_F_istore_n_k, mj_F_putfield_i, mj_F_return_, mj_set, mj_set0, mj_unk, mj_c2, mj_kc, FT_X9, PT_X9, L_X9_readClause, List.take_succ_cons, List.take_zero, List.drop_succ_cons, List.drop_zero, List.reverse_cons, List.reverse_nil, List.length_cons, List.length_nil, gS_C7, gCf9_2, sS_Cf_9_2, gCf9len, gCf9_6, c_isRel_eq, J_X9_readClause]
          exact (ok_some hw :)
        · replace hw := ok_f hw c
          refine cq_X9_readCondition_in (ok_imp (ok_bind hw) ?_)
          intro p hw
          simp only [Option.toList, List.nil_append, List.cons_append, Nat.reduceSub]
          refine mj_run hG.1 (fun pc => pc == 4 || pc == 7 || pc == 17 || pc == 34 || pc == 48 || pc == 80 || pc == 89 || pc == 109 || pc == 115 || pc == 124 || pc == 131) 4000 ?_
          simp only [mj_step, mj_W_s, mj_fin, List.getElem?_cons_zero, List.getElem?_cons_succ, mj_go, Nat.reduceAdd, Nat.reduceSub, Nat.reduceLT, Nat.reduceLeDiff, Nat.zero_add, Nat.reduceEqDiff, Nat.reduceBEq, ↓reduceIte, Bool.false_eq_true, List.append_nil, List.nil_append, List.cons_append, Option.toList, and_true, true_and, true_or, or_true, reduceCtorEq, List.map_nil, bI_eq0, bI_eq1, bool_ft, pk_us, vnar0, vnar1, Bool.or_false, Bool.or_true, Bool.false_or, Bool.true_or, mj_kne, eq_self, Int32.reduceLT, Int32.reduceLE, Int32.reduceAdd, Int32.reduceSub, Int32.reduceMul, not_true_eq_false, not_false_eq_true, false_implies, true_implies, D_X9_readClause_0, D_X9_readClause_1, mj_F_aload_n_k, mj_F_bipush_n, mj_F_dup, mj_F_getfield_i, mj_F_goto_off, mj_F_iadd, mj_F_iconst_n, mj_F_ifCond_eq_off, mj_F_ifCond_ne_off, mj_F_if_icmp_eq_off, mj_F_if_icmp_ne_off, mj_F_iload_k, mj_F_iload_n_k, mj_F_invokestatic_i, mj_F_invokevirtual_i, mj_F_istore_k, mj_F_istore_n_k, mj_F_putfield_i, mj_F_return_, mj_set, mj_set0, mj_unk, mj_c2, mj_kc, FT_X9, PT_X9, L_X9_readClause, List.take_succ_cons, List.take_zero, List.drop_succ_cons, List.drop_zero, List.reverse_cons, List.reverse_nil, List.length_cons, List.length_nil, gS_C7, gCf9_2, sS_Cf_9_2, gCf9len, gCf9_6, c_isRel_eq, J_X9_readClause]
          refine c_X9_want_in (ok_imp (ok_bind hw) ?_)
          intro p hw
          simp only [Option.toList, List.nil_append, List.cons_append, Nat.reduceSub]
          refine mj_run hG.1 (fun pc => pc == 4 || pc == 7 || pc == 17 || pc == 34 || pc == 48 || pc == 80 || pc == 89 || pc == 109 || pc == 115 || pc == 124 || pc == 131) 4000 ?_
          simp only [mj_step, mj_W_s, mj_fin, List.getElem?_cons_zero, List.getElem?_cons_succ, mj_go, Nat.reduceAdd, Nat.reduceSub, Nat.reduceLT, Nat.reduceLeDiff, Nat.zero_add, Nat.reduceEqDiff, Nat.reduceBEq, ↓reduceIte, Bool.false_eq_true, List.append_nil, List.nil_append, List.cons_append, Option.toList, and_true, true_and, true_or, or_true, reduceCtorEq, List.map_nil, bI_eq0, bI_eq1, bool_ft, pk_us, vnar0, vnar1, Bool.or_false, Bool.or_true, Bool.false_or, Bool.true_or, mj_kne, eq_self, Int32.reduceLT, Int32.reduceLE, Int32.reduceAdd, Int32.reduceSub, Int32.reduceMul, not_true_eq_false, not_false_eq_true, false_implies, true_implies, D_X9_readClause_0, D_X9_readClause_1, mj_F_aload_n_k, mj_F_bipush_n, mj_F_dup, mj_F_getfield_i, mj_F_goto_off, mj_F_iadd, mj_F_iconst_n, mj_F_ifCond_eq_off, mj_F_ifCond_ne_off, mj_F_if_icmp_eq_off, mj_F_if_icmp_ne_off, mj_F_iload_k, mj_F_iload_n_k, mj_F_invokestatic_i, mj_F_invokevirtual_i, mj_F_istore_k, mj_F_istore_n_k, mj_F_putfield_i, mj_F_return_, mj_set, mj_set0, mj_unk, mj_c2, mj_kc, FT_X9, PT_X9, L_X9_readClause, List.take_succ_cons, List.take_zero, List.drop_succ_cons, List.drop_zero, List.reverse_cons, List.reverse_nil, List.length_cons, List.length_nil, gS_C7, gCf9_2, sS_Cf_9_2, gCf9len, gCf9_6, c_isRel_eq, J_X9_readClause]
          refine cq_X9_readSum_in (ok_imp (ok_bind hw) ?_)
          intro p hw
          simp only [Option.toList, List.nil_append, List.cons_append, Nat.reduceSub]
          refine mj_run hG.1 (fun pc => pc == 4 || pc == 7 || pc == 17 || pc == 34 || pc == 48 || pc == 80 || pc == 89 || pc == 109 || pc == 115 || pc == 124 || pc == 131) 4000 ?_
          simp only [mj_step, mj_W_s, mj_fin, List.getElem?_cons_zero, List.getElem?_cons_succ, mj_go, Nat.reduceAdd, Nat.reduceSub, Nat.reduceLT, Nat.reduceLeDiff, Nat.zero_add, Nat.reduceEqDiff, Nat.reduceBEq, ↓reduceIte, Bool.false_eq_true, List.append_nil, List.nil_append, List.cons_append, Option.toList, and_true, true_and, true_or, or_true, reduceCtorEq, List.map_nil, bI_eq0, bI_eq1, bool_ft, pk_us, vnar0, vnar1, Bool.or_false, Bool.or_true, Bool.false_or, Bool.true_or, mj_kne, eq_self, Int32.reduceLT, Int32.reduceLE, Int32.reduceAdd, Int32.reduceSub, Int32.reduceMul, not_true_eq_false, not_false_eq_true, false_implies, true_implies, D_X9_readClause_0, D_X9_readClause_1, mj_F_aload_n_k, mj_F_bipush_n, mj_F_dup, mj_F_getfield_i, mj_F_goto_off, mj_F_iadd, mj_F_iconst_n, mj_F_ifCond_eq_off, mj_F_ifCond_ne_off, mj_F_if_icmp_eq_off, mj_F_if_icmp_ne_off, mj_F_iload_k, mj_F_iload_n_k, mj_F_invokestatic_i, mj_F_invokevirtual_i, mj_F_istore_k, mj_F_istore_n_k, mj_F_putfield_i, mj_F_return_, mj_set, mj_set0, mj_unk, mj_c2, mj_kc, FT_X9, PT_X9, L_X9_readClause, List.take_succ_cons, List.take_zero, List.drop_succ_cons, List.drop_zero, List.reverse_cons, List.reverse_nil, List.length_cons, List.length_nil, gS_C7, gCf9_2, sS_Cf_9_2, gCf9len, gCf9_6, c_isRel_eq, J_X9_readClause]
          refine c_X9_keepClause_in (ok_imp (ok_bind hw) ?_)
          intro p hw
          simp only [Option.toList, List.nil_append, List.cons_append, Nat.reduceSub]
          refine mj_run hG.1 (fun pc => pc == 4 || pc == 7 || pc == 17 || pc == 34 || pc == 48 || pc == 80 || pc == 89 || pc == 109 || pc == 115 || pc == 124 || pc == 131) 4000 ?_
          simp only [mj_step, mj_W_s, mj_fin, List.getElem?_cons_zero, List.getElem?_cons_succ, mj_go, Nat.reduceAdd, Nat.reduceSub, Nat.reduceLT, Nat.reduceLeDiff, Nat.zero_add, Nat.reduceEqDiff, Nat.reduceBEq, ↓reduceIte, Bool.false_eq_true, List.append_nil, List.nil_append, List.cons_append, Option.toList, and_true, true_and, true_or, or_true, reduceCtorEq, List.map_nil, bI_eq0, bI_eq1, bool_ft, pk_us, vnar0, vnar1, Bool.or_false, Bool.or_true, Bool.false_or, Bool.true_or, mj_kne, eq_self, Int32.reduceLT, Int32.reduceLE, Int32.reduceAdd, Int32.reduceSub, Int32.reduceMul, not_true_eq_false, not_false_eq_true, false_implies, true_implies, D_X9_readClause_0, D_X9_readClause_1, mj_F_aload_n_k, mj_F_bipush_n, mj_F_dup, mj_F_getfield_i, mj_F_goto_off, mj_F_iadd, mj_F_iconst_n, mj_F_ifCond_eq_off, mj_F_ifCond_ne_off, mj_F_if_icmp_eq_off, mj_F_if_icmp_ne_off, mj_F_iload_k, mj_F_iload_n_k, mj_F_invokestatic_i, mj_F_invokevirtual_i, mj_F_istore_k, mj_F_istore_n_k, mj_F_putfield_i, mj_F_return_, mj_set, mj_set0, mj_unk, mj_c2, mj_kc, FT_X9, PT_X9, L_X9_readClause, List.take_succ_cons, List.take_zero, List.drop_succ_cons, List.drop_zero, List.reverse_cons, List.reverse_nil, List.length_cons, List.length_nil, gS_C7, gCf9_2, sS_Cf_9_2, gCf9len, gCf9_6, c_isRel_eq, J_X9_readClause]
          exact (ok_some hw :)
      · replace hw := ok_t hw c
        refine mj_run hG.1 (fun pc => pc == 4 || pc == 7 || pc == 17 || pc == 34 || pc == 48 || pc == 80 || pc == 89 || pc == 109 || pc == 115 || pc == 124 || pc == 131) 4000 ?_
        simp only [mj_step, mj_W_s, mj_fin, List.getElem?_cons_zero, List.getElem?_cons_succ, mj_go, Nat.reduceAdd, Nat.reduceSub, Nat.reduceLT, Nat.reduceLeDiff, Nat.zero_add, Nat.reduceEqDiff, Nat.reduceBEq, ↓reduceIte, Bool.false_eq_true, List.append_nil, List.nil_append, List.cons_append, Option.toList, and_true, true_and, true_or, or_true, reduceCtorEq, List.map_nil, bI_eq0, bI_eq1, bool_ft, pk_us, vnar0, vnar1, Bool.or_false, Bool.or_true, Bool.false_or, Bool.true_or, mj_kne, eq_self, Int32.reduceLT, Int32.reduceLE, Int32.reduceAdd, Int32.reduceSub, Int32.reduceMul, not_true_eq_false, not_false_eq_true, false_implies, true_implies, D_X9_readClause_0, D_X9_readClause_1, mj_F_aload_n_k, mj_F_bipush_n, mj_F_dup, mj_F_getfield_i, mj_F_goto_off, mj_F_iadd, mj_F_iconst_n, mj_F_ifCond_eq_off, mj_F_ifCond_ne_off, mj_F_if_icmp_eq_off, mj_F_if_icmp_ne_off, mj_F_iload_k, mj_F_iload_n_k, mj_F_invokestatic_i, mj_F_invokevirtual_i, mj_F_istore_k, mj_F_istore_n_k, mj_F_putfield_i, mj_F_return_, mj_set, mj_set0, mj_unk, mj_c2, mj_kc, FT_X9, PT_X9, L_X9_readClause, List.take_succ_cons, List.take_zero, List.drop_succ_cons, List.drop_zero, List.reverse_cons, List.reverse_nil, List.length_cons, List.length_nil, gS_C7, gCf9_2, sS_Cf_9_2, gCf9len, gCf9_6, c_isRel_eq, J_X9_readClause]
        refine cq_X9_readCondition_in (ok_imp (ok_bind hw) ?_)
        intro p hw
        simp only [Option.toList, List.nil_append, List.cons_append, Nat.reduceSub]
        refine mj_run hG.1 (fun pc => pc == 4 || pc == 7 || pc == 17 || pc == 34 || pc == 48 || pc == 80 || pc == 89 || pc == 109 || pc == 115 || pc == 124 || pc == 131) 4000 ?_
        simp only [mj_step, mj_W_s, mj_fin, List.getElem?_cons_zero, List.getElem?_cons_succ, mj_go, Nat.reduceAdd, Nat.reduceSub, Nat.reduceLT, Nat.reduceLeDiff, Nat.zero_add, Nat.reduceEqDiff, Nat.reduceBEq, ↓reduceIte, Bool.false_eq_true, List.append_nil, List.nil_append, List.cons_append, Option.toList, and_true, true_and, true_or, or_true, reduceCtorEq, List.map_nil, bI_eq0, bI_eq1, bool_ft, pk_us, vnar0, vnar1, Bool.or_false, Bool.or_true, Bool.false_or, Bool.true_or, mj_kne, eq_self, Int32.reduceLT, Int32.reduceLE, Int32.reduceAdd, Int32.reduceSub, Int32.reduceMul, not_true_eq_false, not_false_eq_true, false_implies, true_implies, D_X9_readClause_0, D_X9_readClause_1, mj_F_aload_n_k, mj_F_bipush_n, mj_F_dup, mj_F_getfield_i, mj_F_goto_off, mj_F_iadd, mj_F_iconst_n, mj_F_ifCond_eq_off, mj_F_ifCond_ne_off, mj_F_if_icmp_eq_off, mj_F_if_icmp_ne_off, mj_F_iload_k, mj_F_iload_n_k, mj_F_invokestatic_i, mj_F_invokevirtual_i, mj_F_istore_k, mj_F_istore_n_k, mj_F_putfield_i, mj_F_return_, mj_set, mj_set0, mj_unk, mj_c2, mj_kc, FT_X9, PT_X9, L_X9_readClause, List.take_succ_cons, List.take_zero, List.drop_succ_cons, List.drop_zero, List.reverse_cons, List.reverse_nil, List.length_cons, List.length_nil, gS_C7, gCf9_2, sS_Cf_9_2, gCf9len, gCf9_6, c_isRel_eq, J_X9_readClause]
        refine c_X9_want_in (ok_imp (ok_bind hw) ?_)
        intro p hw
        simp only [Option.toList, List.nil_append, List.cons_append, Nat.reduceSub]
        refine mj_run hG.1 (fun pc => pc == 4 || pc == 7 || pc == 17 || pc == 34 || pc == 48 || pc == 80 || pc == 89 || pc == 109 || pc == 115 || pc == 124 || pc == 131) 4000 ?_
        simp only [mj_step, mj_W_s, mj_fin, List.getElem?_cons_zero, List.getElem?_cons_succ, mj_go, Nat.reduceAdd, Nat.reduceSub, Nat.reduceLT, Nat.reduceLeDiff, Nat.zero_add, Nat.reduceEqDiff, Nat.reduceBEq, ↓reduceIte, Bool.false_eq_true, List.append_nil, List.nil_append, List.cons_append, Option.toList, and_true, true_and, true_or, or_true, reduceCtorEq, List.map_nil, bI_eq0, bI_eq1, bool_ft, pk_us, vnar0, vnar1, Bool.or_false, Bool.or_true, Bool.false_or, Bool.true_or, mj_kne, eq_self, Int32.reduceLT, Int32.reduceLE, Int32.reduceAdd, Int32.reduceSub, Int32.reduceMul, not_true_eq_false, not_false_eq_true, false_implies, true_implies, D_X9_readClause_0, D_X9_readClause_1, mj_F_aload_n_k, mj_F_bipush_n, mj_F_dup, mj_F_getfield_i, mj_F_goto_off, mj_F_iadd, mj_F_iconst_n, mj_F_ifCond_eq_off, mj_F_ifCond_ne_off, mj_F_if_icmp_eq_off, mj_F_if_icmp_ne_off, mj_F_iload_k, mj_F_iload_n_k, mj_F_invokestatic_i, mj_F_invokevirtual_i, mj_F_istore_k, mj_F_istore_n_k, mj_F_putfield_i, mj_F_return_, mj_set, mj_set0, mj_unk, mj_c2, mj_kc, FT_X9, PT_X9, L_X9_readClause, List.take_succ_cons, List.take_zero, List.drop_succ_cons, List.drop_zero, List.reverse_cons, List.reverse_nil, List.length_cons, List.length_nil, gS_C7, gCf9_2, sS_Cf_9_2, gCf9len, gCf9_6, c_isRel_eq, J_X9_readClause]
        refine cq_X9_readSum_in (ok_imp (ok_bind hw) ?_)
        intro p hw
        simp only [Option.toList, List.nil_append, List.cons_append, Nat.reduceSub]
        refine mj_run hG.1 (fun pc => pc == 4 || pc == 7 || pc == 17 || pc == 34 || pc == 48 || pc == 80 || pc == 89 || pc == 109 || pc == 115 || pc == 124 || pc == 131) 4000 ?_
        simp only [mj_step, mj_W_s, mj_fin, List.getElem?_cons_zero, List.getElem?_cons_succ, mj_go, Nat.reduceAdd, Nat.reduceSub, Nat.reduceLT, Nat.reduceLeDiff, Nat.zero_add, Nat.reduceEqDiff, Nat.reduceBEq, ↓reduceIte, Bool.false_eq_true, List.append_nil, List.nil_append, List.cons_append, Option.toList, and_true, true_and, true_or, or_true, reduceCtorEq, List.map_nil, bI_eq0, bI_eq1, bool_ft, pk_us, vnar0, vnar1, Bool.or_false, Bool.or_true, Bool.false_or, Bool.true_or, mj_kne, eq_self, Int32.reduceLT, Int32.reduceLE, Int32.reduceAdd, Int32.reduceSub, Int32.reduceMul, not_true_eq_false, not_false_eq_true, false_implies, true_implies, D_X9_readClause_0, D_X9_readClause_1, mj_F_aload_n_k, mj_F_bipush_n, mj_F_dup, mj_F_getfield_i, mj_F_goto_off, mj_F_iadd, mj_F_iconst_n, mj_F_ifCond_eq_off, mj_F_ifCond_ne_off, mj_F_if_icmp_eq_off, mj_F_if_icmp_ne_off, mj_F_iload_k, mj_F_iload_n_k, mj_F_invokestatic_i, mj_F_invokevirtual_i, mj_F_istore_k, mj_F_istore_n_k, mj_F_putfield_i, mj_F_return_, mj_set, mj_set0, mj_unk, mj_c2, mj_kc, FT_X9, PT_X9, L_X9_readClause, List.take_succ_cons, List.take_zero, List.drop_succ_cons, List.drop_zero, List.reverse_cons, List.reverse_nil, List.length_cons, List.length_nil, gS_C7, gCf9_2, sS_Cf_9_2, gCf9len, gCf9_6, c_isRel_eq, J_X9_readClause]
        refine c_X9_keepClause_in (ok_imp (ok_bind hw) ?_)
        intro p hw
        simp only [Option.toList, List.nil_append, List.cons_append, Nat.reduceSub]
        refine mj_run hG.1 (fun pc => pc == 4 || pc == 7 || pc == 17 || pc == 34 || pc == 48 || pc == 80 || pc == 89 || pc == 109 || pc == 115 || pc == 124 || pc == 131) 4000 ?_
        simp only [mj_step, mj_W_s, mj_fin, List.getElem?_cons_zero, List.getElem?_cons_succ, mj_go, Nat.reduceAdd, Nat.reduceSub, Nat.reduceLT, Nat.reduceLeDiff, Nat.zero_add, Nat.reduceEqDiff, Nat.reduceBEq, ↓reduceIte, Bool.false_eq_true, List.append_nil, List.nil_append, List.cons_append, Option.toList, and_true, true_and, true_or, or_true, reduceCtorEq, List.map_nil, bI_eq0, bI_eq1, bool_ft, pk_us, vnar0, vnar1, Bool.or_false, Bool.or_true, Bool.false_or, Bool.true_or, mj_kne, eq_self, Int32.reduceLT, Int32.reduceLE, Int32.reduceAdd, Int32.reduceSub, Int32.reduceMul, not_true_eq_false, not_false_eq_true, false_implies, true_implies, D_X9_readClause_0, D_X9_readClause_1, mj_F_aload_n_k, mj_F_bipush_n, mj_F_dup, mj_F_getfield_i, mj_F_goto_off, mj_F_iadd, mj_F_iconst_n, mj_F_ifCond_eq_off, mj_F_ifCond_ne_off, mj_F_if_icmp_eq_off, mj_F_if_icmp_ne_off, mj_F_iload_k, mj_F_iload_n_k, mj_F_invokestatic_i, mj_F_invokevirtual_i, mj_F_istore_k, mj_F_istore_n_k, mj_F_putfield_i, mj_F_return_, mj_set, mj_set0, mj_unk, mj_c2, mj_kc, FT_X9, PT_X9, L_X9_readClause, List.take_succ_cons, List.take_zero, List.drop_succ_cons, List.drop_zero, List.reverse_cons, List.reverse_nil, List.length_cons, List.length_nil, gS_C7, gCf9_2, sS_Cf_9_2, gCf9len, gCf9_6, c_isRel_eq, J_X9_readClause]
        exact (ok_some hw :)
  · replace hw := ok_t hw c
    refine c_X9_fail_in (ok_imp (ok_bind hw) ?_)
    intro p hw
    simp only [Option.toList, List.nil_append, List.cons_append, Nat.reduceSub]
    refine mj_run hG.1 (fun pc => pc == 4 || pc == 7 || pc == 17 || pc == 34 || pc == 48 || pc == 80 || pc == 89 || pc == 109 || pc == 115 || pc == 124 || pc == 131) 4000 ?_
    simp only [mj_step, mj_W_s, mj_fin, List.getElem?_cons_zero, List.getElem?_cons_succ, mj_go, Nat.reduceAdd, Nat.reduceSub, Nat.reduceLT, Nat.reduceLeDiff, Nat.zero_add, Nat.reduceEqDiff, Nat.reduceBEq, ↓reduceIte, Bool.false_eq_true, List.append_nil, List.nil_append, List.cons_append, Option.toList, and_true, true_and, true_or, or_true, reduceCtorEq, List.map_nil, bI_eq0, bI_eq1, bool_ft, pk_us, vnar0, vnar1, Bool.or_false, Bool.or_true, Bool.false_or, Bool.true_or, mj_kne, eq_self, Int32.reduceLT, Int32.reduceLE, Int32.reduceAdd, Int32.reduceSub, Int32.reduceMul, not_true_eq_false, not_false_eq_true, false_implies, true_implies, D_X9_readClause_0, D_X9_readClause_1, mj_F_aload_n_k, mj_F_bipush_n, mj_F_dup, mj_F_getfield_i, mj_F_goto_off, mj_F_iadd, mj_F_iconst_n, mj_F_ifCond_eq_off, mj_F_ifCond_ne_off, mj_F_if_icmp_eq_off, mj_F_if_icmp_ne_off, mj_F_iload_k, mj_F_iload_n_k, mj_F_invokestatic_i, mj_F_invokevirtual_i, mj_F_istore_k, mj_F_istore_n_k, mj_F_putfield_i, mj_F_return_, mj_set, mj_set0, mj_unk, mj_c2, mj_kc, FT_X9, PT_X9, L_X9_readClause, List.take_succ_cons, List.take_zero, List.drop_succ_cons, List.drop_zero, List.reverse_cons, List.reverse_nil, List.length_cons, List.length_nil, gS_C7, gCf9_2, sS_Cf_9_2, gCf9len, gCf9_6, c_isRel_eq, J_X9_readClause]
    exact (ok_some hw :)

def c_X9_readClause : mj_S := fun as h k => ∃ (s : St), as = [.ref 7] ∧ h = mkCs s ∧ ok (F_X9_readClause s) (fun p => k none (mkCs p))
theorem c_X9_readClause_in {s : St} {k : Option Value → mj_H → Prop} (hw : ok (F_X9_readClause s) (fun p => k none (mkCs p))) : c_X9_readClause [.ref 7] (mkCs s) k := ⟨s, rfl, rfl, hw⟩
theorem m_X9_readClause (l : Launch) : mj_Met l yX9_readClause cX9_readClause 6 (none) 68 0 0 c_X9_readClause := by
  refine mj_body2 false (TbX9 6 (none) ct_X9_readClause) (by decide) rfl rfl (fun h => nomatch h) (tfX9 _ (List.forall_mem_cons.mpr ⟨cfX9_50 (m_X9_peek l) (by decide), List.forall_mem_cons.mpr ⟨cfX9_54 (m_X9_fail l) (by decide), List.forall_mem_cons.mpr ⟨cfX9_57 (m_X0_labelOf l) (by decide), List.forall_mem_cons.mpr ⟨cfX9_63 (m_X9_want l) (by decide), List.forall_mem_cons.mpr ⟨cfX9_67 (m_X9_readSum l) (by decide), List.forall_mem_cons.mpr ⟨cfX9_70 (m_X9_isRelation l) (by decide), List.forall_mem_cons.mpr ⟨cfX9_73 (m_X9_readCondition l) (by decide), List.forall_mem_cons.mpr ⟨cfX9_77 (m_X9_keepClause l) (by decide), fun _ h => nomatch h⟩⟩⟩⟩⟩⟩⟩⟩)) ?_
  rintro as h k ⟨s, rfl, rfl, hw⟩
  exact ⟨rfl, fun G hG => g_X9_readClause hG hw⟩
def B_X9_compile_34  : Int32 × Int32 × St → Option ((Int32 × Int32 × St) ⊕ ((St)))
  | (v1, v2, s) =>
  if 41 ≤ v2 then
    some (.inr s)
  else
    if v1 = 0 then
      some (.inr s)
    else
      (F_X9_readClause s).bind fun s7 =>
      (F_X9_took 59 s7).bind fun r8 =>
      some (.inl (r8.1, (v2 + 1), r8.2))
def F_X9_compile_61 (s : St) : Option (Int32 × St) :=
  if (s.1 903) = (-1) then
    (F_X9_peek s).bind fun r9 =>
    if r9.1 = 0 then
      some ((r9.2.1 903), r9.2)
    else
      (F_X9_fail r9.2).bind fun s10 =>
      some ((s10.1 903), s10)
  else
    some ((s.1 903), s)
def F_X9_compile_34 (v1 : Int32) (v2 : Int32) (s : St) : Option (Int32 × St) :=
  (lp (B_X9_compile_34 ) FU (v1, v2, s)).bind (fun y => F_X9_compile_61 y)
def F_X9_compile (s : St) : Option (Int32 × St) :=
  (wI s 902 0).bind fun s1 =>
  (wI s1 903 (-1)).bind fun s2 =>
  (wI s2 904 0).bind fun s3 =>
  (wI s3 906 0).bind fun s4 =>
  (wI s4 908 0).bind fun s5 =>
  (wI s5 909 0).bind fun s6 =>
  F_X9_compile_34 1 0 s6
theorem J_X9_compile : mj_t 37 24 = 61 ∧ mj_t 41 20 = 61 ∧ mj_t 58 (-24) = 34 ∧ mj_t 66 14 = 80 ∧ mj_t 73 7 = 80 ∧ (0 ≤ ((37 : Nat) : Int) + 24) = True ∧ (0 ≤ ((41 : Nat) : Int) + 20) = True ∧ (0 ≤ ((58 : Nat) : Int) + (-24)) = True ∧ (0 ≤ ((66 : Nat) : Int) + 14) = True ∧ (0 ≤ ((73 : Nat) : Int) + 7) = True := by and_intros <;> first | rfl | exact eq_true (by decide)
def ct_X9_compile : List (Nat × mj_Cs) := [(43, 0, 1, 9, 0, 0, c_X9_readClause), (46, 0, 2, 9, 0, 0, c_X9_took), (50, 0, 1, 9, 0, 0, c_X9_peek), (54, 0, 1, 9, 0, 0, c_X9_fail)]
theorem L_X9_compile : mj_lk ct_X9_compile 43 = some (0, 1, 9, 0, 0, c_X9_readClause) ∧ mj_lk ct_X9_compile 46 = some (0, 2, 9, 0, 0, c_X9_took) ∧ mj_lk ct_X9_compile 50 = some (0, 1, 9, 0, 0, c_X9_peek) ∧ mj_lk ct_X9_compile 54 = some (0, 1, 9, 0, 0, c_X9_fail) := ⟨rfl, rfl, rfl, rfl⟩
set_option maxHeartbeats 4000000 in
set_option maxRecDepth 20000 in
theorem b_X9_compile_34 {k : Option Value → mj_H → Prop} {G : mj_K} (hG : mj_cl2 cX9_compile (TbX9 3 ((some FieldType.int)) ct_X9_compile) k G)  {P : Int32 × Int32 × St → Prop} {K : (St) → Prop} (hP : ∀ x, P x → G 34 [.ref 7, .int x.1, .int x.2.1] [] (mkCs x.2.2) 0 0) (hK0 : ∀ y, K y → G 61 [.ref 7] [] (mkCs y) 0 0) {v1 : Int32} {v2 : Int32} {s : St} (hw : ok (B_X9_compile_34  (v1, v2, s)) (Sum.elim P K)) : G 34 [.ref 7, .int v1, .int v2] [] (mkCs s) 0 0 := by
  unfold B_X9_compile_34 at hw
  refine mj_run hG.1 (fun pc => pc == 34 || pc == 48 || pc == 54 || pc == 61 || pc == 73 || pc == 80) 4000 ?_
  simp only [mj_step, mj_W_s, mj_fin, List.getElem?_cons_zero, List.getElem?_cons_succ, mj_go, Nat.reduceAdd, Nat.reduceSub, Nat.reduceLT, Nat.reduceLeDiff, Nat.zero_add, Nat.reduceEqDiff, Nat.reduceBEq, ↓reduceIte, Bool.false_eq_true, List.append_nil, List.nil_append, List.cons_append, Option.toList, and_true, true_and, true_or, or_true, reduceCtorEq, List.map_nil, bI_eq0, bI_eq1, bool_ft, pk_us, vnar0, vnar1, Bool.or_false, Bool.or_true, Bool.false_or, Bool.true_or, mj_kne, eq_self, Int32.reduceLT, Int32.reduceLE, Int32.reduceAdd, Int32.reduceSub, Int32.reduceMul, not_true_eq_false, not_false_eq_true, false_implies, true_implies, D_X9_compile, mj_F_aload_n_k, mj_F_bipush_n, mj_F_getfield_i, mj_F_goto_off, mj_F_iconst_n, mj_F_ifCond_eq_off, mj_F_if_icmp_ge_off, mj_F_if_icmp_ne_off, mj_F_iinc_k_n, mj_F_iload_n_k, mj_F_invokevirtual_i, mj_F_ireturn, mj_F_istore_n_k, mj_F_putfield_i, mj_set, mj_set0, mj_unk, mj_c2, mj_kc, FT_X9, PT_X9, L_X9_compile, List.take_succ_cons, List.take_zero, List.drop_succ_cons, List.drop_zero, List.reverse_cons, List.reverse_nil, List.length_cons, List.length_nil, gS_C7, gCf9_2, sS_Cf_9_2, gCf9len, gCf9_3, sS_Cf_9_3, gCf9_4, sS_Cf_9_4, gCf9_6, sS_Cf_9_6, gCf9_8, sS_Cf_9_8, gCf9_9, sS_Cf_9_9, J_X9_compile]
  refine ⟨fun c => ?_, fun c => ?_⟩
  · replace hw := ok_t hw c
    exact hG.2 _ _ _ _ _ _ _ _ _ (by refine ⟨Or.inr rfl, ?_⟩; exact trivial) (Nat.zero_le _) (Nat.zero_le _) (hK0 _ (ok_some hw :) :)
  · replace hw := ok_f hw c
    refine ⟨fun c => ?_, fun c => ?_⟩
    · replace hw := ok_t hw c
      exact hG.2 _ _ _ _ _ _ _ _ _ (by refine ⟨Or.inr rfl, ?_⟩; exact trivial) (Nat.zero_le _) (Nat.zero_le _) (hK0 _ (ok_some hw :) :)
    · replace hw := ok_f hw c
      refine c_X9_readClause_in (ok_imp (ok_bind hw) ?_)
      intro p hw
      simp only [Option.toList, List.nil_append, List.cons_append, Nat.reduceSub]
      refine mj_run hG.1 (fun pc => pc == 34 || pc == 48 || pc == 54 || pc == 61 || pc == 73 || pc == 80) 4000 ?_
      simp only [mj_step, mj_W_s, mj_fin, List.getElem?_cons_zero, List.getElem?_cons_succ, mj_go, Nat.reduceAdd, Nat.reduceSub, Nat.reduceLT, Nat.reduceLeDiff, Nat.zero_add, Nat.reduceEqDiff, Nat.reduceBEq, ↓reduceIte, Bool.false_eq_true, List.append_nil, List.nil_append, List.cons_append, Option.toList, and_true, true_and, true_or, or_true, reduceCtorEq, List.map_nil, bI_eq0, bI_eq1, bool_ft, pk_us, vnar0, vnar1, Bool.or_false, Bool.or_true, Bool.false_or, Bool.true_or, mj_kne, eq_self, Int32.reduceLT, Int32.reduceLE, Int32.reduceAdd, Int32.reduceSub, Int32.reduceMul, not_true_eq_false, not_false_eq_true, false_implies, true_implies, D_X9_compile, mj_F_aload_n_k, mj_F_bipush_n, mj_F_getfield_i, mj_F_goto_off, mj_F_iconst_n, mj_F_ifCond_eq_off, mj_F_if_icmp_ge_off, mj_F_if_icmp_ne_off, mj_F_iinc_k_n, mj_F_iload_n_k, mj_F_invokevirtual_i, mj_F_ireturn, mj_F_istore_n_k, mj_F_putfield_i, mj_set, mj_set0, mj_unk, mj_c2, mj_kc, FT_X9, PT_X9, L_X9_compile, List.take_succ_cons, List.take_zero, List.drop_succ_cons, List.drop_zero, List.reverse_cons, List.reverse_nil, List.length_cons, List.length_nil, gS_C7, gCf9_2, sS_Cf_9_2, gCf9len, gCf9_3, sS_Cf_9_3, gCf9_4, sS_Cf_9_4, gCf9_6, sS_Cf_9_6, gCf9_8, sS_Cf_9_8, gCf9_9, sS_Cf_9_9, J_X9_compile]
      refine c_X9_took_in (ok_imp (ok_bind hw) ?_)
      intro p hw
      simp only [Option.toList, List.nil_append, List.cons_append, Nat.reduceSub]
      refine mj_run hG.1 (fun pc => pc == 34 || pc == 48 || pc == 54 || pc == 61 || pc == 73 || pc == 80) 4000 ?_
      simp only [mj_step, mj_W_s, mj_fin, List.getElem?_cons_zero, List.getElem?_cons_succ, mj_go, Nat.reduceAdd, Nat.reduceSub, Nat.reduceLT, Nat.reduceLeDiff, Nat.zero_add, Nat.reduceEqDiff, Nat.reduceBEq, ↓reduceIte, Bool.false_eq_true, List.append_nil, List.nil_append, List.cons_append, Option.toList, and_true, true_and, true_or, or_true, reduceCtorEq, List.map_nil, bI_eq0, bI_eq1, bool_ft, pk_us, vnar0, vnar1, Bool.or_false, Bool.or_true, Bool.false_or, Bool.true_or, mj_kne, eq_self, Int32.reduceLT, Int32.reduceLE, Int32.reduceAdd, Int32.reduceSub, Int32.reduceMul, not_true_eq_false, not_false_eq_true, false_implies, true_implies, D_X9_compile, mj_F_aload_n_k, mj_F_bipush_n, mj_F_getfield_i, mj_F_goto_off, mj_F_iconst_n, mj_F_ifCond_eq_off, mj_F_if_icmp_ge_off, mj_F_if_icmp_ne_off, mj_F_iinc_k_n, mj_F_iload_n_k, mj_F_invokevirtual_i, mj_F_ireturn, mj_F_istore_n_k, mj_F_putfield_i, mj_set, mj_set0, mj_unk, mj_c2, mj_kc, FT_X9, PT_X9, L_X9_compile, List.take_succ_cons, List.take_zero, List.drop_succ_cons, List.drop_zero, List.reverse_cons, List.reverse_nil, List.length_cons, List.length_nil, gS_C7, gCf9_2, sS_Cf_9_2, gCf9len, gCf9_3, sS_Cf_9_3, gCf9_4, sS_Cf_9_4, gCf9_6, sS_Cf_9_6, gCf9_8, sS_Cf_9_8, gCf9_9, sS_Cf_9_9, J_X9_compile]
      exact hG.2 _ _ _ _ _ _ _ _ _ (by refine ⟨Or.inr rfl, ?_⟩; refine ⟨Or.inr rfl, ?_⟩; refine ⟨Or.inr rfl, ?_⟩; exact trivial) (Nat.zero_le _) (Nat.zero_le _) (hP _ (ok_some hw :) :)

set_option maxHeartbeats 4000000 in
set_option maxRecDepth 20000 in
theorem g_X9_compile_61 {k : Option Value → mj_H → Prop} {G : mj_K} (hG : mj_cl2 cX9_compile (TbX9 3 ((some FieldType.int)) ct_X9_compile) k G)   {s : St} (hw : ok (F_X9_compile_61 s) (fun p => k (some (.int p.1)) (mkCs p.2))) : G 61 [.ref 7] [] (mkCs s) 0 0 := by
  unfold F_X9_compile_61 at hw
  refine mj_run hG.1 (fun pc => pc == 34 || pc == 48 || pc == 54 || pc == 61 || pc == 73 || pc == 80) 4000 ?_
  simp only [mj_step, mj_W_s, mj_fin, List.getElem?_cons_zero, List.getElem?_cons_succ, mj_go, Nat.reduceAdd, Nat.reduceSub, Nat.reduceLT, Nat.reduceLeDiff, Nat.zero_add, Nat.reduceEqDiff, Nat.reduceBEq, ↓reduceIte, Bool.false_eq_true, List.append_nil, List.nil_append, List.cons_append, Option.toList, and_true, true_and, true_or, or_true, reduceCtorEq, List.map_nil, bI_eq0, bI_eq1, bool_ft, pk_us, vnar0, vnar1, Bool.or_false, Bool.or_true, Bool.false_or, Bool.true_or, mj_kne, eq_self, Int32.reduceLT, Int32.reduceLE, Int32.reduceAdd, Int32.reduceSub, Int32.reduceMul, not_true_eq_false, not_false_eq_true, false_implies, true_implies, D_X9_compile, mj_F_aload_n_k, mj_F_bipush_n, mj_F_getfield_i, mj_F_goto_off, mj_F_iconst_n, mj_F_ifCond_eq_off, mj_F_if_icmp_ge_off, mj_F_if_icmp_ne_off, mj_F_iinc_k_n, mj_F_iload_n_k, mj_F_invokevirtual_i, mj_F_ireturn, mj_F_istore_n_k, mj_F_putfield_i, mj_set, mj_set0, mj_unk, mj_c2, mj_kc, FT_X9, PT_X9, L_X9_compile, List.take_succ_cons, List.take_zero, List.drop_succ_cons, List.drop_zero, List.reverse_cons, List.reverse_nil, List.length_cons, List.length_nil, gS_C7, gCf9_2, sS_Cf_9_2, gCf9len, gCf9_3, sS_Cf_9_3, gCf9_4, sS_Cf_9_4, gCf9_6, sS_Cf_9_6, gCf9_8, sS_Cf_9_8, gCf9_9, sS_Cf_9_9, J_X9_compile]
  refine ⟨fun c => ?_, fun c => ?_⟩
  · replace hw := ok_f hw c
    refine mj_run hG.1 (fun pc => pc == 34 || pc == 48 || pc == 54 || pc == 61 || pc == 73 || pc == 80) 4000 ?_
    simp only [mj_step, mj_W_s, mj_fin, List.getElem?_cons_zero, List.getElem?_cons_succ, mj_go, Nat.reduceAdd, Nat.reduceSub, Nat.reduceLT, Nat.reduceLeDiff, Nat.zero_add, Nat.reduceEqDiff, Nat.reduceBEq, ↓reduceIte, Bool.false_eq_true, List.append_nil, List.nil_append, List.cons_append, Option.toList, and_true, true_and, true_or, or_true, reduceCtorEq, List.map_nil, bI_eq0, bI_eq1, bool_ft, pk_us, vnar0, vnar1, Bool.or_false, Bool.or_true, Bool.false_or, Bool.true_or, mj_kne, eq_self, Int32.reduceLT, Int32.reduceLE, Int32.reduceAdd, Int32.reduceSub, Int32.reduceMul, not_true_eq_false, not_false_eq_true, false_implies, true_implies, D_X9_compile, mj_F_aload_n_k, mj_F_bipush_n, mj_F_getfield_i, mj_F_goto_off, mj_F_iconst_n, mj_F_ifCond_eq_off, mj_F_if_icmp_ge_off, mj_F_if_icmp_ne_off, mj_F_iinc_k_n, mj_F_iload_n_k, mj_F_invokevirtual_i, mj_F_ireturn, mj_F_istore_n_k, mj_F_putfield_i, mj_set, mj_set0, mj_unk, mj_c2, mj_kc, FT_X9, PT_X9, L_X9_compile, List.take_succ_cons, List.take_zero, List.drop_succ_cons, List.drop_zero, List.reverse_cons, List.reverse_nil, List.length_cons, List.length_nil, gS_C7, gCf9_2, sS_Cf_9_2, gCf9len, gCf9_3, sS_Cf_9_3, gCf9_4, sS_Cf_9_4, gCf9_6, sS_Cf_9_6, gCf9_8, sS_Cf_9_8, gCf9_9, sS_Cf_9_9, J_X9_compile]
    exact (ok_some hw :)
  · replace hw := ok_t hw c
    refine c_X9_peek_in (ok_imp (ok_bind hw) ?_)
    intro p hw
    simp only [Option.toList, List.nil_append, List.cons_append, Nat.reduceSub]
    refine mj_run hG.1 (fun pc => pc == 34 || pc == 48 || pc == 54 || pc == 61 || pc == 73 || pc == 80) 4000 ?_
    simp only [mj_step, mj_W_s, mj_fin, List.getElem?_cons_zero, List.getElem?_cons_succ, mj_go, Nat.reduceAdd, Nat.reduceSub, Nat.reduceLT, Nat.reduceLeDiff, Nat.zero_add, Nat.reduceEqDiff, Nat.reduceBEq, ↓reduceIte, Bool.false_eq_true, List.append_nil, List.nil_append, List.cons_append, Option.toList, and_true, true_and, true_or, or_true, reduceCtorEq, List.map_nil, bI_eq0, bI_eq1, bool_ft, pk_us, vnar0, vnar1, Bool.or_false, Bool.or_true, Bool.false_or, Bool.true_or, mj_kne, eq_self, Int32.reduceLT, Int32.reduceLE, Int32.reduceAdd, Int32.reduceSub, Int32.reduceMul, not_true_eq_false, not_false_eq_true, false_implies, true_implies, D_X9_compile, mj_F_aload_n_k, mj_F_bipush_n, mj_F_getfield_i, mj_F_goto_off, mj_F_iconst_n, mj_F_ifCond_eq_off, mj_F_if_icmp_ge_off, mj_F_if_icmp_ne_off, mj_F_iinc_k_n, mj_F_iload_n_k, mj_F_invokevirtual_i, mj_F_ireturn, mj_F_istore_n_k, mj_F_putfield_i, mj_set, mj_set0, mj_unk, mj_c2, mj_kc, FT_X9, PT_X9, L_X9_compile, List.take_succ_cons, List.take_zero, List.drop_succ_cons, List.drop_zero, List.reverse_cons, List.reverse_nil, List.length_cons, List.length_nil, gS_C7, gCf9_2, sS_Cf_9_2, gCf9len, gCf9_3, sS_Cf_9_3, gCf9_4, sS_Cf_9_4, gCf9_6, sS_Cf_9_6, gCf9_8, sS_Cf_9_8, gCf9_9, sS_Cf_9_9, J_X9_compile]
    refine ⟨fun c => ?_, fun c => ?_⟩
    · replace hw := ok_t hw c
      refine mj_run hG.1 (fun pc => pc == 34 || pc == 48 || pc == 54 || pc == 61 || pc == 73 || pc == 80) 4000 ?_
      simp only [mj_step, mj_W_s, mj_fin, List.getElem?_cons_zero, List.getElem?_cons_succ, mj_go, Nat.reduceAdd, Nat.reduceSub, Nat.reduceLT, Nat.reduceLeDiff, Nat.zero_add, Nat.reduceEqDiff, Nat.reduceBEq, ↓reduceIte, Bool.false_eq_true, List.append_nil, List.nil_append, List.cons_append, Option.toList, and_true, true_and, true_or, or_true, reduceCtorEq, List.map_nil, bI_eq0, bI_eq1, bool_ft, pk_us, vnar0, vnar1, Bool.or_false, Bool.or_true, Bool.false_or, Bool.true_or, mj_kne, eq_self, Int32.reduceLT, Int32.reduceLE, Int32.reduceAdd, Int32.reduceSub, Int32.reduceMul, not_true_eq_false, not_false_eq_true, false_implies, true_implies, D_X9_compile, mj_F_aload_n_k, mj_F_bipush_n, mj_F_getfield_i, mj_F_goto_off, mj_F_iconst_n, mj_F_ifCond_eq_off, mj_F_if_icmp_ge_off, mj_F_if_icmp_ne_off, mj_F_iinc_k_n, mj_F_iload_n_k, mj_F_invokevirtual_i, mj_F_ireturn, mj_F_istore_n_k, mj_F_putfield_i, mj_set, mj_set0, mj_unk, mj_c2, mj_kc, FT_X9, PT_X9, L_X9_compile, List.take_succ_cons, List.take_zero, List.drop_succ_cons, List.drop_zero, List.reverse_cons, List.reverse_nil, List.length_cons, List.length_nil, gS_C7, gCf9_2, sS_Cf_9_2, gCf9len, gCf9_3, sS_Cf_9_3, gCf9_4, sS_Cf_9_4, gCf9_6, sS_Cf_9_6, gCf9_8, sS_Cf_9_8, gCf9_9, sS_Cf_9_9, J_X9_compile]
      exact (ok_some hw :)
    · replace hw := ok_f hw c
      refine c_X9_fail_in (ok_imp (ok_bind hw) ?_)
      intro p hw
      simp only [Option.toList, List.nil_append, List.cons_append, Nat.reduceSub]
      refine mj_run hG.1 (fun pc => pc == 34 || pc == 48 || pc == 54 || pc == 61 || pc == 73 || pc == 80) 4000 ?_
      simp only [mj_step, mj_W_s, mj_fin, List.getElem?_cons_zero, List.getElem?_cons_succ, mj_go, Nat.reduceAdd, Nat.reduceSub, Nat.reduceLT, Nat.reduceLeDiff, Nat.zero_add, Nat.reduceEqDiff, Nat.reduceBEq, ↓reduceIte, Bool.false_eq_true, List.append_nil, List.nil_append, List.cons_append, Option.toList, and_true, true_and, true_or, or_true, reduceCtorEq, List.map_nil, bI_eq0, bI_eq1, bool_ft, pk_us, vnar0, vnar1, Bool.or_false, Bool.or_true, Bool.false_or, Bool.true_or, mj_kne, eq_self, Int32.reduceLT, Int32.reduceLE, Int32.reduceAdd, Int32.reduceSub, Int32.reduceMul, not_true_eq_false, not_false_eq_true, false_implies, true_implies, D_X9_compile, mj_F_aload_n_k, mj_F_bipush_n, mj_F_getfield_i, mj_F_goto_off, mj_F_iconst_n, mj_F_ifCond_eq_off, mj_F_if_icmp_ge_off, mj_F_if_icmp_ne_off, mj_F_iinc_k_n, mj_F_iload_n_k, mj_F_invokevirtual_i, mj_F_ireturn, mj_F_istore_n_k, mj_F_putfield_i, mj_set, mj_set0, mj_unk, mj_c2, mj_kc, FT_X9, PT_X9, L_X9_compile, List.take_succ_cons, List.take_zero, List.drop_succ_cons, List.drop_zero, List.reverse_cons, List.reverse_nil, List.length_cons, List.length_nil, gS_C7, gCf9_2, sS_Cf_9_2, gCf9len, gCf9_3, sS_Cf_9_3, gCf9_4, sS_Cf_9_4, gCf9_6, sS_Cf_9_6, gCf9_8, sS_Cf_9_8, gCf9_9, sS_Cf_9_9, J_X9_compile]
      exact (ok_some hw :)

set_option maxHeartbeats 4000000 in
theorem g_X9_compile_34 {k : Option Value → mj_H → Prop} {G : mj_K} (hG : mj_cl2 cX9_compile (TbX9 3 ((some FieldType.int)) ct_X9_compile) k G)   {v1 : Int32} {v2 : Int32} {s : St} (hw : ok (F_X9_compile_34 v1 v2 s) (fun p => k (some (.int p.1)) (mkCs p.2))) : G 34 [.ref 7, .int v1, .int v2] [] (mkCs s) 0 0 := by
  unfold F_X9_compile_34 at hw
  refine lp_ok (B_X9_compile_34 ) (fun x => G 34 [.ref 7, .int x.1, .int x.2.1] [] (mkCs x.2.2) 0 0) _ ?_ _ _ (ok_bind hw)
  rintro ⟨v1, v2, s⟩ hb
  exact b_X9_compile_34 hG (fun _ z => z) (fun y hw => by exact hG.2 _ _ _ _ _ _ _ _ _ (by refine ⟨Or.inr rfl, ?_⟩; exact trivial) (Nat.zero_le _) (Nat.zero_le _) (g_X9_compile_61 hG  hw :)) hb

set_option maxHeartbeats 4000000 in
set_option maxRecDepth 20000 in
theorem g_X9_compile {k : Option Value → mj_H → Prop} {G : mj_K} (hG : mj_cl2 cX9_compile (TbX9 3 ((some FieldType.int)) ct_X9_compile) k G) {s : St} (hw : ok (F_X9_compile s) (fun p => k (some (.int p.1)) (mkCs p.2))) : G 0 [.ref 7] [] (mkCs s) 0 0 := by
  unfold F_X9_compile at hw
  refine mj_run hG.1 (fun pc => pc == 34 || pc == 48 || pc == 54 || pc == 61 || pc == 73 || pc == 80) 4000 ?_
  simp only [mj_step, mj_W_s, mj_fin, List.getElem?_cons_zero, List.getElem?_cons_succ, mj_go, Nat.reduceAdd, Nat.reduceSub, Nat.reduceLT, Nat.reduceLeDiff, Nat.zero_add, Nat.reduceEqDiff, Nat.reduceBEq, ↓reduceIte, Bool.false_eq_true, List.append_nil, List.nil_append, List.cons_append, Option.toList, and_true, true_and, true_or, or_true, reduceCtorEq, List.map_nil, bI_eq0, bI_eq1, bool_ft, pk_us, vnar0, vnar1, Bool.or_false, Bool.or_true, Bool.false_or, Bool.true_or, mj_kne, eq_self, Int32.reduceLT, Int32.reduceLE, Int32.reduceAdd, Int32.reduceSub, Int32.reduceMul, not_true_eq_false, not_false_eq_true, false_implies, true_implies, D_X9_compile, mj_F_aload_n_k, mj_F_bipush_n, mj_F_getfield_i, mj_F_goto_off, mj_F_iconst_n, mj_F_ifCond_eq_off, mj_F_if_icmp_ge_off, mj_F_if_icmp_ne_off, mj_F_iinc_k_n, mj_F_iload_n_k, mj_F_invokevirtual_i, mj_F_ireturn, mj_F_istore_n_k, mj_F_putfield_i, mj_set, mj_set0, mj_unk, mj_c2, mj_kc, FT_X9, PT_X9, L_X9_compile, List.take_succ_cons, List.take_zero, List.drop_succ_cons, List.drop_zero, List.reverse_cons, List.reverse_nil, List.length_cons, List.length_nil, gS_C7, gCf9_2, sS_Cf_9_2, gCf9len, gCf9_3, sS_Cf_9_3, gCf9_4, sS_Cf_9_4, gCf9_6, sS_Cf_9_6, gCf9_8, sS_Cf_9_8, gCf9_9, sS_Cf_9_9, J_X9_compile]
  replace hw := ok_wI hw
  replace hw := ok_wI hw
  replace hw := ok_wI hw
  replace hw := ok_wI hw
  replace hw := ok_wI hw
  replace hw := ok_wI hw
  exact hG.2 _ _ _ _ _ _ _ _ _ (by refine ⟨Or.inr rfl, ?_⟩; refine ⟨Or.inr rfl, ?_⟩; refine ⟨Or.inr rfl, ?_⟩; exact trivial) (Nat.zero_le _) (Nat.zero_le _) (g_X9_compile_34 hG  hw :)

def c_X9_compile : mj_S := fun as h k => ∃ (s : St), as = [.ref 7] ∧ h = mkCs s ∧ ok (F_X9_compile s) (fun p => k (some (.int p.1)) (mkCs p.2))
theorem c_X9_compile_in {s : St} {k : Option Value → mj_H → Prop} (hw : ok (F_X9_compile s) (fun p => k (some (.int p.1)) (mkCs p.2))) : c_X9_compile [.ref 7] (mkCs s) k := ⟨s, rfl, rfl, hw⟩
theorem m_X9_compile (l : Launch) : mj_Met l yX9_compile cX9_compile 3 ((some FieldType.int)) 69 0 0 c_X9_compile := by
  refine mj_body2 false (TbX9 3 ((some FieldType.int)) ct_X9_compile) (by decide) rfl rfl (fun h => nomatch h) (tfX9 _ (List.forall_mem_cons.mpr ⟨cfX9_43 (m_X9_readClause l) (by decide), List.forall_mem_cons.mpr ⟨cfX9_46 (m_X9_took l) (by decide), List.forall_mem_cons.mpr ⟨cfX9_50 (m_X9_peek l) (by decide), List.forall_mem_cons.mpr ⟨cfX9_54 (m_X9_fail l) (by decide), fun _ h => nomatch h⟩⟩⟩⟩)) ?_
  rintro as h k ⟨s, rfl, rfl, hw⟩
  exact ⟨rfl, fun G hG => g_X9_compile hG hw⟩
def F_X11_fault (s : St) : Option (Int32 × St) :=
  (F_X9_compile s).bind fun r1 =>
  some (r1.1, r1.2)
def ct_X11_fault : List (Nat × mj_Cs) := [(211, 0, 1, 9, 0, 0, c_X9_compile)]
theorem L_X11_fault : mj_lk ct_X11_fault 211 = some (0, 1, 9, 0, 0, c_X9_compile) := rfl
set_option maxHeartbeats 4000000 in
set_option maxRecDepth 20000 in
theorem g_X11_fault {k : Option Value → mj_H → Prop} {G : mj_K} (hG : mj_cl2 cX11_fault (TbX11 1 ((some FieldType.int)) ct_X11_fault) k G) {s : St} (hw : ok (F_X11_fault s) (fun p => k (some (.int p.1)) (mkCs p.2))) : G 0 [.ref 0] [] (mkCs s) 0 0 := by
  unfold F_X11_fault at hw
  refine mj_run hG.1 (fun pc => pc == 7) 4000 ?_
  simp only [mj_step, mj_W_s, mj_fin, List.getElem?_cons_zero, List.getElem?_cons_succ, mj_go, Nat.reduceAdd, Nat.reduceSub, Nat.reduceLT, Nat.reduceLeDiff, Nat.zero_add, Nat.reduceEqDiff, Nat.reduceBEq, ↓reduceIte, Bool.false_eq_true, List.append_nil, List.nil_append, List.cons_append, Option.toList, and_true, true_and, true_or, or_true, reduceCtorEq, List.map_nil, bI_eq0, bI_eq1, bool_ft, pk_us, vnar0, vnar1, Bool.or_false, Bool.or_true, Bool.false_or, Bool.true_or, mj_kne, eq_self, Int32.reduceLT, Int32.reduceLE, Int32.reduceAdd, Int32.reduceSub, Int32.reduceMul, not_true_eq_false, not_false_eq_true, false_implies, true_implies, D_X11_fault, mj_F_aload_n_k, mj_F_getfield_i, mj_F_invokevirtual_i, mj_F_ireturn, FT_X11, L_X11_fault, List.take_succ_cons, List.take_zero, List.drop_succ_cons, List.drop_zero, List.reverse_cons, List.reverse_nil, List.length_cons, List.length_nil, gS_C0, gCf11_2, gS_C7]
  refine c_X9_compile_in (ok_imp (ok_bind hw) ?_)
  intro p hw
  simp only [Option.toList, List.nil_append, List.cons_append, Nat.reduceSub]
  refine mj_run hG.1 (fun pc => pc == 7) 4000 ?_
  simp only [mj_step, mj_W_s, mj_fin, List.getElem?_cons_zero, List.getElem?_cons_succ, mj_go, Nat.reduceAdd, Nat.reduceSub, Nat.reduceLT, Nat.reduceLeDiff, Nat.zero_add, Nat.reduceEqDiff, Nat.reduceBEq, ↓reduceIte, Bool.false_eq_true, List.append_nil, List.nil_append, List.cons_append, Option.toList, and_true, true_and, true_or, or_true, reduceCtorEq, List.map_nil, bI_eq0, bI_eq1, bool_ft, pk_us, vnar0, vnar1, Bool.or_false, Bool.or_true, Bool.false_or, Bool.true_or, mj_kne, eq_self, Int32.reduceLT, Int32.reduceLE, Int32.reduceAdd, Int32.reduceSub, Int32.reduceMul, not_true_eq_false, not_false_eq_true, false_implies, true_implies, D_X11_fault, mj_F_aload_n_k, mj_F_getfield_i, mj_F_invokevirtual_i, mj_F_ireturn, FT_X11, L_X11_fault, List.take_succ_cons, List.take_zero, List.drop_succ_cons, List.drop_zero, List.reverse_cons, List.reverse_nil, List.length_cons, List.length_nil, gS_C0, gCf11_2, gS_C7]
  exact (ok_some hw :)

def c_X11_fault : mj_S := fun as h k => ∃ (s : St), as = [.ref 0] ∧ h = mkCs s ∧ ok (F_X11_fault s) (fun p => k (some (.int p.1)) (mkCs p.2))
theorem c_X11_fault_in {s : St} {k : Option Value → mj_H → Prop} (hw : ok (F_X11_fault s) (fun p => k (some (.int p.1)) (mkCs p.2))) : c_X11_fault [.ref 0] (mkCs s) k := ⟨s, rfl, rfl, hw⟩
theorem m_X11_fault (l : Launch) : mj_Met l yX11_fault cX11_fault 1 ((some FieldType.int)) 70 0 0 c_X11_fault := by
  refine mj_body2 false (TbX11 1 ((some FieldType.int)) ct_X11_fault) (by decide) rfl rfl (fun h => nomatch h) (tfX11 _ (List.forall_mem_cons.mpr ⟨cfX11_211 (m_X9_compile l) (by decide), fun _ h => nomatch h⟩)) ?_
  rintro as h k ⟨s, rfl, rfl, hw⟩
  exact ⟨rfl, fun G hG => g_X11_fault hG hw⟩
def F_X11_worth (v1 : Int32) (v2 : Int32) (v3 : Int32) (v4 : Int32) (v5 : Int32) (v6 : Int32) (v7 : Int32) (v8 : Int32) (s : St) : Option (Int32 × St) :=
  (F_X0_labelOf v4).bind fun r1 =>
  if inb v1 0 3 = false then
    some ((-2000000), s)
  else
    if inb v2 0 11 = false then
      some ((-2000000), s)
    else
      (F_X11_isPast v3 s).bind fun r2 =>
      if r2 = 0 then
        some ((-2000000), s)
      else
        if r1 = (-1) then
          some ((-2000000), s)
        else
          (F_X0_spell v5 v6 v7 v8 s).bind fun s3 =>
          (F_X0_worthOf r1 v1 v2 v3 0 s3).bind fun r4 =>
          some (r4.1, r4.2)
theorem J_X11_worth : mj_t 11 24 = 35 ∧ mj_t 18 17 = 35 ∧ mj_t 26 9 = 35 ∧ mj_t 32 6 = 38 ∧ (0 ≤ ((11 : Nat) : Int) + 24) = True ∧ (0 ≤ ((18 : Nat) : Int) + 17) = True ∧ (0 ≤ ((26 : Nat) : Int) + 9) = True ∧ (0 ≤ ((32 : Nat) : Int) + 6) = True := by and_intros <;> first | rfl | exact eq_true (by decide)
def ct_X11_worth : List (Nat × mj_Cs) := [(131, 2, 1, 11, 0, 0, c_isShire), (141, 2, 1, 11, 0, 0, c_isYear), (148, 0, 2, 11, 0, 0, c_X11_isPast), (222, 2, 1, 0, 0, 0, c_X0_labelOf), (226, 0, 5, 0, 0, 0, c_X0_spell), (229, 0, 6, 0, 0, 0, c_X0_worthOf)]
theorem L_X11_worth : mj_lk ct_X11_worth 131 = some (2, 1, 11, 0, 0, c_isShire) ∧ mj_lk ct_X11_worth 141 = some (2, 1, 11, 0, 0, c_isYear) ∧ mj_lk ct_X11_worth 148 = some (0, 2, 11, 0, 0, c_X11_isPast) ∧ mj_lk ct_X11_worth 222 = some (2, 1, 0, 0, 0, c_X0_labelOf) ∧ mj_lk ct_X11_worth 226 = some (0, 5, 0, 0, 0, c_X0_spell) ∧ mj_lk ct_X11_worth 229 = some (0, 6, 0, 0, 0, c_X0_worthOf) := ⟨rfl, rfl, rfl, rfl, rfl, rfl⟩
set_option maxHeartbeats 4000000 in
set_option maxRecDepth 20000 in
theorem g_X11_worth {k : Option Value → mj_H → Prop} {G : mj_K} (hG : mj_cl2 cX11_worth (TbX11 10 ((some FieldType.int)) ct_X11_worth) k G) {v1 : Int32} {v2 : Int32} {v3 : Int32} {v4 : Int32} {v5 : Int32} {v6 : Int32} {v7 : Int32} {v8 : Int32} {s : St} (hw : ok (F_X11_worth v1 v2 v3 v4 v5 v6 v7 v8 s) (fun p => k (some (.int p.1)) (mkCs p.2))) : G 0 [.ref 0, .int v1, .int v2, .int v3, .int v4, .int v5, .int v6, .int v7, .int v8] [] (mkCs s) 0 0 := by
  unfold F_X11_worth at hw
  refine mj_run hG.1 (fun pc => pc == 5 || pc == 26 || pc == 53 || pc == 66) 4000 ?_
  simp only [mj_step, mj_W_s, mj_fin, List.getElem?_cons_zero, List.getElem?_cons_succ, mj_go, Nat.reduceAdd, Nat.reduceSub, Nat.reduceLT, Nat.reduceLeDiff, Nat.zero_add, Nat.reduceEqDiff, Nat.reduceBEq, ↓reduceIte, Bool.false_eq_true, List.append_nil, List.nil_append, List.cons_append, Option.toList, and_true, true_and, true_or, or_true, reduceCtorEq, List.map_nil, bI_eq0, bI_eq1, bool_ft, pk_us, vnar0, vnar1, Bool.or_false, Bool.or_true, Bool.false_or, Bool.true_or, mj_kne, eq_self, Int32.reduceLT, Int32.reduceLE, Int32.reduceAdd, Int32.reduceSub, Int32.reduceMul, not_true_eq_false, not_false_eq_true, false_implies, true_implies, D_X11_worth, mj_F_aload_n_k, mj_F_getfield_i, mj_F_iconst_n, mj_F_ifCond_eq_off, mj_F_if_icmp_ne_off, mj_F_iload_k, mj_F_iload_n_k, mj_F_invokestatic_i, mj_F_invokevirtual_i, mj_F_ireturn, mj_F_istore_k, mj_F_ldc_i, mj_set, mj_set0, mj_unk, mj_c2, mj_kc, FT_X11, KT_X11, L_X11_worth, List.take_succ_cons, List.take_zero, List.drop_succ_cons, List.drop_zero, List.reverse_cons, List.reverse_nil, List.length_cons, List.length_nil, gS_C0, gCf11_3, c_isShire_eq, c_isYear_eq, gS_C11, J_X11_worth]
  refine c_X0_labelOf_in (ok_imp (ok_bind hw) ?_)
  intro p hw
  simp only [Option.toList, List.nil_append, List.cons_append, Nat.reduceSub]
  refine mj_run hG.1 (fun pc => pc == 5 || pc == 26 || pc == 53 || pc == 66) 4000 ?_
  simp only [mj_step, mj_W_s, mj_fin, List.getElem?_cons_zero, List.getElem?_cons_succ, mj_go, Nat.reduceAdd, Nat.reduceSub, Nat.reduceLT, Nat.reduceLeDiff, Nat.zero_add, Nat.reduceEqDiff, Nat.reduceBEq, ↓reduceIte, Bool.false_eq_true, List.append_nil, List.nil_append, List.cons_append, Option.toList, and_true, true_and, true_or, or_true, reduceCtorEq, List.map_nil, bI_eq0, bI_eq1, bool_ft, pk_us, vnar0, vnar1, Bool.or_false, Bool.or_true, Bool.false_or, Bool.true_or, mj_kne, eq_self, Int32.reduceLT, Int32.reduceLE, Int32.reduceAdd, Int32.reduceSub, Int32.reduceMul, not_true_eq_false, not_false_eq_true, false_implies, true_implies, D_X11_worth, mj_F_aload_n_k, mj_F_getfield_i, mj_F_iconst_n, mj_F_ifCond_eq_off, mj_F_if_icmp_ne_off, mj_F_iload_k, mj_F_iload_n_k, mj_F_invokestatic_i, mj_F_invokevirtual_i, mj_F_ireturn, mj_F_istore_k, mj_F_ldc_i, mj_set, mj_set0, mj_unk, mj_c2, mj_kc, FT_X11, KT_X11, L_X11_worth, List.take_succ_cons, List.take_zero, List.drop_succ_cons, List.drop_zero, List.reverse_cons, List.reverse_nil, List.length_cons, List.length_nil, gS_C0, gCf11_3, c_isShire_eq, c_isYear_eq, gS_C11, J_X11_worth]
  refine ⟨fun c => ?_, fun c => ?_⟩
  · replace hw := ok_t hw c
    exact (ok_some hw :)
  · replace hw := ok_f hw c
    refine ⟨fun c => ?_, fun c => ?_⟩
    · replace hw := ok_t hw c
      exact (ok_some hw :)
    · replace hw := ok_f hw c
      refine c_X11_isPast_in (ok_imp (ok_bind hw) ?_)
      intro p hw
      simp only [Option.toList, List.nil_append, List.cons_append, Nat.reduceSub]
      refine mj_run hG.1 (fun pc => pc == 5 || pc == 26 || pc == 53 || pc == 66) 4000 ?_
      simp only [mj_step, mj_W_s, mj_fin, List.getElem?_cons_zero, List.getElem?_cons_succ, mj_go, Nat.reduceAdd, Nat.reduceSub, Nat.reduceLT, Nat.reduceLeDiff, Nat.zero_add, Nat.reduceEqDiff, Nat.reduceBEq, ↓reduceIte, Bool.false_eq_true, List.append_nil, List.nil_append, List.cons_append, Option.toList, and_true, true_and, true_or, or_true, reduceCtorEq, List.map_nil, bI_eq0, bI_eq1, bool_ft, pk_us, vnar0, vnar1, Bool.or_false, Bool.or_true, Bool.false_or, Bool.true_or, mj_kne, eq_self, Int32.reduceLT, Int32.reduceLE, Int32.reduceAdd, Int32.reduceSub, Int32.reduceMul, not_true_eq_false, not_false_eq_true, false_implies, true_implies, D_X11_worth, mj_F_aload_n_k, mj_F_getfield_i, mj_F_iconst_n, mj_F_ifCond_eq_off, mj_F_if_icmp_ne_off, mj_F_iload_k, mj_F_iload_n_k, mj_F_invokestatic_i, mj_F_invokevirtual_i, mj_F_ireturn, mj_F_istore_k, mj_F_ldc_i, mj_set, mj_set0, mj_unk, mj_c2, mj_kc, FT_X11, KT_X11, L_X11_worth, List.take_succ_cons, List.take_zero, List.drop_succ_cons, List.drop_zero, List.reverse_cons, List.reverse_nil, List.length_cons, List.length_nil, gS_C0, gCf11_3, c_isShire_eq, c_isYear_eq, gS_C11, J_X11_worth]
      refine ⟨fun c => ?_, fun c => ?_⟩
      · replace hw := ok_t hw c
        exact (ok_some hw :)
      · replace hw := ok_f hw c
        refine ⟨fun c => ?_, fun c => ?_⟩
        · replace hw := ok_f hw c
          refine c_X0_spell_in (ok_imp (ok_bind hw) ?_)
          intro p hw
          simp only [Option.toList, List.nil_append, List.cons_append, Nat.reduceSub]
          refine mj_run hG.1 (fun pc => pc == 5 || pc == 26 || pc == 53 || pc == 66) 4000 ?_
          simp only [mj_step, mj_W_s, mj_fin, List.getElem?_cons_zero, List.getElem?_cons_succ, mj_go, Nat.reduceAdd, Nat.reduceSub, Nat.reduceLT, Nat.reduceLeDiff, Nat.zero_add, Nat.reduceEqDiff, Nat.reduceBEq, ↓reduceIte, Bool.false_eq_true, List.append_nil, List.nil_append, List.cons_append, Option.toList, and_true, true_and, true_or, or_true, reduceCtorEq, List.map_nil, bI_eq0, bI_eq1, bool_ft, pk_us, vnar0, vnar1, Bool.or_false, Bool.or_true, Bool.false_or, Bool.true_or, mj_kne, eq_self, Int32.reduceLT, Int32.reduceLE, Int32.reduceAdd, Int32.reduceSub, Int32.reduceMul, not_true_eq_false, not_false_eq_true, false_implies, true_implies, D_X11_worth, mj_F_aload_n_k, mj_F_getfield_i, mj_F_iconst_n, mj_F_ifCond_eq_off, mj_F_if_icmp_ne_off, mj_F_iload_k, mj_F_iload_n_k, mj_F_invokestatic_i, mj_F_invokevirtual_i, mj_F_ireturn, mj_F_istore_k, mj_F_ldc_i, mj_set, mj_set0, mj_unk, mj_c2, mj_kc, FT_X11, KT_X11, L_X11_worth, List.take_succ_cons, List.take_zero, List.drop_succ_cons, List.drop_zero, List.reverse_cons, List.reverse_nil, List.length_cons, List.length_nil, gS_C0, gCf11_3, c_isShire_eq, c_isYear_eq, gS_C11, J_X11_worth]
          refine c_X0_worthOf_in (ok_imp (ok_bind hw) ?_)
          intro p hw
          simp only [Option.toList, List.nil_append, List.cons_append, Nat.reduceSub]
          refine mj_run hG.1 (fun pc => pc == 5 || pc == 26 || pc == 53 || pc == 66) 4000 ?_
          simp only [mj_step, mj_W_s, mj_fin, List.getElem?_cons_zero, List.getElem?_cons_succ, mj_go, Nat.reduceAdd, Nat.reduceSub, Nat.reduceLT, Nat.reduceLeDiff, Nat.zero_add, Nat.reduceEqDiff, Nat.reduceBEq, ↓reduceIte, Bool.false_eq_true, List.append_nil, List.nil_append, List.cons_append, Option.toList, and_true, true_and, true_or, or_true, reduceCtorEq, List.map_nil, bI_eq0, bI_eq1, bool_ft, pk_us, vnar0, vnar1, Bool.or_false, Bool.or_true, Bool.false_or, Bool.true_or, mj_kne, eq_self, Int32.reduceLT, Int32.reduceLE, Int32.reduceAdd, Int32.reduceSub, Int32.reduceMul, not_true_eq_false, not_false_eq_true, false_implies, true_implies, D_X11_worth, mj_F_aload_n_k, mj_F_getfield_i, mj_F_iconst_n, mj_F_ifCond_eq_off, mj_F_if_icmp_ne_off, mj_F_iload_k, mj_F_iload_n_k, mj_F_invokestatic_i, mj_F_invokevirtual_i, mj_F_ireturn, mj_F_istore_k, mj_F_ldc_i, mj_set, mj_set0, mj_unk, mj_c2, mj_kc, FT_X11, KT_X11, L_X11_worth, List.take_succ_cons, List.take_zero, List.drop_succ_cons, List.drop_zero, List.reverse_cons, List.reverse_nil, List.length_cons, List.length_nil, gS_C0, gCf11_3, c_isShire_eq, c_isYear_eq, gS_C11, J_X11_worth]
          exact (ok_some hw :)
        · replace hw := ok_t hw c
          exact (ok_some hw :)

def c_X11_worth : mj_S := fun as h k => ∃ (v1 : Int32) (v2 : Int32) (v3 : Int32) (v4 : Int32) (v5 : Int32) (v6 : Int32) (v7 : Int32) (v8 : Int32) (s : St), as = [.ref 0, .int v1, .int v2, .int v3, .int v4, .int v5, .int v6, .int v7, .int v8] ∧ h = mkCs s ∧ ok (F_X11_worth v1 v2 v3 v4 v5 v6 v7 v8 s) (fun p => k (some (.int p.1)) (mkCs p.2))
theorem c_X11_worth_in {v1 : Int32} {v2 : Int32} {v3 : Int32} {v4 : Int32} {v5 : Int32} {v6 : Int32} {v7 : Int32} {v8 : Int32} {s : St} {k : Option Value → mj_H → Prop} (hw : ok (F_X11_worth v1 v2 v3 v4 v5 v6 v7 v8 s) (fun p => k (some (.int p.1)) (mkCs p.2))) : c_X11_worth [.ref 0, .int v1, .int v2, .int v3, .int v4, .int v5, .int v6, .int v7, .int v8] (mkCs s) k := ⟨v1, v2, v3, v4, v5, v6, v7, v8, s, rfl, rfl, hw⟩
theorem m_X11_worth (l : Launch) : mj_Met l yX11_worth cX11_worth 10 ((some FieldType.int)) 4 0 0 c_X11_worth := by
  refine mj_body2 false (TbX11 10 ((some FieldType.int)) ct_X11_worth) (by decide) rfl rfl (fun h => nomatch h) (tfX11 _ (List.forall_mem_cons.mpr ⟨cfX11_131 (m_X11_isShire l) (by decide), List.forall_mem_cons.mpr ⟨cfX11_141 (m_X11_isYear l) (by decide), List.forall_mem_cons.mpr ⟨cfX11_148 (m_X11_isPast l) (by decide), List.forall_mem_cons.mpr ⟨cfX11_222 (m_X0_labelOf l) (by decide), List.forall_mem_cons.mpr ⟨cfX11_226 (m_X0_spell l) (by decide), List.forall_mem_cons.mpr ⟨cfX11_229 (m_X0_worthOf l) (by decide), fun _ h => nomatch h⟩⟩⟩⟩⟩⟩)) ?_
  rintro as h k ⟨v1, v2, v3, v4, v5, v6, v7, v8, s, rfl, rfl, hw⟩
  exact ⟨rfl, fun G hG => g_X11_worth hG hw⟩
