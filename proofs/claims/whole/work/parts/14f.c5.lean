/-! functional pictures, and that the bytecode keeps them (c5) -/
def F_X10_lacking (v1 : Int32) (v2 : Int32) (s : St) : Option (Int32 × St) :=
  (rd s 508 20 v1).bind fun x1 =>
  if x1 = (-1) then
    (F_X10_lowestNeed v1 s).bind fun r2 =>
    if r2 = (-1) then
      (F_X10_gaveEnough v1 v2 s).bind fun r3 =>
      if r3.1 = 0 then
        some (5, r3.2)
      else
        some ((-1), r3.2)
    else
      some (r2, s)
  else
    some ((-1), s)
theorem J_X10_lacking : mj_t 10 5 = 15 ∧ mj_t 23 5 = 28 ∧ mj_t 34 7 = 41 ∧ mj_t 38 4 = 42 ∧ (0 ≤ ((10 : Nat) : Int) + 5) = True ∧ (0 ≤ ((23 : Nat) : Int) + 5) = True ∧ (0 ≤ ((34 : Nat) : Int) + 7) = True ∧ (0 ≤ ((38 : Nat) : Int) + 4) = True := by and_intros <;> first | rfl | exact eq_true (by decide)
def ct_X10_lacking : List (Nat × mj_Cs) := [(95, 0, 2, 10, 0, 0, c_X10_lowestNeed), (99, 0, 3, 10, 0, 0, c_X10_gaveEnough)]
theorem L_X10_lacking : mj_lk ct_X10_lacking 95 = some (0, 2, 10, 0, 0, c_X10_lowestNeed) ∧ mj_lk ct_X10_lacking 99 = some (0, 3, 10, 0, 0, c_X10_gaveEnough) := ⟨rfl, rfl⟩
set_option maxHeartbeats 4000000 in
set_option maxRecDepth 20000 in
theorem g_X10_lacking {k : Option Value → mj_H → Prop} {G : mj_K} (hG : mj_cl2 cX10_lacking (TbX10 4 ((some FieldType.int)) ct_X10_lacking) k G) {v1 : Int32} {v2 : Int32} {s : St} (hw : ok (F_X10_lacking v1 v2 s) (fun p => k (some (.int p.1)) (mkCs p.2))) : G 0 [.ref 45, .int v1, .int v2] [] (mkCs s) 0 0 := by
  unfold F_X10_lacking at hw
  refine mj_run hG.1 (fun pc => pc == 20 || pc == 34) 4000 ?_
  simp only [mj_step, mj_W_s, mj_fin, List.getElem?_cons_zero, List.getElem?_cons_succ, mj_go, Nat.reduceAdd, Nat.reduceSub, Nat.reduceLT, Nat.reduceLeDiff, Nat.zero_add, Nat.reduceEqDiff, Nat.reduceBEq, ↓reduceIte, Bool.false_eq_true, List.append_nil, List.nil_append, List.cons_append, Option.toList, and_true, true_and, true_or, or_true, reduceCtorEq, List.map_nil, bI_eq0, bI_eq1, bool_ft, pk_us, vnar0, vnar1, Bool.or_false, Bool.or_true, Bool.false_or, Bool.true_or, mj_kne, eq_self, Int32.reduceLT, Int32.reduceLE, Int32.reduceAdd, Int32.reduceSub, Int32.reduceMul, not_true_eq_false, not_false_eq_true, false_implies, true_implies, D_X10_lacking, mj_F_aload_n_k, mj_F_getfield_i, mj_F_goto_off, mj_F_iaload, mj_F_iconst_n, mj_F_ifCond_eq_off, mj_F_if_icmp_eq_off, mj_F_iload_n_k, mj_F_invokevirtual_i, mj_F_ireturn, mj_F_istore_n_k, mj_set, mj_set0, mj_unk, mj_c2, mj_kc, FT_X10, L_X10_lacking, List.take_succ_cons, List.take_zero, List.drop_succ_cons, List.drop_zero, List.reverse_cons, List.reverse_nil, List.length_cons, List.length_nil, gS_C45, gCf10_3, gS_C35, gCf5_8, gS_C42, sS_Ca_42, J_X10_lacking]
  refine ⟨(ok_rd hw).1, ?_⟩
  replace hw := (ok_rd hw).2
  refine ⟨fun c => ?_, fun c => ?_⟩
  · replace hw := ok_t hw c
    refine c_X10_lowestNeed_in (ok_imp (ok_bind hw) ?_)
    intro p hw
    simp only [Option.toList, List.nil_append, List.cons_append, Nat.reduceSub]
    refine mj_run hG.1 (fun pc => pc == 20 || pc == 34) 4000 ?_
    simp only [mj_step, mj_W_s, mj_fin, List.getElem?_cons_zero, List.getElem?_cons_succ, mj_go, Nat.reduceAdd, Nat.reduceSub, Nat.reduceLT, Nat.reduceLeDiff, Nat.zero_add, Nat.reduceEqDiff, Nat.reduceBEq, ↓reduceIte, Bool.false_eq_true, List.append_nil, List.nil_append, List.cons_append, Option.toList, and_true, true_and, true_or, or_true, reduceCtorEq, List.map_nil, bI_eq0, bI_eq1, bool_ft, pk_us, vnar0, vnar1, Bool.or_false, Bool.or_true, Bool.false_or, Bool.true_or, mj_kne, eq_self, Int32.reduceLT, Int32.reduceLE, Int32.reduceAdd, Int32.reduceSub, Int32.reduceMul, not_true_eq_false, not_false_eq_true, false_implies, true_implies, D_X10_lacking, mj_F_aload_n_k, mj_F_getfield_i, mj_F_goto_off, mj_F_iaload, mj_F_iconst_n, mj_F_ifCond_eq_off, mj_F_if_icmp_eq_off, mj_F_iload_n_k, mj_F_invokevirtual_i, mj_F_ireturn, mj_F_istore_n_k, mj_set, mj_set0, mj_unk, mj_c2, mj_kc, FT_X10, L_X10_lacking, List.take_succ_cons, List.take_zero, List.drop_succ_cons, List.drop_zero, List.reverse_cons, List.reverse_nil, List.length_cons, List.length_nil, gS_C45, gCf10_3, gS_C35, gCf5_8, gS_C42, sS_Ca_42, J_X10_lacking]
    refine ⟨fun c => ?_, fun c => ?_⟩
    · replace hw := ok_t hw c
      refine c_X10_gaveEnough_in (ok_imp (ok_bind hw) ?_)
      intro p hw
      simp only [Option.toList, List.nil_append, List.cons_append, Nat.reduceSub]
      refine mj_run hG.1 (fun pc => pc == 20 || pc == 34) 4000 ?_
      simp only [mj_step, mj_W_s, mj_fin, List.getElem?_cons_zero, List.getElem?_cons_succ, mj_go, Nat.reduceAdd, Nat.reduceSub, Nat.reduceLT, Nat.reduceLeDiff, Nat.zero_add, Nat.reduceEqDiff, Nat.reduceBEq, ↓reduceIte, Bool.false_eq_true, List.append_nil, List.nil_append, List.cons_append, Option.toList, and_true, true_and, true_or, or_true, reduceCtorEq, List.map_nil, bI_eq0, bI_eq1, bool_ft, pk_us, vnar0, vnar1, Bool.or_false, Bool.or_true, Bool.false_or, Bool.true_or, mj_kne, eq_self, Int32.reduceLT, Int32.reduceLE, Int32.reduceAdd, Int32.reduceSub, Int32.reduceMul, not_true_eq_false, not_false_eq_true, false_implies, true_implies, D_X10_lacking, mj_F_aload_n_k, mj_F_getfield_i, mj_F_goto_off, mj_F_iaload, mj_F_iconst_n, mj_F_ifCond_eq_off, mj_F_if_icmp_eq_off, mj_F_iload_n_k, mj_F_invokevirtual_i, mj_F_ireturn, mj_F_istore_n_k, mj_set, mj_set0, mj_unk, mj_c2, mj_kc, FT_X10, L_X10_lacking, List.take_succ_cons, List.take_zero, List.drop_succ_cons, List.drop_zero, List.reverse_cons, List.reverse_nil, List.length_cons, List.length_nil, gS_C45, gCf10_3, gS_C35, gCf5_8, gS_C42, sS_Ca_42, J_X10_lacking]
      refine ⟨fun c => ?_, fun c => ?_⟩
      · replace hw := ok_t hw c
        exact (ok_some hw :)
      · replace hw := ok_f hw c
        exact (ok_some hw :)
    · replace hw := ok_f hw c
      exact (ok_some hw :)
  · replace hw := ok_f hw c
    exact (ok_some hw :)

def c_X10_lacking : mj_S := fun as h k => ∃ (v1 : Int32) (v2 : Int32) (s : St), as = [.ref 45, .int v1, .int v2] ∧ h = mkCs s ∧ ok (F_X10_lacking v1 v2 s) (fun p => k (some (.int p.1)) (mkCs p.2))
theorem c_X10_lacking_in {v1 : Int32} {v2 : Int32} {s : St} {k : Option Value → mj_H → Prop} (hw : ok (F_X10_lacking v1 v2 s) (fun p => k (some (.int p.1)) (mkCs p.2))) : c_X10_lacking [.ref 45, .int v1, .int v2] (mkCs s) k := ⟨v1, v2, s, rfl, rfl, hw⟩
theorem m_X10_lacking (l : Launch) : mj_Met l yX10_lacking cX10_lacking 4 ((some FieldType.int)) 5 0 0 c_X10_lacking := by
  refine mj_body2 false (TbX10 4 ((some FieldType.int)) ct_X10_lacking) (by decide) rfl rfl (fun h => nomatch h) (tfX10 _ (List.forall_mem_cons.mpr ⟨cfX10_95 (m_X10_lowestNeed l) (by decide), List.forall_mem_cons.mpr ⟨cfX10_99 (m_X10_gaveEnough l) (by decide), fun _ h => nomatch h⟩⟩)) ?_
  rintro as h k ⟨v1, v2, s, rfl, rfl, hw⟩
  exact ⟨rfl, fun G hG => g_X10_lacking hG hw⟩
def F_X11_lack (v1 : Int32) (s : St) : Option (Int32 × St) :=
  (F_X11_isSchool v1 s).bind fun r1 =>
  if r1 = 0 then
    some ((-1), s)
  else
    (F_X10_lacking v1 (s.1 1100) s).bind fun r2 =>
    some (r2.1, r2.2)
theorem J_X11_lack : mj_t 5 18 = 23 ∧ mj_t 20 4 = 24 ∧ (0 ≤ ((5 : Nat) : Int) + 18) = True ∧ (0 ≤ ((20 : Nat) : Int) + 4) = True := by and_intros <;> first | rfl | exact eq_true (by decide)
def ct_X11_lack : List (Nat × mj_Cs) := [(165, 0, 2, 11, 0, 0, c_X11_isSchool), (317, 0, 3, 10, 0, 0, c_X10_lacking)]
theorem L_X11_lack : mj_lk ct_X11_lack 165 = some (0, 2, 11, 0, 0, c_X11_isSchool) ∧ mj_lk ct_X11_lack 317 = some (0, 3, 10, 0, 0, c_X10_lacking) := ⟨rfl, rfl⟩
set_option maxHeartbeats 4000000 in
set_option maxRecDepth 20000 in
theorem g_X11_lack {k : Option Value → mj_H → Prop} {G : mj_K} (hG : mj_cl2 cX11_lack (TbX11 2 ((some FieldType.int)) ct_X11_lack) k G) {v1 : Int32} {s : St} (hw : ok (F_X11_lack v1 s) (fun p => k (some (.int p.1)) (mkCs p.2))) : G 0 [.ref 0, .int v1] [] (mkCs s) 0 0 := by
  unfold F_X11_lack at hw
  refine mj_run hG.1 (fun pc => pc == 5 || pc == 20) 4000 ?_
  simp only [mj_step, mj_W_s, mj_fin, List.getElem?_cons_zero, List.getElem?_cons_succ, mj_go, Nat.reduceAdd, Nat.reduceSub, Nat.reduceLT, Nat.reduceLeDiff, Nat.zero_add, Nat.reduceEqDiff, Nat.reduceBEq, ↓reduceIte, Bool.false_eq_true, List.append_nil, List.nil_append, List.cons_append, Option.toList, and_true, true_and, true_or, or_true, reduceCtorEq, List.map_nil, bI_eq0, bI_eq1, bool_ft, pk_us, vnar0, vnar1, Bool.or_false, Bool.or_true, Bool.false_or, Bool.true_or, mj_kne, eq_self, Int32.reduceLT, Int32.reduceLE, Int32.reduceAdd, Int32.reduceSub, Int32.reduceMul, not_true_eq_false, not_false_eq_true, false_implies, true_implies, D_X11_lack, mj_F_aload_n_k, mj_F_getfield_i, mj_F_goto_off, mj_F_iconst_n, mj_F_ifCond_eq_off, mj_F_iload_n_k, mj_F_invokevirtual_i, mj_F_ireturn, mj_kc, FT_X11, L_X11_lack, List.take_succ_cons, List.take_zero, List.drop_succ_cons, List.drop_zero, List.reverse_cons, List.reverse_nil, List.length_cons, List.length_nil, gS_C0, gCf11_6, gCf11_0, gS_C45, J_X11_lack]
  refine c_X11_isSchool_in (ok_imp (ok_bind hw) ?_)
  intro p hw
  simp only [Option.toList, List.nil_append, List.cons_append, Nat.reduceSub]
  refine mj_run hG.1 (fun pc => pc == 5 || pc == 20) 4000 ?_
  simp only [mj_step, mj_W_s, mj_fin, List.getElem?_cons_zero, List.getElem?_cons_succ, mj_go, Nat.reduceAdd, Nat.reduceSub, Nat.reduceLT, Nat.reduceLeDiff, Nat.zero_add, Nat.reduceEqDiff, Nat.reduceBEq, ↓reduceIte, Bool.false_eq_true, List.append_nil, List.nil_append, List.cons_append, Option.toList, and_true, true_and, true_or, or_true, reduceCtorEq, List.map_nil, bI_eq0, bI_eq1, bool_ft, pk_us, vnar0, vnar1, Bool.or_false, Bool.or_true, Bool.false_or, Bool.true_or, mj_kne, eq_self, Int32.reduceLT, Int32.reduceLE, Int32.reduceAdd, Int32.reduceSub, Int32.reduceMul, not_true_eq_false, not_false_eq_true, false_implies, true_implies, D_X11_lack, mj_F_aload_n_k, mj_F_getfield_i, mj_F_goto_off, mj_F_iconst_n, mj_F_ifCond_eq_off, mj_F_iload_n_k, mj_F_invokevirtual_i, mj_F_ireturn, mj_kc, FT_X11, L_X11_lack, List.take_succ_cons, List.take_zero, List.drop_succ_cons, List.drop_zero, List.reverse_cons, List.reverse_nil, List.length_cons, List.length_nil, gS_C0, gCf11_6, gCf11_0, gS_C45, J_X11_lack]
  refine ⟨fun c => ?_, fun c => ?_⟩
  · replace hw := ok_t hw c
    exact (ok_some hw :)
  · replace hw := ok_f hw c
    refine c_X10_lacking_in (ok_imp (ok_bind hw) ?_)
    intro p hw
    simp only [Option.toList, List.nil_append, List.cons_append, Nat.reduceSub]
    refine mj_run hG.1 (fun pc => pc == 5 || pc == 20) 4000 ?_
    simp only [mj_step, mj_W_s, mj_fin, List.getElem?_cons_zero, List.getElem?_cons_succ, mj_go, Nat.reduceAdd, Nat.reduceSub, Nat.reduceLT, Nat.reduceLeDiff, Nat.zero_add, Nat.reduceEqDiff, Nat.reduceBEq, ↓reduceIte, Bool.false_eq_true, List.append_nil, List.nil_append, List.cons_append, Option.toList, and_true, true_and, true_or, or_true, reduceCtorEq, List.map_nil, bI_eq0, bI_eq1, bool_ft, pk_us, vnar0, vnar1, Bool.or_false, Bool.or_true, Bool.false_or, Bool.true_or, mj_kne, eq_self, Int32.reduceLT, Int32.reduceLE, Int32.reduceAdd, Int32.reduceSub, Int32.reduceMul, not_true_eq_false, not_false_eq_true, false_implies, true_implies, D_X11_lack, mj_F_aload_n_k, mj_F_getfield_i, mj_F_goto_off, mj_F_iconst_n, mj_F_ifCond_eq_off, mj_F_iload_n_k, mj_F_invokevirtual_i, mj_F_ireturn, mj_kc, FT_X11, L_X11_lack, List.take_succ_cons, List.take_zero, List.drop_succ_cons, List.drop_zero, List.reverse_cons, List.reverse_nil, List.length_cons, List.length_nil, gS_C0, gCf11_6, gCf11_0, gS_C45, J_X11_lack]
    exact (ok_some hw :)

def c_X11_lack : mj_S := fun as h k => ∃ (v1 : Int32) (s : St), as = [.ref 0, .int v1] ∧ h = mkCs s ∧ ok (F_X11_lack v1 s) (fun p => k (some (.int p.1)) (mkCs p.2))
theorem c_X11_lack_in {v1 : Int32} {s : St} {k : Option Value → mj_H → Prop} (hw : ok (F_X11_lack v1 s) (fun p => k (some (.int p.1)) (mkCs p.2))) : c_X11_lack [.ref 0, .int v1] (mkCs s) k := ⟨v1, s, rfl, rfl, hw⟩
theorem m_X11_lack (l : Launch) : mj_Met l yX11_lack cX11_lack 2 ((some FieldType.int)) 6 0 0 c_X11_lack := by
  refine mj_body2 false (TbX11 2 ((some FieldType.int)) ct_X11_lack) (by decide) rfl rfl (fun h => nomatch h) (tfX11 _ (List.forall_mem_cons.mpr ⟨cfX11_165 (m_X11_isSchool l) (by decide), List.forall_mem_cons.mpr ⟨cfX11_317 (m_X10_lacking l) (by decide), fun _ h => nomatch h⟩⟩)) ?_
  rintro as h k ⟨v1, s, rfl, rfl, hw⟩
  exact ⟨rfl, fun G hG => g_X11_lack hG hw⟩
def F_X8_enrol (v1 : Int32) (v2 : Int32) (v3 : Int32) (v4 : Int32) (v5 : Int32) (s : St) : Option (Int32 × St) :=
  if (s.1 802) < 40 then
    (wr s 803 40 (s.1 802) v1).bind fun s1 =>
    (wr s1 804 40 (s1.1 802) v2).bind fun s2 =>
    (wr s2 805 40 (s2.1 802) v3).bind fun s3 =>
    (wr s3 806 40 (s3.1 802) v4).bind fun s4 =>
    (wr s4 807 40 (s4.1 802) v5).bind fun s5 =>
    (wI s5 802 ((s5.1 802) + 1)).bind fun s6 =>
    some (((s6.1 802) - 1), s6)
  else
    some ((-1), s)
theorem J_X8_enrol : mj_t 6 5 = 11 ∧ (0 ≤ ((6 : Nat) : Int) + 5) = True := by and_intros <;> first | rfl | exact eq_true (by decide)
set_option maxHeartbeats 4000000 in
set_option maxRecDepth 20000 in
theorem g_X8_enrol {k : Option Value → mj_H → Prop} {G : mj_K} (hG : mj_cl2 cX8_enrol (TbX8 6 ((some FieldType.int)) []) k G) {v1 : Int32} {v2 : Int32} {v3 : Int32} {v4 : Int32} {v5 : Int32} {s : St} (hw : ok (F_X8_enrol v1 v2 v3 v4 v5 s) (fun p => k (some (.int p.1)) (mkCs p.2))) : G 0 [.ref 64, .int v1, .int v2, .int v3, .int v4, .int v5] [] (mkCs s) 0 0 := by
  unfold F_X8_enrol at hw
  refine mj_run hG.1 (fun _ => false) 4000 ?_
  simp only [mj_step, mj_W_s, mj_fin, List.getElem?_cons_zero, List.getElem?_cons_succ, mj_go, Nat.reduceAdd, Nat.reduceSub, Nat.reduceLT, Nat.reduceLeDiff, Nat.zero_add, Nat.reduceEqDiff, Nat.reduceBEq, ↓reduceIte, Bool.false_eq_true, List.append_nil, List.nil_append, List.cons_append, Option.toList, and_true, true_and, true_or, or_true, reduceCtorEq, List.map_nil, bI_eq0, bI_eq1, bool_ft, pk_us, vnar0, vnar1, Bool.or_false, Bool.or_true, Bool.false_or, Bool.true_or, mj_kne, eq_self, Int32.reduceLT, Int32.reduceLE, Int32.reduceAdd, Int32.reduceSub, Int32.reduceMul, not_true_eq_false, not_false_eq_true, false_implies, true_implies, D_X8_enrol, mj_F_aload_n_k, mj_F_bipush_n, mj_F_dup, mj_F_getfield_i, mj_F_iadd, mj_F_iastore, mj_F_iconst_n, mj_F_if_icmp_lt_off, mj_F_iload_k, mj_F_iload_n_k, mj_F_ireturn, mj_F_isub, mj_F_putfield_i, mj_c2, mj_kc, FT_X8, PT_X8, gS_C64, gCf8_2, gCf8_3, gS_C65, sS_Ca_65, gCf8_4, gS_C66, sS_Ca_66, gCf8_5, gS_C67, sS_Ca_67, gCf8_6, gS_C68, sS_Ca_68, gCf8_7, gS_C69, sS_Ca_69, sS_Cf_8_2, gCf8len, J_X8_enrol]
  refine ⟨fun c => ?_, fun c => ?_⟩
  · replace hw := ok_t hw c
    refine ⟨(ok_wr hw).1, ?_⟩
    replace hw := (ok_wr hw).2
    refine ⟨(ok_wr hw).1, ?_⟩
    replace hw := (ok_wr hw).2
    refine ⟨(ok_wr hw).1, ?_⟩
    replace hw := (ok_wr hw).2
    refine ⟨(ok_wr hw).1, ?_⟩
    replace hw := (ok_wr hw).2
    refine ⟨(ok_wr hw).1, ?_⟩
    replace hw := (ok_wr hw).2
    replace hw := ok_wI hw
    exact (ok_some hw :)
  · replace hw := ok_f hw c
    exact (ok_some hw :)

def c_X8_enrol : mj_S := fun as h k => ∃ (v1 : Int32) (v2 : Int32) (v3 : Int32) (v4 : Int32) (v5 : Int32) (s : St), as = [.ref 64, .int v1, .int v2, .int v3, .int v4, .int v5] ∧ h = mkCs s ∧ ok (F_X8_enrol v1 v2 v3 v4 v5 s) (fun p => k (some (.int p.1)) (mkCs p.2))
theorem c_X8_enrol_in {v1 : Int32} {v2 : Int32} {v3 : Int32} {v4 : Int32} {v5 : Int32} {s : St} {k : Option Value → mj_H → Prop} (hw : ok (F_X8_enrol v1 v2 v3 v4 v5 s) (fun p => k (some (.int p.1)) (mkCs p.2))) : c_X8_enrol [.ref 64, .int v1, .int v2, .int v3, .int v4, .int v5] (mkCs s) k := ⟨v1, v2, v3, v4, v5, s, rfl, rfl, hw⟩
theorem m_X8_enrol (l : Launch) : mj_Met l yX8_enrol cX8_enrol 6 ((some FieldType.int)) 0 0 0 c_X8_enrol := by
  refine mj_body2 false (TbX8 6 ((some FieldType.int)) []) (by decide) rfl rfl (fun h => nomatch h) (tfX8 _ (fun _ h => nomatch h)) ?_
  rintro as h k ⟨v1, v2, v3, v4, v5, s, rfl, rfl, hw⟩
  exact ⟨rfl, fun G hG => g_X8_enrol hG hw⟩
def F_X11_teacher (v1 : Int32) (v2 : Int32) (v3 : Int32) (v4 : Int32) (s : St) : Option (Int32 × St) :=
  if inb v1 0 11 = false then
    some ((-1), s)
  else
    if inb v2 0 9 = false then
      some ((-1), s)
    else
      if inb v3 1 255 = false then
        some ((-1), s)
      else
        if inb v4 (v1 + 1) 12 = false then
          some ((-1), s)
        else
          (F_X8_enrol v1 v2 v3 v4 (s.1 1100) s).bind fun r1 =>
          some (r1.1, r1.2)
theorem J_X11_teacher : mj_t 4 37 = 41 ∧ mj_t 14 27 = 41 ∧ mj_t 25 16 = 41 ∧ mj_t 38 5 = 43 ∧ (0 ≤ ((4 : Nat) : Int) + 37) = True ∧ (0 ≤ ((14 : Nat) : Int) + 27) = True ∧ (0 ≤ ((25 : Nat) : Int) + 16) = True ∧ (0 ≤ ((38 : Nat) : Int) + 5) = True := by and_intros <;> first | rfl | exact eq_true (by decide)
def ct_X11_teacher : List (Nat × mj_Cs) := [(96, 2, 3, 11, 0, 0, c_in), (141, 2, 1, 11, 0, 0, c_isYear), (320, 0, 6, 8, 0, 0, c_X8_enrol)]
theorem L_X11_teacher : mj_lk ct_X11_teacher 96 = some (2, 3, 11, 0, 0, c_in) ∧ mj_lk ct_X11_teacher 141 = some (2, 1, 11, 0, 0, c_isYear) ∧ mj_lk ct_X11_teacher 320 = some (0, 6, 8, 0, 0, c_X8_enrol) := ⟨rfl, rfl, rfl⟩
set_option maxHeartbeats 4000000 in
set_option maxRecDepth 20000 in
theorem g_X11_teacher {k : Option Value → mj_H → Prop} {G : mj_K} (hG : mj_cl2 cX11_teacher (TbX11 5 ((some FieldType.int)) ct_X11_teacher) k G) {v1 : Int32} {v2 : Int32} {v3 : Int32} {v4 : Int32} {s : St} (hw : ok (F_X11_teacher v1 v2 v3 v4 s) (fun p => k (some (.int p.1)) (mkCs p.2))) : G 0 [.ref 0, .int v1, .int v2, .int v3, .int v4] [] (mkCs s) 0 0 := by
  unfold F_X11_teacher at hw
  refine mj_run hG.1 (fun pc => pc == 59) 4000 ?_
  simp only [mj_step, mj_W_s, mj_fin, List.getElem?_cons_zero, List.getElem?_cons_succ, mj_go, Nat.reduceAdd, Nat.reduceSub, Nat.reduceLT, Nat.reduceLeDiff, Nat.zero_add, Nat.reduceEqDiff, Nat.reduceBEq, ↓reduceIte, Bool.false_eq_true, List.append_nil, List.nil_append, List.cons_append, Option.toList, and_true, true_and, true_or, or_true, reduceCtorEq, List.map_nil, bI_eq0, bI_eq1, bool_ft, pk_us, vnar0, vnar1, Bool.or_false, Bool.or_true, Bool.false_or, Bool.true_or, mj_kne, eq_self, Int32.reduceLT, Int32.reduceLE, Int32.reduceAdd, Int32.reduceSub, Int32.reduceMul, not_true_eq_false, not_false_eq_true, false_implies, true_implies, D_X11_teacher, mj_F_aload_n_k, mj_F_bipush_n, mj_F_getfield_i, mj_F_iadd, mj_F_iconst_n, mj_F_ifCond_eq_off, mj_F_ifCond_ne_off, mj_F_iload_k, mj_F_iload_n_k, mj_F_invokestatic_i, mj_F_invokevirtual_i, mj_F_ireturn, mj_F_sipush_n, mj_kc, FT_X11, L_X11_teacher, List.take_succ_cons, List.take_zero, List.drop_succ_cons, List.drop_zero, List.reverse_cons, List.reverse_nil, List.length_cons, List.length_nil, gS_C0, gCf11_8, gCf11_0, c_isYear_eq, c_in_eq, gS_C64, J_X11_teacher]
  refine ⟨fun c => ?_, fun c => ?_⟩
  · replace hw := ok_t hw c
    exact (ok_some hw :)
  · replace hw := ok_f hw c
    refine ⟨fun c => ?_, fun c => ?_⟩
    · replace hw := ok_t hw c
      exact (ok_some hw :)
    · replace hw := ok_f hw c
      refine ⟨fun c => ?_, fun c => ?_⟩
      · replace hw := ok_t hw c
        exact (ok_some hw :)
      · replace hw := ok_f hw c
        refine ⟨fun c => ?_, fun c => ?_⟩
        · replace hw := ok_f hw c
          refine c_X8_enrol_in (ok_imp (ok_bind hw) ?_)
          intro p hw
          simp only [Option.toList, List.nil_append, List.cons_append, Nat.reduceSub]
          refine mj_run hG.1 (fun pc => pc == 59) 4000 ?_
          simp only [mj_step, mj_W_s, mj_fin, List.getElem?_cons_zero, List.getElem?_cons_succ, mj_go, Nat.reduceAdd, Nat.reduceSub, Nat.reduceLT, Nat.reduceLeDiff, Nat.zero_add, Nat.reduceEqDiff, Nat.reduceBEq, ↓reduceIte, Bool.false_eq_true, List.append_nil, List.nil_append, List.cons_append, Option.toList, and_true, true_and, true_or, or_true, reduceCtorEq, List.map_nil, bI_eq0, bI_eq1, bool_ft, pk_us, vnar0, vnar1, Bool.or_false, Bool.or_true, Bool.false_or, Bool.true_or, mj_kne, eq_self, Int32.reduceLT, Int32.reduceLE, Int32.reduceAdd, Int32.reduceSub, Int32.reduceMul, not_true_eq_false, not_false_eq_true, false_implies, true_implies, D_X11_teacher, mj_F_aload_n_k, mj_F_bipush_n, mj_F_getfield_i, mj_F_iadd, mj_F_iconst_n, mj_F_ifCond_eq_off, mj_F_ifCond_ne_off, mj_F_iload_k, mj_F_iload_n_k, mj_F_invokestatic_i, mj_F_invokevirtual_i, mj_F_ireturn, mj_F_sipush_n, mj_kc, FT_X11, L_X11_teacher, List.take_succ_cons, List.take_zero, List.drop_succ_cons, List.drop_zero, List.reverse_cons, List.reverse_nil, List.length_cons, List.length_nil, gS_C0, gCf11_8, gCf11_0, c_isYear_eq, c_in_eq, gS_C64, J_X11_teacher]
          exact (ok_some hw :)
        · replace hw := ok_t hw c
          exact (ok_some hw :)

def c_X11_teacher : mj_S := fun as h k => ∃ (v1 : Int32) (v2 : Int32) (v3 : Int32) (v4 : Int32) (s : St), as = [.ref 0, .int v1, .int v2, .int v3, .int v4] ∧ h = mkCs s ∧ ok (F_X11_teacher v1 v2 v3 v4 s) (fun p => k (some (.int p.1)) (mkCs p.2))
theorem c_X11_teacher_in {v1 : Int32} {v2 : Int32} {v3 : Int32} {v4 : Int32} {s : St} {k : Option Value → mj_H → Prop} (hw : ok (F_X11_teacher v1 v2 v3 v4 s) (fun p => k (some (.int p.1)) (mkCs p.2))) : c_X11_teacher [.ref 0, .int v1, .int v2, .int v3, .int v4] (mkCs s) k := ⟨v1, v2, v3, v4, s, rfl, rfl, hw⟩
theorem m_X11_teacher (l : Launch) : mj_Met l yX11_teacher cX11_teacher 5 ((some FieldType.int)) 2 0 0 c_X11_teacher := by
  refine mj_body2 false (TbX11 5 ((some FieldType.int)) ct_X11_teacher) (by decide) rfl rfl (fun h => nomatch h) (tfX11 _ (List.forall_mem_cons.mpr ⟨cfX11_96 (m_X11_within l) (by decide), List.forall_mem_cons.mpr ⟨cfX11_141 (m_X11_isYear l) (by decide), List.forall_mem_cons.mpr ⟨cfX11_320 (m_X8_enrol l) (by decide), fun _ h => nomatch h⟩⟩⟩)) ?_
  rintro as h k ⟨v1, v2, v3, v4, s, rfl, rfl, hw⟩
  exact ⟨rfl, fun G hG => g_X11_teacher hG hw⟩
def B_X8_tonguesIn_6 (v1 : Int32) (v2 : Int32) (v3 : Int32) (v4 : Int32) : Int32 × Int32 × St → Option ((Int32 × Int32 × St) ⊕ ((Int32 × St)))
  | (v5, v6, s) =>
  if 7 < v6 then
    some (.inr (v5, s))
  else
    (rd s 805 40 v1).bind fun x1 =>
    if ((x1 >>> (v6 &&& 31)) &&& 1) = 1 then
      (rd s 803 40 v1).bind fun x2 =>
      (rd s 804 40 v1).bind fun x3 =>
      (F_X0_spell 0 v6 (v3 - x2) x3 s).bind fun s4 =>
      (F_X0_worthOf 3 v2 v3 v4 0 s4).bind fun r5 =>
      if r5.1 = 0 then
        some (.inl (v5, (v6 + 1), r5.2))
      else
        some (.inl ((v5 ||| (1 <<< (v6 &&& 31))), (v6 + 1), r5.2))
    else
      some (.inl (v5, (v6 + 1), s))
def F_X8_tonguesIn_83 (v5 : Int32) (s : St) : Option (Int32 × St) :=
  some (v5, s)
def F_X8_tonguesIn_6 (v1 : Int32) (v2 : Int32) (v3 : Int32) (v4 : Int32) (v5 : Int32) (v6 : Int32) (s : St) : Option (Int32 × St) :=
  (lp (B_X8_tonguesIn_6 v1 v2 v3 v4) FU (v5, v6, s)).bind (fun y => F_X8_tonguesIn_83 y.1 y.2)
def F_X8_tonguesIn (v1 : Int32) (v2 : Int32) (v3 : Int32) (v4 : Int32) (s : St) : Option (Int32 × St) :=
  F_X8_tonguesIn_6 v1 v2 v3 v4 0 0 s
theorem J_X8_tonguesIn : mj_t 10 73 = 83 ∧ mj_t 25 52 = 77 ∧ mj_t 65 12 = 77 ∧ mj_t 80 (-74) = 6 ∧ (0 ≤ ((10 : Nat) : Int) + 73) = True ∧ (0 ≤ ((25 : Nat) : Int) + 52) = True ∧ (0 ≤ ((65 : Nat) : Int) + 12) = True ∧ (0 ≤ ((80 : Nat) : Int) + (-74)) = True := by and_intros <;> first | rfl | exact eq_true (by decide)
def ct_X8_tonguesIn : List (Nat × mj_Cs) := [(76, 0, 5, 0, 0, 0, c_X0_spell), (82, 0, 6, 0, 0, 0, c_X0_worthOf)]
theorem L_X8_tonguesIn : mj_lk ct_X8_tonguesIn 76 = some (0, 5, 0, 0, 0, c_X0_spell) ∧ mj_lk ct_X8_tonguesIn 82 = some (0, 6, 0, 0, 0, c_X0_worthOf) := ⟨rfl, rfl⟩
set_option maxHeartbeats 4000000 in
set_option maxRecDepth 20000 in
theorem b_X8_tonguesIn_6 {k : Option Value → mj_H → Prop} {G : mj_K} (hG : mj_cl2 cX8_tonguesIn (TbX8 7 ((some FieldType.int)) ct_X8_tonguesIn) k G) {v1 : Int32} {v2 : Int32} {v3 : Int32} {v4 : Int32} {P : Int32 × Int32 × St → Prop} {K : (Int32 × St) → Prop} (hP : ∀ x, P x → G 6 [.ref 64, .int v1, .int v2, .int v3, .int v4, .int x.1, .int x.2.1] [] (mkCs x.2.2) 0 0) (hK0 : ∀ y, K y → G 83 [mj_unk, mj_unk, mj_unk, mj_unk, mj_unk, .int y.1] [] (mkCs y.2) 0 0) {v5 : Int32} {v6 : Int32} {s : St} (hw : ok (B_X8_tonguesIn_6 v1 v2 v3 v4 (v5, v6, s)) (Sum.elim P K)) : G 6 [.ref 64, .int v1, .int v2, .int v3, .int v4, .int v5, .int v6] [] (mkCs s) 0 0 := by
  unfold B_X8_tonguesIn_6 at hw
  refine mj_run hG.1 (fun pc => pc == 6 || pc == 52 || pc == 65 || pc == 83) 4000 ?_
  simp only [mj_step, mj_W_s, mj_fin, List.getElem?_cons_zero, List.getElem?_cons_succ, mj_go, Nat.reduceAdd, Nat.reduceSub, Nat.reduceLT, Nat.reduceLeDiff, Nat.zero_add, Nat.reduceEqDiff, Nat.reduceBEq, ↓reduceIte, Bool.false_eq_true, List.append_nil, List.nil_append, List.cons_append, Option.toList, and_true, true_and, true_or, or_true, reduceCtorEq, List.map_nil, bI_eq0, bI_eq1, bool_ft, pk_us, vnar0, vnar1, Bool.or_false, Bool.or_true, Bool.false_or, Bool.true_or, mj_kne, eq_self, Int32.reduceLT, Int32.reduceLE, Int32.reduceAdd, Int32.reduceSub, Int32.reduceMul, not_true_eq_false, not_false_eq_true, false_implies, true_implies, D_X8_tonguesIn_0, D_X8_tonguesIn_1, mj_F_aload_n_k, mj_F_bipush_n, mj_F_getfield_i, mj_F_goto_off, mj_F_iaload, mj_F_iand, mj_F_iconst_n, mj_F_ifCond_eq_off, mj_F_if_icmp_gt_off, mj_F_if_icmp_ne_off, mj_F_iinc_k_n, mj_F_iload_k, mj_F_iload_n_k, mj_F_invokevirtual_i, mj_F_ior, mj_F_ireturn, mj_F_ishl, mj_F_ishr, mj_F_istore_k, mj_F_isub, mj_set, mj_set0, mj_unk, mj_c2, mj_kc, FT_X8, L_X8_tonguesIn, List.take_succ_cons, List.take_zero, List.drop_succ_cons, List.drop_zero, List.reverse_cons, List.reverse_nil, List.length_cons, List.length_nil, gS_C64, gCf8_5, gS_C67, sS_Ca_67, gCf8_0, gCf8_3, gS_C65, sS_Ca_65, gCf8_4, gS_C66, sS_Ca_66, gS_C11, J_X8_tonguesIn]
  refine ⟨fun c => ?_, fun c => ?_⟩
  · replace hw := ok_t hw c
    exact hG.2 _ _ _ _ _ _ _ _ _ (by refine ⟨Or.inl rfl, ?_⟩; refine ⟨Or.inl rfl, ?_⟩; refine ⟨Or.inl rfl, ?_⟩; refine ⟨Or.inl rfl, ?_⟩; refine ⟨Or.inl rfl, ?_⟩; refine ⟨Or.inr rfl, ?_⟩; exact trivial) (Nat.zero_le _) (Nat.zero_le _) (hK0 _ (ok_some hw :) :)
  · replace hw := ok_f hw c
    refine ⟨(ok_rd hw).1, ?_⟩
    replace hw := (ok_rd hw).2
    refine ⟨fun c => ?_, fun c => ?_⟩
    · replace hw := ok_f hw c
      exact hG.2 _ _ _ _ _ _ _ _ _ (by refine ⟨Or.inr rfl, ?_⟩; refine ⟨Or.inr rfl, ?_⟩; refine ⟨Or.inr rfl, ?_⟩; refine ⟨Or.inr rfl, ?_⟩; refine ⟨Or.inr rfl, ?_⟩; refine ⟨Or.inr rfl, ?_⟩; refine ⟨Or.inr rfl, ?_⟩; exact trivial) (Nat.zero_le _) (Nat.zero_le _) (hP _ (ok_some hw :) :)
    · replace hw := ok_t hw c
      refine ⟨(ok_rd hw).1, ?_⟩
      replace hw := (ok_rd hw).2
      refine ⟨(ok_rd hw).1, ?_⟩
      replace hw := (ok_rd hw).2
      refine c_X0_spell_in (ok_imp (ok_bind hw) ?_)
      intro p hw
      simp only [Option.toList, List.nil_append, List.cons_append, Nat.reduceSub]
      refine mj_run hG.1 (fun pc => pc == 6 || pc == 52 || pc == 65 || pc == 83) 4000 ?_
      simp only [mj_step, mj_W_s, mj_fin, List.getElem?_cons_zero, List.getElem?_cons_succ, mj_go, Nat.reduceAdd, Nat.reduceSub, Nat.reduceLT, Nat.reduceLeDiff, Nat.zero_add, Nat.reduceEqDiff, Nat.reduceBEq, ↓reduceIte, Bool.false_eq_true, List.append_nil, List.nil_append, List.cons_append, Option.toList, and_true, true_and, true_or, or_true, reduceCtorEq, List.map_nil, bI_eq0, bI_eq1, bool_ft, pk_us, vnar0, vnar1, Bool.or_false, Bool.or_true, Bool.false_or, Bool.true_or, mj_kne, eq_self, Int32.reduceLT, Int32.reduceLE, Int32.reduceAdd, Int32.reduceSub, Int32.reduceMul, not_true_eq_false, not_false_eq_true, false_implies, true_implies, D_X8_tonguesIn_0, D_X8_tonguesIn_1, mj_F_aload_n_k, mj_F_bipush_n, mj_F_getfield_i, mj_F_goto_off, mj_F_iaload, mj_F_iand, mj_F_iconst_n, mj_F_ifCond_eq_off, mj_F_if_icmp_gt_off, mj_F_if_icmp_ne_off, mj_F_iinc_k_n, mj_F_iload_k, mj_F_iload_n_k, mj_F_invokevirtual_i, mj_F_ior, mj_F_ireturn, mj_F_ishl, mj_F_ishr, mj_F_istore_k, mj_F_isub, mj_set, mj_set0, mj_unk, mj_c2, mj_kc, FT_X8, L_X8_tonguesIn, List.take_succ_cons, List.take_zero, List.drop_succ_cons, List.drop_zero, List.reverse_cons, List.reverse_nil, List.length_cons, List.length_nil, gS_C64, gCf8_5, gS_C67, sS_Ca_67, gCf8_0, gCf8_3, gS_C65, sS_Ca_65, gCf8_4, gS_C66, sS_Ca_66, gS_C11, J_X8_tonguesIn]
      refine c_X0_worthOf_in (ok_imp (ok_bind hw) ?_)
      intro p hw
      simp only [Option.toList, List.nil_append, List.cons_append, Nat.reduceSub]
      refine mj_run hG.1 (fun pc => pc == 6 || pc == 52 || pc == 65 || pc == 83) 4000 ?_
      simp only [mj_step, mj_W_s, mj_fin, List.getElem?_cons_zero, List.getElem?_cons_succ, mj_go, Nat.reduceAdd, Nat.reduceSub, Nat.reduceLT, Nat.reduceLeDiff, Nat.zero_add, Nat.reduceEqDiff, Nat.reduceBEq, ↓reduceIte, Bool.false_eq_true, List.append_nil, List.nil_append, List.cons_append, Option.toList, and_true, true_and, true_or, or_true, reduceCtorEq, List.map_nil, bI_eq0, bI_eq1, bool_ft, pk_us, vnar0, vnar1, Bool.or_false, Bool.or_true, Bool.false_or, Bool.true_or, mj_kne, eq_self, Int32.reduceLT, Int32.reduceLE, Int32.reduceAdd, Int32.reduceSub, Int32.reduceMul, not_true_eq_false, not_false_eq_true, false_implies, true_implies, D_X8_tonguesIn_0, D_X8_tonguesIn_1, mj_F_aload_n_k, mj_F_bipush_n, mj_F_getfield_i, mj_F_goto_off, mj_F_iaload, mj_F_iand, mj_F_iconst_n, mj_F_ifCond_eq_off, mj_F_if_icmp_gt_off, mj_F_if_icmp_ne_off, mj_F_iinc_k_n, mj_F_iload_k, mj_F_iload_n_k, mj_F_invokevirtual_i, mj_F_ior, mj_F_ireturn, mj_F_ishl, mj_F_ishr, mj_F_istore_k, mj_F_isub, mj_set, mj_set0, mj_unk, mj_c2, mj_kc, FT_X8, L_X8_tonguesIn, List.take_succ_cons, List.take_zero, List.drop_succ_cons, List.drop_zero, List.reverse_cons, List.reverse_nil, List.length_cons, List.length_nil, gS_C64, gCf8_5, gS_C67, sS_Ca_67, gCf8_0, gCf8_3, gS_C65, sS_Ca_65, gCf8_4, gS_C66, sS_Ca_66, gS_C11, J_X8_tonguesIn]
      refine ⟨fun c => ?_, fun c => ?_⟩
      · replace hw := ok_t hw c
        exact hG.2 _ _ _ _ _ _ _ _ _ (by refine ⟨Or.inr rfl, ?_⟩; refine ⟨Or.inr rfl, ?_⟩; refine ⟨Or.inr rfl, ?_⟩; refine ⟨Or.inr rfl, ?_⟩; refine ⟨Or.inr rfl, ?_⟩; refine ⟨Or.inr rfl, ?_⟩; refine ⟨Or.inr rfl, ?_⟩; exact trivial) (Nat.zero_le _) (Nat.zero_le _) (hP _ (ok_some hw :) :)
      · replace hw := ok_f hw c
        exact hG.2 _ _ _ _ _ _ _ _ _ (by refine ⟨Or.inr rfl, ?_⟩; refine ⟨Or.inr rfl, ?_⟩; refine ⟨Or.inr rfl, ?_⟩; refine ⟨Or.inr rfl, ?_⟩; refine ⟨Or.inr rfl, ?_⟩; refine ⟨Or.inr rfl, ?_⟩; refine ⟨Or.inr rfl, ?_⟩; exact trivial) (Nat.zero_le _) (Nat.zero_le _) (hP _ (ok_some hw :) :)

set_option maxHeartbeats 4000000 in
set_option maxRecDepth 20000 in
theorem g_X8_tonguesIn_83 {k : Option Value → mj_H → Prop} {G : mj_K} (hG : mj_cl2 cX8_tonguesIn (TbX8 7 ((some FieldType.int)) ct_X8_tonguesIn) k G)   {v5 : Int32} {s : St} (hw : ok (F_X8_tonguesIn_83 v5 s) (fun p => k (some (.int p.1)) (mkCs p.2))) : G 83 [mj_unk, mj_unk, mj_unk, mj_unk, mj_unk, .int v5] [] (mkCs s) 0 0 := by
  unfold F_X8_tonguesIn_83 at hw
  refine mj_run hG.1 (fun pc => pc == 6 || pc == 52 || pc == 65 || pc == 83) 4000 ?_
  simp only [mj_step, mj_W_s, mj_fin, List.getElem?_cons_zero, List.getElem?_cons_succ, mj_go, Nat.reduceAdd, Nat.reduceSub, Nat.reduceLT, Nat.reduceLeDiff, Nat.zero_add, Nat.reduceEqDiff, Nat.reduceBEq, ↓reduceIte, Bool.false_eq_true, List.append_nil, List.nil_append, List.cons_append, Option.toList, and_true, true_and, true_or, or_true, reduceCtorEq, List.map_nil, bI_eq0, bI_eq1, bool_ft, pk_us, vnar0, vnar1, Bool.or_false, Bool.or_true, Bool.false_or, Bool.true_or, mj_kne, eq_self, Int32.reduceLT, Int32.reduceLE, Int32.reduceAdd, Int32.reduceSub, Int32.reduceMul, not_true_eq_false, not_false_eq_true, false_implies, true_implies, D_X8_tonguesIn_0, D_X8_tonguesIn_1, mj_F_aload_n_k, mj_F_bipush_n, mj_F_getfield_i, mj_F_goto_off, mj_F_iaload, mj_F_iand, mj_F_iconst_n, mj_F_ifCond_eq_off, mj_F_if_icmp_gt_off, mj_F_if_icmp_ne_off, mj_F_iinc_k_n, mj_F_iload_k, mj_F_iload_n_k, mj_F_invokevirtual_i, mj_F_ior, mj_F_ireturn, mj_F_ishl, mj_F_ishr, mj_F_istore_k, mj_F_isub, mj_set, mj_set0, mj_unk, mj_c2, mj_kc, FT_X8, L_X8_tonguesIn, List.take_succ_cons, List.take_zero, List.drop_succ_cons, List.drop_zero, List.reverse_cons, List.reverse_nil, List.length_cons, List.length_nil, gS_C64, gCf8_5, gS_C67, sS_Ca_67, gCf8_0, gCf8_3, gS_C65, sS_Ca_65, gCf8_4, gS_C66, sS_Ca_66, gS_C11, J_X8_tonguesIn]
  exact (ok_some hw :)

set_option maxHeartbeats 4000000 in
theorem g_X8_tonguesIn_6 {k : Option Value → mj_H → Prop} {G : mj_K} (hG : mj_cl2 cX8_tonguesIn (TbX8 7 ((some FieldType.int)) ct_X8_tonguesIn) k G)   {v1 : Int32} {v2 : Int32} {v3 : Int32} {v4 : Int32} {v5 : Int32} {v6 : Int32} {s : St} (hw : ok (F_X8_tonguesIn_6 v1 v2 v3 v4 v5 v6 s) (fun p => k (some (.int p.1)) (mkCs p.2))) : G 6 [.ref 64, .int v1, .int v2, .int v3, .int v4, .int v5, .int v6] [] (mkCs s) 0 0 := by
  unfold F_X8_tonguesIn_6 at hw
  refine lp_ok (B_X8_tonguesIn_6 v1 v2 v3 v4) (fun x => G 6 [.ref 64, .int v1, .int v2, .int v3, .int v4, .int x.1, .int x.2.1] [] (mkCs x.2.2) 0 0) _ ?_ _ _ (ok_bind hw)
  rintro ⟨v5, v6, s⟩ hb
  exact b_X8_tonguesIn_6 hG (fun _ z => z) (fun y hw => by exact hG.2 _ _ _ _ _ _ _ _ _ (by refine ⟨Or.inl rfl, ?_⟩; refine ⟨Or.inl rfl, ?_⟩; refine ⟨Or.inl rfl, ?_⟩; refine ⟨Or.inl rfl, ?_⟩; refine ⟨Or.inl rfl, ?_⟩; refine ⟨Or.inr rfl, ?_⟩; exact trivial) (Nat.zero_le _) (Nat.zero_le _) (g_X8_tonguesIn_83 hG  hw :)) hb

set_option maxHeartbeats 4000000 in
set_option maxRecDepth 20000 in
theorem g_X8_tonguesIn {k : Option Value → mj_H → Prop} {G : mj_K} (hG : mj_cl2 cX8_tonguesIn (TbX8 7 ((some FieldType.int)) ct_X8_tonguesIn) k G) {v1 : Int32} {v2 : Int32} {v3 : Int32} {v4 : Int32} {s : St} (hw : ok (F_X8_tonguesIn v1 v2 v3 v4 s) (fun p => k (some (.int p.1)) (mkCs p.2))) : G 0 [.ref 64, .int v1, .int v2, .int v3, .int v4] [] (mkCs s) 0 0 := by
  unfold F_X8_tonguesIn at hw
  refine mj_run hG.1 (fun pc => pc == 6 || pc == 52 || pc == 65 || pc == 83) 4000 ?_
  simp only [mj_step, mj_W_s, mj_fin, List.getElem?_cons_zero, List.getElem?_cons_succ, mj_go, Nat.reduceAdd, Nat.reduceSub, Nat.reduceLT, Nat.reduceLeDiff, Nat.zero_add, Nat.reduceEqDiff, Nat.reduceBEq, ↓reduceIte, Bool.false_eq_true, List.append_nil, List.nil_append, List.cons_append, Option.toList, and_true, true_and, true_or, or_true, reduceCtorEq, List.map_nil, bI_eq0, bI_eq1, bool_ft, pk_us, vnar0, vnar1, Bool.or_false, Bool.or_true, Bool.false_or, Bool.true_or, mj_kne, eq_self, Int32.reduceLT, Int32.reduceLE, Int32.reduceAdd, Int32.reduceSub, Int32.reduceMul, not_true_eq_false, not_false_eq_true, false_implies, true_implies, D_X8_tonguesIn_0, D_X8_tonguesIn_1, mj_F_aload_n_k, mj_F_bipush_n, mj_F_getfield_i, mj_F_goto_off, mj_F_iaload, mj_F_iand, mj_F_iconst_n, mj_F_ifCond_eq_off, mj_F_if_icmp_gt_off, mj_F_if_icmp_ne_off, mj_F_iinc_k_n, mj_F_iload_k, mj_F_iload_n_k, mj_F_invokevirtual_i, mj_F_ior, mj_F_ireturn, mj_F_ishl, mj_F_ishr, mj_F_istore_k, mj_F_isub, mj_set, mj_set0, mj_unk, mj_c2, mj_kc, FT_X8, L_X8_tonguesIn, List.take_succ_cons, List.take_zero, List.drop_succ_cons, List.drop_zero, List.reverse_cons, List.reverse_nil, List.length_cons, List.length_nil, gS_C64, gCf8_5, gS_C67, sS_Ca_67, gCf8_0, gCf8_3, gS_C65, sS_Ca_65, gCf8_4, gS_C66, sS_Ca_66, gS_C11, J_X8_tonguesIn]
  exact hG.2 _ _ _ _ _ _ _ _ _ (by refine ⟨Or.inr rfl, ?_⟩; refine ⟨Or.inr rfl, ?_⟩; refine ⟨Or.inr rfl, ?_⟩; refine ⟨Or.inr rfl, ?_⟩; refine ⟨Or.inr rfl, ?_⟩; refine ⟨Or.inr rfl, ?_⟩; refine ⟨Or.inr rfl, ?_⟩; exact trivial) (Nat.zero_le _) (Nat.zero_le _) (g_X8_tonguesIn_6 hG  hw :)

def c_X8_tonguesIn : mj_S := fun as h k => ∃ (v1 : Int32) (v2 : Int32) (v3 : Int32) (v4 : Int32) (s : St), as = [.ref 64, .int v1, .int v2, .int v3, .int v4] ∧ h = mkCs s ∧ ok (F_X8_tonguesIn v1 v2 v3 v4 s) (fun p => k (some (.int p.1)) (mkCs p.2))
theorem c_X8_tonguesIn_in {v1 : Int32} {v2 : Int32} {v3 : Int32} {v4 : Int32} {s : St} {k : Option Value → mj_H → Prop} (hw : ok (F_X8_tonguesIn v1 v2 v3 v4 s) (fun p => k (some (.int p.1)) (mkCs p.2))) : c_X8_tonguesIn [.ref 64, .int v1, .int v2, .int v3, .int v4] (mkCs s) k := ⟨v1, v2, v3, v4, s, rfl, rfl, hw⟩
theorem m_X8_tonguesIn (l : Launch) : mj_Met l yX8_tonguesIn cX8_tonguesIn 7 ((some FieldType.int)) 4 0 0 c_X8_tonguesIn := by
  refine mj_body2 false (TbX8 7 ((some FieldType.int)) ct_X8_tonguesIn) (by decide) rfl rfl (fun h => nomatch h) (tfX8 _ (List.forall_mem_cons.mpr ⟨cfX8_76 (m_X0_spell l) (by decide), List.forall_mem_cons.mpr ⟨cfX8_82 (m_X0_worthOf l) (by decide), fun _ h => nomatch h⟩⟩)) ?_
  rintro as h k ⟨v1, v2, v3, v4, s, rfl, rfl, hw⟩
  exact ⟨rfl, fun G hG => g_X8_tonguesIn hG hw⟩
def B_X8_lowestFor_11 (v1 : Int32) (v2 : Int32) (v3 : Int32) : Int32 × St → Option ((Int32 × St) ⊕ ((St) ⊕ (Int32 × St)))
  | (v4, s) =>
  if (s.1 501) ≤ v4 then
    some (.inr (.inl s))
  else
    (rd s 503 20 v4).bind fun x2 =>
    (rd s 809 20 v4).bind fun x3 =>
    if x3 ≤ 0 then
      some (.inl ((v4 + 1), s))
    else
      if inb x2 0 3 = false then
        some (.inl ((v4 + 1), s))
      else
        (rd s 810 4 x2).bind fun x4 =>
        if x4 = (-1) then
          (F_X8_tonguesIn v1 x2 v2 v3 s).bind fun r7 =>
          (wr r7.2 810 4 x2 r7.1).bind fun s8 =>
          (rd s8 810 4 x2).bind fun x9 =>
          (rd s8 506 20 v4).bind fun x10 =>
          if (x9 &&& x10) = 0 then
            some (.inl ((v4 + 1), s8))
          else
            some (.inr (.inr (v4, s8)))
        else
          (rd s 810 4 x2).bind fun x5 =>
          (rd s 506 20 v4).bind fun x6 =>
          if (x5 &&& x6) = 0 then
            some (.inl ((v4 + 1), s))
          else
            some (.inr (.inr (v4, s)))
def F_X8_lowestFor_115 (s : St) : Option (Int32 × St) :=
  some ((-1), s)
def F_X8_lowestFor_106 (v4 : Int32) (s : St) : Option (Int32 × St) :=
  some (v4, s)
def F_X8_lowestFor_11 (v1 : Int32) (v2 : Int32) (v3 : Int32) (v4 : Int32) (s : St) : Option (Int32 × St) :=
  (lp (B_X8_lowestFor_11 v1 v2 v3) FU (v4, s)).bind (Sum.elim (fun y => F_X8_lowestFor_115 y) (fun y => F_X8_lowestFor_106 y.1 y.2))
def F_X8_lowestFor (v1 : Int32) (v2 : Int32) (v3 : Int32) (s : St) : Option (Int32 × St) :=
  (wF s 810 4 (-1)).bind fun s1 =>
  F_X8_lowestFor_11 v1 v2 v3 0 s1
theorem J_X8_lowestFor : mj_t 20 95 = 115 ∧ mj_t 42 67 = 109 ∧ mj_t 52 6 = 58 ∧ mj_t 55 54 = 109 ∧ mj_t 66 19 = 85 ∧ mj_t 103 6 = 109 ∧ mj_t 112 (-101) = 11 ∧ (0 ≤ ((20 : Nat) : Int) + 95) = True ∧ (0 ≤ ((42 : Nat) : Int) + 67) = True ∧ (0 ≤ ((52 : Nat) : Int) + 6) = True ∧ (0 ≤ ((55 : Nat) : Int) + 54) = True ∧ (0 ≤ ((66 : Nat) : Int) + 19) = True ∧ (0 ≤ ((103 : Nat) : Int) + 6) = True ∧ (0 ≤ ((112 : Nat) : Int) + (-101)) = True := by and_intros <;> first | rfl | exact eq_true (by decide)
def ct_X8_lowestFor : List (Nat × mj_Cs) := [(58, 2, 2, 99, 0, 0, c_fill), (67, 3, 3, 11, 0, 0, c_in), (71, 0, 5, 8, 0, 0, c_X8_tonguesIn)]
theorem L_X8_lowestFor : mj_lk ct_X8_lowestFor 58 = some (2, 2, 99, 0, 0, c_fill) ∧ mj_lk ct_X8_lowestFor 67 = some (3, 3, 11, 0, 0, c_in) ∧ mj_lk ct_X8_lowestFor 71 = some (0, 5, 8, 0, 0, c_X8_tonguesIn) := ⟨rfl, rfl, rfl⟩
set_option maxHeartbeats 4000000 in
set_option maxRecDepth 20000 in
theorem b_X8_lowestFor_11 {k : Option Value → mj_H → Prop} {G : mj_K} (hG : mj_cl2 cX8_lowestFor (TbX8 6 ((some FieldType.int)) ct_X8_lowestFor) k G) {v1 : Int32} {v2 : Int32} {v3 : Int32} {P : Int32 × St → Prop} {K : (St) ⊕ (Int32 × St) → Prop} (hP : ∀ x, P x → G 11 [.ref 64, .int v1, .int v2, .int v3, .int x.1] [] (mkCs x.2) 0 0) (hK0 : ∀ y, K (.inl y) → G 115 [] [] (mkCs y) 0 0) (hK1 : ∀ y, K (.inr y) → G 106 [mj_unk, mj_unk, mj_unk, mj_unk, .int y.1] [] (mkCs y.2) 0 0) {v4 : Int32} {s : St} (hw : ok (B_X8_lowestFor_11 v1 v2 v3 (v4, s)) (Sum.elim P K)) : G 11 [.ref 64, .int v1, .int v2, .int v3, .int v4] [] (mkCs s) 0 0 := by
  unfold B_X8_lowestFor_11 at hw
  refine mj_run hG.1 (fun pc => pc == 8 || pc == 11 || pc == 84 || pc == 106 || pc == 115) 4000 ?_
  simp only [mj_step, mj_W_s, mj_fin, List.getElem?_cons_zero, List.getElem?_cons_succ, mj_go, Nat.reduceAdd, Nat.reduceSub, Nat.reduceLT, Nat.reduceLeDiff, Nat.zero_add, Nat.reduceEqDiff, Nat.reduceBEq, ↓reduceIte, Bool.false_eq_true, List.append_nil, List.nil_append, List.cons_append, Option.toList, and_true, true_and, true_or, or_true, reduceCtorEq, List.map_nil, bI_eq0, bI_eq1, bool_ft, pk_us, vnar0, vnar1, Bool.or_false, Bool.or_true, Bool.false_or, Bool.true_or, mj_kne, eq_self, Int32.reduceLT, Int32.reduceLE, Int32.reduceAdd, Int32.reduceSub, Int32.reduceMul, not_true_eq_false, not_false_eq_true, false_implies, true_implies, D_X8_lowestFor_0, D_X8_lowestFor_1, mj_F_aload_n_k, mj_F_getfield_i, mj_F_goto_off, mj_F_iaload, mj_F_iand, mj_F_iastore, mj_F_iconst_n, mj_F_ifCond_eq_off, mj_F_ifCond_le_off, mj_F_ifCond_ne_off, mj_F_if_icmp_ge_off, mj_F_if_icmp_ne_off, mj_F_iinc_k_n, mj_F_iload_k, mj_F_iload_n_k, mj_F_invokestatic_i, mj_F_invokevirtual_i, mj_F_ireturn, mj_F_istore_k, mj_set, mj_set0, mj_unk, mj_c2, mj_kc, FT_X8, L_X8_lowestFor, List.take_succ_cons, List.take_zero, List.drop_succ_cons, List.drop_zero, List.reverse_cons, List.reverse_nil, List.length_cons, List.length_nil, gS_C64, gCf8_10, gS_C72, sS_Ca_72, gCf8_1, gS_C35, gCf5_1, gCf5_3, gS_C37, sS_Ca_37, gCf8_9, gS_C71, sS_Ca_71, gCf5_6, gS_C40, sS_Ca_40, c_in_eq, sS_CF_72, sS_CF_37, sS_CF_71, sS_CF_40, J_X8_lowestFor]
  refine ⟨fun c => ?_, fun c => ?_⟩
  · replace hw := ok_t hw c
    exact hG.2 _ _ _ _ _ _ _ _ _ (by exact trivial) (Nat.zero_le _) (Nat.zero_le _) (hK0 _ (ok_some hw :) :)
  · replace hw := ok_f hw c
    refine ⟨(ok_rd hw).1, ?_⟩
    replace hw := (ok_rd hw).2
    refine ⟨(ok_rd hw).1, ?_⟩
    replace hw := (ok_rd hw).2
    refine ⟨fun c => ?_, fun c => ?_⟩
    · replace hw := ok_t hw c
      exact hG.2 _ _ _ _ _ _ _ _ _ (by refine ⟨Or.inr rfl, ?_⟩; refine ⟨Or.inr rfl, ?_⟩; refine ⟨Or.inr rfl, ?_⟩; refine ⟨Or.inr rfl, ?_⟩; refine ⟨Or.inr rfl, ?_⟩; exact trivial) (Nat.zero_le _) (Nat.zero_le _) (hP _ (ok_some hw :) :)
    · replace hw := ok_f hw c
      refine ⟨fun c => ?_, fun c => ?_⟩
      · replace hw := ok_f hw c
        refine ⟨(ok_rd hw).1, ?_⟩
        replace hw := (ok_rd hw).2
        refine ⟨fun c => ?_, fun c => ?_⟩
        · replace hw := ok_f hw c
          refine ⟨(ok_rd hw).1, ?_⟩
          replace hw := (ok_rd hw).2
          refine ⟨(ok_rd hw).1, ?_⟩
          replace hw := (ok_rd hw).2
          refine ⟨fun c => ?_, fun c => ?_⟩
          · replace hw := ok_t hw c
            exact hG.2 _ _ _ _ _ _ _ _ _ (by refine ⟨Or.inr rfl, ?_⟩; refine ⟨Or.inr rfl, ?_⟩; refine ⟨Or.inr rfl, ?_⟩; refine ⟨Or.inr rfl, ?_⟩; refine ⟨Or.inr rfl, ?_⟩; exact trivial) (Nat.zero_le _) (Nat.zero_le _) (hP _ (ok_some hw :) :)
          · replace hw := ok_f hw c
            exact hG.2 _ _ _ _ _ _ _ _ _ (by refine ⟨Or.inl rfl, ?_⟩; refine ⟨Or.inl rfl, ?_⟩; refine ⟨Or.inl rfl, ?_⟩; refine ⟨Or.inl rfl, ?_⟩; refine ⟨Or.inr rfl, ?_⟩; exact trivial) (Nat.zero_le _) (Nat.zero_le _) (hK1 _ (ok_some hw :) :)
        · replace hw := ok_t hw c
          refine c_X8_tonguesIn_in (ok_imp (ok_bind hw) ?_)
          intro p hw
          simp only [Option.toList, List.nil_append, List.cons_append, Nat.reduceSub]
          refine mj_run hG.1 (fun pc => pc == 8 || pc == 11 || pc == 84 || pc == 106 || pc == 115) 4000 ?_
          simp only [mj_step, mj_W_s, mj_fin, List.getElem?_cons_zero, List.getElem?_cons_succ, mj_go, Nat.reduceAdd, Nat.reduceSub, Nat.reduceLT, Nat.reduceLeDiff, Nat.zero_add, Nat.reduceEqDiff, Nat.reduceBEq, ↓reduceIte, Bool.false_eq_true, List.append_nil, List.nil_append, List.cons_append, Option.toList, and_true, true_and, true_or, or_true, reduceCtorEq, List.map_nil, bI_eq0, bI_eq1, bool_ft, pk_us, vnar0, vnar1, Bool.or_false, Bool.or_true, Bool.false_or, Bool.true_or, mj_kne, eq_self, Int32.reduceLT, Int32.reduceLE, Int32.reduceAdd, Int32.reduceSub, Int32.reduceMul, not_true_eq_false, not_false_eq_true, false_implies, true_implies, D_X8_lowestFor_0, D_X8_lowestFor_1, mj_F_aload_n_k, mj_F_getfield_i, mj_F_goto_off, mj_F_iaload, mj_F_iand, mj_F_iastore, mj_F_iconst_n, mj_F_ifCond_eq_off, mj_F_ifCond_le_off, mj_F_ifCond_ne_off, mj_F_if_icmp_ge_off, mj_F_if_icmp_ne_off, mj_F_iinc_k_n, mj_F_iload_k, mj_F_iload_n_k, mj_F_invokestatic_i, mj_F_invokevirtual_i, mj_F_ireturn, mj_F_istore_k, mj_set, mj_set0, mj_unk, mj_c2, mj_kc, FT_X8, L_X8_lowestFor, List.take_succ_cons, List.take_zero, List.drop_succ_cons, List.drop_zero, List.reverse_cons, List.reverse_nil, List.length_cons, List.length_nil, gS_C64, gCf8_10, gS_C72, sS_Ca_72, gCf8_1, gS_C35, gCf5_1, gCf5_3, gS_C37, sS_Ca_37, gCf8_9, gS_C71, sS_Ca_71, gCf5_6, gS_C40, sS_Ca_40, c_in_eq, sS_CF_72, sS_CF_37, sS_CF_71, sS_CF_40, J_X8_lowestFor]
          refine ⟨(ok_wr hw).1, ?_⟩
          replace hw := (ok_wr hw).2
          refine ⟨(ok_rd hw).1, ?_⟩
          replace hw := (ok_rd hw).2
          refine ⟨(ok_rd hw).1, ?_⟩
          replace hw := (ok_rd hw).2
          refine ⟨fun c => ?_, fun c => ?_⟩
          · replace hw := ok_t hw c
            exact hG.2 _ _ _ _ _ _ _ _ _ (by refine ⟨Or.inr rfl, ?_⟩; refine ⟨Or.inr rfl, ?_⟩; refine ⟨Or.inr rfl, ?_⟩; refine ⟨Or.inr rfl, ?_⟩; refine ⟨Or.inr rfl, ?_⟩; exact trivial) (Nat.zero_le _) (Nat.zero_le _) (hP _ (ok_some hw :) :)
          · replace hw := ok_f hw c
            exact hG.2 _ _ _ _ _ _ _ _ _ (by refine ⟨Or.inl rfl, ?_⟩; refine ⟨Or.inl rfl, ?_⟩; refine ⟨Or.inl rfl, ?_⟩; refine ⟨Or.inl rfl, ?_⟩; refine ⟨Or.inr rfl, ?_⟩; exact trivial) (Nat.zero_le _) (Nat.zero_le _) (hK1 _ (ok_some hw :) :)
      · replace hw := ok_t hw c
        exact hG.2 _ _ _ _ _ _ _ _ _ (by refine ⟨Or.inr rfl, ?_⟩; refine ⟨Or.inr rfl, ?_⟩; refine ⟨Or.inr rfl, ?_⟩; refine ⟨Or.inr rfl, ?_⟩; refine ⟨Or.inr rfl, ?_⟩; exact trivial) (Nat.zero_le _) (Nat.zero_le _) (hP _ (ok_some hw :) :)

set_option maxHeartbeats 4000000 in
set_option maxRecDepth 20000 in
theorem g_X8_lowestFor_115 {k : Option Value → mj_H → Prop} {G : mj_K} (hG : mj_cl2 cX8_lowestFor (TbX8 6 ((some FieldType.int)) ct_X8_lowestFor) k G)   {s : St} (hw : ok (F_X8_lowestFor_115 s) (fun p => k (some (.int p.1)) (mkCs p.2))) : G 115 [] [] (mkCs s) 0 0 := by
  unfold F_X8_lowestFor_115 at hw
  refine mj_run hG.1 (fun pc => pc == 8 || pc == 11 || pc == 84 || pc == 106 || pc == 115) 4000 ?_
  simp only [mj_step, mj_W_s, mj_fin, List.getElem?_cons_zero, List.getElem?_cons_succ, mj_go, Nat.reduceAdd, Nat.reduceSub, Nat.reduceLT, Nat.reduceLeDiff, Nat.zero_add, Nat.reduceEqDiff, Nat.reduceBEq, ↓reduceIte, Bool.false_eq_true, List.append_nil, List.nil_append, List.cons_append, Option.toList, and_true, true_and, true_or, or_true, reduceCtorEq, List.map_nil, bI_eq0, bI_eq1, bool_ft, pk_us, vnar0, vnar1, Bool.or_false, Bool.or_true, Bool.false_or, Bool.true_or, mj_kne, eq_self, Int32.reduceLT, Int32.reduceLE, Int32.reduceAdd, Int32.reduceSub, Int32.reduceMul, not_true_eq_false, not_false_eq_true, false_implies, true_implies, D_X8_lowestFor_0, D_X8_lowestFor_1, mj_F_aload_n_k, mj_F_getfield_i, mj_F_goto_off, mj_F_iaload, mj_F_iand, mj_F_iastore, mj_F_iconst_n, mj_F_ifCond_eq_off, mj_F_ifCond_le_off, mj_F_ifCond_ne_off, mj_F_if_icmp_ge_off, mj_F_if_icmp_ne_off, mj_F_iinc_k_n, mj_F_iload_k, mj_F_iload_n_k, mj_F_invokestatic_i, mj_F_invokevirtual_i, mj_F_ireturn, mj_F_istore_k, mj_set, mj_set0, mj_unk, mj_c2, mj_kc, FT_X8, L_X8_lowestFor, List.take_succ_cons, List.take_zero, List.drop_succ_cons, List.drop_zero, List.reverse_cons, List.reverse_nil, List.length_cons, List.length_nil, gS_C64, gCf8_10, gS_C72, sS_Ca_72, gCf8_1, gS_C35, gCf5_1, gCf5_3, gS_C37, sS_Ca_37, gCf8_9, gS_C71, sS_Ca_71, gCf5_6, gS_C40, sS_Ca_40, c_in_eq, sS_CF_72, sS_CF_37, sS_CF_71, sS_CF_40, J_X8_lowestFor]
  exact (ok_some hw :)

set_option maxHeartbeats 4000000 in
set_option maxRecDepth 20000 in
theorem g_X8_lowestFor_106 {k : Option Value → mj_H → Prop} {G : mj_K} (hG : mj_cl2 cX8_lowestFor (TbX8 6 ((some FieldType.int)) ct_X8_lowestFor) k G)   {v4 : Int32} {s : St} (hw : ok (F_X8_lowestFor_106 v4 s) (fun p => k (some (.int p.1)) (mkCs p.2))) : G 106 [mj_unk, mj_unk, mj_unk, mj_unk, .int v4] [] (mkCs s) 0 0 := by
  unfold F_X8_lowestFor_106 at hw
  refine mj_run hG.1 (fun pc => pc == 8 || pc == 11 || pc == 84 || pc == 106 || pc == 115) 4000 ?_
  simp only [mj_step, mj_W_s, mj_fin, List.getElem?_cons_zero, List.getElem?_cons_succ, mj_go, Nat.reduceAdd, Nat.reduceSub, Nat.reduceLT, Nat.reduceLeDiff, Nat.zero_add, Nat.reduceEqDiff, Nat.reduceBEq, ↓reduceIte, Bool.false_eq_true, List.append_nil, List.nil_append, List.cons_append, Option.toList, and_true, true_and, true_or, or_true, reduceCtorEq, List.map_nil, bI_eq0, bI_eq1, bool_ft, pk_us, vnar0, vnar1, Bool.or_false, Bool.or_true, Bool.false_or, Bool.true_or, mj_kne, eq_self, Int32.reduceLT, Int32.reduceLE, Int32.reduceAdd, Int32.reduceSub, Int32.reduceMul, not_true_eq_false, not_false_eq_true, false_implies, true_implies, D_X8_lowestFor_0, D_X8_lowestFor_1, mj_F_aload_n_k, mj_F_getfield_i, mj_F_goto_off, mj_F_iaload, mj_F_iand, mj_F_iastore, mj_F_iconst_n, mj_F_ifCond_eq_off, mj_F_ifCond_le_off, mj_F_ifCond_ne_off, mj_F_if_icmp_ge_off, mj_F_if_icmp_ne_off, mj_F_iinc_k_n, mj_F_iload_k, mj_F_iload_n_k, mj_F_invokestatic_i, mj_F_invokevirtual_i, mj_F_ireturn, mj_F_istore_k, mj_set, mj_set0, mj_unk, mj_c2, mj_kc, FT_X8, L_X8_lowestFor, List.take_succ_cons, List.take_zero, List.drop_succ_cons, List.drop_zero, List.reverse_cons, List.reverse_nil, List.length_cons, List.length_nil, gS_C64, gCf8_10, gS_C72, sS_Ca_72, gCf8_1, gS_C35, gCf5_1, gCf5_3, gS_C37, sS_Ca_37, gCf8_9, gS_C71, sS_Ca_71, gCf5_6, gS_C40, sS_Ca_40, c_in_eq, sS_CF_72, sS_CF_37, sS_CF_71, sS_CF_40, J_X8_lowestFor]
  exact (ok_some hw :)

set_option maxHeartbeats 4000000 in
theorem g_X8_lowestFor_11 {k : Option Value → mj_H → Prop} {G : mj_K} (hG : mj_cl2 cX8_lowestFor (TbX8 6 ((some FieldType.int)) ct_X8_lowestFor) k G)   {v1 : Int32} {v2 : Int32} {v3 : Int32} {v4 : Int32} {s : St} (hw : ok (F_X8_lowestFor_11 v1 v2 v3 v4 s) (fun p => k (some (.int p.1)) (mkCs p.2))) : G 11 [.ref 64, .int v1, .int v2, .int v3, .int v4] [] (mkCs s) 0 0 := by
  unfold F_X8_lowestFor_11 at hw
  refine lp_ok (B_X8_lowestFor_11 v1 v2 v3) (fun x => G 11 [.ref 64, .int v1, .int v2, .int v3, .int x.1] [] (mkCs x.2) 0 0) _ ?_ _ _ (ok_bind hw)
  rintro ⟨v4, s⟩ hb
  exact b_X8_lowestFor_11 hG (fun _ z => z) (fun y hw => by exact hG.2 _ _ _ _ _ _ _ _ _ (by exact trivial) (Nat.zero_le _) (Nat.zero_le _) (g_X8_lowestFor_115 hG  hw :)) (fun y hw => by exact hG.2 _ _ _ _ _ _ _ _ _ (by refine ⟨Or.inl rfl, ?_⟩; refine ⟨Or.inl rfl, ?_⟩; refine ⟨Or.inl rfl, ?_⟩; refine ⟨Or.inl rfl, ?_⟩; refine ⟨Or.inr rfl, ?_⟩; exact trivial) (Nat.zero_le _) (Nat.zero_le _) (g_X8_lowestFor_106 hG  hw :)) hb

set_option maxHeartbeats 4000000 in
set_option maxRecDepth 20000 in
theorem g_X8_lowestFor {k : Option Value → mj_H → Prop} {G : mj_K} (hG : mj_cl2 cX8_lowestFor (TbX8 6 ((some FieldType.int)) ct_X8_lowestFor) k G) {v1 : Int32} {v2 : Int32} {v3 : Int32} {s : St} (hw : ok (F_X8_lowestFor v1 v2 v3 s) (fun p => k (some (.int p.1)) (mkCs p.2))) : G 0 [.ref 64, .int v1, .int v2, .int v3] [] (mkCs s) 0 0 := by
  unfold F_X8_lowestFor at hw
  refine mj_run hG.1 (fun pc => pc == 8 || pc == 11 || pc == 84 || pc == 106 || pc == 115) 4000 ?_
  simp only [mj_step, mj_W_s, mj_fin, List.getElem?_cons_zero, List.getElem?_cons_succ, mj_go, Nat.reduceAdd, Nat.reduceSub, Nat.reduceLT, Nat.reduceLeDiff, Nat.zero_add, Nat.reduceEqDiff, Nat.reduceBEq, ↓reduceIte, Bool.false_eq_true, List.append_nil, List.nil_append, List.cons_append, Option.toList, and_true, true_and, true_or, or_true, reduceCtorEq, List.map_nil, bI_eq0, bI_eq1, bool_ft, pk_us, vnar0, vnar1, Bool.or_false, Bool.or_true, Bool.false_or, Bool.true_or, mj_kne, eq_self, Int32.reduceLT, Int32.reduceLE, Int32.reduceAdd, Int32.reduceSub, Int32.reduceMul, not_true_eq_false, not_false_eq_true, false_implies, true_implies, D_X8_lowestFor_0, D_X8_lowestFor_1, mj_F_aload_n_k, mj_F_getfield_i, mj_F_goto_off, mj_F_iaload, mj_F_iand, mj_F_iastore, mj_F_iconst_n, mj_F_ifCond_eq_off, mj_F_ifCond_le_off, mj_F_ifCond_ne_off, mj_F_if_icmp_ge_off, mj_F_if_icmp_ne_off, mj_F_iinc_k_n, mj_F_iload_k, mj_F_iload_n_k, mj_F_invokestatic_i, mj_F_invokevirtual_i, mj_F_ireturn, mj_F_istore_k, mj_set, mj_set0, mj_unk, mj_c2, mj_kc, FT_X8, L_X8_lowestFor, List.take_succ_cons, List.take_zero, List.drop_succ_cons, List.drop_zero, List.reverse_cons, List.reverse_nil, List.length_cons, List.length_nil, gS_C64, gCf8_10, gS_C72, sS_Ca_72, gCf8_1, gS_C35, gCf5_1, gCf5_3, gS_C37, sS_Ca_37, gCf8_9, gS_C71, sS_Ca_71, gCf5_6, gS_C40, sS_Ca_40, c_in_eq, sS_CF_72, sS_CF_37, sS_CF_71, sS_CF_40, J_X8_lowestFor]
  replace hw := ok_wF hw
  refine c_fill_in (gS_C72 _) (by decide) ?_
  simp only [Nat.reduceSub, List.nil_append, Option.toList, sS_Ca_72, sS_Ca_37, sS_Ca_71, sS_Ca_40, sS_CF_72, sS_CF_37, sS_CF_71, sS_CF_40]
  refine mj_run hG.1 (fun pc => pc == 8 || pc == 11 || pc == 84 || pc == 106 || pc == 115) 4000 ?_
  simp only [mj_step, mj_W_s, mj_fin, List.getElem?_cons_zero, List.getElem?_cons_succ, mj_go, Nat.reduceAdd, Nat.reduceSub, Nat.reduceLT, Nat.reduceLeDiff, Nat.zero_add, Nat.reduceEqDiff, Nat.reduceBEq, ↓reduceIte, Bool.false_eq_true, List.append_nil, List.nil_append, List.cons_append, Option.toList, and_true, true_and, true_or, or_true, reduceCtorEq, List.map_nil, bI_eq0, bI_eq1, bool_ft, pk_us, vnar0, vnar1, Bool.or_false, Bool.or_true, Bool.false_or, Bool.true_or, mj_kne, eq_self, Int32.reduceLT, Int32.reduceLE, Int32.reduceAdd, Int32.reduceSub, Int32.reduceMul, not_true_eq_false, not_false_eq_true, false_implies, true_implies, D_X8_lowestFor_0, D_X8_lowestFor_1, mj_F_aload_n_k, mj_F_getfield_i, mj_F_goto_off, mj_F_iaload, mj_F_iand, mj_F_iastore, mj_F_iconst_n, mj_F_ifCond_eq_off, mj_F_ifCond_le_off, mj_F_ifCond_ne_off, mj_F_if_icmp_ge_off, mj_F_if_icmp_ne_off, mj_F_iinc_k_n, mj_F_iload_k, mj_F_iload_n_k, mj_F_invokestatic_i, mj_F_invokevirtual_i, mj_F_ireturn, mj_F_istore_k, mj_set, mj_set0, mj_unk, mj_c2, mj_kc, FT_X8, L_X8_lowestFor, List.take_succ_cons, List.take_zero, List.drop_succ_cons, List.drop_zero, List.reverse_cons, List.reverse_nil, List.length_cons, List.length_nil, gS_C64, gCf8_10, gS_C72, sS_Ca_72, gCf8_1, gS_C35, gCf5_1, gCf5_3, gS_C37, sS_Ca_37, gCf8_9, gS_C71, sS_Ca_71, gCf5_6, gS_C40, sS_Ca_40, c_in_eq, sS_CF_72, sS_CF_37, sS_CF_71, sS_CF_40, J_X8_lowestFor]
  exact hG.2 _ _ _ _ _ _ _ _ _ (by refine ⟨Or.inr rfl, ?_⟩; refine ⟨Or.inr rfl, ?_⟩; refine ⟨Or.inr rfl, ?_⟩; refine ⟨Or.inr rfl, ?_⟩; refine ⟨Or.inr rfl, ?_⟩; exact trivial) (Nat.zero_le _) (Nat.zero_le _) (g_X8_lowestFor_11 hG  hw :)

def c_X8_lowestFor : mj_S := fun as h k => ∃ (v1 : Int32) (v2 : Int32) (v3 : Int32) (s : St), as = [.ref 64, .int v1, .int v2, .int v3] ∧ h = mkCs s ∧ ok (F_X8_lowestFor v1 v2 v3 s) (fun p => k (some (.int p.1)) (mkCs p.2))
theorem c_X8_lowestFor_in {v1 : Int32} {v2 : Int32} {v3 : Int32} {s : St} {k : Option Value → mj_H → Prop} (hw : ok (F_X8_lowestFor v1 v2 v3 s) (fun p => k (some (.int p.1)) (mkCs p.2))) : c_X8_lowestFor [.ref 64, .int v1, .int v2, .int v3] (mkCs s) k := ⟨v1, v2, v3, s, rfl, rfl, hw⟩
theorem m_X8_lowestFor (l : Launch) : mj_Met l yX8_lowestFor cX8_lowestFor 6 ((some FieldType.int)) 5 0 0 c_X8_lowestFor := by
  refine mj_body2 false (TbX8 6 ((some FieldType.int)) ct_X8_lowestFor) (by decide) rfl rfl (fun h => nomatch h) (tfX8 _ (List.forall_mem_cons.mpr ⟨cfX8_58 (m_J7_fill_53178 l) (by decide), List.forall_mem_cons.mpr ⟨cfX8_67 (m_X11_within l) (by decide), List.forall_mem_cons.mpr ⟨cfX8_71 (m_X8_tonguesIn l) (by decide), fun _ h => nomatch h⟩⟩⟩)) ?_
  rintro as h k ⟨v1, v2, v3, s, rfl, rfl, hw⟩
  exact ⟨rfl, fun G hG => g_X8_lowestFor hG hw⟩
def B_X8_assign_8 (v1 : Int32) (v2 : Int32) (v3 : Int32) : Int32 × St → Option ((Int32 × St) ⊕ ((St)))
  | (v4, s) =>
  if (s.1 501) ≤ v4 then
    some (.inr s)
  else
    (F_X5_classesOf v4 v1 v2 s).bind fun r1 =>
    (wr r1.2 809 20 v4 r1.1).bind fun s2 =>
    some (.inl ((v4 + 1), s2))
def B_X8_assign_47 (v2 : Int32) (v3 : Int32) : Int32 × St → Option ((Int32 × St) ⊕ ((St)))
  | (v4, s) =>
  if (s.1 802) ≤ v4 then
    some (.inr s)
  else
    (wr s 808 40 v4 (-1)).bind fun s3 =>
    (rd s3 807 40 v4).bind fun x4 =>
    if v2 < x4 then
      (rd s3 808 40 v4).bind fun x5 =>
      if x5 = (-1) then
        some (.inl ((v4 + 1), s3))
      else
        (rd s3 808 40 v4).bind fun x6 =>
        (rd s3 809 20 x6).bind fun x7 =>
        (wr s3 809 20 x6 (x7 - 1)).bind fun s8 =>
        some (.inl ((v4 + 1), s8))
    else
      (rd s3 803 40 v4).bind fun x9 =>
      if v3 ≤ x9 then
        (rd s3 808 40 v4).bind fun x10 =>
        if x10 = (-1) then
          some (.inl ((v4 + 1), s3))
        else
          (rd s3 808 40 v4).bind fun x11 =>
          (rd s3 809 20 x11).bind fun x12 =>
          (wr s3 809 20 x11 (x12 - 1)).bind fun s13 =>
          some (.inl ((v4 + 1), s13))
      else
        (rd s3 806 40 v4).bind fun x14 =>
        if x14 ≤ v3 then
          (rd s3 808 40 v4).bind fun x15 =>
          if x15 = (-1) then
            some (.inl ((v4 + 1), s3))
          else
            (rd s3 808 40 v4).bind fun x16 =>
            (rd s3 809 20 x16).bind fun x17 =>
            (wr s3 809 20 x16 (x17 - 1)).bind fun s18 =>
            some (.inl ((v4 + 1), s18))
        else
          (F_X8_lowestFor v4 v3 v2 s3).bind fun r19 =>
          (wr r19.2 808 40 v4 r19.1).bind fun s20 =>
          (rd s20 808 40 v4).bind fun x21 =>
          if x21 = (-1) then
            some (.inl ((v4 + 1), s20))
          else
            (rd s20 808 40 v4).bind fun x22 =>
            (rd s20 809 20 x22).bind fun x23 =>
            (wr s20 809 20 x22 (x23 - 1)).bind fun s24 =>
            some (.inl ((v4 + 1), s24))
def F_X8_assign_145 (s : St) : Option (St) :=
  some s
def F_X8_assign_47 (v2 : Int32) (v3 : Int32) (v4 : Int32) (s : St) : Option (St) :=
  (lp (B_X8_assign_47 v2 v3) FU (v4, s)).bind (fun y => F_X8_assign_145 y)
def F_X8_assign_44 (v2 : Int32) (v3 : Int32) (s : St) : Option (St) :=
  F_X8_assign_47 v2 v3 0 s
def F_X8_assign_8 (v1 : Int32) (v2 : Int32) (v3 : Int32) (v4 : Int32) (s : St) : Option (St) :=
  (lp (B_X8_assign_8 v1 v2 v3) FU (v4, s)).bind (fun y => F_X8_assign_44 v2 v3 y)
def F_X8_assign (v1 : Int32) (v2 : Int32) (s : St) : Option (St) :=
  F_X8_assign_8 v1 v2 (v1 / 52) 0 s
theorem J_X8_assign : mj_t 17 27 = 44 ∧ mj_t 41 (-33) = 8 ∧ mj_t 53 92 = 145 ∧ mj_t 72 40 = 112 ∧ mj_t 83 29 = 112 ∧ mj_t 94 18 = 112 ∧ mj_t 120 19 = 139 ∧ mj_t 142 (-95) = 47 ∧ (0 ≤ ((17 : Nat) : Int) + 27) = True ∧ (0 ≤ ((41 : Nat) : Int) + (-33)) = True ∧ (0 ≤ ((53 : Nat) : Int) + 92) = True ∧ (0 ≤ ((72 : Nat) : Int) + 40) = True ∧ (0 ≤ ((83 : Nat) : Int) + 29) = True ∧ (0 ≤ ((94 : Nat) : Int) + 18) = True ∧ (0 ≤ ((120 : Nat) : Int) + 19) = True ∧ (0 ≤ ((142 : Nat) : Int) + (-95)) = True := by and_intros <;> first | rfl | exact eq_true (by decide)
def ct_X8_assign : List (Nat × mj_Cs) := [(51, 0, 4, 5, 0, 0, c_X5_classesOf), (55, 0, 4, 8, 0, 0, c_X8_lowestFor)]
theorem L_X8_assign : mj_lk ct_X8_assign 51 = some (0, 4, 5, 0, 0, c_X5_classesOf) ∧ mj_lk ct_X8_assign 55 = some (0, 4, 8, 0, 0, c_X8_lowestFor) := ⟨rfl, rfl⟩
set_option maxHeartbeats 4000000 in
set_option maxRecDepth 20000 in
theorem b_X8_assign_8 {k : Option Value → mj_H → Prop} {G : mj_K} (hG : mj_cl2 cX8_assign (TbX8 5 (none) ct_X8_assign) k G) {v1 : Int32} {v2 : Int32} {v3 : Int32} {P : Int32 × St → Prop} {K : (St) → Prop} (hP : ∀ x, P x → G 8 [.ref 64, .int v1, .int v2, .int v3, .int x.1] [] (mkCs x.2) 0 0) (hK0 : ∀ y, K y → G 44 [.ref 64, mj_unk, .int v2, .int v3] [] (mkCs y) 0 0) {v4 : Int32} {s : St} (hw : ok (B_X8_assign_8 v1 v2 v3 (v4, s)) (Sum.elim P K)) : G 8 [.ref 64, .int v1, .int v2, .int v3, .int v4] [] (mkCs s) 0 0 := by
  unfold B_X8_assign_8 at hw
  refine mj_run hG.1 (fun pc => pc == 8 || pc == 37 || pc == 44 || pc == 47 || pc == 111 || pc == 145) 4000 ?_
  simp only [mj_step, mj_W_s, mj_fin, List.getElem?_cons_zero, List.getElem?_cons_succ, mj_go, Nat.reduceAdd, Nat.reduceSub, Nat.reduceLT, Nat.reduceLeDiff, Nat.zero_add, Nat.reduceEqDiff, Nat.reduceBEq, ↓reduceIte, Bool.false_eq_true, List.append_nil, List.nil_append, List.cons_append, Option.toList, and_true, true_and, true_or, or_true, reduceCtorEq, List.map_nil, bI_eq0, bI_eq1, bool_ft, pk_us, vnar0, vnar1, Bool.or_false, Bool.or_true, Bool.false_or, Bool.true_or, mj_kne, eq_self, Int32.reduceLT, Int32.reduceLE, Int32.reduceAdd, Int32.reduceSub, Int32.reduceMul, not_true_eq_false, not_false_eq_true, false_implies, true_implies, D_X8_assign_0, D_X8_assign_1, mj_F_aload_n_k, mj_F_bipush_n, mj_F_dup2, mj_F_getfield_i, mj_F_goto_off, mj_F_iaload, mj_F_iastore, mj_F_iconst_n, mj_F_idiv, mj_F_if_icmp_eq_off, mj_F_if_icmp_ge_off, mj_F_if_icmp_gt_off, mj_F_iinc_k_n, mj_F_iload_k, mj_F_iload_n_k, mj_F_invokevirtual_i, mj_F_istore_k, mj_F_istore_n_k, mj_F_isub, mj_F_return_, mj_set, mj_set0, mj_unk, mj_c2, mj_kc, FT_X8, L_X8_assign, List.take_succ_cons, List.take_zero, List.drop_succ_cons, List.drop_zero, List.reverse_cons, List.reverse_nil, List.length_cons, List.length_nil, gS_C64, gCf8_1, gS_C35, gCf5_1, gCf8_9, gS_C71, sS_Ca_71, gCf8_2, gCf8_8, gS_C70, sS_Ca_70, gCf8_7, gS_C69, sS_Ca_69, gCf8_3, gS_C65, sS_Ca_65, gCf8_6, gS_C68, sS_Ca_68, J_X8_assign]
  refine ⟨fun c => ?_, fun c => ?_⟩
  · replace hw := ok_t hw c
    exact hG.2 _ _ _ _ _ _ _ _ _ (by refine ⟨Or.inr rfl, ?_⟩; refine ⟨Or.inl rfl, ?_⟩; refine ⟨Or.inr rfl, ?_⟩; refine ⟨Or.inr rfl, ?_⟩; exact trivial) (Nat.zero_le _) (Nat.zero_le _) (hK0 _ (ok_some hw :) :)
  · replace hw := ok_f hw c
    refine c_X5_classesOf_in (ok_imp (ok_bind hw) ?_)
    intro p hw
    simp only [Option.toList, List.nil_append, List.cons_append, Nat.reduceSub]
    refine mj_run hG.1 (fun pc => pc == 8 || pc == 37 || pc == 44 || pc == 47 || pc == 111 || pc == 145) 4000 ?_
    simp only [mj_step, mj_W_s, mj_fin, List.getElem?_cons_zero, List.getElem?_cons_succ, mj_go, Nat.reduceAdd, Nat.reduceSub, Nat.reduceLT, Nat.reduceLeDiff, Nat.zero_add, Nat.reduceEqDiff, Nat.reduceBEq, ↓reduceIte, Bool.false_eq_true, List.append_nil, List.nil_append, List.cons_append, Option.toList, and_true, true_and, true_or, or_true, reduceCtorEq, List.map_nil, bI_eq0, bI_eq1, bool_ft, pk_us, vnar0, vnar1, Bool.or_false, Bool.or_true, Bool.false_or, Bool.true_or, mj_kne, eq_self, Int32.reduceLT, Int32.reduceLE, Int32.reduceAdd, Int32.reduceSub, Int32.reduceMul, not_true_eq_false, not_false_eq_true, false_implies, true_implies, D_X8_assign_0, D_X8_assign_1, mj_F_aload_n_k, mj_F_bipush_n, mj_F_dup2, mj_F_getfield_i, mj_F_goto_off, mj_F_iaload, mj_F_iastore, mj_F_iconst_n, mj_F_idiv, mj_F_if_icmp_eq_off, mj_F_if_icmp_ge_off, mj_F_if_icmp_gt_off, mj_F_iinc_k_n, mj_F_iload_k, mj_F_iload_n_k, mj_F_invokevirtual_i, mj_F_istore_k, mj_F_istore_n_k, mj_F_isub, mj_F_return_, mj_set, mj_set0, mj_unk, mj_c2, mj_kc, FT_X8, L_X8_assign, List.take_succ_cons, List.take_zero, List.drop_succ_cons, List.drop_zero, List.reverse_cons, List.reverse_nil, List.length_cons, List.length_nil, gS_C64, gCf8_1, gS_C35, gCf5_1, gCf8_9, gS_C71, sS_Ca_71, gCf8_2, gCf8_8, gS_C70, sS_Ca_70, gCf8_7, gS_C69, sS_Ca_69, gCf8_3, gS_C65, sS_Ca_65, gCf8_6, gS_C68, sS_Ca_68, J_X8_assign]
    refine ⟨(ok_wr hw).1, ?_⟩
    replace hw := (ok_wr hw).2
    exact hG.2 _ _ _ _ _ _ _ _ _ (by refine ⟨Or.inr rfl, ?_⟩; refine ⟨Or.inr rfl, ?_⟩; refine ⟨Or.inr rfl, ?_⟩; refine ⟨Or.inr rfl, ?_⟩; refine ⟨Or.inr rfl, ?_⟩; exact trivial) (Nat.zero_le _) (Nat.zero_le _) (hP _ (ok_some hw :) :)

set_option maxHeartbeats 4000000 in
set_option maxRecDepth 20000 in
theorem b_X8_assign_47 {k : Option Value → mj_H → Prop} {G : mj_K} (hG : mj_cl2 cX8_assign (TbX8 5 (none) ct_X8_assign) k G) {v2 : Int32} {v3 : Int32} {P : Int32 × St → Prop} {K : (St) → Prop} (hP : ∀ x, P x → G 47 [.ref 64, mj_unk, .int v2, .int v3, .int x.1] [] (mkCs x.2) 0 0) (hK0 : ∀ y, K y → G 145 [] [] (mkCs y) 0 0) {v4 : Int32} {s : St} (hw : ok (B_X8_assign_47 v2 v3 (v4, s)) (Sum.elim P K)) : G 47 [.ref 64, mj_unk, .int v2, .int v3, .int v4] [] (mkCs s) 0 0 := by
  unfold B_X8_assign_47 at hw
  refine mj_run hG.1 (fun pc => pc == 8 || pc == 37 || pc == 44 || pc == 47 || pc == 111 || pc == 145) 4000 ?_
  simp only [mj_step, mj_W_s, mj_fin, List.getElem?_cons_zero, List.getElem?_cons_succ, mj_go, Nat.reduceAdd, Nat.reduceSub, Nat.reduceLT, Nat.reduceLeDiff, Nat.zero_add, Nat.reduceEqDiff, Nat.reduceBEq, ↓reduceIte, Bool.false_eq_true, List.append_nil, List.nil_append, List.cons_append, Option.toList, and_true, true_and, true_or, or_true, reduceCtorEq, List.map_nil, bI_eq0, bI_eq1, bool_ft, pk_us, vnar0, vnar1, Bool.or_false, Bool.or_true, Bool.false_or, Bool.true_or, mj_kne, eq_self, Int32.reduceLT, Int32.reduceLE, Int32.reduceAdd, Int32.reduceSub, Int32.reduceMul, not_true_eq_false, not_false_eq_true, false_implies, true_implies, D_X8_assign_0, D_X8_assign_1, mj_F_aload_n_k, mj_F_bipush_n, mj_F_dup2, mj_F_getfield_i, mj_F_goto_off, mj_F_iaload, mj_F_iastore, mj_F_iconst_n, mj_F_idiv, mj_F_if_icmp_eq_off, mj_F_if_icmp_ge_off, mj_F_if_icmp_gt_off, mj_F_iinc_k_n, mj_F_iload_k, mj_F_iload_n_k, mj_F_invokevirtual_i, mj_F_istore_k, mj_F_istore_n_k, mj_F_isub, mj_F_return_, mj_set, mj_set0, mj_unk, mj_c2, mj_kc, FT_X8, L_X8_assign, List.take_succ_cons, List.take_zero, List.drop_succ_cons, List.drop_zero, List.reverse_cons, List.reverse_nil, List.length_cons, List.length_nil, gS_C64, gCf8_1, gS_C35, gCf5_1, gCf8_9, gS_C71, sS_Ca_71, gCf8_2, gCf8_8, gS_C70, sS_Ca_70, gCf8_7, gS_C69, sS_Ca_69, gCf8_3, gS_C65, sS_Ca_65, gCf8_6, gS_C68, sS_Ca_68, J_X8_assign]
  refine ⟨fun c => ?_, fun c => ?_⟩
  · replace hw := ok_t hw c
    exact hG.2 _ _ _ _ _ _ _ _ _ (by exact trivial) (Nat.zero_le _) (Nat.zero_le _) (hK0 _ (ok_some hw :) :)
  · replace hw := ok_f hw c
    refine ⟨(ok_wr hw).1, ?_⟩
    replace hw := (ok_wr hw).2
    refine ⟨(ok_rd hw).1, ?_⟩
    replace hw := (ok_rd hw).2
    refine ⟨fun c => ?_, fun c => ?_⟩
    · replace hw := ok_t hw c
      refine ⟨(ok_rd hw).1, ?_⟩
      replace hw := (ok_rd hw).2
      refine ⟨fun c => ?_, fun c => ?_⟩
      · replace hw := ok_t hw c
        exact hG.2 _ _ _ _ _ _ _ _ _ (by refine ⟨Or.inr rfl, ?_⟩; refine ⟨Or.inl rfl, ?_⟩; refine ⟨Or.inr rfl, ?_⟩; refine ⟨Or.inr rfl, ?_⟩; refine ⟨Or.inr rfl, ?_⟩; exact trivial) (Nat.zero_le _) (Nat.zero_le _) (hP _ (ok_some hw :) :)
      · replace hw := ok_f hw c
        refine ⟨(ok_rd hw).1, ?_⟩
        replace hw := (ok_rd hw).2
        refine ⟨(ok_rd hw).1, ?_⟩
        replace hw := (ok_rd hw).2
        refine ⟨(ok_wr hw).1, ?_⟩
        replace hw := (ok_wr hw).2
        exact hG.2 _ _ _ _ _ _ _ _ _ (by refine ⟨Or.inr rfl, ?_⟩; refine ⟨Or.inl rfl, ?_⟩; refine ⟨Or.inr rfl, ?_⟩; refine ⟨Or.inr rfl, ?_⟩; refine ⟨Or.inr rfl, ?_⟩; exact trivial) (Nat.zero_le _) (Nat.zero_le _) (hP _ (ok_some hw :) :)
    · replace hw := ok_f hw c
      refine ⟨(ok_rd hw).1, ?_⟩
      replace hw := (ok_rd hw).2
      refine ⟨fun c => ?_, fun c => ?_⟩
      · replace hw := ok_t hw c
        refine ⟨(ok_rd hw).1, ?_⟩
        replace hw := (ok_rd hw).2
        refine ⟨fun c => ?_, fun c => ?_⟩
        · replace hw := ok_t hw c
          exact hG.2 _ _ _ _ _ _ _ _ _ (by refine ⟨Or.inr rfl, ?_⟩; refine ⟨Or.inl rfl, ?_⟩; refine ⟨Or.inr rfl, ?_⟩; refine ⟨Or.inr rfl, ?_⟩; refine ⟨Or.inr rfl, ?_⟩; exact trivial) (Nat.zero_le _) (Nat.zero_le _) (hP _ (ok_some hw :) :)
        · replace hw := ok_f hw c
          refine ⟨(ok_rd hw).1, ?_⟩
          replace hw := (ok_rd hw).2
          refine ⟨(ok_rd hw).1, ?_⟩
          replace hw := (ok_rd hw).2
          refine ⟨(ok_wr hw).1, ?_⟩
          replace hw := (ok_wr hw).2
          exact hG.2 _ _ _ _ _ _ _ _ _ (by refine ⟨Or.inr rfl, ?_⟩; refine ⟨Or.inl rfl, ?_⟩; refine ⟨Or.inr rfl, ?_⟩; refine ⟨Or.inr rfl, ?_⟩; refine ⟨Or.inr rfl, ?_⟩; exact trivial) (Nat.zero_le _) (Nat.zero_le _) (hP _ (ok_some hw :) :)
      · replace hw := ok_f hw c
        refine ⟨(ok_rd hw).1, ?_⟩
        replace hw := (ok_rd hw).2
        refine ⟨fun c => ?_, fun c => ?_⟩
        · replace hw := ok_t hw c
          refine ⟨(ok_rd hw).1, ?_⟩
          replace hw := (ok_rd hw).2
          refine ⟨fun c => ?_, fun c => ?_⟩
          · replace hw := ok_t hw c
            exact hG.2 _ _ _ _ _ _ _ _ _ (by refine ⟨Or.inr rfl, ?_⟩; refine ⟨Or.inl rfl, ?_⟩; refine ⟨Or.inr rfl, ?_⟩; refine ⟨Or.inr rfl, ?_⟩; refine ⟨Or.inr rfl, ?_⟩; exact trivial) (Nat.zero_le _) (Nat.zero_le _) (hP _ (ok_some hw :) :)
          · replace hw := ok_f hw c
            refine ⟨(ok_rd hw).1, ?_⟩
            replace hw := (ok_rd hw).2
            refine ⟨(ok_rd hw).1, ?_⟩
            replace hw := (ok_rd hw).2
            refine ⟨(ok_wr hw).1, ?_⟩
            replace hw := (ok_wr hw).2
            exact hG.2 _ _ _ _ _ _ _ _ _ (by refine ⟨Or.inr rfl, ?_⟩; refine ⟨Or.inl rfl, ?_⟩; refine ⟨Or.inr rfl, ?_⟩; refine ⟨Or.inr rfl, ?_⟩; refine ⟨Or.inr rfl, ?_⟩; exact trivial) (Nat.zero_le _) (Nat.zero_le _) (hP _ (ok_some hw :) :)
        · replace hw := ok_f hw c
          refine c_X8_lowestFor_in (ok_imp (ok_bind hw) ?_)
          intro p hw
          simp only [Option.toList, List.nil_append, List.cons_append, Nat.reduceSub]
          refine mj_run hG.1 (fun pc => pc == 8 || pc == 37 || pc == 44 || pc == 47 || pc == 111 || pc == 145) 4000 ?_
          simp only [mj_step, mj_W_s, mj_fin, List.getElem?_cons_zero, List.getElem?_cons_succ, mj_go, Nat.reduceAdd, Nat.reduceSub, Nat.reduceLT, Nat.reduceLeDiff, Nat.zero_add, Nat.reduceEqDiff, Nat.reduceBEq, ↓reduceIte, Bool.false_eq_true, List.append_nil, List.nil_append, List.cons_append, Option.toList, and_true, true_and, true_or, or_true, reduceCtorEq, List.map_nil, bI_eq0, bI_eq1, bool_ft, pk_us, vnar0, vnar1, Bool.or_false, Bool.or_true, Bool.false_or, Bool.true_or, mj_kne, eq_self, Int32.reduceLT, Int32.reduceLE, Int32.reduceAdd, Int32.reduceSub, Int32.reduceMul, not_true_eq_false, not_false_eq_true, false_implies, true_implies, D_X8_assign_0, D_X8_assign_1, mj_F_aload_n_k, mj_F_bipush_n, mj_F_dup2, mj_F_getfield_i, mj_F_goto_off, mj_F_iaload, mj_F_iastore, mj_F_iconst_n, mj_F_idiv, mj_F_if_icmp_eq_off, mj_F_if_icmp_ge_off, mj_F_if_icmp_gt_off, mj_F_iinc_k_n, mj_F_iload_k, mj_F_iload_n_k, mj_F_invokevirtual_i, mj_F_istore_k, mj_F_istore_n_k, mj_F_isub, mj_F_return_, mj_set, mj_set0, mj_unk, mj_c2, mj_kc, FT_X8, L_X8_assign, List.take_succ_cons, List.take_zero, List.drop_succ_cons, List.drop_zero, List.reverse_cons, List.reverse_nil, List.length_cons, List.length_nil, gS_C64, gCf8_1, gS_C35, gCf5_1, gCf8_9, gS_C71, sS_Ca_71, gCf8_2, gCf8_8, gS_C70, sS_Ca_70, gCf8_7, gS_C69, sS_Ca_69, gCf8_3, gS_C65, sS_Ca_65, gCf8_6, gS_C68, sS_Ca_68, J_X8_assign]
          refine ⟨(ok_wr hw).1, ?_⟩
          replace hw := (ok_wr hw).2
          refine ⟨(ok_rd hw).1, ?_⟩
          replace hw := (ok_rd hw).2
          refine ⟨fun c => ?_, fun c => ?_⟩
          · replace hw := ok_t hw c
            exact hG.2 _ _ _ _ _ _ _ _ _ (by refine ⟨Or.inr rfl, ?_⟩; refine ⟨Or.inl rfl, ?_⟩; refine ⟨Or.inr rfl, ?_⟩; refine ⟨Or.inr rfl, ?_⟩; refine ⟨Or.inr rfl, ?_⟩; exact trivial) (Nat.zero_le _) (Nat.zero_le _) (hP _ (ok_some hw :) :)
          · replace hw := ok_f hw c
            refine ⟨(ok_rd hw).1, ?_⟩
            replace hw := (ok_rd hw).2
            refine ⟨(ok_rd hw).1, ?_⟩
            replace hw := (ok_rd hw).2
            refine ⟨(ok_wr hw).1, ?_⟩
            replace hw := (ok_wr hw).2
            exact hG.2 _ _ _ _ _ _ _ _ _ (by refine ⟨Or.inr rfl, ?_⟩; refine ⟨Or.inl rfl, ?_⟩; refine ⟨Or.inr rfl, ?_⟩; refine ⟨Or.inr rfl, ?_⟩; refine ⟨Or.inr rfl, ?_⟩; exact trivial) (Nat.zero_le _) (Nat.zero_le _) (hP _ (ok_some hw :) :)

set_option maxHeartbeats 4000000 in
set_option maxRecDepth 20000 in
theorem g_X8_assign_145 {k : Option Value → mj_H → Prop} {G : mj_K} (hG : mj_cl2 cX8_assign (TbX8 5 (none) ct_X8_assign) k G)   {s : St} (hw : ok (F_X8_assign_145 s) (fun p => k none (mkCs p))) : G 145 [] [] (mkCs s) 0 0 := by
  unfold F_X8_assign_145 at hw
  refine mj_run hG.1 (fun pc => pc == 8 || pc == 37 || pc == 44 || pc == 47 || pc == 111 || pc == 145) 4000 ?_
  simp only [mj_step, mj_W_s, mj_fin, List.getElem?_cons_zero, List.getElem?_cons_succ, mj_go, Nat.reduceAdd, Nat.reduceSub, Nat.reduceLT, Nat.reduceLeDiff, Nat.zero_add, Nat.reduceEqDiff, Nat.reduceBEq, ↓reduceIte, Bool.false_eq_true, List.append_nil, List.nil_append, List.cons_append, Option.toList, and_true, true_and, true_or, or_true, reduceCtorEq, List.map_nil, bI_eq0, bI_eq1, bool_ft, pk_us, vnar0, vnar1, Bool.or_false, Bool.or_true, Bool.false_or, Bool.true_or, mj_kne, eq_self, Int32.reduceLT, Int32.reduceLE, Int32.reduceAdd, Int32.reduceSub, Int32.reduceMul, not_true_eq_false, not_false_eq_true, false_implies, true_implies, D_X8_assign_0, D_X8_assign_1, mj_F_aload_n_k, mj_F_bipush_n, mj_F_dup2, mj_F_getfield_i, mj_F_goto_off, mj_F_iaload, mj_F_iastore, mj_F_iconst_n, mj_F_idiv, mj_F_if_icmp_eq_off, mj_F_if_icmp_ge_off, mj_F_if_icmp_gt_off, mj_F_iinc_k_n, mj_F_iload_k, mj_F_iload_n_k, mj_F_invokevirtual_i, mj_F_istore_k, mj_F_istore_n_k, mj_F_isub, mj_F_return_, mj_set, mj_set0, mj_unk, mj_c2, mj_kc, FT_X8, L_X8_assign, List.take_succ_cons, List.take_zero, List.drop_succ_cons, List.drop_zero, List.reverse_cons, List.reverse_nil, List.length_cons, List.length_nil, gS_C64, gCf8_1, gS_C35, gCf5_1, gCf8_9, gS_C71, sS_Ca_71, gCf8_2, gCf8_8, gS_C70, sS_Ca_70, gCf8_7, gS_C69, sS_Ca_69, gCf8_3, gS_C65, sS_Ca_65, gCf8_6, gS_C68, sS_Ca_68, J_X8_assign]
  exact (ok_some hw :)

set_option maxHeartbeats 4000000 in
theorem g_X8_assign_47 {k : Option Value → mj_H → Prop} {G : mj_K} (hG : mj_cl2 cX8_assign (TbX8 5 (none) ct_X8_assign) k G)   {v2 : Int32} {v3 : Int32} {v4 : Int32} {s : St} (hw : ok (F_X8_assign_47 v2 v3 v4 s) (fun p => k none (mkCs p))) : G 47 [.ref 64, mj_unk, .int v2, .int v3, .int v4] [] (mkCs s) 0 0 := by
  unfold F_X8_assign_47 at hw
  refine lp_ok (B_X8_assign_47 v2 v3) (fun x => G 47 [.ref 64, mj_unk, .int v2, .int v3, .int x.1] [] (mkCs x.2) 0 0) _ ?_ _ _ (ok_bind hw)
  rintro ⟨v4, s⟩ hb
  exact b_X8_assign_47 hG (fun _ z => z) (fun y hw => by exact hG.2 _ _ _ _ _ _ _ _ _ (by exact trivial) (Nat.zero_le _) (Nat.zero_le _) (g_X8_assign_145 hG  hw :)) hb

set_option maxHeartbeats 4000000 in
set_option maxRecDepth 20000 in
theorem g_X8_assign_44 {k : Option Value → mj_H → Prop} {G : mj_K} (hG : mj_cl2 cX8_assign (TbX8 5 (none) ct_X8_assign) k G)   {v2 : Int32} {v3 : Int32} {s : St} (hw : ok (F_X8_assign_44 v2 v3 s) (fun p => k none (mkCs p))) : G 44 [.ref 64, mj_unk, .int v2, .int v3] [] (mkCs s) 0 0 := by
  unfold F_X8_assign_44 at hw
  refine mj_run hG.1 (fun pc => pc == 8 || pc == 37 || pc == 44 || pc == 47 || pc == 111 || pc == 145) 4000 ?_
  simp only [mj_step, mj_W_s, mj_fin, List.getElem?_cons_zero, List.getElem?_cons_succ, mj_go, Nat.reduceAdd, Nat.reduceSub, Nat.reduceLT, Nat.reduceLeDiff, Nat.zero_add, Nat.reduceEqDiff, Nat.reduceBEq, ↓reduceIte, Bool.false_eq_true, List.append_nil, List.nil_append, List.cons_append, Option.toList, and_true, true_and, true_or, or_true, reduceCtorEq, List.map_nil, bI_eq0, bI_eq1, bool_ft, pk_us, vnar0, vnar1, Bool.or_false, Bool.or_true, Bool.false_or, Bool.true_or, mj_kne, eq_self, Int32.reduceLT, Int32.reduceLE, Int32.reduceAdd, Int32.reduceSub, Int32.reduceMul, not_true_eq_false, not_false_eq_true, false_implies, true_implies, D_X8_assign_0, D_X8_assign_1, mj_F_aload_n_k, mj_F_bipush_n, mj_F_dup2, mj_F_getfield_i, mj_F_goto_off, mj_F_iaload, mj_F_iastore, mj_F_iconst_n, mj_F_idiv, mj_F_if_icmp_eq_off, mj_F_if_icmp_ge_off, mj_F_if_icmp_gt_off, mj_F_iinc_k_n, mj_F_iload_k, mj_F_iload_n_k, mj_F_invokevirtual_i, mj_F_istore_k, mj_F_istore_n_k, mj_F_isub, mj_F_return_, mj_set, mj_set0, mj_unk, mj_c2, mj_kc, FT_X8, L_X8_assign, List.take_succ_cons, List.take_zero, List.drop_succ_cons, List.drop_zero, List.reverse_cons, List.reverse_nil, List.length_cons, List.length_nil, gS_C64, gCf8_1, gS_C35, gCf5_1, gCf8_9, gS_C71, sS_Ca_71, gCf8_2, gCf8_8, gS_C70, sS_Ca_70, gCf8_7, gS_C69, sS_Ca_69, gCf8_3, gS_C65, sS_Ca_65, gCf8_6, gS_C68, sS_Ca_68, J_X8_assign]
  exact hG.2 _ _ _ _ _ _ _ _ _ (by refine ⟨Or.inr rfl, ?_⟩; refine ⟨Or.inl rfl, ?_⟩; refine ⟨Or.inr rfl, ?_⟩; refine ⟨Or.inr rfl, ?_⟩; refine ⟨Or.inr rfl, ?_⟩; exact trivial) (Nat.zero_le _) (Nat.zero_le _) (g_X8_assign_47 hG  hw :)

set_option maxHeartbeats 4000000 in
theorem g_X8_assign_8 {k : Option Value → mj_H → Prop} {G : mj_K} (hG : mj_cl2 cX8_assign (TbX8 5 (none) ct_X8_assign) k G)   {v1 : Int32} {v2 : Int32} {v3 : Int32} {v4 : Int32} {s : St} (hw : ok (F_X8_assign_8 v1 v2 v3 v4 s) (fun p => k none (mkCs p))) : G 8 [.ref 64, .int v1, .int v2, .int v3, .int v4] [] (mkCs s) 0 0 := by
  unfold F_X8_assign_8 at hw
  refine lp_ok (B_X8_assign_8 v1 v2 v3) (fun x => G 8 [.ref 64, .int v1, .int v2, .int v3, .int x.1] [] (mkCs x.2) 0 0) _ ?_ _ _ (ok_bind hw)
  rintro ⟨v4, s⟩ hb
  exact b_X8_assign_8 hG (fun _ z => z) (fun y hw => by exact hG.2 _ _ _ _ _ _ _ _ _ (by refine ⟨Or.inr rfl, ?_⟩; refine ⟨Or.inl rfl, ?_⟩; refine ⟨Or.inr rfl, ?_⟩; refine ⟨Or.inr rfl, ?_⟩; exact trivial) (Nat.zero_le _) (Nat.zero_le _) (g_X8_assign_44 hG  hw :)) hb

set_option maxHeartbeats 4000000 in
set_option maxRecDepth 20000 in
theorem g_X8_assign {k : Option Value → mj_H → Prop} {G : mj_K} (hG : mj_cl2 cX8_assign (TbX8 5 (none) ct_X8_assign) k G) {v1 : Int32} {v2 : Int32} {s : St} (hw : ok (F_X8_assign v1 v2 s) (fun p => k none (mkCs p))) : G 0 [.ref 64, .int v1, .int v2] [] (mkCs s) 0 0 := by
  unfold F_X8_assign at hw
  refine mj_run hG.1 (fun pc => pc == 8 || pc == 37 || pc == 44 || pc == 47 || pc == 111 || pc == 145) 4000 ?_
  simp only [mj_step, mj_W_s, mj_fin, List.getElem?_cons_zero, List.getElem?_cons_succ, mj_go, Nat.reduceAdd, Nat.reduceSub, Nat.reduceLT, Nat.reduceLeDiff, Nat.zero_add, Nat.reduceEqDiff, Nat.reduceBEq, ↓reduceIte, Bool.false_eq_true, List.append_nil, List.nil_append, List.cons_append, Option.toList, and_true, true_and, true_or, or_true, reduceCtorEq, List.map_nil, bI_eq0, bI_eq1, bool_ft, pk_us, vnar0, vnar1, Bool.or_false, Bool.or_true, Bool.false_or, Bool.true_or, mj_kne, eq_self, Int32.reduceLT, Int32.reduceLE, Int32.reduceAdd, Int32.reduceSub, Int32.reduceMul, not_true_eq_false, not_false_eq_true, false_implies, true_implies, D_X8_assign_0, D_X8_assign_1, mj_F_aload_n_k, mj_F_bipush_n, mj_F_dup2, mj_F_getfield_i, mj_F_goto_off, mj_F_iaload, mj_F_iastore, mj_F_iconst_n, mj_F_idiv, mj_F_if_icmp_eq_off, mj_F_if_icmp_ge_off, mj_F_if_icmp_gt_off, mj_F_iinc_k_n, mj_F_iload_k, mj_F_iload_n_k, mj_F_invokevirtual_i, mj_F_istore_k, mj_F_istore_n_k, mj_F_isub, mj_F_return_, mj_set, mj_set0, mj_unk, mj_c2, mj_kc, FT_X8, L_X8_assign, List.take_succ_cons, List.take_zero, List.drop_succ_cons, List.drop_zero, List.reverse_cons, List.reverse_nil, List.length_cons, List.length_nil, gS_C64, gCf8_1, gS_C35, gCf5_1, gCf8_9, gS_C71, sS_Ca_71, gCf8_2, gCf8_8, gS_C70, sS_Ca_70, gCf8_7, gS_C69, sS_Ca_69, gCf8_3, gS_C65, sS_Ca_65, gCf8_6, gS_C68, sS_Ca_68, J_X8_assign]
  exact hG.2 _ _ _ _ _ _ _ _ _ (by refine ⟨Or.inr rfl, ?_⟩; refine ⟨Or.inr rfl, ?_⟩; refine ⟨Or.inr rfl, ?_⟩; refine ⟨Or.inr rfl, ?_⟩; refine ⟨Or.inr rfl, ?_⟩; exact trivial) (Nat.zero_le _) (Nat.zero_le _) (g_X8_assign_8 hG  hw :)

def c_X8_assign : mj_S := fun as h k => ∃ (v1 : Int32) (v2 : Int32) (s : St), as = [.ref 64, .int v1, .int v2] ∧ h = mkCs s ∧ ok (F_X8_assign v1 v2 s) (fun p => k none (mkCs p))
theorem c_X8_assign_in {v1 : Int32} {v2 : Int32} {s : St} {k : Option Value → mj_H → Prop} (hw : ok (F_X8_assign v1 v2 s) (fun p => k none (mkCs p))) : c_X8_assign [.ref 64, .int v1, .int v2] (mkCs s) k := ⟨v1, v2, s, rfl, rfl, hw⟩
theorem m_X8_assign (l : Launch) : mj_Met l yX8_assign cX8_assign 5 (none) 6 0 0 c_X8_assign := by
  refine mj_body2 false (TbX8 5 (none) ct_X8_assign) (by decide) rfl rfl (fun h => nomatch h) (tfX8 _ (List.forall_mem_cons.mpr ⟨cfX8_51 (m_X5_classesOf l) (by decide), List.forall_mem_cons.mpr ⟨cfX8_55 (m_X8_lowestFor l) (by decide), fun _ h => nomatch h⟩⟩)) ?_
  rintro as h k ⟨v1, v2, s, rfl, rfl, hw⟩
  exact ⟨rfl, fun G hG => g_X8_assign hG hw⟩
def F_X11_sent (v1 : Int32) (v2 : Int32) (v3 : Int32) (s : St) : Option (Int32 × St) :=
  if inb v1 0 ((s.1 802) - 1) = false then
    some ((-1), s)
  else
    (F_X11_isPast v2 s).bind fun r1 =>
    if r1 = 0 then
      some ((-1), s)
    else
      (F_X11_isPast v3 s).bind fun r2 =>
      if r2 = 0 then
        some ((-1), s)
      else
        (F_X8_assign v2 v3 s).bind fun s3 =>
        (rd s3 808 40 v1).bind fun x4 =>
        some (x4, s3)
theorem J_X11_sent : mj_t 14 19 = 33 ∧ mj_t 22 11 = 33 ∧ mj_t 30 5 = 35 ∧ (0 ≤ ((14 : Nat) : Int) + 19) = True ∧ (0 ≤ ((22 : Nat) : Int) + 11) = True ∧ (0 ≤ ((30 : Nat) : Int) + 5) = True := by and_intros <;> first | rfl | exact eq_true (by decide)
def ct_X11_sent : List (Nat × mj_Cs) := [(96, 2, 3, 11, 0, 0, c_in), (148, 0, 2, 11, 0, 0, c_X11_isPast), (324, 0, 3, 8, 0, 0, c_X8_assign)]
theorem L_X11_sent : mj_lk ct_X11_sent 96 = some (2, 3, 11, 0, 0, c_in) ∧ mj_lk ct_X11_sent 148 = some (0, 2, 11, 0, 0, c_X11_isPast) ∧ mj_lk ct_X11_sent 324 = some (0, 3, 8, 0, 0, c_X8_assign) := ⟨rfl, rfl, rfl⟩
set_option maxHeartbeats 4000000 in
set_option maxRecDepth 20000 in
theorem g_X11_sent {k : Option Value → mj_H → Prop} {G : mj_K} (hG : mj_cl2 cX11_sent (TbX11 4 ((some FieldType.int)) ct_X11_sent) k G) {v1 : Int32} {v2 : Int32} {v3 : Int32} {s : St} (hw : ok (F_X11_sent v1 v2 v3 s) (fun p => k (some (.int p.1)) (mkCs p.2))) : G 0 [.ref 0, .int v1, .int v2, .int v3] [] (mkCs s) 0 0 := by
  unfold F_X11_sent at hw
  refine mj_run hG.1 (fun pc => pc == 22 || pc == 30 || pc == 44) 4000 ?_
  simp only [mj_step, mj_W_s, mj_fin, List.getElem?_cons_zero, List.getElem?_cons_succ, mj_go, Nat.reduceAdd, Nat.reduceSub, Nat.reduceLT, Nat.reduceLeDiff, Nat.zero_add, Nat.reduceEqDiff, Nat.reduceBEq, ↓reduceIte, Bool.false_eq_true, List.append_nil, List.nil_append, List.cons_append, Option.toList, and_true, true_and, true_or, or_true, reduceCtorEq, List.map_nil, bI_eq0, bI_eq1, bool_ft, pk_us, vnar0, vnar1, Bool.or_false, Bool.or_true, Bool.false_or, Bool.true_or, mj_kne, eq_self, Int32.reduceLT, Int32.reduceLE, Int32.reduceAdd, Int32.reduceSub, Int32.reduceMul, not_true_eq_false, not_false_eq_true, false_implies, true_implies, D_X11_sent, mj_F_aload_n_k, mj_F_getfield_i, mj_F_iaload, mj_F_iconst_n, mj_F_ifCond_eq_off, mj_F_ifCond_ne_off, mj_F_iload_n_k, mj_F_invokestatic_i, mj_F_invokevirtual_i, mj_F_ireturn, mj_F_isub, mj_kc, FT_X11, L_X11_sent, List.take_succ_cons, List.take_zero, List.drop_succ_cons, List.drop_zero, List.reverse_cons, List.reverse_nil, List.length_cons, List.length_nil, gS_C0, gCf11_8, gS_C64, gCf8_2, gCf8_8, gS_C70, sS_Ca_70, c_in_eq, J_X11_sent]
  refine ⟨fun c => ?_, fun c => ?_⟩
  · replace hw := ok_t hw c
    exact (ok_some hw :)
  · replace hw := ok_f hw c
    refine c_X11_isPast_in (ok_imp (ok_bind hw) ?_)
    intro p hw
    simp only [Option.toList, List.nil_append, List.cons_append, Nat.reduceSub]
    refine mj_run hG.1 (fun pc => pc == 22 || pc == 30 || pc == 44) 4000 ?_
    simp only [mj_step, mj_W_s, mj_fin, List.getElem?_cons_zero, List.getElem?_cons_succ, mj_go, Nat.reduceAdd, Nat.reduceSub, Nat.reduceLT, Nat.reduceLeDiff, Nat.zero_add, Nat.reduceEqDiff, Nat.reduceBEq, ↓reduceIte, Bool.false_eq_true, List.append_nil, List.nil_append, List.cons_append, Option.toList, and_true, true_and, true_or, or_true, reduceCtorEq, List.map_nil, bI_eq0, bI_eq1, bool_ft, pk_us, vnar0, vnar1, Bool.or_false, Bool.or_true, Bool.false_or, Bool.true_or, mj_kne, eq_self, Int32.reduceLT, Int32.reduceLE, Int32.reduceAdd, Int32.reduceSub, Int32.reduceMul, not_true_eq_false, not_false_eq_true, false_implies, true_implies, D_X11_sent, mj_F_aload_n_k, mj_F_getfield_i, mj_F_iaload, mj_F_iconst_n, mj_F_ifCond_eq_off, mj_F_ifCond_ne_off, mj_F_iload_n_k, mj_F_invokestatic_i, mj_F_invokevirtual_i, mj_F_ireturn, mj_F_isub, mj_kc, FT_X11, L_X11_sent, List.take_succ_cons, List.take_zero, List.drop_succ_cons, List.drop_zero, List.reverse_cons, List.reverse_nil, List.length_cons, List.length_nil, gS_C0, gCf11_8, gS_C64, gCf8_2, gCf8_8, gS_C70, sS_Ca_70, c_in_eq, J_X11_sent]
    refine ⟨fun c => ?_, fun c => ?_⟩
    · replace hw := ok_t hw c
      exact (ok_some hw :)
    · replace hw := ok_f hw c
      refine c_X11_isPast_in (ok_imp (ok_bind hw) ?_)
      intro p hw
      simp only [Option.toList, List.nil_append, List.cons_append, Nat.reduceSub]
      refine mj_run hG.1 (fun pc => pc == 22 || pc == 30 || pc == 44) 4000 ?_
      simp only [mj_step, mj_W_s, mj_fin, List.getElem?_cons_zero, List.getElem?_cons_succ, mj_go, Nat.reduceAdd, Nat.reduceSub, Nat.reduceLT, Nat.reduceLeDiff, Nat.zero_add, Nat.reduceEqDiff, Nat.reduceBEq, ↓reduceIte, Bool.false_eq_true, List.append_nil, List.nil_append, List.cons_append, Option.toList, and_true, true_and, true_or, or_true, reduceCtorEq, List.map_nil, bI_eq0, bI_eq1, bool_ft, pk_us, vnar0, vnar1, Bool.or_false, Bool.or_true, Bool.false_or, Bool.true_or, mj_kne, eq_self, Int32.reduceLT, Int32.reduceLE, Int32.reduceAdd, Int32.reduceSub, Int32.reduceMul, not_true_eq_false, not_false_eq_true, false_implies, true_implies, D_X11_sent, mj_F_aload_n_k, mj_F_getfield_i, mj_F_iaload, mj_F_iconst_n, mj_F_ifCond_eq_off, mj_F_ifCond_ne_off, mj_F_iload_n_k, mj_F_invokestatic_i, mj_F_invokevirtual_i, mj_F_ireturn, mj_F_isub, mj_kc, FT_X11, L_X11_sent, List.take_succ_cons, List.take_zero, List.drop_succ_cons, List.drop_zero, List.reverse_cons, List.reverse_nil, List.length_cons, List.length_nil, gS_C0, gCf11_8, gS_C64, gCf8_2, gCf8_8, gS_C70, sS_Ca_70, c_in_eq, J_X11_sent]
      refine ⟨fun c => ?_, fun c => ?_⟩
      · replace hw := ok_f hw c
        refine c_X8_assign_in (ok_imp (ok_bind hw) ?_)
        intro p hw
        simp only [Option.toList, List.nil_append, List.cons_append, Nat.reduceSub]
        refine mj_run hG.1 (fun pc => pc == 22 || pc == 30 || pc == 44) 4000 ?_
        simp only [mj_step, mj_W_s, mj_fin, List.getElem?_cons_zero, List.getElem?_cons_succ, mj_go, Nat.reduceAdd, Nat.reduceSub, Nat.reduceLT, Nat.reduceLeDiff, Nat.zero_add, Nat.reduceEqDiff, Nat.reduceBEq, ↓reduceIte, Bool.false_eq_true, List.append_nil, List.nil_append, List.cons_append, Option.toList, and_true, true_and, true_or, or_true, reduceCtorEq, List.map_nil, bI_eq0, bI_eq1, bool_ft, pk_us, vnar0, vnar1, Bool.or_false, Bool.or_true, Bool.false_or, Bool.true_or, mj_kne, eq_self, Int32.reduceLT, Int32.reduceLE, Int32.reduceAdd, Int32.reduceSub, Int32.reduceMul, not_true_eq_false, not_false_eq_true, false_implies, true_implies, D_X11_sent, mj_F_aload_n_k, mj_F_getfield_i, mj_F_iaload, mj_F_iconst_n, mj_F_ifCond_eq_off, mj_F_ifCond_ne_off, mj_F_iload_n_k, mj_F_invokestatic_i, mj_F_invokevirtual_i, mj_F_ireturn, mj_F_isub, mj_kc, FT_X11, L_X11_sent, List.take_succ_cons, List.take_zero, List.drop_succ_cons, List.drop_zero, List.reverse_cons, List.reverse_nil, List.length_cons, List.length_nil, gS_C0, gCf11_8, gS_C64, gCf8_2, gCf8_8, gS_C70, sS_Ca_70, c_in_eq, J_X11_sent]
        refine ⟨(ok_rd hw).1, ?_⟩
        replace hw := (ok_rd hw).2
        exact (ok_some hw :)
      · replace hw := ok_t hw c
        exact (ok_some hw :)

def c_X11_sent : mj_S := fun as h k => ∃ (v1 : Int32) (v2 : Int32) (v3 : Int32) (s : St), as = [.ref 0, .int v1, .int v2, .int v3] ∧ h = mkCs s ∧ ok (F_X11_sent v1 v2 v3 s) (fun p => k (some (.int p.1)) (mkCs p.2))
theorem c_X11_sent_in {v1 : Int32} {v2 : Int32} {v3 : Int32} {s : St} {k : Option Value → mj_H → Prop} (hw : ok (F_X11_sent v1 v2 v3 s) (fun p => k (some (.int p.1)) (mkCs p.2))) : c_X11_sent [.ref 0, .int v1, .int v2, .int v3] (mkCs s) k := ⟨v1, v2, v3, s, rfl, rfl, hw⟩
theorem m_X11_sent (l : Launch) : mj_Met l yX11_sent cX11_sent 4 ((some FieldType.int)) 7 0 0 c_X11_sent := by
  refine mj_body2 false (TbX11 4 ((some FieldType.int)) ct_X11_sent) (by decide) rfl rfl (fun h => nomatch h) (tfX11 _ (List.forall_mem_cons.mpr ⟨cfX11_96 (m_X11_within l) (by decide), List.forall_mem_cons.mpr ⟨cfX11_148 (m_X11_isPast l) (by decide), List.forall_mem_cons.mpr ⟨cfX11_324 (m_X8_assign l) (by decide), fun _ h => nomatch h⟩⟩⟩)) ?_
  rintro as h k ⟨v1, v2, v3, s, rfl, rfl, hw⟩
  exact ⟨rfl, fun G hG => g_X11_sent hG hw⟩
def B_X8_allWithout_4 (s : St) : Int32 × Int32 → Option ((Int32 × Int32) ⊕ ((Int32)))
  | (v1, v2) =>
  if (s.1 501) ≤ v2 then
    some (.inr v1)
  else
    (rd s 809 20 v2).bind fun x1 =>
    some (.inl ((v1 + x1), (v2 + 1)))
def F_X8_allWithout_30 (v1 : Int32) (s : St) : Option (Int32) :=
  some v1
def F_X8_allWithout_4 (v1 : Int32) (v2 : Int32) (s : St) : Option (Int32) :=
  (lp (B_X8_allWithout_4 s) FU (v1, v2)).bind (fun y => F_X8_allWithout_30 y s)
def F_X8_allWithout (s : St) : Option (Int32) :=
  F_X8_allWithout_4 0 0 s
theorem J_X8_allWithout : mj_t 12 18 = 30 ∧ mj_t 27 (-23) = 4 ∧ (0 ≤ ((12 : Nat) : Int) + 18) = True ∧ (0 ≤ ((27 : Nat) : Int) + (-23)) = True := by and_intros <;> first | rfl | exact eq_true (by decide)
set_option maxHeartbeats 4000000 in
set_option maxRecDepth 20000 in
theorem b_X8_allWithout_4 {k : Option Value → mj_H → Prop} {G : mj_K} (hG : mj_cl2 cX8_allWithout (TbX8 3 ((some FieldType.int)) []) k G) {s : St} {P : Int32 × Int32 → Prop} {K : (Int32) → Prop} (hP : ∀ x, P x → G 4 [.ref 64, .int x.1, .int x.2] [] (mkCs s) 0 0) (hK0 : ∀ y, K y → G 30 [mj_unk, .int y] [] (mkCs s) 0 0) {v1 : Int32} {v2 : Int32} (hw : ok (B_X8_allWithout_4 s (v1, v2)) (Sum.elim P K)) : G 4 [.ref 64, .int v1, .int v2] [] (mkCs s) 0 0 := by
  unfold B_X8_allWithout_4 at hw
  refine mj_run hG.1 (fun pc => pc == 4 || pc == 30) 4000 ?_
  simp only [mj_step, mj_W_s, mj_fin, List.getElem?_cons_zero, List.getElem?_cons_succ, mj_go, Nat.reduceAdd, Nat.reduceSub, Nat.reduceLT, Nat.reduceLeDiff, Nat.zero_add, Nat.reduceEqDiff, Nat.reduceBEq, ↓reduceIte, Bool.false_eq_true, List.append_nil, List.nil_append, List.cons_append, Option.toList, and_true, true_and, true_or, or_true, reduceCtorEq, List.map_nil, bI_eq0, bI_eq1, bool_ft, pk_us, vnar0, vnar1, Bool.or_false, Bool.or_true, Bool.false_or, Bool.true_or, mj_kne, eq_self, Int32.reduceLT, Int32.reduceLE, Int32.reduceAdd, Int32.reduceSub, Int32.reduceMul, not_true_eq_false, not_false_eq_true, false_implies, true_implies, D_X8_allWithout, mj_F_aload_n_k, mj_F_getfield_i, mj_F_goto_off, mj_F_iadd, mj_F_iaload, mj_F_iconst_n, mj_F_if_icmp_ge_off, mj_F_iinc_k_n, mj_F_iload_n_k, mj_F_ireturn, mj_F_istore_n_k, mj_set, mj_set0, mj_unk, mj_c2, mj_kc, FT_X8, gS_C64, gCf8_1, gS_C35, gCf5_1, gCf8_9, gS_C71, sS_Ca_71, J_X8_allWithout]
  refine ⟨fun c => ?_, fun c => ?_⟩
  · replace hw := ok_t hw c
    exact hG.2 _ _ _ _ _ _ _ _ _ (by refine ⟨Or.inl rfl, ?_⟩; refine ⟨Or.inr rfl, ?_⟩; exact trivial) (Nat.zero_le _) (Nat.zero_le _) (hK0 _ (ok_some hw :) :)
  · replace hw := ok_f hw c
    refine ⟨(ok_rd hw).1, ?_⟩
    replace hw := (ok_rd hw).2
    exact hG.2 _ _ _ _ _ _ _ _ _ (by refine ⟨Or.inr rfl, ?_⟩; refine ⟨Or.inr rfl, ?_⟩; refine ⟨Or.inr rfl, ?_⟩; exact trivial) (Nat.zero_le _) (Nat.zero_le _) (hP _ (ok_some hw :) :)

set_option maxHeartbeats 4000000 in
set_option maxRecDepth 20000 in
theorem g_X8_allWithout_30 {k : Option Value → mj_H → Prop} {G : mj_K} (hG : mj_cl2 cX8_allWithout (TbX8 3 ((some FieldType.int)) []) k G)   {v1 : Int32} {s : St} (hw : ok (F_X8_allWithout_30 v1 s) (fun p => k (some (.int p)) (mkCs s))) : G 30 [mj_unk, .int v1] [] (mkCs s) 0 0 := by
  unfold F_X8_allWithout_30 at hw
  refine mj_run hG.1 (fun pc => pc == 4 || pc == 30) 4000 ?_
  simp only [mj_step, mj_W_s, mj_fin, List.getElem?_cons_zero, List.getElem?_cons_succ, mj_go, Nat.reduceAdd, Nat.reduceSub, Nat.reduceLT, Nat.reduceLeDiff, Nat.zero_add, Nat.reduceEqDiff, Nat.reduceBEq, ↓reduceIte, Bool.false_eq_true, List.append_nil, List.nil_append, List.cons_append, Option.toList, and_true, true_and, true_or, or_true, reduceCtorEq, List.map_nil, bI_eq0, bI_eq1, bool_ft, pk_us, vnar0, vnar1, Bool.or_false, Bool.or_true, Bool.false_or, Bool.true_or, mj_kne, eq_self, Int32.reduceLT, Int32.reduceLE, Int32.reduceAdd, Int32.reduceSub, Int32.reduceMul, not_true_eq_false, not_false_eq_true, false_implies, true_implies, D_X8_allWithout, mj_F_aload_n_k, mj_F_getfield_i, mj_F_goto_off, mj_F_iadd, mj_F_iaload, mj_F_iconst_n, mj_F_if_icmp_ge_off, mj_F_iinc_k_n, mj_F_iload_n_k, mj_F_ireturn, mj_F_istore_n_k, mj_set, mj_set0, mj_unk, mj_c2, mj_kc, FT_X8, gS_C64, gCf8_1, gS_C35, gCf5_1, gCf8_9, gS_C71, sS_Ca_71, J_X8_allWithout]
  exact (ok_some hw :)

set_option maxHeartbeats 4000000 in
theorem g_X8_allWithout_4 {k : Option Value → mj_H → Prop} {G : mj_K} (hG : mj_cl2 cX8_allWithout (TbX8 3 ((some FieldType.int)) []) k G)   {v1 : Int32} {v2 : Int32} {s : St} (hw : ok (F_X8_allWithout_4 v1 v2 s) (fun p => k (some (.int p)) (mkCs s))) : G 4 [.ref 64, .int v1, .int v2] [] (mkCs s) 0 0 := by
  unfold F_X8_allWithout_4 at hw
  refine lp_ok (B_X8_allWithout_4 s) (fun x => G 4 [.ref 64, .int x.1, .int x.2] [] (mkCs s) 0 0) _ ?_ _ _ (ok_bind hw)
  rintro ⟨v1, v2⟩ hb
  exact b_X8_allWithout_4 hG (fun _ z => z) (fun y hw => by exact hG.2 _ _ _ _ _ _ _ _ _ (by refine ⟨Or.inl rfl, ?_⟩; refine ⟨Or.inr rfl, ?_⟩; exact trivial) (Nat.zero_le _) (Nat.zero_le _) (g_X8_allWithout_30 hG  hw :)) hb

set_option maxHeartbeats 4000000 in
set_option maxRecDepth 20000 in
theorem g_X8_allWithout {k : Option Value → mj_H → Prop} {G : mj_K} (hG : mj_cl2 cX8_allWithout (TbX8 3 ((some FieldType.int)) []) k G) {s : St} (hw : ok (F_X8_allWithout s) (fun p => k (some (.int p)) (mkCs s))) : G 0 [.ref 64] [] (mkCs s) 0 0 := by
  unfold F_X8_allWithout at hw
  refine mj_run hG.1 (fun pc => pc == 4 || pc == 30) 4000 ?_
  simp only [mj_step, mj_W_s, mj_fin, List.getElem?_cons_zero, List.getElem?_cons_succ, mj_go, Nat.reduceAdd, Nat.reduceSub, Nat.reduceLT, Nat.reduceLeDiff, Nat.zero_add, Nat.reduceEqDiff, Nat.reduceBEq, ↓reduceIte, Bool.false_eq_true, List.append_nil, List.nil_append, List.cons_append, Option.toList, and_true, true_and, true_or, or_true, reduceCtorEq, List.map_nil, bI_eq0, bI_eq1, bool_ft, pk_us, vnar0, vnar1, Bool.or_false, Bool.or_true, Bool.false_or, Bool.true_or, mj_kne, eq_self, Int32.reduceLT, Int32.reduceLE, Int32.reduceAdd, Int32.reduceSub, Int32.reduceMul, not_true_eq_false, not_false_eq_true, false_implies, true_implies, D_X8_allWithout, mj_F_aload_n_k, mj_F_getfield_i, mj_F_goto_off, mj_F_iadd, mj_F_iaload, mj_F_iconst_n, mj_F_if_icmp_ge_off, mj_F_iinc_k_n, mj_F_iload_n_k, mj_F_ireturn, mj_F_istore_n_k, mj_set, mj_set0, mj_unk, mj_c2, mj_kc, FT_X8, gS_C64, gCf8_1, gS_C35, gCf5_1, gCf8_9, gS_C71, sS_Ca_71, J_X8_allWithout]
  exact hG.2 _ _ _ _ _ _ _ _ _ (by refine ⟨Or.inr rfl, ?_⟩; refine ⟨Or.inr rfl, ?_⟩; refine ⟨Or.inr rfl, ?_⟩; exact trivial) (Nat.zero_le _) (Nat.zero_le _) (g_X8_allWithout_4 hG  hw :)

def c_X8_allWithout : mj_S := fun as h k => ∃ (s : St), as = [.ref 64] ∧ h = mkCs s ∧ ok (F_X8_allWithout s) (fun p => k (some (.int p)) (mkCs s))
theorem c_X8_allWithout_in {s : St} {k : Option Value → mj_H → Prop} (hw : ok (F_X8_allWithout s) (fun p => k (some (.int p)) (mkCs s))) : c_X8_allWithout [.ref 64] (mkCs s) k := ⟨s, rfl, rfl, hw⟩
theorem m_X8_allWithout (l : Launch) : mj_Met l yX8_allWithout cX8_allWithout 3 ((some FieldType.int)) 0 0 0 c_X8_allWithout := by
  refine mj_body2 false (TbX8 3 ((some FieldType.int)) []) (by decide) rfl rfl (fun h => nomatch h) (tfX8 _ (fun _ h => nomatch h)) ?_
  rintro as h k ⟨s, rfl, rfl, hw⟩
  exact ⟨rfl, fun G hG => g_X8_allWithout hG hw⟩
def F_X11_teacherless (v1 : Int32) (v2 : Int32) (v3 : Int32) (s : St) : Option (Int32 × St) :=
  (F_X11_isSchoolOrAll v1 s).bind fun r1 =>
  if r1 = 0 then
    some ((-1), s)
  else
    (F_X11_isPast v2 s).bind fun r2 =>
    if r2 = 0 then
      some ((-1), s)
    else
      (F_X11_isPast v3 s).bind fun r3 =>
      if r3 = 0 then
        some ((-1), s)
      else
        (F_X8_assign v2 v3 s).bind fun s4 =>
        if v1 = (-1) then
          (F_X8_allWithout s4).bind fun r6 =>
          some (r6, s4)
        else
          (rd s4 809 20 v1).bind fun x5 =>
          some (x5, s4)
theorem J_X11_teacherless : mj_t 5 19 = 24 ∧ mj_t 13 11 = 24 ∧ mj_t 21 5 = 26 ∧ mj_t 37 13 = 50 ∧ mj_t 47 12 = 59 ∧ (0 ≤ ((5 : Nat) : Int) + 19) = True ∧ (0 ≤ ((13 : Nat) : Int) + 11) = True ∧ (0 ≤ ((21 : Nat) : Int) + 5) = True ∧ (0 ≤ ((37 : Nat) : Int) + 13) = True ∧ (0 ≤ ((47 : Nat) : Int) + 12) = True := by and_intros <;> first | rfl | exact eq_true (by decide)
def ct_X11_teacherless : List (Nat × mj_Cs) := [(148, 0, 2, 11, 0, 0, c_X11_isPast), (251, 0, 2, 11, 0, 0, c_X11_isSchoolOrAll), (324, 0, 3, 8, 0, 0, c_X8_assign), (330, 0, 1, 8, 0, 0, c_X8_allWithout)]
theorem L_X11_teacherless : mj_lk ct_X11_teacherless 148 = some (0, 2, 11, 0, 0, c_X11_isPast) ∧ mj_lk ct_X11_teacherless 251 = some (0, 2, 11, 0, 0, c_X11_isSchoolOrAll) ∧ mj_lk ct_X11_teacherless 324 = some (0, 3, 8, 0, 0, c_X8_assign) ∧ mj_lk ct_X11_teacherless 330 = some (0, 1, 8, 0, 0, c_X8_allWithout) := ⟨rfl, rfl, rfl, rfl⟩
set_option maxHeartbeats 4000000 in
set_option maxRecDepth 20000 in
theorem g_X11_teacherless {k : Option Value → mj_H → Prop} {G : mj_K} (hG : mj_cl2 cX11_teacherless (TbX11 4 ((some FieldType.int)) ct_X11_teacherless) k G) {v1 : Int32} {v2 : Int32} {v3 : Int32} {s : St} (hw : ok (F_X11_teacherless v1 v2 v3 s) (fun p => k (some (.int p.1)) (mkCs p.2))) : G 0 [.ref 0, .int v1, .int v2, .int v3] [] (mkCs s) 0 0 := by
  unfold F_X11_teacherless at hw
  refine mj_run hG.1 (fun pc => pc == 5 || pc == 13 || pc == 21 || pc == 35 || pc == 47) 4000 ?_
  simp only [mj_step, mj_W_s, mj_fin, List.getElem?_cons_zero, List.getElem?_cons_succ, mj_go, Nat.reduceAdd, Nat.reduceSub, Nat.reduceLT, Nat.reduceLeDiff, Nat.zero_add, Nat.reduceEqDiff, Nat.reduceBEq, ↓reduceIte, Bool.false_eq_true, List.append_nil, List.nil_append, List.cons_append, Option.toList, and_true, true_and, true_or, or_true, reduceCtorEq, List.map_nil, bI_eq0, bI_eq1, bool_ft, pk_us, vnar0, vnar1, Bool.or_false, Bool.or_true, Bool.false_or, Bool.true_or, mj_kne, eq_self, Int32.reduceLT, Int32.reduceLE, Int32.reduceAdd, Int32.reduceSub, Int32.reduceMul, not_true_eq_false, not_false_eq_true, false_implies, true_implies, D_X11_teacherless, mj_F_aload_n_k, mj_F_getfield_i, mj_F_goto_off, mj_F_iaload, mj_F_iconst_n, mj_F_ifCond_eq_off, mj_F_ifCond_ne_off, mj_F_if_icmp_ne_off, mj_F_iload_n_k, mj_F_invokevirtual_i, mj_F_ireturn, mj_kc, FT_X11, L_X11_teacherless, List.take_succ_cons, List.take_zero, List.drop_succ_cons, List.drop_zero, List.reverse_cons, List.reverse_nil, List.length_cons, List.length_nil, gS_C0, gCf11_8, gS_C64, gCf8_9, gS_C71, sS_Ca_71, J_X11_teacherless]
  refine c_X11_isSchoolOrAll_in (ok_imp (ok_bind hw) ?_)
  intro p hw
  simp only [Option.toList, List.nil_append, List.cons_append, Nat.reduceSub]
  refine mj_run hG.1 (fun pc => pc == 5 || pc == 13 || pc == 21 || pc == 35 || pc == 47) 4000 ?_
  simp only [mj_step, mj_W_s, mj_fin, List.getElem?_cons_zero, List.getElem?_cons_succ, mj_go, Nat.reduceAdd, Nat.reduceSub, Nat.reduceLT, Nat.reduceLeDiff, Nat.zero_add, Nat.reduceEqDiff, Nat.reduceBEq, ↓reduceIte, Bool.false_eq_true, List.append_nil, List.nil_append, List.cons_append, Option.toList, and_true, true_and, true_or, or_true, reduceCtorEq, List.map_nil, bI_eq0, bI_eq1, bool_ft, pk_us, vnar0, vnar1, Bool.or_false, Bool.or_true, Bool.false_or, Bool.true_or, mj_kne, eq_self, Int32.reduceLT, Int32.reduceLE, Int32.reduceAdd, Int32.reduceSub, Int32.reduceMul, not_true_eq_false, not_false_eq_true, false_implies, true_implies, D_X11_teacherless, mj_F_aload_n_k, mj_F_getfield_i, mj_F_goto_off, mj_F_iaload, mj_F_iconst_n, mj_F_ifCond_eq_off, mj_F_ifCond_ne_off, mj_F_if_icmp_ne_off, mj_F_iload_n_k, mj_F_invokevirtual_i, mj_F_ireturn, mj_kc, FT_X11, L_X11_teacherless, List.take_succ_cons, List.take_zero, List.drop_succ_cons, List.drop_zero, List.reverse_cons, List.reverse_nil, List.length_cons, List.length_nil, gS_C0, gCf11_8, gS_C64, gCf8_9, gS_C71, sS_Ca_71, J_X11_teacherless]
  refine ⟨fun c => ?_, fun c => ?_⟩
  · replace hw := ok_t hw c
    exact (ok_some hw :)
  · replace hw := ok_f hw c
    refine c_X11_isPast_in (ok_imp (ok_bind hw) ?_)
    intro p hw
    simp only [Option.toList, List.nil_append, List.cons_append, Nat.reduceSub]
    refine mj_run hG.1 (fun pc => pc == 5 || pc == 13 || pc == 21 || pc == 35 || pc == 47) 4000 ?_
    simp only [mj_step, mj_W_s, mj_fin, List.getElem?_cons_zero, List.getElem?_cons_succ, mj_go, Nat.reduceAdd, Nat.reduceSub, Nat.reduceLT, Nat.reduceLeDiff, Nat.zero_add, Nat.reduceEqDiff, Nat.reduceBEq, ↓reduceIte, Bool.false_eq_true, List.append_nil, List.nil_append, List.cons_append, Option.toList, and_true, true_and, true_or, or_true, reduceCtorEq, List.map_nil, bI_eq0, bI_eq1, bool_ft, pk_us, vnar0, vnar1, Bool.or_false, Bool.or_true, Bool.false_or, Bool.true_or, mj_kne, eq_self, Int32.reduceLT, Int32.reduceLE, Int32.reduceAdd, Int32.reduceSub, Int32.reduceMul, not_true_eq_false, not_false_eq_true, false_implies, true_implies, D_X11_teacherless, mj_F_aload_n_k, mj_F_getfield_i, mj_F_goto_off, mj_F_iaload, mj_F_iconst_n, mj_F_ifCond_eq_off, mj_F_ifCond_ne_off, mj_F_if_icmp_ne_off, mj_F_iload_n_k, mj_F_invokevirtual_i, mj_F_ireturn, mj_kc, FT_X11, L_X11_teacherless, List.take_succ_cons, List.take_zero, List.drop_succ_cons, List.drop_zero, List.reverse_cons, List.reverse_nil, List.length_cons, List.length_nil, gS_C0, gCf11_8, gS_C64, gCf8_9, gS_C71, sS_Ca_71, J_X11_teacherless]
    refine ⟨fun c => ?_, fun c => ?_⟩
    · replace hw := ok_t hw c
      exact (ok_some hw :)
    · replace hw := ok_f hw c
      refine c_X11_isPast_in (ok_imp (ok_bind hw) ?_)
      intro p hw
      simp only [Option.toList, List.nil_append, List.cons_append, Nat.reduceSub]
      refine mj_run hG.1 (fun pc => pc == 5 || pc == 13 || pc == 21 || pc == 35 || pc == 47) 4000 ?_
      simp only [mj_step, mj_W_s, mj_fin, List.getElem?_cons_zero, List.getElem?_cons_succ, mj_go, Nat.reduceAdd, Nat.reduceSub, Nat.reduceLT, Nat.reduceLeDiff, Nat.zero_add, Nat.reduceEqDiff, Nat.reduceBEq, ↓reduceIte, Bool.false_eq_true, List.append_nil, List.nil_append, List.cons_append, Option.toList, and_true, true_and, true_or, or_true, reduceCtorEq, List.map_nil, bI_eq0, bI_eq1, bool_ft, pk_us, vnar0, vnar1, Bool.or_false, Bool.or_true, Bool.false_or, Bool.true_or, mj_kne, eq_self, Int32.reduceLT, Int32.reduceLE, Int32.reduceAdd, Int32.reduceSub, Int32.reduceMul, not_true_eq_false, not_false_eq_true, false_implies, true_implies, D_X11_teacherless, mj_F_aload_n_k, mj_F_getfield_i, mj_F_goto_off, mj_F_iaload, mj_F_iconst_n, mj_F_ifCond_eq_off, mj_F_ifCond_ne_off, mj_F_if_icmp_ne_off, mj_F_iload_n_k, mj_F_invokevirtual_i, mj_F_ireturn, mj_kc, FT_X11, L_X11_teacherless, List.take_succ_cons, List.take_zero, List.drop_succ_cons, List.drop_zero, List.reverse_cons, List.reverse_nil, List.length_cons, List.length_nil, gS_C0, gCf11_8, gS_C64, gCf8_9, gS_C71, sS_Ca_71, J_X11_teacherless]
      refine ⟨fun c => ?_, fun c => ?_⟩
      · replace hw := ok_f hw c
        refine c_X8_assign_in (ok_imp (ok_bind hw) ?_)
        intro p hw
        simp only [Option.toList, List.nil_append, List.cons_append, Nat.reduceSub]
        refine mj_run hG.1 (fun pc => pc == 5 || pc == 13 || pc == 21 || pc == 35 || pc == 47) 4000 ?_
        simp only [mj_step, mj_W_s, mj_fin, List.getElem?_cons_zero, List.getElem?_cons_succ, mj_go, Nat.reduceAdd, Nat.reduceSub, Nat.reduceLT, Nat.reduceLeDiff, Nat.zero_add, Nat.reduceEqDiff, Nat.reduceBEq, ↓reduceIte, Bool.false_eq_true, List.append_nil, List.nil_append, List.cons_append, Option.toList, and_true, true_and, true_or, or_true, reduceCtorEq, List.map_nil, bI_eq0, bI_eq1, bool_ft, pk_us, vnar0, vnar1, Bool.or_false, Bool.or_true, Bool.false_or, Bool.true_or, mj_kne, eq_self, Int32.reduceLT, Int32.reduceLE, Int32.reduceAdd, Int32.reduceSub, Int32.reduceMul, not_true_eq_false, not_false_eq_true, false_implies, true_implies, D_X11_teacherless, mj_F_aload_n_k, mj_F_getfield_i, mj_F_goto_off, mj_F_iaload, mj_F_iconst_n, mj_F_ifCond_eq_off, mj_F_ifCond_ne_off, mj_F_if_icmp_ne_off, mj_F_iload_n_k, mj_F_invokevirtual_i, mj_F_ireturn, mj_kc, FT_X11, L_X11_teacherless, List.take_succ_cons, List.take_zero, List.drop_succ_cons, List.drop_zero, List.reverse_cons, List.reverse_nil, List.length_cons, List.length_nil, gS_C0, gCf11_8, gS_C64, gCf8_9, gS_C71, sS_Ca_71, J_X11_teacherless]
        refine ⟨fun c => ?_, fun c => ?_⟩
        · replace hw := ok_f hw c
          refine ⟨(ok_rd hw).1, ?_⟩
          replace hw := (ok_rd hw).2
          exact (ok_some hw :)
        · replace hw := ok_t hw c
          refine c_X8_allWithout_in (ok_imp (ok_bind hw) ?_)
          intro p hw
          simp only [Option.toList, List.nil_append, List.cons_append, Nat.reduceSub]
          refine mj_run hG.1 (fun pc => pc == 5 || pc == 13 || pc == 21 || pc == 35 || pc == 47) 4000 ?_
          simp only [mj_step, mj_W_s, mj_fin, List.getElem?_cons_zero, List.getElem?_cons_succ, mj_go, Nat.reduceAdd, Nat.reduceSub, Nat.reduceLT, Nat.reduceLeDiff, Nat.zero_add, Nat.reduceEqDiff, Nat.reduceBEq, ↓reduceIte, Bool.false_eq_true, List.append_nil, List.nil_append, List.cons_append, Option.toList, and_true, true_and, true_or, or_true, reduceCtorEq, List.map_nil, bI_eq0, bI_eq1, bool_ft, pk_us, vnar0, vnar1, Bool.or_false, Bool.or_true, Bool.false_or, Bool.true_or, mj_kne, eq_self, Int32.reduceLT, Int32.reduceLE, Int32.reduceAdd, Int32.reduceSub, Int32.reduceMul, not_true_eq_false, not_false_eq_true, false_implies, true_implies, D_X11_teacherless, mj_F_aload_n_k, mj_F_getfield_i, mj_F_goto_off, mj_F_iaload, mj_F_iconst_n, mj_F_ifCond_eq_off, mj_F_ifCond_ne_off, mj_F_if_icmp_ne_off, mj_F_iload_n_k, mj_F_invokevirtual_i, mj_F_ireturn, mj_kc, FT_X11, L_X11_teacherless, List.take_succ_cons, List.take_zero, List.drop_succ_cons, List.drop_zero, List.reverse_cons, List.reverse_nil, List.length_cons, List.length_nil, gS_C0, gCf11_8, gS_C64, gCf8_9, gS_C71, sS_Ca_71, J_X11_teacherless]
          exact (ok_some hw :)
      · replace hw := ok_t hw c
        exact (ok_some hw :)

def c_X11_teacherless : mj_S := fun as h k => ∃ (v1 : Int32) (v2 : Int32) (v3 : Int32) (s : St), as = [.ref 0, .int v1, .int v2, .int v3] ∧ h = mkCs s ∧ ok (F_X11_teacherless v1 v2 v3 s) (fun p => k (some (.int p.1)) (mkCs p.2))
theorem c_X11_teacherless_in {v1 : Int32} {v2 : Int32} {v3 : Int32} {s : St} {k : Option Value → mj_H → Prop} (hw : ok (F_X11_teacherless v1 v2 v3 s) (fun p => k (some (.int p.1)) (mkCs p.2))) : c_X11_teacherless [.ref 0, .int v1, .int v2, .int v3] (mkCs s) k := ⟨v1, v2, v3, s, rfl, rfl, hw⟩
theorem m_X11_teacherless (l : Launch) : mj_Met l yX11_teacherless cX11_teacherless 4 ((some FieldType.int)) 7 0 0 c_X11_teacherless := by
  refine mj_body2 false (TbX11 4 ((some FieldType.int)) ct_X11_teacherless) (by decide) rfl rfl (fun h => nomatch h) (tfX11 _ (List.forall_mem_cons.mpr ⟨cfX11_148 (m_X11_isPast l) (by decide), List.forall_mem_cons.mpr ⟨cfX11_251 (m_X11_isSchoolOrAll l) (by decide), List.forall_mem_cons.mpr ⟨cfX11_324 (m_X8_assign l) (by decide), List.forall_mem_cons.mpr ⟨cfX11_330 (m_X8_allWithout l) (by decide), fun _ h => nomatch h⟩⟩⟩⟩)) ?_
  rintro as h k ⟨v1, v2, v3, s, rfl, rfl, hw⟩
  exact ⟨rfl, fun G hG => g_X11_teacherless hG hw⟩
def F_X1_tellAgain (v1 : Int32) (v2 : Int32) (v3 : Int32) (v4 : Int32) (s : St) : Option (Int32 × St) :=
  if (s.1 113) < 60 then
    (wr s 114 60 (s.1 113) v1).bind fun s1 =>
    (wr s1 115 60 (s1.1 113) v2).bind fun s2 =>
    (wr s2 116 60 (s2.1 113) v4).bind fun s3 =>
    (wr s3 117 60 (s3.1 113) v3).bind fun s4 =>
    (wI s4 113 ((s4.1 113) + 1)).bind fun s5 =>
    some (1, s5)
  else
    some (0, s)
theorem J_X1_tellAgain : mj_t 6 5 = 11 ∧ (0 ≤ ((6 : Nat) : Int) + 5) = True := by and_intros <;> first | rfl | exact eq_true (by decide)
set_option maxHeartbeats 4000000 in
set_option maxRecDepth 20000 in
theorem g_X1_tellAgain {k : Option Value → mj_H → Prop} {G : mj_K} (hG : mj_cl2 cX1_tellAgain (TbX1 5 ((some FieldType.boolean)) []) k G) {v1 : Int32} {v2 : Int32} {v3 : Int32} {v4 : Int32} {s : St} (hw : ok (F_X1_tellAgain v1 v2 v3 v4 s) (fun p => k (some (.int p.1)) (mkCs p.2))) : G 0 [.ref 20, .int v1, .int v2, .int v3, .int v4] [] (mkCs s) 0 0 := by
  unfold F_X1_tellAgain at hw
  refine mj_run hG.1 (fun _ => false) 4000 ?_
  simp only [mj_step, mj_W_s, mj_fin, List.getElem?_cons_zero, List.getElem?_cons_succ, mj_go, Nat.reduceAdd, Nat.reduceSub, Nat.reduceLT, Nat.reduceLeDiff, Nat.zero_add, Nat.reduceEqDiff, Nat.reduceBEq, ↓reduceIte, Bool.false_eq_true, List.append_nil, List.nil_append, List.cons_append, Option.toList, and_true, true_and, true_or, or_true, reduceCtorEq, List.map_nil, bI_eq0, bI_eq1, bool_ft, pk_us, vnar0, vnar1, Bool.or_false, Bool.or_true, Bool.false_or, Bool.true_or, mj_kne, eq_self, Int32.reduceLT, Int32.reduceLE, Int32.reduceAdd, Int32.reduceSub, Int32.reduceMul, not_true_eq_false, not_false_eq_true, false_implies, true_implies, D_X1_tellAgain, mj_F_aload_n_k, mj_F_bipush_n, mj_F_dup, mj_F_getfield_i, mj_F_iadd, mj_F_iastore, mj_F_iconst_n, mj_F_if_icmp_lt_off, mj_F_iload_k, mj_F_iload_n_k, mj_F_ireturn, mj_F_putfield_i, mj_c2, mj_kc, FT_X1, PT_X1, gS_C20, gCf1_13, gCf1_14, gS_C31, sS_Ca_31, gCf1_15, gS_C32, sS_Ca_32, gCf1_16, gS_C33, sS_Ca_33, gCf1_17, gS_C34, sS_Ca_34, sS_Cf_1_13, gCf1len, J_X1_tellAgain]
  refine ⟨fun c => ?_, fun c => ?_⟩
  · replace hw := ok_t hw c
    refine ⟨(ok_wr hw).1, ?_⟩
    replace hw := (ok_wr hw).2
    refine ⟨(ok_wr hw).1, ?_⟩
    replace hw := (ok_wr hw).2
    refine ⟨(ok_wr hw).1, ?_⟩
    replace hw := (ok_wr hw).2
    refine ⟨(ok_wr hw).1, ?_⟩
    replace hw := (ok_wr hw).2
    replace hw := ok_wI hw
    exact (ok_some hw :)
  · replace hw := ok_f hw c
    exact (ok_some hw :)

def c_X1_tellAgain : mj_S := fun as h k => ∃ (v1 : Int32) (v2 : Int32) (v3 : Int32) (v4 : Int32) (s : St), as = [.ref 20, .int v1, .int v2, .int v3, .int v4] ∧ h = mkCs s ∧ ok (F_X1_tellAgain v1 v2 v3 v4 s) (fun p => k (some (.int p.1)) (mkCs p.2))
theorem c_X1_tellAgain_in {v1 : Int32} {v2 : Int32} {v3 : Int32} {v4 : Int32} {s : St} {k : Option Value → mj_H → Prop} (hw : ok (F_X1_tellAgain v1 v2 v3 v4 s) (fun p => k (some (.int p.1)) (mkCs p.2))) : c_X1_tellAgain [.ref 20, .int v1, .int v2, .int v3, .int v4] (mkCs s) k := ⟨v1, v2, v3, v4, s, rfl, rfl, hw⟩
theorem m_X1_tellAgain (l : Launch) : mj_Met l yX1_tellAgain cX1_tellAgain 5 ((some FieldType.boolean)) 0 0 0 c_X1_tellAgain := by
  refine mj_body2 false (TbX1 5 ((some FieldType.boolean)) []) (by decide) rfl rfl (fun h => nomatch h) (tfX1 _ (fun _ h => nomatch h)) ?_
  rintro as h k ⟨v1, v2, v3, v4, s, rfl, rfl, hw⟩
  exact ⟨rfl, fun G hG => g_X1_tellAgain hG hw⟩
def F_X11_recount (v1 : Int32) (v2 : Int32) (v3 : Int32) (s : St) : Option (Int32 × St) :=
  (F_X11_isVillage v1 s).bind fun r1 =>
  if r1 = 0 then
    some (0, s)
  else
    if inb v2 0 11 = false then
      some (0, s)
    else
      if inb v3 0 1998 = false then
        some (0, s)
      else
        (F_X1_tellAgain v1 v2 v3 (s.1 1100) s).bind fun r2 =>
        (bz r2.1).bind fun _ =>
        some (r2.1, r2.2)
theorem J_X11_recount : mj_t 5 21 = 26 ∧ mj_t 12 14 = 26 ∧ mj_t 23 5 = 28 ∧ (0 ≤ ((5 : Nat) : Int) + 21) = True ∧ (0 ≤ ((12 : Nat) : Int) + 14) = True ∧ (0 ≤ ((23 : Nat) : Int) + 5) = True := by and_intros <;> first | rfl | exact eq_true (by decide)
def ct_X11_recount : List (Nat × mj_Cs) := [(96, 2, 3, 11, 0, 0, c_in), (138, 0, 2, 11, 0, 0, c_X11_isVillage), (141, 2, 1, 11, 0, 0, c_isYear), (336, 0, 5, 1, 0, 0, c_X1_tellAgain)]
theorem L_X11_recount : mj_lk ct_X11_recount 96 = some (2, 3, 11, 0, 0, c_in) ∧ mj_lk ct_X11_recount 138 = some (0, 2, 11, 0, 0, c_X11_isVillage) ∧ mj_lk ct_X11_recount 141 = some (2, 1, 11, 0, 0, c_isYear) ∧ mj_lk ct_X11_recount 336 = some (0, 5, 1, 0, 0, c_X1_tellAgain) := ⟨rfl, rfl, rfl, rfl⟩
set_option maxHeartbeats 4000000 in
set_option maxRecDepth 20000 in
theorem g_X11_recount {k : Option Value → mj_H → Prop} {G : mj_K} (hG : mj_cl2 cX11_recount (TbX11 4 ((some FieldType.boolean)) ct_X11_recount) k G) {v1 : Int32} {v2 : Int32} {v3 : Int32} {s : St} (hw : ok (F_X11_recount v1 v2 v3 s) (fun p => k (some (.int p.1)) (mkCs p.2))) : G 0 [.ref 0, .int v1, .int v2, .int v3] [] (mkCs s) 0 0 := by
  unfold F_X11_recount at hw
  refine mj_run hG.1 (fun pc => pc == 5 || pc == 42) 4000 ?_
  simp only [mj_step, mj_W_s, mj_fin, List.getElem?_cons_zero, List.getElem?_cons_succ, mj_go, Nat.reduceAdd, Nat.reduceSub, Nat.reduceLT, Nat.reduceLeDiff, Nat.zero_add, Nat.reduceEqDiff, Nat.reduceBEq, ↓reduceIte, Bool.false_eq_true, List.append_nil, List.nil_append, List.cons_append, Option.toList, and_true, true_and, true_or, or_true, reduceCtorEq, List.map_nil, bI_eq0, bI_eq1, bool_ft, pk_us, vnar0, vnar1, Bool.or_false, Bool.or_true, Bool.false_or, Bool.true_or, mj_kne, eq_self, Int32.reduceLT, Int32.reduceLE, Int32.reduceAdd, Int32.reduceSub, Int32.reduceMul, not_true_eq_false, not_false_eq_true, false_implies, true_implies, D_X11_recount, mj_F_aload_n_k, mj_F_getfield_i, mj_F_iconst_n, mj_F_ifCond_eq_off, mj_F_ifCond_ne_off, mj_F_iload_n_k, mj_F_invokestatic_i, mj_F_invokevirtual_i, mj_F_ireturn, mj_F_sipush_n, mj_kc, FT_X11, L_X11_recount, List.take_succ_cons, List.take_zero, List.drop_succ_cons, List.drop_zero, List.reverse_cons, List.reverse_nil, List.length_cons, List.length_nil, gS_C0, gCf11_4, gCf11_0, c_isYear_eq, c_in_eq, gS_C20, J_X11_recount]
  refine c_X11_isVillage_in (ok_imp (ok_bind hw) ?_)
  intro p hw
  simp only [Option.toList, List.nil_append, List.cons_append, Nat.reduceSub]
  refine mj_run hG.1 (fun pc => pc == 5 || pc == 42) 4000 ?_
  simp only [mj_step, mj_W_s, mj_fin, List.getElem?_cons_zero, List.getElem?_cons_succ, mj_go, Nat.reduceAdd, Nat.reduceSub, Nat.reduceLT, Nat.reduceLeDiff, Nat.zero_add, Nat.reduceEqDiff, Nat.reduceBEq, ↓reduceIte, Bool.false_eq_true, List.append_nil, List.nil_append, List.cons_append, Option.toList, and_true, true_and, true_or, or_true, reduceCtorEq, List.map_nil, bI_eq0, bI_eq1, bool_ft, pk_us, vnar0, vnar1, Bool.or_false, Bool.or_true, Bool.false_or, Bool.true_or, mj_kne, eq_self, Int32.reduceLT, Int32.reduceLE, Int32.reduceAdd, Int32.reduceSub, Int32.reduceMul, not_true_eq_false, not_false_eq_true, false_implies, true_implies, D_X11_recount, mj_F_aload_n_k, mj_F_getfield_i, mj_F_iconst_n, mj_F_ifCond_eq_off, mj_F_ifCond_ne_off, mj_F_iload_n_k, mj_F_invokestatic_i, mj_F_invokevirtual_i, mj_F_ireturn, mj_F_sipush_n, mj_kc, FT_X11, L_X11_recount, List.take_succ_cons, List.take_zero, List.drop_succ_cons, List.drop_zero, List.reverse_cons, List.reverse_nil, List.length_cons, List.length_nil, gS_C0, gCf11_4, gCf11_0, c_isYear_eq, c_in_eq, gS_C20, J_X11_recount]
  refine ⟨fun c => ?_, fun c => ?_⟩
  · replace hw := ok_t hw c
    exact (ok_some hw :)
  · replace hw := ok_f hw c
    refine ⟨fun c => ?_, fun c => ?_⟩
    · replace hw := ok_t hw c
      exact (ok_some hw :)
    · replace hw := ok_f hw c
      refine ⟨fun c => ?_, fun c => ?_⟩
      · replace hw := ok_f hw c
        refine c_X1_tellAgain_in (ok_imp (ok_bind hw) ?_)
        intro p hw
        simp only [Option.toList, List.nil_append, List.cons_append, Nat.reduceSub]
        refine mj_run hG.1 (fun pc => pc == 5 || pc == 42) 4000 ?_
        simp only [mj_step, mj_W_s, mj_fin, List.getElem?_cons_zero, List.getElem?_cons_succ, mj_go, Nat.reduceAdd, Nat.reduceSub, Nat.reduceLT, Nat.reduceLeDiff, Nat.zero_add, Nat.reduceEqDiff, Nat.reduceBEq, ↓reduceIte, Bool.false_eq_true, List.append_nil, List.nil_append, List.cons_append, Option.toList, and_true, true_and, true_or, or_true, reduceCtorEq, List.map_nil, bI_eq0, bI_eq1, bool_ft, pk_us, vnar0, vnar1, Bool.or_false, Bool.or_true, Bool.false_or, Bool.true_or, mj_kne, eq_self, Int32.reduceLT, Int32.reduceLE, Int32.reduceAdd, Int32.reduceSub, Int32.reduceMul, not_true_eq_false, not_false_eq_true, false_implies, true_implies, D_X11_recount, mj_F_aload_n_k, mj_F_getfield_i, mj_F_iconst_n, mj_F_ifCond_eq_off, mj_F_ifCond_ne_off, mj_F_iload_n_k, mj_F_invokestatic_i, mj_F_invokevirtual_i, mj_F_ireturn, mj_F_sipush_n, mj_kc, FT_X11, L_X11_recount, List.take_succ_cons, List.take_zero, List.drop_succ_cons, List.drop_zero, List.reverse_cons, List.reverse_nil, List.length_cons, List.length_nil, gS_C0, gCf11_4, gCf11_0, c_isYear_eq, c_in_eq, gS_C20, J_X11_recount]
        refine ⟨(ok_bz hw).1, ?_⟩
        replace hw := (ok_bz hw).2
        exact (ok_some hw :)
      · replace hw := ok_t hw c
        exact (ok_some hw :)

def c_X11_recount : mj_S := fun as h k => ∃ (v1 : Int32) (v2 : Int32) (v3 : Int32) (s : St), as = [.ref 0, .int v1, .int v2, .int v3] ∧ h = mkCs s ∧ ok (F_X11_recount v1 v2 v3 s) (fun p => k (some (.int p.1)) (mkCs p.2))
theorem c_X11_recount_in {v1 : Int32} {v2 : Int32} {v3 : Int32} {s : St} {k : Option Value → mj_H → Prop} (hw : ok (F_X11_recount v1 v2 v3 s) (fun p => k (some (.int p.1)) (mkCs p.2))) : c_X11_recount [.ref 0, .int v1, .int v2, .int v3] (mkCs s) k := ⟨v1, v2, v3, s, rfl, rfl, hw⟩
theorem m_X11_recount (l : Launch) : mj_Met l yX11_recount cX11_recount 4 ((some FieldType.boolean)) 2 0 0 c_X11_recount := by
  refine mj_body2 false (TbX11 4 ((some FieldType.boolean)) ct_X11_recount) (by decide) rfl rfl (fun h => nomatch h) (tfX11 _ (List.forall_mem_cons.mpr ⟨cfX11_96 (m_X11_within l) (by decide), List.forall_mem_cons.mpr ⟨cfX11_138 (m_X11_isVillage l) (by decide), List.forall_mem_cons.mpr ⟨cfX11_141 (m_X11_isYear l) (by decide), List.forall_mem_cons.mpr ⟨cfX11_336 (m_X1_tellAgain l) (by decide), fun _ h => nomatch h⟩⟩⟩⟩)) ?_
  rintro as h k ⟨v1, v2, v3, s, rfl, rfl, hw⟩
  exact ⟨rfl, fun G hG => g_X11_recount hG hw⟩
def B_X1_recountOf_6 (v1 : Int32) (v2 : Int32) (v3 : Int32) (s : St) : Int32 × Int32 → Option ((Int32 × Int32) ⊕ ((Int32)))
  | (v4, v5) =>
  if (s.1 113) ≤ v5 then
    some (.inr v4)
  else
    (rd s 114 60 v5).bind fun x1 =>
    if x1 = v1 then
      (rd s 115 60 v5).bind fun x2 =>
      if x2 = v2 then
        (rd s 116 60 v5).bind fun x3 =>
        if v3 < x3 then
          some (.inl (v4, (v5 + 1)))
        else
          some (.inl (v5, (v5 + 1)))
      else
        some (.inl (v4, (v5 + 1)))
    else
      some (.inl (v4, (v5 + 1)))
def F_X1_recountOf_58 (v4 : Int32) (s : St) : Option (Int32) :=
  some v4
def F_X1_recountOf_6 (v1 : Int32) (v2 : Int32) (v3 : Int32) (v4 : Int32) (v5 : Int32) (s : St) : Option (Int32) :=
  (lp (B_X1_recountOf_6 v1 v2 v3 s) FU (v4, v5)).bind (fun y => F_X1_recountOf_58 y s)
def F_X1_recountOf (v1 : Int32) (v2 : Int32) (v3 : Int32) (s : St) : Option (Int32) :=
  F_X1_recountOf_6 v1 v2 v3 (-1) 0 s
theorem J_X1_recountOf : mj_t 12 46 = 58 ∧ mj_t 23 29 = 52 ∧ mj_t 34 18 = 52 ∧ mj_t 45 7 = 52 ∧ mj_t 55 (-49) = 6 ∧ (0 ≤ ((12 : Nat) : Int) + 46) = True ∧ (0 ≤ ((23 : Nat) : Int) + 29) = True ∧ (0 ≤ ((34 : Nat) : Int) + 18) = True ∧ (0 ≤ ((45 : Nat) : Int) + 7) = True ∧ (0 ≤ ((55 : Nat) : Int) + (-49)) = True := by and_intros <;> first | rfl | exact eq_true (by decide)
set_option maxHeartbeats 4000000 in
set_option maxRecDepth 20000 in
theorem b_X1_recountOf_6 {k : Option Value → mj_H → Prop} {G : mj_K} (hG : mj_cl2 cX1_recountOf (TbX1 6 ((some FieldType.int)) []) k G) {v1 : Int32} {v2 : Int32} {v3 : Int32} {s : St} {P : Int32 × Int32 → Prop} {K : (Int32) → Prop} (hP : ∀ x, P x → G 6 [.ref 20, .int v1, .int v2, .int v3, .int x.1, .int x.2] [] (mkCs s) 0 0) (hK0 : ∀ y, K y → G 58 [mj_unk, mj_unk, mj_unk, mj_unk, .int y] [] (mkCs s) 0 0) {v4 : Int32} {v5 : Int32} (hw : ok (B_X1_recountOf_6 v1 v2 v3 s (v4, v5)) (Sum.elim P K)) : G 6 [.ref 20, .int v1, .int v2, .int v3, .int v4, .int v5] [] (mkCs s) 0 0 := by
  unfold B_X1_recountOf_6 at hw
  refine mj_run hG.1 (fun pc => pc == 6 || pc == 58) 4000 ?_
  simp only [mj_step, mj_W_s, mj_fin, List.getElem?_cons_zero, List.getElem?_cons_succ, mj_go, Nat.reduceAdd, Nat.reduceSub, Nat.reduceLT, Nat.reduceLeDiff, Nat.zero_add, Nat.reduceEqDiff, Nat.reduceBEq, ↓reduceIte, Bool.false_eq_true, List.append_nil, List.nil_append, List.cons_append, Option.toList, and_true, true_and, true_or, or_true, reduceCtorEq, List.map_nil, bI_eq0, bI_eq1, bool_ft, pk_us, vnar0, vnar1, Bool.or_false, Bool.or_true, Bool.false_or, Bool.true_or, mj_kne, eq_self, Int32.reduceLT, Int32.reduceLE, Int32.reduceAdd, Int32.reduceSub, Int32.reduceMul, not_true_eq_false, not_false_eq_true, false_implies, true_implies, D_X1_recountOf, mj_F_aload_n_k, mj_F_getfield_i, mj_F_goto_off, mj_F_iaload, mj_F_iconst_n, mj_F_if_icmp_ge_off, mj_F_if_icmp_gt_off, mj_F_if_icmp_ne_off, mj_F_iinc_k_n, mj_F_iload_k, mj_F_iload_n_k, mj_F_ireturn, mj_F_istore_k, mj_set, mj_set0, mj_unk, mj_c2, mj_kc, FT_X1, gS_C20, gCf1_13, gCf1_14, gS_C31, sS_Ca_31, gCf1_15, gS_C32, sS_Ca_32, gCf1_16, gS_C33, sS_Ca_33, J_X1_recountOf]
  refine ⟨fun c => ?_, fun c => ?_⟩
  · replace hw := ok_t hw c
    exact hG.2 _ _ _ _ _ _ _ _ _ (by refine ⟨Or.inl rfl, ?_⟩; refine ⟨Or.inl rfl, ?_⟩; refine ⟨Or.inl rfl, ?_⟩; refine ⟨Or.inl rfl, ?_⟩; refine ⟨Or.inr rfl, ?_⟩; exact trivial) (Nat.zero_le _) (Nat.zero_le _) (hK0 _ (ok_some hw :) :)
  · replace hw := ok_f hw c
    refine ⟨(ok_rd hw).1, ?_⟩
    replace hw := (ok_rd hw).2
    refine ⟨fun c => ?_, fun c => ?_⟩
    · replace hw := ok_f hw c
      exact hG.2 _ _ _ _ _ _ _ _ _ (by refine ⟨Or.inr rfl, ?_⟩; refine ⟨Or.inr rfl, ?_⟩; refine ⟨Or.inr rfl, ?_⟩; refine ⟨Or.inr rfl, ?_⟩; refine ⟨Or.inr rfl, ?_⟩; refine ⟨Or.inr rfl, ?_⟩; exact trivial) (Nat.zero_le _) (Nat.zero_le _) (hP _ (ok_some hw :) :)
    · replace hw := ok_t hw c
      refine ⟨(ok_rd hw).1, ?_⟩
      replace hw := (ok_rd hw).2
      refine ⟨fun c => ?_, fun c => ?_⟩
      · replace hw := ok_f hw c
        exact hG.2 _ _ _ _ _ _ _ _ _ (by refine ⟨Or.inr rfl, ?_⟩; refine ⟨Or.inr rfl, ?_⟩; refine ⟨Or.inr rfl, ?_⟩; refine ⟨Or.inr rfl, ?_⟩; refine ⟨Or.inr rfl, ?_⟩; refine ⟨Or.inr rfl, ?_⟩; exact trivial) (Nat.zero_le _) (Nat.zero_le _) (hP _ (ok_some hw :) :)
      · replace hw := ok_t hw c
        refine ⟨(ok_rd hw).1, ?_⟩
        replace hw := (ok_rd hw).2
        refine ⟨fun c => ?_, fun c => ?_⟩
        · replace hw := ok_t hw c
          exact hG.2 _ _ _ _ _ _ _ _ _ (by refine ⟨Or.inr rfl, ?_⟩; refine ⟨Or.inr rfl, ?_⟩; refine ⟨Or.inr rfl, ?_⟩; refine ⟨Or.inr rfl, ?_⟩; refine ⟨Or.inr rfl, ?_⟩; refine ⟨Or.inr rfl, ?_⟩; exact trivial) (Nat.zero_le _) (Nat.zero_le _) (hP _ (ok_some hw :) :)
        · replace hw := ok_f hw c
          exact hG.2 _ _ _ _ _ _ _ _ _ (by refine ⟨Or.inr rfl, ?_⟩; refine ⟨Or.inr rfl, ?_⟩; refine ⟨Or.inr rfl, ?_⟩; refine ⟨Or.inr rfl, ?_⟩; refine ⟨Or.inr rfl, ?_⟩; refine ⟨Or.inr rfl, ?_⟩; exact trivial) (Nat.zero_le _) (Nat.zero_le _) (hP _ (ok_some hw :) :)

set_option maxHeartbeats 4000000 in
set_option maxRecDepth 20000 in
theorem g_X1_recountOf_58 {k : Option Value → mj_H → Prop} {G : mj_K} (hG : mj_cl2 cX1_recountOf (TbX1 6 ((some FieldType.int)) []) k G)   {v4 : Int32} {s : St} (hw : ok (F_X1_recountOf_58 v4 s) (fun p => k (some (.int p)) (mkCs s))) : G 58 [mj_unk, mj_unk, mj_unk, mj_unk, .int v4] [] (mkCs s) 0 0 := by
  unfold F_X1_recountOf_58 at hw
  refine mj_run hG.1 (fun pc => pc == 6 || pc == 58) 4000 ?_
  simp only [mj_step, mj_W_s, mj_fin, List.getElem?_cons_zero, List.getElem?_cons_succ, mj_go, Nat.reduceAdd, Nat.reduceSub, Nat.reduceLT, Nat.reduceLeDiff, Nat.zero_add, Nat.reduceEqDiff, Nat.reduceBEq, ↓reduceIte, Bool.false_eq_true, List.append_nil, List.nil_append, List.cons_append, Option.toList, and_true, true_and, true_or, or_true, reduceCtorEq, List.map_nil, bI_eq0, bI_eq1, bool_ft, pk_us, vnar0, vnar1, Bool.or_false, Bool.or_true, Bool.false_or, Bool.true_or, mj_kne, eq_self, Int32.reduceLT, Int32.reduceLE, Int32.reduceAdd, Int32.reduceSub, Int32.reduceMul, not_true_eq_false, not_false_eq_true, false_implies, true_implies, D_X1_recountOf, mj_F_aload_n_k, mj_F_getfield_i, mj_F_goto_off, mj_F_iaload, mj_F_iconst_n, mj_F_if_icmp_ge_off, mj_F_if_icmp_gt_off, mj_F_if_icmp_ne_off, mj_F_iinc_k_n, mj_F_iload_k, mj_F_iload_n_k, mj_F_ireturn, mj_F_istore_k, mj_set, mj_set0, mj_unk, mj_c2, mj_kc, FT_X1, gS_C20, gCf1_13, gCf1_14, gS_C31, sS_Ca_31, gCf1_15, gS_C32, sS_Ca_32, gCf1_16, gS_C33, sS_Ca_33, J_X1_recountOf]
  exact (ok_some hw :)

set_option maxHeartbeats 4000000 in
theorem g_X1_recountOf_6 {k : Option Value → mj_H → Prop} {G : mj_K} (hG : mj_cl2 cX1_recountOf (TbX1 6 ((some FieldType.int)) []) k G)   {v1 : Int32} {v2 : Int32} {v3 : Int32} {v4 : Int32} {v5 : Int32} {s : St} (hw : ok (F_X1_recountOf_6 v1 v2 v3 v4 v5 s) (fun p => k (some (.int p)) (mkCs s))) : G 6 [.ref 20, .int v1, .int v2, .int v3, .int v4, .int v5] [] (mkCs s) 0 0 := by
  unfold F_X1_recountOf_6 at hw
  refine lp_ok (B_X1_recountOf_6 v1 v2 v3 s) (fun x => G 6 [.ref 20, .int v1, .int v2, .int v3, .int x.1, .int x.2] [] (mkCs s) 0 0) _ ?_ _ _ (ok_bind hw)
  rintro ⟨v4, v5⟩ hb
  exact b_X1_recountOf_6 hG (fun _ z => z) (fun y hw => by exact hG.2 _ _ _ _ _ _ _ _ _ (by refine ⟨Or.inl rfl, ?_⟩; refine ⟨Or.inl rfl, ?_⟩; refine ⟨Or.inl rfl, ?_⟩; refine ⟨Or.inl rfl, ?_⟩; refine ⟨Or.inr rfl, ?_⟩; exact trivial) (Nat.zero_le _) (Nat.zero_le _) (g_X1_recountOf_58 hG  hw :)) hb

set_option maxHeartbeats 4000000 in
set_option maxRecDepth 20000 in
theorem g_X1_recountOf {k : Option Value → mj_H → Prop} {G : mj_K} (hG : mj_cl2 cX1_recountOf (TbX1 6 ((some FieldType.int)) []) k G) {v1 : Int32} {v2 : Int32} {v3 : Int32} {s : St} (hw : ok (F_X1_recountOf v1 v2 v3 s) (fun p => k (some (.int p)) (mkCs s))) : G 0 [.ref 20, .int v1, .int v2, .int v3] [] (mkCs s) 0 0 := by
  unfold F_X1_recountOf at hw
  refine mj_run hG.1 (fun pc => pc == 6 || pc == 58) 4000 ?_
  simp only [mj_step, mj_W_s, mj_fin, List.getElem?_cons_zero, List.getElem?_cons_succ, mj_go, Nat.reduceAdd, Nat.reduceSub, Nat.reduceLT, Nat.reduceLeDiff, Nat.zero_add, Nat.reduceEqDiff, Nat.reduceBEq, ↓reduceIte, Bool.false_eq_true, List.append_nil, List.nil_append, List.cons_append, Option.toList, and_true, true_and, true_or, or_true, reduceCtorEq, List.map_nil, bI_eq0, bI_eq1, bool_ft, pk_us, vnar0, vnar1, Bool.or_false, Bool.or_true, Bool.false_or, Bool.true_or, mj_kne, eq_self, Int32.reduceLT, Int32.reduceLE, Int32.reduceAdd, Int32.reduceSub, Int32.reduceMul, not_true_eq_false, not_false_eq_true, false_implies, true_implies, D_X1_recountOf, mj_F_aload_n_k, mj_F_getfield_i, mj_F_goto_off, mj_F_iaload, mj_F_iconst_n, mj_F_if_icmp_ge_off, mj_F_if_icmp_gt_off, mj_F_if_icmp_ne_off, mj_F_iinc_k_n, mj_F_iload_k, mj_F_iload_n_k, mj_F_ireturn, mj_F_istore_k, mj_set, mj_set0, mj_unk, mj_c2, mj_kc, FT_X1, gS_C20, gCf1_13, gCf1_14, gS_C31, sS_Ca_31, gCf1_15, gS_C32, sS_Ca_32, gCf1_16, gS_C33, sS_Ca_33, J_X1_recountOf]
  exact hG.2 _ _ _ _ _ _ _ _ _ (by refine ⟨Or.inr rfl, ?_⟩; refine ⟨Or.inr rfl, ?_⟩; refine ⟨Or.inr rfl, ?_⟩; refine ⟨Or.inr rfl, ?_⟩; refine ⟨Or.inr rfl, ?_⟩; refine ⟨Or.inr rfl, ?_⟩; exact trivial) (Nat.zero_le _) (Nat.zero_le _) (g_X1_recountOf_6 hG  hw :)

def c_X1_recountOf : mj_S := fun as h k => ∃ (v1 : Int32) (v2 : Int32) (v3 : Int32) (s : St), as = [.ref 20, .int v1, .int v2, .int v3] ∧ h = mkCs s ∧ ok (F_X1_recountOf v1 v2 v3 s) (fun p => k (some (.int p)) (mkCs s))
theorem c_X1_recountOf_in {v1 : Int32} {v2 : Int32} {v3 : Int32} {s : St} {k : Option Value → mj_H → Prop} (hw : ok (F_X1_recountOf v1 v2 v3 s) (fun p => k (some (.int p)) (mkCs s))) : c_X1_recountOf [.ref 20, .int v1, .int v2, .int v3] (mkCs s) k := ⟨v1, v2, v3, s, rfl, rfl, hw⟩
theorem m_X1_recountOf (l : Launch) : mj_Met l yX1_recountOf cX1_recountOf 6 ((some FieldType.int)) 0 0 0 c_X1_recountOf := by
  refine mj_body2 false (TbX1 6 ((some FieldType.int)) []) (by decide) rfl rfl (fun h => nomatch h) (tfX1 _ (fun _ h => nomatch h)) ?_
  rintro as h k ⟨v1, v2, v3, s, rfl, rfl, hw⟩
  exact ⟨rfl, fun G hG => g_X1_recountOf hG hw⟩
def B_X1_spanned_16 (v1 : Int32) (v2 : Int32) (v3 : Int32) (v4 : Int32) (s : St) : Int64 × Int64 × Int64 × Int32 → Option ((Int64 × Int64 × Int64 × Int32) ⊕ ((Int64 × Int64 × Int64)))
  | (v5, v7, v9, v11) =>
  if (s.1 101) ≤ v11 then
    some (.inr (v5, v7, v9))
  else
    (rd s 103 24 v11).bind fun x1 =>
    if x1 = v1 then
      (F_X1_childrenOf v11 v2 v3 s).bind fun r2 =>
      (F_X1_recountOf v11 v2 v3 s).bind fun r3 =>
      if r3 = (-1) then
        some (.inl ((v5 + (Int32.toInt64 r2)), v7, v9, (v11 + 1)))
      else
        if r2 ≤ 0 then
          some (.inl ((v5 + (Int32.toInt64 r2)), v7, v9, (v11 + 1)))
        else
          (rd s 117 60 r3).bind fun x4 =>
          (nzl (Int32.toInt64 r2)).bind fun _ =>
          if 0 ≤ (lg_cmp v7 0) then
            some (.inl ((v5 + (Int32.toInt64 r2)), (mn64 v7 ((1000 * (Int32.toInt64 x4)) / (Int32.toInt64 r2))), (mx64 v9 ((1000 * (Int32.toInt64 x4)) / (Int32.toInt64 r2))), (v11 + 1)))
          else
            some (.inl ((v5 + (Int32.toInt64 r2)), ((1000 * (Int32.toInt64 x4)) / (Int32.toInt64 r2)), (mx64 v9 ((1000 * (Int32.toInt64 x4)) / (Int32.toInt64 r2))), (v11 + 1)))
    else
      some (.inl (v5, v7, v9, (v11 + 1)))
def F_X1_spanned_132 (v4 : Int32) (v5 : Int64) (v7 : Int64) (v9 : Int64) (s : St) : Option (Int32) :=
  if 0 ≤ (lg_cmp v7 0) then
    if v4 = 0 then
      some (Int64.toInt32 ((v5 * v7) / 1000))
    else
      some (Int64.toInt32 ((v5 * v9) / 1000))
  else
    some (Int64.toInt32 v5)
def F_X1_spanned_16 (v1 : Int32) (v2 : Int32) (v3 : Int32) (v4 : Int32) (v5 : Int64) (v7 : Int64) (v9 : Int64) (v11 : Int32) (s : St) : Option (Int32) :=
  (lp (B_X1_spanned_16 v1 v2 v3 v4 s) FU (v5, v7, v9, v11)).bind (fun y => F_X1_spanned_132 v4 y.1 y.2.1 y.2.2 s)
def F_X1_spanned (v1 : Int32) (v2 : Int32) (v3 : Int32) (v4 : Int32) (s : St) : Option (Int32) :=
  F_X1_spanned_16 v1 v2 v3 v4 0 (-1) (-1) 0 s
theorem J_X1_spanned : mj_t 22 110 = 132 ∧ mj_t 33 6 = 39 ∧ mj_t 36 90 = 126 ∧ mj_t 70 56 = 126 ∧ mj_t 75 51 = 126 ∧ mj_t 100 8 = 108 ∧ mj_t 105 10 = 115 ∧ mj_t 129 (-113) = 16 ∧ mj_t 136 7 = 143 ∧ mj_t 147 8 = 155 ∧ mj_t 152 5 = 157 ∧ (0 ≤ ((22 : Nat) : Int) + 110) = True ∧ (0 ≤ ((33 : Nat) : Int) + 6) = True ∧ (0 ≤ ((36 : Nat) : Int) + 90) = True ∧ (0 ≤ ((70 : Nat) : Int) + 56) = True ∧ (0 ≤ ((75 : Nat) : Int) + 51) = True ∧ (0 ≤ ((100 : Nat) : Int) + 8) = True ∧ (0 ≤ ((105 : Nat) : Int) + 10) = True ∧ (0 ≤ ((129 : Nat) : Int) + (-113)) = True ∧ (0 ≤ ((136 : Nat) : Int) + 7) = True ∧ (0 ≤ ((147 : Nat) : Int) + 8) = True ∧ (0 ≤ ((152 : Nat) : Int) + 5) = True := by and_intros <;> first | rfl | exact eq_true (by decide)
def ct_X1_spanned : List (Nat × mj_Cs) := [(78, 0, 4, 1, 0, 0, c_X1_childrenOf), (93, 0, 4, 1, 0, 0, c_X1_recountOf)]
theorem L_X1_spanned : mj_lk ct_X1_spanned 78 = some (0, 4, 1, 0, 0, c_X1_childrenOf) ∧ mj_lk ct_X1_spanned 93 = some (0, 4, 1, 0, 0, c_X1_recountOf) := ⟨rfl, rfl⟩
set_option maxHeartbeats 4000000 in
set_option maxRecDepth 20000 in
theorem b_X1_spanned_16 {k : Option Value → mj_H → Prop} {G : mj_K} (hG : mj_cl2 cX1_spanned (TbX1 16 ((some FieldType.int)) ct_X1_spanned) k G) (hM : mj_ml cX1_spanned yX1_spanned.cls G) {v1 : Int32} {v2 : Int32} {v3 : Int32} {v4 : Int32} {s : St} {P : Int64 × Int64 × Int64 × Int32 → Prop} {K : (Int64 × Int64 × Int64) → Prop} (hP : ∀ x, P x → G 16 [.ref 20, .int v1, .int v2, .int v3, .int v4, .long x.1, mj_unk, .long x.2.1, mj_unk, .long x.2.2.1, mj_unk, .int x.2.2.2] [] (mkCs s) 0 0) (hK0 : ∀ y, K y → G 132 [mj_unk, mj_unk, mj_unk, mj_unk, .int v4, .long y.1, mj_unk, .long y.2.1, mj_unk, .long y.2.2, mj_unk] [] (mkCs s) 0 0) {v5 : Int64} {v7 : Int64} {v9 : Int64} {v11 : Int32} (hw : ok (B_X1_spanned_16 v1 v2 v3 v4 s (v5, v7, v9, v11)) (Sum.elim P K)) : G 16 [.ref 20, .int v1, .int v2, .int v3, .int v4, .long v5, mj_unk, .long v7, mj_unk, .long v9, mj_unk, .int v11] [] (mkCs s) 0 0 := by
  unfold B_X1_spanned_16 at hw
  refine mj_run hG.1 (fun pc => pc == 16 || pc == 47 || pc == 57 || pc == 112 || pc == 121 || pc == 132) 4000 ?_
  simp only [mj_step, mj_W_s, mj_fin, List.getElem?_cons_zero, List.getElem?_cons_succ, mj_go, Nat.reduceAdd, Nat.reduceSub, Nat.reduceLT, Nat.reduceLeDiff, Nat.zero_add, Nat.reduceEqDiff, Nat.reduceBEq, ↓reduceIte, Bool.false_eq_true, List.append_nil, List.nil_append, List.cons_append, Option.toList, and_true, true_and, true_or, or_true, reduceCtorEq, List.map_nil, bI_eq0, bI_eq1, bool_ft, pk_us, vnar0, vnar1, Bool.or_false, Bool.or_true, Bool.false_or, Bool.true_or, mj_kne, eq_self, Int32.reduceLT, Int32.reduceLE, Int32.reduceAdd, Int32.reduceSub, Int32.reduceMul, not_true_eq_false, not_false_eq_true, false_implies, true_implies, D_X1_spanned_0, D_X1_spanned_1, mj_F_aload_n_k, mj_F_getfield_i, mj_F_goto_off, mj_F_i2l, mj_F_iaload, mj_F_iconst_n, mj_F_ifCond_eq_off, mj_F_ifCond_ge_off, mj_F_ifCond_le_off, mj_F_if_icmp_eq_off, mj_F_if_icmp_ge_off, mj_F_iinc_k_n, mj_F_iload_k, mj_F_iload_n_k, mj_F_invokestatic_i, mj_F_invokevirtual_i, mj_F_ireturn, mj_F_istore_k, mj_F_l2i, mj_F_ladd, mj_F_lcmp, mj_F_lconst_n, mj_F_ldc2_w_i, mj_F_ldiv, mj_F_lload_k, mj_F_lmul, mj_F_lstore_k, mj_set, mj_set0, mj_unk, mj_c2, mj_kc, FT_X1, KT_X1, L_X1_spanned, List.take_succ_cons, List.take_zero, List.drop_succ_cons, List.drop_zero, List.reverse_cons, List.reverse_nil, List.length_cons, List.length_nil, gS_C20, gCf1_1, gCf1_3, gS_C22, sS_Ca_22, gCf1_17, gS_C34, sS_Ca_34, J_X1_spanned]
  refine ⟨fun c => ?_, fun c => ?_⟩
  · replace hw := ok_t hw c
    exact hG.2 _ _ _ _ _ _ _ _ _ (by refine ⟨Or.inl rfl, ?_⟩; refine ⟨Or.inl rfl, ?_⟩; refine ⟨Or.inl rfl, ?_⟩; refine ⟨Or.inl rfl, ?_⟩; refine ⟨Or.inr rfl, ?_⟩; refine ⟨Or.inr rfl, ?_⟩; refine ⟨Or.inl rfl, ?_⟩; refine ⟨Or.inr rfl, ?_⟩; refine ⟨Or.inl rfl, ?_⟩; refine ⟨Or.inr rfl, ?_⟩; refine ⟨Or.inl rfl, ?_⟩; exact trivial) (Nat.zero_le _) (Nat.zero_le _) (hK0 _ (ok_some hw :) :)
  · replace hw := ok_f hw c
    refine ⟨(ok_rd hw).1, ?_⟩
    replace hw := (ok_rd hw).2
    refine ⟨fun c => ?_, fun c => ?_⟩
    · replace hw := ok_t hw c
      refine c_X1_childrenOf_in (ok_imp (ok_bind hw) ?_)
      intro p hw
      simp only [Option.toList, List.nil_append, List.cons_append, Nat.reduceSub]
      refine mj_run hG.1 (fun pc => pc == 16 || pc == 47 || pc == 57 || pc == 112 || pc == 121 || pc == 132) 4000 ?_
      simp only [mj_step, mj_W_s, mj_fin, List.getElem?_cons_zero, List.getElem?_cons_succ, mj_go, Nat.reduceAdd, Nat.reduceSub, Nat.reduceLT, Nat.reduceLeDiff, Nat.zero_add, Nat.reduceEqDiff, Nat.reduceBEq, ↓reduceIte, Bool.false_eq_true, List.append_nil, List.nil_append, List.cons_append, Option.toList, and_true, true_and, true_or, or_true, reduceCtorEq, List.map_nil, bI_eq0, bI_eq1, bool_ft, pk_us, vnar0, vnar1, Bool.or_false, Bool.or_true, Bool.false_or, Bool.true_or, mj_kne, eq_self, Int32.reduceLT, Int32.reduceLE, Int32.reduceAdd, Int32.reduceSub, Int32.reduceMul, not_true_eq_false, not_false_eq_true, false_implies, true_implies, D_X1_spanned_0, D_X1_spanned_1, mj_F_aload_n_k, mj_F_getfield_i, mj_F_goto_off, mj_F_i2l, mj_F_iaload, mj_F_iconst_n, mj_F_ifCond_eq_off, mj_F_ifCond_ge_off, mj_F_ifCond_le_off, mj_F_if_icmp_eq_off, mj_F_if_icmp_ge_off, mj_F_iinc_k_n, mj_F_iload_k, mj_F_iload_n_k, mj_F_invokestatic_i, mj_F_invokevirtual_i, mj_F_ireturn, mj_F_istore_k, mj_F_l2i, mj_F_ladd, mj_F_lcmp, mj_F_lconst_n, mj_F_ldc2_w_i, mj_F_ldiv, mj_F_lload_k, mj_F_lmul, mj_F_lstore_k, mj_set, mj_set0, mj_unk, mj_c2, mj_kc, FT_X1, KT_X1, L_X1_spanned, List.take_succ_cons, List.take_zero, List.drop_succ_cons, List.drop_zero, List.reverse_cons, List.reverse_nil, List.length_cons, List.length_nil, gS_C20, gCf1_1, gCf1_3, gS_C22, sS_Ca_22, gCf1_17, gS_C34, sS_Ca_34, J_X1_spanned]
      refine c_X1_recountOf_in (ok_imp (ok_bind hw) ?_)
      intro p hw
      simp only [Option.toList, List.nil_append, List.cons_append, Nat.reduceSub]
      refine mj_run hG.1 (fun pc => pc == 16 || pc == 47 || pc == 57 || pc == 112 || pc == 121 || pc == 132) 4000 ?_
      simp only [mj_step, mj_W_s, mj_fin, List.getElem?_cons_zero, List.getElem?_cons_succ, mj_go, Nat.reduceAdd, Nat.reduceSub, Nat.reduceLT, Nat.reduceLeDiff, Nat.zero_add, Nat.reduceEqDiff, Nat.reduceBEq, ↓reduceIte, Bool.false_eq_true, List.append_nil, List.nil_append, List.cons_append, Option.toList, and_true, true_and, true_or, or_true, reduceCtorEq, List.map_nil, bI_eq0, bI_eq1, bool_ft, pk_us, vnar0, vnar1, Bool.or_false, Bool.or_true, Bool.false_or, Bool.true_or, mj_kne, eq_self, Int32.reduceLT, Int32.reduceLE, Int32.reduceAdd, Int32.reduceSub, Int32.reduceMul, not_true_eq_false, not_false_eq_true, false_implies, true_implies, D_X1_spanned_0, D_X1_spanned_1, mj_F_aload_n_k, mj_F_getfield_i, mj_F_goto_off, mj_F_i2l, mj_F_iaload, mj_F_iconst_n, mj_F_ifCond_eq_off, mj_F_ifCond_ge_off, mj_F_ifCond_le_off, mj_F_if_icmp_eq_off, mj_F_if_icmp_ge_off, mj_F_iinc_k_n, mj_F_iload_k, mj_F_iload_n_k, mj_F_invokestatic_i, mj_F_invokevirtual_i, mj_F_ireturn, mj_F_istore_k, mj_F_l2i, mj_F_ladd, mj_F_lcmp, mj_F_lconst_n, mj_F_ldc2_w_i, mj_F_ldiv, mj_F_lload_k, mj_F_lmul, mj_F_lstore_k, mj_set, mj_set0, mj_unk, mj_c2, mj_kc, FT_X1, KT_X1, L_X1_spanned, List.take_succ_cons, List.take_zero, List.drop_succ_cons, List.drop_zero, List.reverse_cons, List.reverse_nil, List.length_cons, List.length_nil, gS_C20, gCf1_1, gCf1_3, gS_C22, sS_Ca_22, gCf1_17, gS_C34, sS_Ca_34, J_X1_spanned]
      refine ⟨fun c => ?_, fun c => ?_⟩
      · replace hw := ok_t hw c
        exact hG.2 _ _ _ _ _ _ _ _ _ (by refine ⟨Or.inr rfl, ?_⟩; refine ⟨Or.inr rfl, ?_⟩; refine ⟨Or.inr rfl, ?_⟩; refine ⟨Or.inr rfl, ?_⟩; refine ⟨Or.inr rfl, ?_⟩; refine ⟨Or.inr rfl, ?_⟩; refine ⟨Or.inl rfl, ?_⟩; refine ⟨Or.inr rfl, ?_⟩; refine ⟨Or.inl rfl, ?_⟩; refine ⟨Or.inr rfl, ?_⟩; refine ⟨Or.inl rfl, ?_⟩; refine ⟨Or.inr rfl, ?_⟩; exact trivial) (Nat.zero_le _) (Nat.zero_le _) (hP _ (ok_some hw :) :)
      · replace hw := ok_f hw c
        refine ⟨fun c => ?_, fun c => ?_⟩
        · replace hw := ok_t hw c
          exact hG.2 _ _ _ _ _ _ _ _ _ (by refine ⟨Or.inr rfl, ?_⟩; refine ⟨Or.inr rfl, ?_⟩; refine ⟨Or.inr rfl, ?_⟩; refine ⟨Or.inr rfl, ?_⟩; refine ⟨Or.inr rfl, ?_⟩; refine ⟨Or.inr rfl, ?_⟩; refine ⟨Or.inl rfl, ?_⟩; refine ⟨Or.inr rfl, ?_⟩; refine ⟨Or.inl rfl, ?_⟩; refine ⟨Or.inr rfl, ?_⟩; refine ⟨Or.inl rfl, ?_⟩; refine ⟨Or.inr rfl, ?_⟩; exact trivial) (Nat.zero_le _) (Nat.zero_le _) (hP _ (ok_some hw :) :)
        · replace hw := ok_f hw c
          refine ⟨(ok_rd hw).1, ?_⟩
          replace hw := (ok_rd hw).2
          refine ⟨(ok_nzl hw).1, ?_⟩
          replace hw := (ok_nzl hw).2
          refine ⟨fun c => ?_, fun c => ?_⟩
          · replace hw := ok_t hw c
            refine hM 112 98 2 _ _ _ _ _ _ _ _ (by simp only [D_X1_spanned_0, D_X1_spanned_1]) (lkX1_98) rfl (Nat.le_of_ble_eq_true rfl) ?_
            refine mj_run hG.1 (fun pc => pc == 16 || pc == 47 || pc == 57 || pc == 112 || pc == 121 || pc == 132) 4000 ?_
            simp only [mj_step, mj_W_s, mj_fin, List.getElem?_cons_zero, List.getElem?_cons_succ, mj_go, Nat.reduceAdd, Nat.reduceSub, Nat.reduceLT, Nat.reduceLeDiff, Nat.zero_add, Nat.reduceEqDiff, Nat.reduceBEq, ↓reduceIte, Bool.false_eq_true, List.append_nil, List.nil_append, List.cons_append, Option.toList, and_true, true_and, true_or, or_true, reduceCtorEq, List.map_nil, bI_eq0, bI_eq1, bool_ft, pk_us, vnar0, vnar1, Bool.or_false, Bool.or_true, Bool.false_or, Bool.true_or, mj_kne, eq_self, Int32.reduceLT, Int32.reduceLE, Int32.reduceAdd, Int32.reduceSub, Int32.reduceMul, not_true_eq_false, not_false_eq_true, false_implies, true_implies, D_X1_spanned_0, D_X1_spanned_1, mj_F_aload_n_k, mj_F_getfield_i, mj_F_goto_off, mj_F_i2l, mj_F_iaload, mj_F_iconst_n, mj_F_ifCond_eq_off, mj_F_ifCond_ge_off, mj_F_ifCond_le_off, mj_F_if_icmp_eq_off, mj_F_if_icmp_ge_off, mj_F_iinc_k_n, mj_F_iload_k, mj_F_iload_n_k, mj_F_invokestatic_i, mj_F_invokevirtual_i, mj_F_ireturn, mj_F_istore_k, mj_F_l2i, mj_F_ladd, mj_F_lcmp, mj_F_lconst_n, mj_F_ldc2_w_i, mj_F_ldiv, mj_F_lload_k, mj_F_lmul, mj_F_lstore_k, mj_set, mj_set0, mj_unk, mj_c2, mj_kc, FT_X1, KT_X1, L_X1_spanned, List.take_succ_cons, List.take_zero, List.drop_succ_cons, List.drop_zero, List.reverse_cons, List.reverse_nil, List.length_cons, List.length_nil, gS_C20, gCf1_1, gCf1_3, gS_C22, sS_Ca_22, gCf1_17, gS_C34, sS_Ca_34, J_X1_spanned]
            refine hM 121 104 3 _ _ _ _ _ _ _ _ (by simp only [D_X1_spanned_0, D_X1_spanned_1]) (lkX1_104) rfl (Nat.le_of_ble_eq_true rfl) ?_
            refine mj_run hG.1 (fun pc => pc == 16 || pc == 47 || pc == 57 || pc == 112 || pc == 121 || pc == 132) 4000 ?_
            simp only [mj_step, mj_W_s, mj_fin, List.getElem?_cons_zero, List.getElem?_cons_succ, mj_go, Nat.reduceAdd, Nat.reduceSub, Nat.reduceLT, Nat.reduceLeDiff, Nat.zero_add, Nat.reduceEqDiff, Nat.reduceBEq, ↓reduceIte, Bool.false_eq_true, List.append_nil, List.nil_append, List.cons_append, Option.toList, and_true, true_and, true_or, or_true, reduceCtorEq, List.map_nil, bI_eq0, bI_eq1, bool_ft, pk_us, vnar0, vnar1, Bool.or_false, Bool.or_true, Bool.false_or, Bool.true_or, mj_kne, eq_self, Int32.reduceLT, Int32.reduceLE, Int32.reduceAdd, Int32.reduceSub, Int32.reduceMul, not_true_eq_false, not_false_eq_true, false_implies, true_implies, D_X1_spanned_0, D_X1_spanned_1, mj_F_aload_n_k, mj_F_getfield_i, mj_F_goto_off, mj_F_i2l, mj_F_iaload, mj_F_iconst_n, mj_F_ifCond_eq_off, mj_F_ifCond_ge_off, mj_F_ifCond_le_off, mj_F_if_icmp_eq_off, mj_F_if_icmp_ge_off, mj_F_iinc_k_n, mj_F_iload_k, mj_F_iload_n_k, mj_F_invokestatic_i, mj_F_invokevirtual_i, mj_F_ireturn, mj_F_istore_k, mj_F_l2i, mj_F_ladd, mj_F_lcmp, mj_F_lconst_n, mj_F_ldc2_w_i, mj_F_ldiv, mj_F_lload_k, mj_F_lmul, mj_F_lstore_k, mj_set, mj_set0, mj_unk, mj_c2, mj_kc, FT_X1, KT_X1, L_X1_spanned, List.take_succ_cons, List.take_zero, List.drop_succ_cons, List.drop_zero, List.reverse_cons, List.reverse_nil, List.length_cons, List.length_nil, gS_C20, gCf1_1, gCf1_3, gS_C22, sS_Ca_22, gCf1_17, gS_C34, sS_Ca_34, J_X1_spanned]
            exact hG.2 _ _ _ _ _ _ _ _ _ (by refine ⟨Or.inr rfl, ?_⟩; refine ⟨Or.inr rfl, ?_⟩; refine ⟨Or.inr rfl, ?_⟩; refine ⟨Or.inr rfl, ?_⟩; refine ⟨Or.inr rfl, ?_⟩; refine ⟨Or.inr rfl, ?_⟩; refine ⟨Or.inl rfl, ?_⟩; refine ⟨Or.inr rfl, ?_⟩; refine ⟨Or.inl rfl, ?_⟩; refine ⟨Or.inr rfl, ?_⟩; refine ⟨Or.inl rfl, ?_⟩; refine ⟨Or.inr rfl, ?_⟩; exact trivial) (Nat.zero_le _) (Nat.zero_le _) (hP _ (ok_some hw :) :)
          · replace hw := ok_f hw c
            refine hM 121 104 3 _ _ _ _ _ _ _ _ (by simp only [D_X1_spanned_0, D_X1_spanned_1]) (lkX1_104) rfl (Nat.le_of_ble_eq_true rfl) ?_
            refine mj_run hG.1 (fun pc => pc == 16 || pc == 47 || pc == 57 || pc == 112 || pc == 121 || pc == 132) 4000 ?_
            simp only [mj_step, mj_W_s, mj_fin, List.getElem?_cons_zero, List.getElem?_cons_succ, mj_go, Nat.reduceAdd, Nat.reduceSub, Nat.reduceLT, Nat.reduceLeDiff, Nat.zero_add, Nat.reduceEqDiff, Nat.reduceBEq, ↓reduceIte, Bool.false_eq_true, List.append_nil, List.nil_append, List.cons_append, Option.toList, and_true, true_and, true_or, or_true, reduceCtorEq, List.map_nil, bI_eq0, bI_eq1, bool_ft, pk_us, vnar0, vnar1, Bool.or_false, Bool.or_true, Bool.false_or, Bool.true_or, mj_kne, eq_self, Int32.reduceLT, Int32.reduceLE, Int32.reduceAdd, Int32.reduceSub, Int32.reduceMul, not_true_eq_false, not_false_eq_true, false_implies, true_implies, D_X1_spanned_0, D_X1_spanned_1, mj_F_aload_n_k, mj_F_getfield_i, mj_F_goto_off, mj_F_i2l, mj_F_iaload, mj_F_iconst_n, mj_F_ifCond_eq_off, mj_F_ifCond_ge_off, mj_F_ifCond_le_off, mj_F_if_icmp_eq_off, mj_F_if_icmp_ge_off, mj_F_iinc_k_n, mj_F_iload_k, mj_F_iload_n_k, mj_F_invokestatic_i, mj_F_invokevirtual_i, mj_F_ireturn, mj_F_istore_k, mj_F_l2i, mj_F_ladd, mj_F_lcmp, mj_F_lconst_n, mj_F_ldc2_w_i, mj_F_ldiv, mj_F_lload_k, mj_F_lmul, mj_F_lstore_k, mj_set, mj_set0, mj_unk, mj_c2, mj_kc, FT_X1, KT_X1, L_X1_spanned, List.take_succ_cons, List.take_zero, List.drop_succ_cons, List.drop_zero, List.reverse_cons, List.reverse_nil, List.length_cons, List.length_nil, gS_C20, gCf1_1, gCf1_3, gS_C22, sS_Ca_22, gCf1_17, gS_C34, sS_Ca_34, J_X1_spanned]
            exact hG.2 _ _ _ _ _ _ _ _ _ (by refine ⟨Or.inr rfl, ?_⟩; refine ⟨Or.inr rfl, ?_⟩; refine ⟨Or.inr rfl, ?_⟩; refine ⟨Or.inr rfl, ?_⟩; refine ⟨Or.inr rfl, ?_⟩; refine ⟨Or.inr rfl, ?_⟩; refine ⟨Or.inl rfl, ?_⟩; refine ⟨Or.inr rfl, ?_⟩; refine ⟨Or.inl rfl, ?_⟩; refine ⟨Or.inr rfl, ?_⟩; refine ⟨Or.inl rfl, ?_⟩; refine ⟨Or.inr rfl, ?_⟩; exact trivial) (Nat.zero_le _) (Nat.zero_le _) (hP _ (ok_some hw :) :)
    · replace hw := ok_f hw c
      exact hG.2 _ _ _ _ _ _ _ _ _ (by refine ⟨Or.inr rfl, ?_⟩; refine ⟨Or.inr rfl, ?_⟩; refine ⟨Or.inr rfl, ?_⟩; refine ⟨Or.inr rfl, ?_⟩; refine ⟨Or.inr rfl, ?_⟩; refine ⟨Or.inr rfl, ?_⟩; refine ⟨Or.inl rfl, ?_⟩; refine ⟨Or.inr rfl, ?_⟩; refine ⟨Or.inl rfl, ?_⟩; refine ⟨Or.inr rfl, ?_⟩; refine ⟨Or.inl rfl, ?_⟩; refine ⟨Or.inr rfl, ?_⟩; exact trivial) (Nat.zero_le _) (Nat.zero_le _) (hP _ (ok_some hw :) :)

set_option maxHeartbeats 4000000 in
set_option maxRecDepth 20000 in
theorem g_X1_spanned_132 {k : Option Value → mj_H → Prop} {G : mj_K} (hG : mj_cl2 cX1_spanned (TbX1 16 ((some FieldType.int)) ct_X1_spanned) k G) (hM : mj_ml cX1_spanned yX1_spanned.cls G)   {v4 : Int32} {v5 : Int64} {v7 : Int64} {v9 : Int64} {s : St} (hw : ok (F_X1_spanned_132 v4 v5 v7 v9 s) (fun p => k (some (.int p)) (mkCs s))) : G 132 [mj_unk, mj_unk, mj_unk, mj_unk, .int v4, .long v5, mj_unk, .long v7, mj_unk, .long v9, mj_unk] [] (mkCs s) 0 0 := by
  unfold F_X1_spanned_132 at hw
  refine mj_run hG.1 (fun pc => pc == 16 || pc == 47 || pc == 57 || pc == 112 || pc == 121 || pc == 132) 4000 ?_
  simp only [mj_step, mj_W_s, mj_fin, List.getElem?_cons_zero, List.getElem?_cons_succ, mj_go, Nat.reduceAdd, Nat.reduceSub, Nat.reduceLT, Nat.reduceLeDiff, Nat.zero_add, Nat.reduceEqDiff, Nat.reduceBEq, ↓reduceIte, Bool.false_eq_true, List.append_nil, List.nil_append, List.cons_append, Option.toList, and_true, true_and, true_or, or_true, reduceCtorEq, List.map_nil, bI_eq0, bI_eq1, bool_ft, pk_us, vnar0, vnar1, Bool.or_false, Bool.or_true, Bool.false_or, Bool.true_or, mj_kne, eq_self, Int32.reduceLT, Int32.reduceLE, Int32.reduceAdd, Int32.reduceSub, Int32.reduceMul, not_true_eq_false, not_false_eq_true, false_implies, true_implies, D_X1_spanned_0, D_X1_spanned_1, mj_F_aload_n_k, mj_F_getfield_i, mj_F_goto_off, mj_F_i2l, mj_F_iaload, mj_F_iconst_n, mj_F_ifCond_eq_off, mj_F_ifCond_ge_off, mj_F_ifCond_le_off, mj_F_if_icmp_eq_off, mj_F_if_icmp_ge_off, mj_F_iinc_k_n, mj_F_iload_k, mj_F_iload_n_k, mj_F_invokestatic_i, mj_F_invokevirtual_i, mj_F_ireturn, mj_F_istore_k, mj_F_l2i, mj_F_ladd, mj_F_lcmp, mj_F_lconst_n, mj_F_ldc2_w_i, mj_F_ldiv, mj_F_lload_k, mj_F_lmul, mj_F_lstore_k, mj_set, mj_set0, mj_unk, mj_c2, mj_kc, FT_X1, KT_X1, L_X1_spanned, List.take_succ_cons, List.take_zero, List.drop_succ_cons, List.drop_zero, List.reverse_cons, List.reverse_nil, List.length_cons, List.length_nil, gS_C20, gCf1_1, gCf1_3, gS_C22, sS_Ca_22, gCf1_17, gS_C34, sS_Ca_34, J_X1_spanned]
  refine ⟨fun c => ?_, fun c => ?_⟩
  · replace hw := ok_t hw c
    refine ⟨fun c => ?_, fun c => ?_⟩
    · replace hw := ok_t hw c
      exact (ok_some hw :)
    · replace hw := ok_f hw c
      exact (ok_some hw :)
  · replace hw := ok_f hw c
    exact (ok_some hw :)

set_option maxHeartbeats 4000000 in
theorem g_X1_spanned_16 {k : Option Value → mj_H → Prop} {G : mj_K} (hG : mj_cl2 cX1_spanned (TbX1 16 ((some FieldType.int)) ct_X1_spanned) k G) (hM : mj_ml cX1_spanned yX1_spanned.cls G)   {v1 : Int32} {v2 : Int32} {v3 : Int32} {v4 : Int32} {v5 : Int64} {v7 : Int64} {v9 : Int64} {v11 : Int32} {s : St} (hw : ok (F_X1_spanned_16 v1 v2 v3 v4 v5 v7 v9 v11 s) (fun p => k (some (.int p)) (mkCs s))) : G 16 [.ref 20, .int v1, .int v2, .int v3, .int v4, .long v5, mj_unk, .long v7, mj_unk, .long v9, mj_unk, .int v11] [] (mkCs s) 0 0 := by
  unfold F_X1_spanned_16 at hw
  refine lp_ok (B_X1_spanned_16 v1 v2 v3 v4 s) (fun x => G 16 [.ref 20, .int v1, .int v2, .int v3, .int v4, .long x.1, mj_unk, .long x.2.1, mj_unk, .long x.2.2.1, mj_unk, .int x.2.2.2] [] (mkCs s) 0 0) _ ?_ _ _ (ok_bind hw)
  rintro ⟨v5, v7, v9, v11⟩ hb
  exact b_X1_spanned_16 hG hM (fun _ z => z) (fun y hw => by exact hG.2 _ _ _ _ _ _ _ _ _ (by refine ⟨Or.inl rfl, ?_⟩; refine ⟨Or.inl rfl, ?_⟩; refine ⟨Or.inl rfl, ?_⟩; refine ⟨Or.inl rfl, ?_⟩; refine ⟨Or.inr rfl, ?_⟩; refine ⟨Or.inr rfl, ?_⟩; refine ⟨Or.inl rfl, ?_⟩; refine ⟨Or.inr rfl, ?_⟩; refine ⟨Or.inl rfl, ?_⟩; refine ⟨Or.inr rfl, ?_⟩; refine ⟨Or.inl rfl, ?_⟩; exact trivial) (Nat.zero_le _) (Nat.zero_le _) (g_X1_spanned_132 hG hM  hw :)) hb

set_option maxHeartbeats 4000000 in
set_option maxRecDepth 20000 in
theorem g_X1_spanned {k : Option Value → mj_H → Prop} {G : mj_K} (hG : mj_cl2 cX1_spanned (TbX1 16 ((some FieldType.int)) ct_X1_spanned) k G) (hM : mj_ml cX1_spanned yX1_spanned.cls G) {v1 : Int32} {v2 : Int32} {v3 : Int32} {v4 : Int32} {s : St} (hw : ok (F_X1_spanned v1 v2 v3 v4 s) (fun p => k (some (.int p)) (mkCs s))) : G 0 [.ref 20, .int v1, .int v2, .int v3, .int v4] [] (mkCs s) 0 0 := by
  unfold F_X1_spanned at hw
  refine mj_run hG.1 (fun pc => pc == 16 || pc == 47 || pc == 57 || pc == 112 || pc == 121 || pc == 132) 4000 ?_
  simp only [mj_step, mj_W_s, mj_fin, List.getElem?_cons_zero, List.getElem?_cons_succ, mj_go, Nat.reduceAdd, Nat.reduceSub, Nat.reduceLT, Nat.reduceLeDiff, Nat.zero_add, Nat.reduceEqDiff, Nat.reduceBEq, ↓reduceIte, Bool.false_eq_true, List.append_nil, List.nil_append, List.cons_append, Option.toList, and_true, true_and, true_or, or_true, reduceCtorEq, List.map_nil, bI_eq0, bI_eq1, bool_ft, pk_us, vnar0, vnar1, Bool.or_false, Bool.or_true, Bool.false_or, Bool.true_or, mj_kne, eq_self, Int32.reduceLT, Int32.reduceLE, Int32.reduceAdd, Int32.reduceSub, Int32.reduceMul, not_true_eq_false, not_false_eq_true, false_implies, true_implies, D_X1_spanned_0, D_X1_spanned_1, mj_F_aload_n_k, mj_F_getfield_i, mj_F_goto_off, mj_F_i2l, mj_F_iaload, mj_F_iconst_n, mj_F_ifCond_eq_off, mj_F_ifCond_ge_off, mj_F_ifCond_le_off, mj_F_if_icmp_eq_off, mj_F_if_icmp_ge_off, mj_F_iinc_k_n, mj_F_iload_k, mj_F_iload_n_k, mj_F_invokestatic_i, mj_F_invokevirtual_i, mj_F_ireturn, mj_F_istore_k, mj_F_l2i, mj_F_ladd, mj_F_lcmp, mj_F_lconst_n, mj_F_ldc2_w_i, mj_F_ldiv, mj_F_lload_k, mj_F_lmul, mj_F_lstore_k, mj_set, mj_set0, mj_unk, mj_c2, mj_kc, FT_X1, KT_X1, L_X1_spanned, List.take_succ_cons, List.take_zero, List.drop_succ_cons, List.drop_zero, List.reverse_cons, List.reverse_nil, List.length_cons, List.length_nil, gS_C20, gCf1_1, gCf1_3, gS_C22, sS_Ca_22, gCf1_17, gS_C34, sS_Ca_34, J_X1_spanned]
  exact hG.2 _ _ _ _ _ _ _ _ _ (by refine ⟨Or.inr rfl, ?_⟩; refine ⟨Or.inr rfl, ?_⟩; refine ⟨Or.inr rfl, ?_⟩; refine ⟨Or.inr rfl, ?_⟩; refine ⟨Or.inr rfl, ?_⟩; refine ⟨Or.inr rfl, ?_⟩; refine ⟨Or.inl rfl, ?_⟩; refine ⟨Or.inr rfl, ?_⟩; refine ⟨Or.inl rfl, ?_⟩; refine ⟨Or.inr rfl, ?_⟩; refine ⟨Or.inl rfl, ?_⟩; refine ⟨Or.inr rfl, ?_⟩; exact trivial) (Nat.zero_le _) (Nat.zero_le _) (g_X1_spanned_16 hG hM  hw :)

def c_X1_spanned : mj_S := fun as h k => ∃ (v1 : Int32) (v2 : Int32) (v3 : Int32) (v4 : Int32) (s : St), as = [.ref 20, .int v1, .int v2, .int v3, .int v4] ∧ h = mkCs s ∧ ok (F_X1_spanned v1 v2 v3 v4 s) (fun p => k (some (.int p)) (mkCs s))
theorem c_X1_spanned_in {v1 : Int32} {v2 : Int32} {v3 : Int32} {v4 : Int32} {s : St} {k : Option Value → mj_H → Prop} (hw : ok (F_X1_spanned v1 v2 v3 v4 s) (fun p => k (some (.int p)) (mkCs s))) : c_X1_spanned [.ref 20, .int v1, .int v2, .int v3, .int v4] (mkCs s) k := ⟨v1, v2, v3, v4, s, rfl, rfl, hw⟩
theorem m_X1_spanned (l : Launch) : mj_Met l yX1_spanned cX1_spanned 16 ((some FieldType.int)) 2 0 0 c_X1_spanned := by
  refine mj_body3 false (TbX1 16 ((some FieldType.int)) ct_X1_spanned) (by decide) (by decide) rfl rfl (fun h => nomatch h) (tfX1 _ (List.forall_mem_cons.mpr ⟨cfX1_78 (m_X1_childrenOf l) (by decide), List.forall_mem_cons.mpr ⟨cfX1_93 (m_X1_recountOf l) (by decide), fun _ h => nomatch h⟩⟩)) ?_
  rintro as h k ⟨v1, v2, v3, v4, s, rfl, rfl, hw⟩
  exact ⟨rfl, fun G hG hM => g_X1_spanned hG hM hw⟩
def F_X11_span (v1 : Int32) (v2 : Int32) (v3 : Int32) (v4 : Int32) (s : St) : Option (Int32) :=
  if inb v1 0 3 = false then
    some (-1)
  else
    if inb v2 0 11 = false then
      some (-1)
    else
      (F_X11_isPast v3 s).bind fun r1 =>
      if r1 = 0 then
        some (-1)
      else
        if inb v4 0 1 = false then
          some (-1)
        else
          if v4 = 1 then
            (F_X1_spanned v1 v2 v3 1 s).bind fun r3 =>
            some r3
          else
            (F_X1_spanned v1 v2 v3 0 s).bind fun r2 =>
            some r2
theorem J_X11_span : mj_t 4 28 = 32 ∧ mj_t 11 21 = 32 ∧ mj_t 19 13 = 32 ∧ mj_t 29 5 = 34 ∧ mj_t 44 7 = 51 ∧ mj_t 48 4 = 52 ∧ (0 ≤ ((4 : Nat) : Int) + 28) = True ∧ (0 ≤ ((11 : Nat) : Int) + 21) = True ∧ (0 ≤ ((19 : Nat) : Int) + 13) = True ∧ (0 ≤ ((29 : Nat) : Int) + 5) = True ∧ (0 ≤ ((44 : Nat) : Int) + 7) = True ∧ (0 ≤ ((48 : Nat) : Int) + 4) = True := by and_intros <;> first | rfl | exact eq_true (by decide)
def ct_X11_span : List (Nat × mj_Cs) := [(96, 2, 3, 11, 0, 0, c_in), (131, 2, 1, 11, 0, 0, c_isShire), (141, 2, 1, 11, 0, 0, c_isYear), (148, 0, 2, 11, 0, 0, c_X11_isPast), (340, 0, 5, 1, 0, 0, c_X1_spanned)]
theorem L_X11_span : mj_lk ct_X11_span 96 = some (2, 3, 11, 0, 0, c_in) ∧ mj_lk ct_X11_span 131 = some (2, 1, 11, 0, 0, c_isShire) ∧ mj_lk ct_X11_span 141 = some (2, 1, 11, 0, 0, c_isYear) ∧ mj_lk ct_X11_span 148 = some (0, 2, 11, 0, 0, c_X11_isPast) ∧ mj_lk ct_X11_span 340 = some (0, 5, 1, 0, 0, c_X1_spanned) := ⟨rfl, rfl, rfl, rfl, rfl⟩
set_option maxHeartbeats 4000000 in
set_option maxRecDepth 20000 in
theorem g_X11_span {k : Option Value → mj_H → Prop} {G : mj_K} (hG : mj_cl2 cX11_span (TbX11 5 ((some FieldType.int)) ct_X11_span) k G) {v1 : Int32} {v2 : Int32} {v3 : Int32} {v4 : Int32} {s : St} (hw : ok (F_X11_span v1 v2 v3 v4 s) (fun p => k (some (.int p)) (mkCs s))) : G 0 [.ref 0, .int v1, .int v2, .int v3, .int v4] [] (mkCs s) 0 0 := by
  unfold F_X11_span at hw
  refine mj_run hG.1 (fun pc => pc == 19 || pc == 55) 4000 ?_
  simp only [mj_step, mj_W_s, mj_fin, List.getElem?_cons_zero, List.getElem?_cons_succ, mj_go, Nat.reduceAdd, Nat.reduceSub, Nat.reduceLT, Nat.reduceLeDiff, Nat.zero_add, Nat.reduceEqDiff, Nat.reduceBEq, ↓reduceIte, Bool.false_eq_true, List.append_nil, List.nil_append, List.cons_append, Option.toList, and_true, true_and, true_or, or_true, reduceCtorEq, List.map_nil, bI_eq0, bI_eq1, bool_ft, pk_us, vnar0, vnar1, Bool.or_false, Bool.or_true, Bool.false_or, Bool.true_or, mj_kne, eq_self, Int32.reduceLT, Int32.reduceLE, Int32.reduceAdd, Int32.reduceSub, Int32.reduceMul, not_true_eq_false, not_false_eq_true, false_implies, true_implies, D_X11_span, mj_F_aload_n_k, mj_F_getfield_i, mj_F_goto_off, mj_F_iconst_n, mj_F_ifCond_eq_off, mj_F_ifCond_ne_off, mj_F_if_icmp_ne_off, mj_F_iload_k, mj_F_iload_n_k, mj_F_invokestatic_i, mj_F_invokevirtual_i, mj_F_ireturn, mj_kc, FT_X11, L_X11_span, List.take_succ_cons, List.take_zero, List.drop_succ_cons, List.drop_zero, List.reverse_cons, List.reverse_nil, List.length_cons, List.length_nil, gS_C0, gCf11_4, c_isShire_eq, c_isYear_eq, c_in_eq, gS_C20, J_X11_span]
  refine ⟨fun c => ?_, fun c => ?_⟩
  · replace hw := ok_t hw c
    exact (ok_some hw :)
  · replace hw := ok_f hw c
    refine ⟨fun c => ?_, fun c => ?_⟩
    · replace hw := ok_t hw c
      exact (ok_some hw :)
    · replace hw := ok_f hw c
      refine c_X11_isPast_in (ok_imp (ok_bind hw) ?_)
      intro p hw
      simp only [Option.toList, List.nil_append, List.cons_append, Nat.reduceSub]
      refine mj_run hG.1 (fun pc => pc == 19 || pc == 55) 4000 ?_
      simp only [mj_step, mj_W_s, mj_fin, List.getElem?_cons_zero, List.getElem?_cons_succ, mj_go, Nat.reduceAdd, Nat.reduceSub, Nat.reduceLT, Nat.reduceLeDiff, Nat.zero_add, Nat.reduceEqDiff, Nat.reduceBEq, ↓reduceIte, Bool.false_eq_true, List.append_nil, List.nil_append, List.cons_append, Option.toList, and_true, true_and, true_or, or_true, reduceCtorEq, List.map_nil, bI_eq0, bI_eq1, bool_ft, pk_us, vnar0, vnar1, Bool.or_false, Bool.or_true, Bool.false_or, Bool.true_or, mj_kne, eq_self, Int32.reduceLT, Int32.reduceLE, Int32.reduceAdd, Int32.reduceSub, Int32.reduceMul, not_true_eq_false, not_false_eq_true, false_implies, true_implies, D_X11_span, mj_F_aload_n_k, mj_F_getfield_i, mj_F_goto_off, mj_F_iconst_n, mj_F_ifCond_eq_off, mj_F_ifCond_ne_off, mj_F_if_icmp_ne_off, mj_F_iload_k, mj_F_iload_n_k, mj_F_invokestatic_i, mj_F_invokevirtual_i, mj_F_ireturn, mj_kc, FT_X11, L_X11_span, List.take_succ_cons, List.take_zero, List.drop_succ_cons, List.drop_zero, List.reverse_cons, List.reverse_nil, List.length_cons, List.length_nil, gS_C0, gCf11_4, c_isShire_eq, c_isYear_eq, c_in_eq, gS_C20, J_X11_span]
      refine ⟨fun c => ?_, fun c => ?_⟩
      · replace hw := ok_t hw c
        exact (ok_some hw :)
      · replace hw := ok_f hw c
        refine ⟨fun c => ?_, fun c => ?_⟩
        · replace hw := ok_f hw c
          refine ⟨fun c => ?_, fun c => ?_⟩
          · replace hw := ok_f hw c
            refine c_X1_spanned_in (ok_imp (ok_bind hw) ?_)
            intro p hw
            simp only [Option.toList, List.nil_append, List.cons_append, Nat.reduceSub]
            refine mj_run hG.1 (fun pc => pc == 19 || pc == 55) 4000 ?_
            simp only [mj_step, mj_W_s, mj_fin, List.getElem?_cons_zero, List.getElem?_cons_succ, mj_go, Nat.reduceAdd, Nat.reduceSub, Nat.reduceLT, Nat.reduceLeDiff, Nat.zero_add, Nat.reduceEqDiff, Nat.reduceBEq, ↓reduceIte, Bool.false_eq_true, List.append_nil, List.nil_append, List.cons_append, Option.toList, and_true, true_and, true_or, or_true, reduceCtorEq, List.map_nil, bI_eq0, bI_eq1, bool_ft, pk_us, vnar0, vnar1, Bool.or_false, Bool.or_true, Bool.false_or, Bool.true_or, mj_kne, eq_self, Int32.reduceLT, Int32.reduceLE, Int32.reduceAdd, Int32.reduceSub, Int32.reduceMul, not_true_eq_false, not_false_eq_true, false_implies, true_implies, D_X11_span, mj_F_aload_n_k, mj_F_getfield_i, mj_F_goto_off, mj_F_iconst_n, mj_F_ifCond_eq_off, mj_F_ifCond_ne_off, mj_F_if_icmp_ne_off, mj_F_iload_k, mj_F_iload_n_k, mj_F_invokestatic_i, mj_F_invokevirtual_i, mj_F_ireturn, mj_kc, FT_X11, L_X11_span, List.take_succ_cons, List.take_zero, List.drop_succ_cons, List.drop_zero, List.reverse_cons, List.reverse_nil, List.length_cons, List.length_nil, gS_C0, gCf11_4, c_isShire_eq, c_isYear_eq, c_in_eq, gS_C20, J_X11_span]
            exact (ok_some hw :)
          · replace hw := ok_t hw c
            refine c_X1_spanned_in (ok_imp (ok_bind hw) ?_)
            intro p hw
            simp only [Option.toList, List.nil_append, List.cons_append, Nat.reduceSub]
            refine mj_run hG.1 (fun pc => pc == 19 || pc == 55) 4000 ?_
            simp only [mj_step, mj_W_s, mj_fin, List.getElem?_cons_zero, List.getElem?_cons_succ, mj_go, Nat.reduceAdd, Nat.reduceSub, Nat.reduceLT, Nat.reduceLeDiff, Nat.zero_add, Nat.reduceEqDiff, Nat.reduceBEq, ↓reduceIte, Bool.false_eq_true, List.append_nil, List.nil_append, List.cons_append, Option.toList, and_true, true_and, true_or, or_true, reduceCtorEq, List.map_nil, bI_eq0, bI_eq1, bool_ft, pk_us, vnar0, vnar1, Bool.or_false, Bool.or_true, Bool.false_or, Bool.true_or, mj_kne, eq_self, Int32.reduceLT, Int32.reduceLE, Int32.reduceAdd, Int32.reduceSub, Int32.reduceMul, not_true_eq_false, not_false_eq_true, false_implies, true_implies, D_X11_span, mj_F_aload_n_k, mj_F_getfield_i, mj_F_goto_off, mj_F_iconst_n, mj_F_ifCond_eq_off, mj_F_ifCond_ne_off, mj_F_if_icmp_ne_off, mj_F_iload_k, mj_F_iload_n_k, mj_F_invokestatic_i, mj_F_invokevirtual_i, mj_F_ireturn, mj_kc, FT_X11, L_X11_span, List.take_succ_cons, List.take_zero, List.drop_succ_cons, List.drop_zero, List.reverse_cons, List.reverse_nil, List.length_cons, List.length_nil, gS_C0, gCf11_4, c_isShire_eq, c_isYear_eq, c_in_eq, gS_C20, J_X11_span]
            exact (ok_some hw :)
        · replace hw := ok_t hw c
          exact (ok_some hw :)

def c_X11_span : mj_S := fun as h k => ∃ (v1 : Int32) (v2 : Int32) (v3 : Int32) (v4 : Int32) (s : St), as = [.ref 0, .int v1, .int v2, .int v3, .int v4] ∧ h = mkCs s ∧ ok (F_X11_span v1 v2 v3 v4 s) (fun p => k (some (.int p)) (mkCs s))
theorem c_X11_span_in {v1 : Int32} {v2 : Int32} {v3 : Int32} {v4 : Int32} {s : St} {k : Option Value → mj_H → Prop} (hw : ok (F_X11_span v1 v2 v3 v4 s) (fun p => k (some (.int p)) (mkCs s))) : c_X11_span [.ref 0, .int v1, .int v2, .int v3, .int v4] (mkCs s) k := ⟨v1, v2, v3, v4, s, rfl, rfl, hw⟩
theorem m_X11_span (l : Launch) : mj_Met l yX11_span cX11_span 5 ((some FieldType.int)) 3 0 0 c_X11_span := by
  refine mj_body2 false (TbX11 5 ((some FieldType.int)) ct_X11_span) (by decide) rfl rfl (fun h => nomatch h) (tfX11 _ (List.forall_mem_cons.mpr ⟨cfX11_96 (m_X11_within l) (by decide), List.forall_mem_cons.mpr ⟨cfX11_131 (m_X11_isShire l) (by decide), List.forall_mem_cons.mpr ⟨cfX11_141 (m_X11_isYear l) (by decide), List.forall_mem_cons.mpr ⟨cfX11_148 (m_X11_isPast l) (by decide), List.forall_mem_cons.mpr ⟨cfX11_340 (m_X1_spanned l) (by decide), fun _ h => nomatch h⟩⟩⟩⟩⟩)) ?_
  rintro as h k ⟨v1, v2, v3, v4, s, rfl, rfl, hw⟩
  exact ⟨rfl, fun G hG => g_X11_span hG hw⟩
def F_X11_strength (v1 : Int32) (v2 : Int32) (s : St) : Option (Int32 × St) :=
  if inb v1 0 4 = false then
    some (0, s)
  else
    if inb v2 1 200 = false then
      some (0, s)
    else
      (wr s 401 5 v1 v2).bind fun s1 =>
      some (1, s1)
theorem J_X11_strength : mj_t 6 14 = 20 ∧ mj_t 17 5 = 22 ∧ (0 ≤ ((6 : Nat) : Int) + 14) = True ∧ (0 ≤ ((17 : Nat) : Int) + 5) = True := by and_intros <;> first | rfl | exact eq_true (by decide)
def ct_X11_strength : List (Nat × mj_Cs) := [(96, 2, 3, 11, 0, 0, c_in)]
theorem L_X11_strength : mj_lk ct_X11_strength 96 = some (2, 3, 11, 0, 0, c_in) := rfl
set_option maxHeartbeats 4000000 in
set_option maxRecDepth 20000 in
theorem g_X11_strength {k : Option Value → mj_H → Prop} {G : mj_K} (hG : mj_cl2 cX11_strength (TbX11 3 ((some FieldType.boolean)) ct_X11_strength) k G) {v1 : Int32} {v2 : Int32} {s : St} (hw : ok (F_X11_strength v1 v2 s) (fun p => k (some (.int p.1)) (mkCs p.2))) : G 0 [.ref 0, .int v1, .int v2] [] (mkCs s) 0 0 := by
  unfold F_X11_strength at hw
  refine mj_run hG.1 (fun _ => false) 4000 ?_
  simp only [mj_step, mj_W_s, mj_fin, List.getElem?_cons_zero, List.getElem?_cons_succ, mj_go, Nat.reduceAdd, Nat.reduceSub, Nat.reduceLT, Nat.reduceLeDiff, Nat.zero_add, Nat.reduceEqDiff, Nat.reduceBEq, ↓reduceIte, Bool.false_eq_true, List.append_nil, List.nil_append, List.cons_append, Option.toList, and_true, true_and, true_or, or_true, reduceCtorEq, List.map_nil, bI_eq0, bI_eq1, bool_ft, pk_us, vnar0, vnar1, Bool.or_false, Bool.or_true, Bool.false_or, Bool.true_or, mj_kne, eq_self, Int32.reduceLT, Int32.reduceLE, Int32.reduceAdd, Int32.reduceSub, Int32.reduceMul, not_true_eq_false, not_false_eq_true, false_implies, true_implies, D_X11_strength, mj_F_aload_n_k, mj_F_getfield_i, mj_F_iastore, mj_F_iconst_n, mj_F_ifCond_eq_off, mj_F_ifCond_ne_off, mj_F_iload_n_k, mj_F_invokestatic_i, mj_F_ireturn, mj_F_sipush_n, mj_kc, FT_X11, L_X11_strength, List.take_succ_cons, List.take_zero, List.drop_succ_cons, List.drop_zero, List.reverse_cons, List.reverse_nil, List.length_cons, List.length_nil, gS_C0, gCf11_9, gS_C73, gCf4_1, gS_C74, sS_Ca_74, c_in_eq, J_X11_strength]
  refine ⟨fun c => ?_, fun c => ?_⟩
  · replace hw := ok_t hw c
    exact (ok_some hw :)
  · replace hw := ok_f hw c
    refine ⟨fun c => ?_, fun c => ?_⟩
    · replace hw := ok_f hw c
      refine ⟨(ok_wr hw).1, ?_⟩
      replace hw := (ok_wr hw).2
      exact (ok_some hw :)
    · replace hw := ok_t hw c
      exact (ok_some hw :)

def c_X11_strength : mj_S := fun as h k => ∃ (v1 : Int32) (v2 : Int32) (s : St), as = [.ref 0, .int v1, .int v2] ∧ h = mkCs s ∧ ok (F_X11_strength v1 v2 s) (fun p => k (some (.int p.1)) (mkCs p.2))
theorem c_X11_strength_in {v1 : Int32} {v2 : Int32} {s : St} {k : Option Value → mj_H → Prop} (hw : ok (F_X11_strength v1 v2 s) (fun p => k (some (.int p.1)) (mkCs p.2))) : c_X11_strength [.ref 0, .int v1, .int v2] (mkCs s) k := ⟨v1, v2, s, rfl, rfl, hw⟩
theorem m_X11_strength (l : Launch) : mj_Met l yX11_strength cX11_strength 3 ((some FieldType.boolean)) 1 0 0 c_X11_strength := by
  refine mj_body2 false (TbX11 3 ((some FieldType.boolean)) ct_X11_strength) (by decide) rfl rfl (fun h => nomatch h) (tfX11 _ (List.forall_mem_cons.mpr ⟨cfX11_96 (m_X11_within l) (by decide), fun _ h => nomatch h⟩)) ?_
  rintro as h k ⟨v1, v2, s, rfl, rfl, hw⟩
  exact ⟨rfl, fun G hG => g_X11_strength hG hw⟩
def F_X4_lay (v1 : Int32) (v2 : Int32) (v3 : Int32) (v4 : Int32) (s : St) : Option (Int32 × St) :=
  if (s.1 408) < 60 then
    (wI s 408 ((s.1 408) + 1)).bind fun s1 =>
    (rd s1 406 8 v3).bind fun x2 =>
    (wr s1 406 8 v3 (x2 + 1)).bind fun s3 =>
    (wr s3 402 20 v1 1).bind fun s4 =>
    (wr s4 403 20 v1 v2).bind fun s5 =>
    (wr s5 404 20 v1 v3).bind fun s6 =>
    (wr s6 405 20 v1 v4).bind fun s7 =>
    some (1, s7)
  else
    some (0, s)
theorem J_X4_lay : mj_t 6 5 = 11 ∧ (0 ≤ ((6 : Nat) : Int) + 5) = True := by and_intros <;> first | rfl | exact eq_true (by decide)
set_option maxHeartbeats 4000000 in
set_option maxRecDepth 20000 in
theorem g_X4_lay {k : Option Value → mj_H → Prop} {G : mj_K} (hG : mj_cl2 cX4_lay (TbX4 5 ((some FieldType.boolean)) []) k G) {v1 : Int32} {v2 : Int32} {v3 : Int32} {v4 : Int32} {s : St} (hw : ok (F_X4_lay v1 v2 v3 v4 s) (fun p => k (some (.int p.1)) (mkCs p.2))) : G 0 [.ref 73, .int v1, .int v2, .int v3, .int v4] [] (mkCs s) 0 0 := by
  unfold F_X4_lay at hw
  refine mj_run hG.1 (fun _ => false) 4000 ?_
  simp only [mj_step, mj_W_s, mj_fin, List.getElem?_cons_zero, List.getElem?_cons_succ, mj_go, Nat.reduceAdd, Nat.reduceSub, Nat.reduceLT, Nat.reduceLeDiff, Nat.zero_add, Nat.reduceEqDiff, Nat.reduceBEq, ↓reduceIte, Bool.false_eq_true, List.append_nil, List.nil_append, List.cons_append, Option.toList, and_true, true_and, true_or, or_true, reduceCtorEq, List.map_nil, bI_eq0, bI_eq1, bool_ft, pk_us, vnar0, vnar1, Bool.or_false, Bool.or_true, Bool.false_or, Bool.true_or, mj_kne, eq_self, Int32.reduceLT, Int32.reduceLE, Int32.reduceAdd, Int32.reduceSub, Int32.reduceMul, not_true_eq_false, not_false_eq_true, false_implies, true_implies, D_X4_lay, mj_F_aload_n_k, mj_F_bastore, mj_F_bipush_n, mj_F_dup, mj_F_dup2, mj_F_getfield_i, mj_F_iadd, mj_F_iaload, mj_F_iastore, mj_F_iconst_n, mj_F_if_icmp_lt_off, mj_F_iload_k, mj_F_iload_n_k, mj_F_ireturn, mj_F_putfield_i, mj_c2, mj_kc, FT_X4, PT_X4, gS_C73, gCf4_8, sS_Cf_4_8, gCf4len, gCf4_6, gS_C79, sS_Ca_79, gCf4_2, gS_C75, sS_Ca_75, gCf4_3, gS_C76, sS_Ca_76, gCf4_4, gS_C77, sS_Ca_77, gCf4_5, gS_C78, sS_Ca_78, J_X4_lay]
  refine ⟨fun c => ?_, fun c => ?_⟩
  · replace hw := ok_t hw c
    replace hw := ok_wI hw
    refine ⟨(ok_rd hw).1, ?_⟩
    replace hw := (ok_rd hw).2
    refine ⟨(ok_wr hw).1, ?_⟩
    replace hw := (ok_wr hw).2
    refine ⟨(ok_wr hw).1, ?_⟩
    replace hw := (ok_wr hw).2
    refine ⟨(ok_wr hw).1, ?_⟩
    replace hw := (ok_wr hw).2
    refine ⟨(ok_wr hw).1, ?_⟩
    replace hw := (ok_wr hw).2
    refine ⟨(ok_wr hw).1, ?_⟩
    replace hw := (ok_wr hw).2
    exact (ok_some hw :)
  · replace hw := ok_f hw c
    exact (ok_some hw :)

def c_X4_lay : mj_S := fun as h k => ∃ (v1 : Int32) (v2 : Int32) (v3 : Int32) (v4 : Int32) (s : St), as = [.ref 73, .int v1, .int v2, .int v3, .int v4] ∧ h = mkCs s ∧ ok (F_X4_lay v1 v2 v3 v4 s) (fun p => k (some (.int p.1)) (mkCs p.2))
theorem c_X4_lay_in {v1 : Int32} {v2 : Int32} {v3 : Int32} {v4 : Int32} {s : St} {k : Option Value → mj_H → Prop} (hw : ok (F_X4_lay v1 v2 v3 v4 s) (fun p => k (some (.int p.1)) (mkCs p.2))) : c_X4_lay [.ref 73, .int v1, .int v2, .int v3, .int v4] (mkCs s) k := ⟨v1, v2, v3, v4, s, rfl, rfl, hw⟩
theorem m_X4_lay (l : Launch) : mj_Met l yX4_lay cX4_lay 5 ((some FieldType.boolean)) 0 0 0 c_X4_lay := by
  refine mj_body2 false (TbX4 5 ((some FieldType.boolean)) []) (by decide) rfl rfl (fun h => nomatch h) (tfX4 _ (fun _ h => nomatch h)) ?_
  rintro as h k ⟨v1, v2, v3, v4, s, rfl, rfl, hw⟩
  exact ⟨rfl, fun G hG => g_X4_lay hG hw⟩
def F_X11_roof (v1 : Int32) (v2 : Int32) (v3 : Int32) (s : St) : Option (Int32 × St) :=
  (F_X11_isSchool v1 s).bind fun r1 =>
  if r1 = 0 then
    some (0, s)
  else
    if inb v2 0 4 = false then
      some (0, s)
    else
      if inb v3 0 ((s.1 1004) - 1) = false then
        some (0, s)
      else
        (F_X4_lay v1 v2 v3 (s.1 1100) s).bind fun r2 =>
        (bz r2.1).bind fun _ =>
        some (r2.1, r2.2)
theorem J_X11_roof : mj_t 5 29 = 34 ∧ mj_t 14 20 = 34 ∧ mj_t 31 5 = 36 ∧ (0 ≤ ((5 : Nat) : Int) + 29) = True ∧ (0 ≤ ((14 : Nat) : Int) + 20) = True ∧ (0 ≤ ((31 : Nat) : Int) + 5) = True := by and_intros <;> first | rfl | exact eq_true (by decide)
def ct_X11_roof : List (Nat × mj_Cs) := [(96, 2, 3, 11, 0, 0, c_in), (165, 0, 2, 11, 0, 0, c_X11_isSchool), (350, 0, 5, 4, 0, 0, c_X4_lay)]
theorem L_X11_roof : mj_lk ct_X11_roof 96 = some (2, 3, 11, 0, 0, c_in) ∧ mj_lk ct_X11_roof 165 = some (0, 2, 11, 0, 0, c_X11_isSchool) ∧ mj_lk ct_X11_roof 350 = some (0, 5, 4, 0, 0, c_X4_lay) := ⟨rfl, rfl, rfl⟩
set_option maxHeartbeats 4000000 in
set_option maxRecDepth 20000 in
theorem g_X11_roof {k : Option Value → mj_H → Prop} {G : mj_K} (hG : mj_cl2 cX11_roof (TbX11 4 ((some FieldType.boolean)) ct_X11_roof) k G) {v1 : Int32} {v2 : Int32} {v3 : Int32} {s : St} (hw : ok (F_X11_roof v1 v2 v3 s) (fun p => k (some (.int p.1)) (mkCs p.2))) : G 0 [.ref 0, .int v1, .int v2, .int v3] [] (mkCs s) 0 0 := by
  unfold F_X11_roof at hw
  refine mj_run hG.1 (fun pc => pc == 5 || pc == 50) 4000 ?_
  simp only [mj_step, mj_W_s, mj_fin, List.getElem?_cons_zero, List.getElem?_cons_succ, mj_go, Nat.reduceAdd, Nat.reduceSub, Nat.reduceLT, Nat.reduceLeDiff, Nat.zero_add, Nat.reduceEqDiff, Nat.reduceBEq, ↓reduceIte, Bool.false_eq_true, List.append_nil, List.nil_append, List.cons_append, Option.toList, and_true, true_and, true_or, or_true, reduceCtorEq, List.map_nil, bI_eq0, bI_eq1, bool_ft, pk_us, vnar0, vnar1, Bool.or_false, Bool.or_true, Bool.false_or, Bool.true_or, mj_kne, eq_self, Int32.reduceLT, Int32.reduceLE, Int32.reduceAdd, Int32.reduceSub, Int32.reduceMul, not_true_eq_false, not_false_eq_true, false_implies, true_implies, D_X11_roof, mj_F_aload_n_k, mj_F_getfield_i, mj_F_iconst_n, mj_F_ifCond_eq_off, mj_F_ifCond_ne_off, mj_F_iload_n_k, mj_F_invokestatic_i, mj_F_invokevirtual_i, mj_F_ireturn, mj_F_isub, mj_kc, FT_X11, L_X11_roof, List.take_succ_cons, List.take_zero, List.drop_succ_cons, List.drop_zero, List.reverse_cons, List.reverse_nil, List.length_cons, List.length_nil, gS_C0, gCf11_6, gS_C45, gCf10_4, gCf11_9, gCf11_0, c_in_eq, gS_C73, J_X11_roof]
  refine c_X11_isSchool_in (ok_imp (ok_bind hw) ?_)
  intro p hw
  simp only [Option.toList, List.nil_append, List.cons_append, Nat.reduceSub]
  refine mj_run hG.1 (fun pc => pc == 5 || pc == 50) 4000 ?_
  simp only [mj_step, mj_W_s, mj_fin, List.getElem?_cons_zero, List.getElem?_cons_succ, mj_go, Nat.reduceAdd, Nat.reduceSub, Nat.reduceLT, Nat.reduceLeDiff, Nat.zero_add, Nat.reduceEqDiff, Nat.reduceBEq, ↓reduceIte, Bool.false_eq_true, List.append_nil, List.nil_append, List.cons_append, Option.toList, and_true, true_and, true_or, or_true, reduceCtorEq, List.map_nil, bI_eq0, bI_eq1, bool_ft, pk_us, vnar0, vnar1, Bool.or_false, Bool.or_true, Bool.false_or, Bool.true_or, mj_kne, eq_self, Int32.reduceLT, Int32.reduceLE, Int32.reduceAdd, Int32.reduceSub, Int32.reduceMul, not_true_eq_false, not_false_eq_true, false_implies, true_implies, D_X11_roof, mj_F_aload_n_k, mj_F_getfield_i, mj_F_iconst_n, mj_F_ifCond_eq_off, mj_F_ifCond_ne_off, mj_F_iload_n_k, mj_F_invokestatic_i, mj_F_invokevirtual_i, mj_F_ireturn, mj_F_isub, mj_kc, FT_X11, L_X11_roof, List.take_succ_cons, List.take_zero, List.drop_succ_cons, List.drop_zero, List.reverse_cons, List.reverse_nil, List.length_cons, List.length_nil, gS_C0, gCf11_6, gS_C45, gCf10_4, gCf11_9, gCf11_0, c_in_eq, gS_C73, J_X11_roof]
  refine ⟨fun c => ?_, fun c => ?_⟩
  · replace hw := ok_t hw c
    exact (ok_some hw :)
  · replace hw := ok_f hw c
    refine ⟨fun c => ?_, fun c => ?_⟩
    · replace hw := ok_t hw c
      exact (ok_some hw :)
    · replace hw := ok_f hw c
      refine ⟨fun c => ?_, fun c => ?_⟩
      · replace hw := ok_f hw c
        refine c_X4_lay_in (ok_imp (ok_bind hw) ?_)
        intro p hw
        simp only [Option.toList, List.nil_append, List.cons_append, Nat.reduceSub]
        refine mj_run hG.1 (fun pc => pc == 5 || pc == 50) 4000 ?_
        simp only [mj_step, mj_W_s, mj_fin, List.getElem?_cons_zero, List.getElem?_cons_succ, mj_go, Nat.reduceAdd, Nat.reduceSub, Nat.reduceLT, Nat.reduceLeDiff, Nat.zero_add, Nat.reduceEqDiff, Nat.reduceBEq, ↓reduceIte, Bool.false_eq_true, List.append_nil, List.nil_append, List.cons_append, Option.toList, and_true, true_and, true_or, or_true, reduceCtorEq, List.map_nil, bI_eq0, bI_eq1, bool_ft, pk_us, vnar0, vnar1, Bool.or_false, Bool.or_true, Bool.false_or, Bool.true_or, mj_kne, eq_self, Int32.reduceLT, Int32.reduceLE, Int32.reduceAdd, Int32.reduceSub, Int32.reduceMul, not_true_eq_false, not_false_eq_true, false_implies, true_implies, D_X11_roof, mj_F_aload_n_k, mj_F_getfield_i, mj_F_iconst_n, mj_F_ifCond_eq_off, mj_F_ifCond_ne_off, mj_F_iload_n_k, mj_F_invokestatic_i, mj_F_invokevirtual_i, mj_F_ireturn, mj_F_isub, mj_kc, FT_X11, L_X11_roof, List.take_succ_cons, List.take_zero, List.drop_succ_cons, List.drop_zero, List.reverse_cons, List.reverse_nil, List.length_cons, List.length_nil, gS_C0, gCf11_6, gS_C45, gCf10_4, gCf11_9, gCf11_0, c_in_eq, gS_C73, J_X11_roof]
        refine ⟨(ok_bz hw).1, ?_⟩
        replace hw := (ok_bz hw).2
        exact (ok_some hw :)
      · replace hw := ok_t hw c
        exact (ok_some hw :)

def c_X11_roof : mj_S := fun as h k => ∃ (v1 : Int32) (v2 : Int32) (v3 : Int32) (s : St), as = [.ref 0, .int v1, .int v2, .int v3] ∧ h = mkCs s ∧ ok (F_X11_roof v1 v2 v3 s) (fun p => k (some (.int p.1)) (mkCs p.2))
theorem c_X11_roof_in {v1 : Int32} {v2 : Int32} {v3 : Int32} {s : St} {k : Option Value → mj_H → Prop} (hw : ok (F_X11_roof v1 v2 v3 s) (fun p => k (some (.int p.1)) (mkCs p.2))) : c_X11_roof [.ref 0, .int v1, .int v2, .int v3] (mkCs s) k := ⟨v1, v2, v3, s, rfl, rfl, hw⟩
theorem m_X11_roof (l : Launch) : mj_Met l yX11_roof cX11_roof 4 ((some FieldType.boolean)) 2 0 0 c_X11_roof := by
  refine mj_body2 false (TbX11 4 ((some FieldType.boolean)) ct_X11_roof) (by decide) rfl rfl (fun h => nomatch h) (tfX11 _ (List.forall_mem_cons.mpr ⟨cfX11_96 (m_X11_within l) (by decide), List.forall_mem_cons.mpr ⟨cfX11_165 (m_X11_isSchool l) (by decide), List.forall_mem_cons.mpr ⟨cfX11_350 (m_X4_lay l) (by decide), fun _ h => nomatch h⟩⟩⟩)) ?_
  rintro as h k ⟨v1, v2, v3, s, rfl, rfl, hw⟩
  exact ⟨rfl, fun G hG => g_X11_roof hG hw⟩
def F_X4_strengthOf (v1 : Int32) (v2 : Int32) (s : St) : Option (Int32) :=
  (rd s 403 20 v1).bind fun x1 =>
  (rd s 401 5 x1).bind fun x2 =>
  (rd s 405 20 v1).bind fun x3 =>
  some (x2 - ((v2 - x3) / 26))
set_option maxHeartbeats 4000000 in
set_option maxRecDepth 20000 in
theorem g_X4_strengthOf {k : Option Value → mj_H → Prop} {G : mj_K} (hG : mj_cl2 cX4_strengthOf (TbX4 3 ((some FieldType.int)) []) k G) {v1 : Int32} {v2 : Int32} {s : St} (hw : ok (F_X4_strengthOf v1 v2 s) (fun p => k (some (.int p)) (mkCs s))) : G 0 [.ref 73, .int v1, .int v2] [] (mkCs s) 0 0 := by
  unfold F_X4_strengthOf at hw
  refine mj_run hG.1 (fun _ => false) 4000 ?_
  simp only [mj_step, mj_W_s, mj_fin, List.getElem?_cons_zero, List.getElem?_cons_succ, mj_go, Nat.reduceAdd, Nat.reduceSub, Nat.reduceLT, Nat.reduceLeDiff, Nat.zero_add, Nat.reduceEqDiff, Nat.reduceBEq, ↓reduceIte, Bool.false_eq_true, List.append_nil, List.nil_append, List.cons_append, Option.toList, and_true, true_and, true_or, or_true, reduceCtorEq, List.map_nil, bI_eq0, bI_eq1, bool_ft, pk_us, vnar0, vnar1, Bool.or_false, Bool.or_true, Bool.false_or, Bool.true_or, mj_kne, eq_self, Int32.reduceLT, Int32.reduceLE, Int32.reduceAdd, Int32.reduceSub, Int32.reduceMul, not_true_eq_false, not_false_eq_true, false_implies, true_implies, D_X4_strengthOf, mj_F_aload_n_k, mj_F_bipush_n, mj_F_getfield_i, mj_F_iaload, mj_F_idiv, mj_F_iload_n_k, mj_F_ireturn, mj_F_isub, mj_kc, FT_X4, gS_C73, gCf4_1, gS_C74, sS_Ca_74, gCf4_3, gS_C76, sS_Ca_76, gCf4_5, gS_C78, sS_Ca_78]
  refine ⟨(ok_rd hw).1, ?_⟩
  replace hw := (ok_rd hw).2
  refine ⟨(ok_rd hw).1, ?_⟩
  replace hw := (ok_rd hw).2
  refine ⟨(ok_rd hw).1, ?_⟩
  replace hw := (ok_rd hw).2
  exact (ok_some hw :)

def c_X4_strengthOf : mj_S := fun as h k => ∃ (v1 : Int32) (v2 : Int32) (s : St), as = [.ref 73, .int v1, .int v2] ∧ h = mkCs s ∧ ok (F_X4_strengthOf v1 v2 s) (fun p => k (some (.int p)) (mkCs s))
theorem c_X4_strengthOf_in {v1 : Int32} {v2 : Int32} {s : St} {k : Option Value → mj_H → Prop} (hw : ok (F_X4_strengthOf v1 v2 s) (fun p => k (some (.int p)) (mkCs s))) : c_X4_strengthOf [.ref 73, .int v1, .int v2] (mkCs s) k := ⟨v1, v2, s, rfl, rfl, hw⟩
theorem m_X4_strengthOf (l : Launch) : mj_Met l yX4_strengthOf cX4_strengthOf 3 ((some FieldType.int)) 0 0 0 c_X4_strengthOf := by
  refine mj_body2 false (TbX4 3 ((some FieldType.int)) []) (by decide) rfl rfl (fun h => nomatch h) (tfX4 _ (fun _ h => nomatch h)) ?_
  rintro as h k ⟨v1, v2, s, rfl, rfl, hw⟩
  exact ⟨rfl, fun G hG => g_X4_strengthOf hG hw⟩
def B_X4_blow_27 (v1 : Int32) (v2 : Int32) (v3 : Int32) : Int32 × Int32 × St → Option ((Int32 × Int32 × St) ⊕ ((Int32 × St)))
  | (v4, v5, s) =>
  if (s.1 501) ≤ v5 then
    some (.inr (v4, s))
  else
    (rd s 402 20 v5).bind fun x2 =>
    if x2 = 0 then
      some (.inl (v4, (v5 + 1), s))
    else
      (rd s 503 20 v5).bind fun x3 =>
      if x3 = v1 then
        (F_X4_strengthOf v5 v3 s).bind fun r4 =>
        if v2 ≤ r4 then
          some (.inl (v4, (v5 + 1), s))
        else
          (wr s 402 20 v5 0).bind fun s5 =>
          (rd s5 404 20 v5).bind fun x6 =>
          (rd s5 407 8 x6).bind fun x7 =>
          (wr s5 407 8 x6 (x7 + 1)).bind fun s8 =>
          some (.inl ((v4 + 1), (v5 + 1), s8))
      else
        some (.inl (v4, (v5 + 1), s))
def F_X4_blow_107 (v4 : Int32) (s : St) : Option (Int32 × St) :=
  some (v4, s)
def F_X4_blow_27 (v1 : Int32) (v2 : Int32) (v3 : Int32) (v4 : Int32) (v5 : Int32) (s : St) : Option (Int32 × St) :=
  (lp (B_X4_blow_27 v1 v2 v3) FU (v4, v5, s)).bind (fun y => F_X4_blow_107 y.1 y.2)
def F_X4_blow (v1 : Int32) (v2 : Int32) (v3 : Int32) (s : St) : Option (Int32 × St) :=
  if (s.1 409) < 60 then
    (wI s 409 ((s.1 409) + 1)).bind fun s1 =>
    F_X4_blow_27 v1 v2 v3 0 0 s1
  else
    some ((-1), s)
theorem J_X4_blow : mj_t 6 5 = 11 ∧ mj_t 36 71 = 107 ∧ mj_t 46 55 = 101 ∧ mj_t 60 41 = 101 ∧ mj_t 71 30 = 101 ∧ mj_t 104 (-77) = 27 ∧ (0 ≤ ((6 : Nat) : Int) + 5) = True ∧ (0 ≤ ((36 : Nat) : Int) + 71) = True ∧ (0 ≤ ((46 : Nat) : Int) + 55) = True ∧ (0 ≤ ((60 : Nat) : Int) + 41) = True ∧ (0 ≤ ((71 : Nat) : Int) + 30) = True ∧ (0 ≤ ((104 : Nat) : Int) + (-77)) = True := by and_intros <;> first | rfl | exact eq_true (by decide)
def ct_X4_blow : List (Nat × mj_Cs) := [(59, 0, 3, 4, 0, 0, c_X4_strengthOf)]
theorem L_X4_blow : mj_lk ct_X4_blow 59 = some (0, 3, 4, 0, 0, c_X4_strengthOf) := rfl
set_option maxHeartbeats 4000000 in
set_option maxRecDepth 20000 in
theorem b_X4_blow_27 {k : Option Value → mj_H → Prop} {G : mj_K} (hG : mj_cl2 cX4_blow (TbX4 6 ((some FieldType.int)) ct_X4_blow) k G) {v1 : Int32} {v2 : Int32} {v3 : Int32} {P : Int32 × Int32 × St → Prop} {K : (Int32 × St) → Prop} (hP : ∀ x, P x → G 27 [.ref 73, .int v1, .int v2, .int v3, .int x.1, .int x.2.1] [] (mkCs x.2.2) 0 0) (hK0 : ∀ y, K y → G 107 [mj_unk, mj_unk, mj_unk, mj_unk, .int y.1] [] (mkCs y.2) 0 0) {v4 : Int32} {v5 : Int32} {s : St} (hw : ok (B_X4_blow_27 v1 v2 v3 (v4, v5, s)) (Sum.elim P K)) : G 27 [.ref 73, .int v1, .int v2, .int v3, .int v4, .int v5] [] (mkCs s) 0 0 := by
  unfold B_X4_blow_27 at hw
  refine mj_run hG.1 (fun pc => pc == 27 || pc == 70 || pc == 107) 4000 ?_
  simp only [mj_step, mj_W_s, mj_fin, List.getElem?_cons_zero, List.getElem?_cons_succ, mj_go, Nat.reduceAdd, Nat.reduceSub, Nat.reduceLT, Nat.reduceLeDiff, Nat.zero_add, Nat.reduceEqDiff, Nat.reduceBEq, ↓reduceIte, Bool.false_eq_true, List.append_nil, List.nil_append, List.cons_append, Option.toList, and_true, true_and, true_or, or_true, reduceCtorEq, List.map_nil, bI_eq0, bI_eq1, bool_ft, pk_us, vnar0, vnar1, Bool.or_false, Bool.or_true, Bool.false_or, Bool.true_or, mj_kne, eq_self, Int32.reduceLT, Int32.reduceLE, Int32.reduceAdd, Int32.reduceSub, Int32.reduceMul, not_true_eq_false, not_false_eq_true, false_implies, true_implies, D_X4_blow_0, D_X4_blow_1, mj_F_aload_n_k, mj_F_baload, mj_F_bastore, mj_F_bipush_n, mj_F_dup, mj_F_dup2, mj_F_getfield_i, mj_F_goto_off, mj_F_iadd, mj_F_iaload, mj_F_iastore, mj_F_iconst_n, mj_F_ifCond_eq_off, mj_F_if_icmp_ge_off, mj_F_if_icmp_lt_off, mj_F_if_icmp_ne_off, mj_F_iinc_k_n, mj_F_iload_k, mj_F_iload_n_k, mj_F_invokevirtual_i, mj_F_ireturn, mj_F_istore_k, mj_F_putfield_i, mj_set, mj_set0, mj_unk, mj_c2, mj_kc, FT_X4, PT_X4, L_X4_blow, List.take_succ_cons, List.take_zero, List.drop_succ_cons, List.drop_zero, List.reverse_cons, List.reverse_nil, List.length_cons, List.length_nil, gS_C73, gCf4_9, sS_Cf_4_9, gCf4len, gCf4_0, gS_C35, gCf5_1, gCf4_2, gS_C75, sS_Ca_75, gCf5_3, gS_C37, sS_Ca_37, gCf4_7, gS_C80, sS_Ca_80, gCf4_4, gS_C77, sS_Ca_77, J_X4_blow]
  refine ⟨fun c => ?_, fun c => ?_⟩
  · replace hw := ok_t hw c
    exact hG.2 _ _ _ _ _ _ _ _ _ (by refine ⟨Or.inl rfl, ?_⟩; refine ⟨Or.inl rfl, ?_⟩; refine ⟨Or.inl rfl, ?_⟩; refine ⟨Or.inl rfl, ?_⟩; refine ⟨Or.inr rfl, ?_⟩; exact trivial) (Nat.zero_le _) (Nat.zero_le _) (hK0 _ (ok_some hw :) :)
  · replace hw := ok_f hw c
    refine ⟨(ok_rd hw).1, ?_⟩
    replace hw := (ok_rd hw).2
    refine ⟨fun c => ?_, fun c => ?_⟩
    · replace hw := ok_t hw c
      exact hG.2 _ _ _ _ _ _ _ _ _ (by refine ⟨Or.inr rfl, ?_⟩; refine ⟨Or.inr rfl, ?_⟩; refine ⟨Or.inr rfl, ?_⟩; refine ⟨Or.inr rfl, ?_⟩; refine ⟨Or.inr rfl, ?_⟩; refine ⟨Or.inr rfl, ?_⟩; exact trivial) (Nat.zero_le _) (Nat.zero_le _) (hP _ (ok_some hw :) :)
    · replace hw := ok_f hw c
      refine ⟨(ok_rd hw).1, ?_⟩
      replace hw := (ok_rd hw).2
      refine ⟨fun c => ?_, fun c => ?_⟩
      · replace hw := ok_f hw c
        exact hG.2 _ _ _ _ _ _ _ _ _ (by refine ⟨Or.inr rfl, ?_⟩; refine ⟨Or.inr rfl, ?_⟩; refine ⟨Or.inr rfl, ?_⟩; refine ⟨Or.inr rfl, ?_⟩; refine ⟨Or.inr rfl, ?_⟩; refine ⟨Or.inr rfl, ?_⟩; exact trivial) (Nat.zero_le _) (Nat.zero_le _) (hP _ (ok_some hw :) :)
      · replace hw := ok_t hw c
        refine c_X4_strengthOf_in (ok_imp (ok_bind hw) ?_)
        intro p hw
        simp only [Option.toList, List.nil_append, List.cons_append, Nat.reduceSub]
        refine mj_run hG.1 (fun pc => pc == 27 || pc == 70 || pc == 107) 4000 ?_
        simp only [mj_step, mj_W_s, mj_fin, List.getElem?_cons_zero, List.getElem?_cons_succ, mj_go, Nat.reduceAdd, Nat.reduceSub, Nat.reduceLT, Nat.reduceLeDiff, Nat.zero_add, Nat.reduceEqDiff, Nat.reduceBEq, ↓reduceIte, Bool.false_eq_true, List.append_nil, List.nil_append, List.cons_append, Option.toList, and_true, true_and, true_or, or_true, reduceCtorEq, List.map_nil, bI_eq0, bI_eq1, bool_ft, pk_us, vnar0, vnar1, Bool.or_false, Bool.or_true, Bool.false_or, Bool.true_or, mj_kne, eq_self, Int32.reduceLT, Int32.reduceLE, Int32.reduceAdd, Int32.reduceSub, Int32.reduceMul, not_true_eq_false, not_false_eq_true, false_implies, true_implies, D_X4_blow_0, D_X4_blow_1, mj_F_aload_n_k, mj_F_baload, mj_F_bastore, mj_F_bipush_n, mj_F_dup, mj_F_dup2, mj_F_getfield_i, mj_F_goto_off, mj_F_iadd, mj_F_iaload, mj_F_iastore, mj_F_iconst_n, mj_F_ifCond_eq_off, mj_F_if_icmp_ge_off, mj_F_if_icmp_lt_off, mj_F_if_icmp_ne_off, mj_F_iinc_k_n, mj_F_iload_k, mj_F_iload_n_k, mj_F_invokevirtual_i, mj_F_ireturn, mj_F_istore_k, mj_F_putfield_i, mj_set, mj_set0, mj_unk, mj_c2, mj_kc, FT_X4, PT_X4, L_X4_blow, List.take_succ_cons, List.take_zero, List.drop_succ_cons, List.drop_zero, List.reverse_cons, List.reverse_nil, List.length_cons, List.length_nil, gS_C73, gCf4_9, sS_Cf_4_9, gCf4len, gCf4_0, gS_C35, gCf5_1, gCf4_2, gS_C75, sS_Ca_75, gCf5_3, gS_C37, sS_Ca_37, gCf4_7, gS_C80, sS_Ca_80, gCf4_4, gS_C77, sS_Ca_77, J_X4_blow]
        refine ⟨fun c => ?_, fun c => ?_⟩
        · replace hw := ok_t hw c
          exact hG.2 _ _ _ _ _ _ _ _ _ (by refine ⟨Or.inr rfl, ?_⟩; refine ⟨Or.inr rfl, ?_⟩; refine ⟨Or.inr rfl, ?_⟩; refine ⟨Or.inr rfl, ?_⟩; refine ⟨Or.inr rfl, ?_⟩; refine ⟨Or.inr rfl, ?_⟩; exact trivial) (Nat.zero_le _) (Nat.zero_le _) (hP _ (ok_some hw :) :)
        · replace hw := ok_f hw c
          refine ⟨(ok_wr hw).1, ?_⟩
          replace hw := (ok_wr hw).2
          refine ⟨(ok_rd hw).1, ?_⟩
          replace hw := (ok_rd hw).2
          refine ⟨(ok_rd hw).1, ?_⟩
          replace hw := (ok_rd hw).2
          refine ⟨(ok_wr hw).1, ?_⟩
          replace hw := (ok_wr hw).2
          exact hG.2 _ _ _ _ _ _ _ _ _ (by refine ⟨Or.inr rfl, ?_⟩; refine ⟨Or.inr rfl, ?_⟩; refine ⟨Or.inr rfl, ?_⟩; refine ⟨Or.inr rfl, ?_⟩; refine ⟨Or.inr rfl, ?_⟩; refine ⟨Or.inr rfl, ?_⟩; exact trivial) (Nat.zero_le _) (Nat.zero_le _) (hP _ (ok_some hw :) :)

set_option maxHeartbeats 4000000 in
set_option maxRecDepth 20000 in
theorem g_X4_blow_107 {k : Option Value → mj_H → Prop} {G : mj_K} (hG : mj_cl2 cX4_blow (TbX4 6 ((some FieldType.int)) ct_X4_blow) k G)   {v4 : Int32} {s : St} (hw : ok (F_X4_blow_107 v4 s) (fun p => k (some (.int p.1)) (mkCs p.2))) : G 107 [mj_unk, mj_unk, mj_unk, mj_unk, .int v4] [] (mkCs s) 0 0 := by
  unfold F_X4_blow_107 at hw
  refine mj_run hG.1 (fun pc => pc == 27 || pc == 70 || pc == 107) 4000 ?_
  simp only [mj_step, mj_W_s, mj_fin, List.getElem?_cons_zero, List.getElem?_cons_succ, mj_go, Nat.reduceAdd, Nat.reduceSub, Nat.reduceLT, Nat.reduceLeDiff, Nat.zero_add, Nat.reduceEqDiff, Nat.reduceBEq, ↓reduceIte, Bool.false_eq_true, List.append_nil, List.nil_append, List.cons_append, Option.toList, and_true, true_and, true_or, or_true, reduceCtorEq, List.map_nil, bI_eq0, bI_eq1, bool_ft, pk_us, vnar0, vnar1, Bool.or_false, Bool.or_true, Bool.false_or, Bool.true_or, mj_kne, eq_self, Int32.reduceLT, Int32.reduceLE, Int32.reduceAdd, Int32.reduceSub, Int32.reduceMul, not_true_eq_false, not_false_eq_true, false_implies, true_implies, D_X4_blow_0, D_X4_blow_1, mj_F_aload_n_k, mj_F_baload, mj_F_bastore, mj_F_bipush_n, mj_F_dup, mj_F_dup2, mj_F_getfield_i, mj_F_goto_off, mj_F_iadd, mj_F_iaload, mj_F_iastore, mj_F_iconst_n, mj_F_ifCond_eq_off, mj_F_if_icmp_ge_off, mj_F_if_icmp_lt_off, mj_F_if_icmp_ne_off, mj_F_iinc_k_n, mj_F_iload_k, mj_F_iload_n_k, mj_F_invokevirtual_i, mj_F_ireturn, mj_F_istore_k, mj_F_putfield_i, mj_set, mj_set0, mj_unk, mj_c2, mj_kc, FT_X4, PT_X4, L_X4_blow, List.take_succ_cons, List.take_zero, List.drop_succ_cons, List.drop_zero, List.reverse_cons, List.reverse_nil, List.length_cons, List.length_nil, gS_C73, gCf4_9, sS_Cf_4_9, gCf4len, gCf4_0, gS_C35, gCf5_1, gCf4_2, gS_C75, sS_Ca_75, gCf5_3, gS_C37, sS_Ca_37, gCf4_7, gS_C80, sS_Ca_80, gCf4_4, gS_C77, sS_Ca_77, J_X4_blow]
  exact (ok_some hw :)

set_option maxHeartbeats 4000000 in
theorem g_X4_blow_27 {k : Option Value → mj_H → Prop} {G : mj_K} (hG : mj_cl2 cX4_blow (TbX4 6 ((some FieldType.int)) ct_X4_blow) k G)   {v1 : Int32} {v2 : Int32} {v3 : Int32} {v4 : Int32} {v5 : Int32} {s : St} (hw : ok (F_X4_blow_27 v1 v2 v3 v4 v5 s) (fun p => k (some (.int p.1)) (mkCs p.2))) : G 27 [.ref 73, .int v1, .int v2, .int v3, .int v4, .int v5] [] (mkCs s) 0 0 := by
  unfold F_X4_blow_27 at hw
  refine lp_ok (B_X4_blow_27 v1 v2 v3) (fun x => G 27 [.ref 73, .int v1, .int v2, .int v3, .int x.1, .int x.2.1] [] (mkCs x.2.2) 0 0) _ ?_ _ _ (ok_bind hw)
  rintro ⟨v4, v5, s⟩ hb
  exact b_X4_blow_27 hG (fun _ z => z) (fun y hw => by exact hG.2 _ _ _ _ _ _ _ _ _ (by refine ⟨Or.inl rfl, ?_⟩; refine ⟨Or.inl rfl, ?_⟩; refine ⟨Or.inl rfl, ?_⟩; refine ⟨Or.inl rfl, ?_⟩; refine ⟨Or.inr rfl, ?_⟩; exact trivial) (Nat.zero_le _) (Nat.zero_le _) (g_X4_blow_107 hG  hw :)) hb

set_option maxHeartbeats 4000000 in
set_option maxRecDepth 20000 in
theorem g_X4_blow {k : Option Value → mj_H → Prop} {G : mj_K} (hG : mj_cl2 cX4_blow (TbX4 6 ((some FieldType.int)) ct_X4_blow) k G) {v1 : Int32} {v2 : Int32} {v3 : Int32} {s : St} (hw : ok (F_X4_blow v1 v2 v3 s) (fun p => k (some (.int p.1)) (mkCs p.2))) : G 0 [.ref 73, .int v1, .int v2, .int v3] [] (mkCs s) 0 0 := by
  unfold F_X4_blow at hw
  refine mj_run hG.1 (fun pc => pc == 27 || pc == 70 || pc == 107) 4000 ?_
  simp only [mj_step, mj_W_s, mj_fin, List.getElem?_cons_zero, List.getElem?_cons_succ, mj_go, Nat.reduceAdd, Nat.reduceSub, Nat.reduceLT, Nat.reduceLeDiff, Nat.zero_add, Nat.reduceEqDiff, Nat.reduceBEq, ↓reduceIte, Bool.false_eq_true, List.append_nil, List.nil_append, List.cons_append, Option.toList, and_true, true_and, true_or, or_true, reduceCtorEq, List.map_nil, bI_eq0, bI_eq1, bool_ft, pk_us, vnar0, vnar1, Bool.or_false, Bool.or_true, Bool.false_or, Bool.true_or, mj_kne, eq_self, Int32.reduceLT, Int32.reduceLE, Int32.reduceAdd, Int32.reduceSub, Int32.reduceMul, not_true_eq_false, not_false_eq_true, false_implies, true_implies, D_X4_blow_0, D_X4_blow_1, mj_F_aload_n_k, mj_F_baload, mj_F_bastore, mj_F_bipush_n, mj_F_dup, mj_F_dup2, mj_F_getfield_i, mj_F_goto_off, mj_F_iadd, mj_F_iaload, mj_F_iastore, mj_F_iconst_n, mj_F_ifCond_eq_off, mj_F_if_icmp_ge_off, mj_F_if_icmp_lt_off, mj_F_if_icmp_ne_off, mj_F_iinc_k_n, mj_F_iload_k, mj_F_iload_n_k, mj_F_invokevirtual_i, mj_F_ireturn, mj_F_istore_k, mj_F_putfield_i, mj_set, mj_set0, mj_unk, mj_c2, mj_kc, FT_X4, PT_X4, L_X4_blow, List.take_succ_cons, List.take_zero, List.drop_succ_cons, List.drop_zero, List.reverse_cons, List.reverse_nil, List.length_cons, List.length_nil, gS_C73, gCf4_9, sS_Cf_4_9, gCf4len, gCf4_0, gS_C35, gCf5_1, gCf4_2, gS_C75, sS_Ca_75, gCf5_3, gS_C37, sS_Ca_37, gCf4_7, gS_C80, sS_Ca_80, gCf4_4, gS_C77, sS_Ca_77, J_X4_blow]
  refine ⟨fun c => ?_, fun c => ?_⟩
  · replace hw := ok_t hw c
    replace hw := ok_wI hw
    exact hG.2 _ _ _ _ _ _ _ _ _ (by refine ⟨Or.inr rfl, ?_⟩; refine ⟨Or.inr rfl, ?_⟩; refine ⟨Or.inr rfl, ?_⟩; refine ⟨Or.inr rfl, ?_⟩; refine ⟨Or.inr rfl, ?_⟩; refine ⟨Or.inr rfl, ?_⟩; exact trivial) (Nat.zero_le _) (Nat.zero_le _) (g_X4_blow_27 hG  hw :)
  · replace hw := ok_f hw c
    exact (ok_some hw :)

def c_X4_blow : mj_S := fun as h k => ∃ (v1 : Int32) (v2 : Int32) (v3 : Int32) (s : St), as = [.ref 73, .int v1, .int v2, .int v3] ∧ h = mkCs s ∧ ok (F_X4_blow v1 v2 v3 s) (fun p => k (some (.int p.1)) (mkCs p.2))
theorem c_X4_blow_in {v1 : Int32} {v2 : Int32} {v3 : Int32} {s : St} {k : Option Value → mj_H → Prop} (hw : ok (F_X4_blow v1 v2 v3 s) (fun p => k (some (.int p.1)) (mkCs p.2))) : c_X4_blow [.ref 73, .int v1, .int v2, .int v3] (mkCs s) k := ⟨v1, v2, v3, s, rfl, rfl, hw⟩
theorem m_X4_blow (l : Launch) : mj_Met l yX4_blow cX4_blow 6 ((some FieldType.int)) 1 0 0 c_X4_blow := by
  refine mj_body2 false (TbX4 6 ((some FieldType.int)) ct_X4_blow) (by decide) rfl rfl (fun h => nomatch h) (tfX4 _ (List.forall_mem_cons.mpr ⟨cfX4_59 (m_X4_strengthOf l) (by decide), fun _ h => nomatch h⟩)) ?_
  rintro as h k ⟨v1, v2, v3, s, rfl, rfl, hw⟩
  exact ⟨rfl, fun G hG => g_X4_blow hG hw⟩
def F_X11_wind (v1 : Int32) (v2 : Int32) (s : St) : Option (Int32 × St) :=
  if inb v1 0 3 = false then
    some ((-1), s)
  else
    if inb v2 1 300 = false then
      some ((-1), s)
    else
      (F_X4_blow v1 v2 (s.1 1100) s).bind fun r1 =>
      some (r1.1, r1.2)
theorem J_X11_wind : mj_t 4 14 = 18 ∧ mj_t 15 5 = 20 ∧ (0 ≤ ((4 : Nat) : Int) + 14) = True ∧ (0 ≤ ((15 : Nat) : Int) + 5) = True := by and_intros <;> first | rfl | exact eq_true (by decide)
def ct_X11_wind : List (Nat × mj_Cs) := [(96, 2, 3, 11, 0, 0, c_in), (131, 2, 1, 11, 0, 0, c_isShire), (353, 0, 4, 4, 0, 0, c_X4_blow)]
theorem L_X11_wind : mj_lk ct_X11_wind 96 = some (2, 3, 11, 0, 0, c_in) ∧ mj_lk ct_X11_wind 131 = some (2, 1, 11, 0, 0, c_isShire) ∧ mj_lk ct_X11_wind 353 = some (0, 4, 4, 0, 0, c_X4_blow) := ⟨rfl, rfl, rfl⟩
set_option maxHeartbeats 4000000 in
set_option maxRecDepth 20000 in
theorem g_X11_wind {k : Option Value → mj_H → Prop} {G : mj_K} (hG : mj_cl2 cX11_wind (TbX11 3 ((some FieldType.int)) ct_X11_wind) k G) {v1 : Int32} {v2 : Int32} {s : St} (hw : ok (F_X11_wind v1 v2 s) (fun p => k (some (.int p.1)) (mkCs p.2))) : G 0 [.ref 0, .int v1, .int v2] [] (mkCs s) 0 0 := by
  unfold F_X11_wind at hw
  refine mj_run hG.1 (fun pc => pc == 33) 4000 ?_
  simp only [mj_step, mj_W_s, mj_fin, List.getElem?_cons_zero, List.getElem?_cons_succ, mj_go, Nat.reduceAdd, Nat.reduceSub, Nat.reduceLT, Nat.reduceLeDiff, Nat.zero_add, Nat.reduceEqDiff, Nat.reduceBEq, ↓reduceIte, Bool.false_eq_true, List.append_nil, List.nil_append, List.cons_append, Option.toList, and_true, true_and, true_or, or_true, reduceCtorEq, List.map_nil, bI_eq0, bI_eq1, bool_ft, pk_us, vnar0, vnar1, Bool.or_false, Bool.or_true, Bool.false_or, Bool.true_or, mj_kne, eq_self, Int32.reduceLT, Int32.reduceLE, Int32.reduceAdd, Int32.reduceSub, Int32.reduceMul, not_true_eq_false, not_false_eq_true, false_implies, true_implies, D_X11_wind, mj_F_aload_n_k, mj_F_getfield_i, mj_F_iconst_n, mj_F_ifCond_eq_off, mj_F_ifCond_ne_off, mj_F_iload_n_k, mj_F_invokestatic_i, mj_F_invokevirtual_i, mj_F_ireturn, mj_F_sipush_n, mj_kc, FT_X11, L_X11_wind, List.take_succ_cons, List.take_zero, List.drop_succ_cons, List.drop_zero, List.reverse_cons, List.reverse_nil, List.length_cons, List.length_nil, gS_C0, gCf11_9, gCf11_0, c_isShire_eq, c_in_eq, gS_C73, J_X11_wind]
  refine ⟨fun c => ?_, fun c => ?_⟩
  · replace hw := ok_t hw c
    exact (ok_some hw :)
  · replace hw := ok_f hw c
    refine ⟨fun c => ?_, fun c => ?_⟩
    · replace hw := ok_f hw c
      refine c_X4_blow_in (ok_imp (ok_bind hw) ?_)
      intro p hw
      simp only [Option.toList, List.nil_append, List.cons_append, Nat.reduceSub]
      refine mj_run hG.1 (fun pc => pc == 33) 4000 ?_
      simp only [mj_step, mj_W_s, mj_fin, List.getElem?_cons_zero, List.getElem?_cons_succ, mj_go, Nat.reduceAdd, Nat.reduceSub, Nat.reduceLT, Nat.reduceLeDiff, Nat.zero_add, Nat.reduceEqDiff, Nat.reduceBEq, ↓reduceIte, Bool.false_eq_true, List.append_nil, List.nil_append, List.cons_append, Option.toList, and_true, true_and, true_or, or_true, reduceCtorEq, List.map_nil, bI_eq0, bI_eq1, bool_ft, pk_us, vnar0, vnar1, Bool.or_false, Bool.or_true, Bool.false_or, Bool.true_or, mj_kne, eq_self, Int32.reduceLT, Int32.reduceLE, Int32.reduceAdd, Int32.reduceSub, Int32.reduceMul, not_true_eq_false, not_false_eq_true, false_implies, true_implies, D_X11_wind, mj_F_aload_n_k, mj_F_getfield_i, mj_F_iconst_n, mj_F_ifCond_eq_off, mj_F_ifCond_ne_off, mj_F_iload_n_k, mj_F_invokestatic_i, mj_F_invokevirtual_i, mj_F_ireturn, mj_F_sipush_n, mj_kc, FT_X11, L_X11_wind, List.take_succ_cons, List.take_zero, List.drop_succ_cons, List.drop_zero, List.reverse_cons, List.reverse_nil, List.length_cons, List.length_nil, gS_C0, gCf11_9, gCf11_0, c_isShire_eq, c_in_eq, gS_C73, J_X11_wind]
      exact (ok_some hw :)
    · replace hw := ok_t hw c
      exact (ok_some hw :)

def c_X11_wind : mj_S := fun as h k => ∃ (v1 : Int32) (v2 : Int32) (s : St), as = [.ref 0, .int v1, .int v2] ∧ h = mkCs s ∧ ok (F_X11_wind v1 v2 s) (fun p => k (some (.int p.1)) (mkCs p.2))
theorem c_X11_wind_in {v1 : Int32} {v2 : Int32} {s : St} {k : Option Value → mj_H → Prop} (hw : ok (F_X11_wind v1 v2 s) (fun p => k (some (.int p.1)) (mkCs p.2))) : c_X11_wind [.ref 0, .int v1, .int v2] (mkCs s) k := ⟨v1, v2, s, rfl, rfl, hw⟩
theorem m_X11_wind (l : Launch) : mj_Met l yX11_wind cX11_wind 3 ((some FieldType.int)) 2 0 0 c_X11_wind := by
  refine mj_body2 false (TbX11 3 ((some FieldType.int)) ct_X11_wind) (by decide) rfl rfl (fun h => nomatch h) (tfX11 _ (List.forall_mem_cons.mpr ⟨cfX11_96 (m_X11_within l) (by decide), List.forall_mem_cons.mpr ⟨cfX11_131 (m_X11_isShire l) (by decide), List.forall_mem_cons.mpr ⟨cfX11_353 (m_X4_blow l) (by decide), fun _ h => nomatch h⟩⟩⟩)) ?_
  rintro as h k ⟨v1, v2, s, rfl, rfl, hw⟩
  exact ⟨rfl, fun G hG => g_X11_wind hG hw⟩
