/-! functional pictures, and that the bytecode keeps them (m1) -/
def B_X12_law_37 (v1 : Int32) (v2 : Int32) : Int32 × St → Option ((Int32 × St) ⊕ ((St)))
  | (v3, s) =>
  if (s.1 1239) ≤ v3 then
    some (.inr s)
  else
    (rd s 1229 420 v3).bind fun x2 =>
    (wr s 1230 8400 ((420 * (s.1 1240)) + v3) x2).bind fun s3 =>
    some (.inl ((v3 + 1), s3))
def F_X12_law_72 (v1 : Int32) (v2 : Int32) (s : St) : Option (Int32 × St) :=
  (wr s 1231 20 (s.1 1240) (s.1 1239)).bind fun s4 =>
  (wr s4 1232 20 (s4.1 1240) v1).bind fun s5 =>
  (wr s5 1233 20 (s5.1 1240) v2).bind fun s6 =>
  (wr s6 1234 20 (s6.1 1240) (s6.1 1200)).bind fun s7 =>
  (wI s7 1235 0).bind fun s8 =>
  (wI s8 1240 ((s8.1 1240) + 1)).bind fun s9 =>
  some (((s9.1 1240) - 1), s9)
def F_X12_law_37 (v1 : Int32) (v2 : Int32) (v3 : Int32) (s : St) : Option (Int32 × St) :=
  (lp (B_X12_law_37 v1 v2) FU (v3, s)).bind (fun y => F_X12_law_72 v1 v2 y)
def F_X12_law (v1 : Int32) (v2 : Int32) (s : St) : Option (Int32 × St) :=
  if inb v1 (-1) 3 = false then
    some ((-1), s)
  else
    if inb v2 0 11 = false then
      some ((-1), s)
    else
      if (s.1 1240) = 20 then
        some ((-1), s)
      else
        (F_X12_fault s).bind fun r1 =>
        if r1.1 = (-1) then
          F_X12_law_37 v1 v2 0 r1.2
        else
          some ((-1), r1.2)
theorem J_X12_law : mj_t 6 27 = 33 ∧ mj_t 13 20 = 33 ∧ mj_t 22 11 = 33 ∧ mj_t 30 5 = 35 ∧ mj_t 42 30 = 72 ∧ mj_t 69 (-32) = 37 ∧ (0 ≤ ((6 : Nat) : Int) + 27) = True ∧ (0 ≤ ((13 : Nat) : Int) + 20) = True ∧ (0 ≤ ((22 : Nat) : Int) + 11) = True ∧ (0 ≤ ((30 : Nat) : Int) + 5) = True ∧ (0 ≤ ((42 : Nat) : Int) + 30) = True ∧ (0 ≤ ((69 : Nat) : Int) + (-32)) = True := by and_intros <;> first | rfl | exact eq_true (by decide)
def ct_X12_law : List (Nat × mj_Cs) := [(243, 2, 3, 12, 0, 0, c_in), (277, 2, 1, 12, 0, 0, c_isYear), (379, 0, 1, 12, 0, 0, c_X12_fault)]
theorem L_X12_law : mj_lk ct_X12_law 243 = some (2, 3, 12, 0, 0, c_in) ∧ mj_lk ct_X12_law 277 = some (2, 1, 12, 0, 0, c_isYear) ∧ mj_lk ct_X12_law 379 = some (0, 1, 12, 0, 0, c_X12_fault) := ⟨rfl, rfl, rfl⟩
set_option maxHeartbeats 4000000 in
set_option maxRecDepth 20000 in
theorem b_X12_law_37 {k : Option Value → mj_H → Prop} {G : mj_K} (hG : mj_cl2 cX12_law (TbX12 4 ((some FieldType.int)) ct_X12_law) k G) {v1 : Int32} {v2 : Int32} {P : Int32 × St → Prop} {K : (St) → Prop} (hP : ∀ x, P x → G 37 [.ref 0, .int v1, .int v2, .int x.1] [] (mkMs x.2) 0 0) (hK0 : ∀ y, K y → G 72 [.ref 0, .int v1, .int v2] [] (mkMs y) 0 0) {v3 : Int32} {s : St} (hw : ok (B_X12_law_37 v1 v2 (v3, s)) (Sum.elim P K)) : G 37 [.ref 0, .int v1, .int v2, .int v3] [] (mkMs s) 0 0 := by
  unfold B_X12_law_37 at hw
  refine mj_run hG.1 (fun pc => pc == 29 || pc == 37 || pc == 72) 4000 ?_
  simp only [mj_step, mj_W_s, mj_fin, List.getElem?_cons_zero, List.getElem?_cons_succ, mj_go, Nat.reduceAdd, Nat.reduceSub, Nat.reduceLT, Nat.reduceLeDiff, Nat.zero_add, Nat.reduceEqDiff, Nat.reduceBEq, ↓reduceIte, Bool.false_eq_true, List.append_nil, List.nil_append, List.cons_append, Option.toList, and_true, true_and, true_or, or_true, reduceCtorEq, List.map_nil, bI_eq0, bI_eq1, bool_ft, pk_us, vnar0, vnar1, Bool.or_false, Bool.or_true, Bool.false_or, Bool.true_or, mj_kne, eq_self, Int32.reduceLT, Int32.reduceLE, Int32.reduceAdd, Int32.reduceSub, Int32.reduceMul, not_true_eq_false, not_false_eq_true, false_implies, true_implies, D_X12_law_0, D_X12_law_1, mj_F_aload_n_k, mj_F_bipush_n, mj_F_dup, mj_F_getfield_i, mj_F_goto_off, mj_F_iadd, mj_F_iaload, mj_F_iastore, mj_F_iconst_n, mj_F_ifCond_eq_off, mj_F_if_icmp_eq_off, mj_F_if_icmp_ge_off, mj_F_iinc_k_n, mj_F_iload_n_k, mj_F_imul, mj_F_invokestatic_i, mj_F_invokevirtual_i, mj_F_ireturn, mj_F_istore_n_k, mj_F_isub, mj_F_putfield_i, mj_F_sipush_n, mj_set, mj_set0, mj_unk, mj_c2, mj_kc, FT_X12, FT_X12_1, PT_X12, L_X12_law, List.take_succ_cons, List.take_zero, List.drop_succ_cons, List.drop_zero, List.reverse_cons, List.reverse_nil, List.length_cons, List.length_nil, gS_M0, gMf_40, gMf_39, gMf_30, gS_M26, sS_Ma_26, gMf_29, gS_M25, sS_Ma_25, gMf_31, gS_M27, sS_Ma_27, gMf_32, gS_M28, sS_Ma_28, gMf_33, gS_M29, sS_Ma_29, gMf_34, gS_M30, sS_Ma_30, gMf_0, gMf_35, sS_Mf_35, gMl, sS_Mf_40, c_in_eq, c_isYear_eq, J_X12_law]
  refine ⟨fun c => ?_, fun c => ?_⟩
  · replace hw := ok_t hw c
    exact hG.2 _ _ _ _ _ _ _ _ _ (by refine ⟨Or.inr rfl, ?_⟩; refine ⟨Or.inr rfl, ?_⟩; refine ⟨Or.inr rfl, ?_⟩; exact trivial) (Nat.zero_le _) (Nat.zero_le _) (hK0 _ (ok_some hw :) :)
  · replace hw := ok_f hw c
    refine ⟨(ok_rd hw).1, ?_⟩
    replace hw := (ok_rd hw).2
    refine ⟨(ok_wr hw).1, ?_⟩
    replace hw := (ok_wr hw).2
    exact hG.2 _ _ _ _ _ _ _ _ _ (by refine ⟨Or.inr rfl, ?_⟩; refine ⟨Or.inr rfl, ?_⟩; refine ⟨Or.inr rfl, ?_⟩; refine ⟨Or.inr rfl, ?_⟩; exact trivial) (Nat.zero_le _) (Nat.zero_le _) (hP _ (ok_some hw :) :)

set_option maxHeartbeats 4000000 in
set_option maxRecDepth 20000 in
theorem g_X12_law_72 {k : Option Value → mj_H → Prop} {G : mj_K} (hG : mj_cl2 cX12_law (TbX12 4 ((some FieldType.int)) ct_X12_law) k G)   {v1 : Int32} {v2 : Int32} {s : St} (hw : ok (F_X12_law_72 v1 v2 s) (fun p => k (some (.int p.1)) (mkMs p.2))) : G 72 [.ref 0, .int v1, .int v2] [] (mkMs s) 0 0 := by
  unfold F_X12_law_72 at hw
  refine mj_run hG.1 (fun pc => pc == 29 || pc == 37 || pc == 72) 4000 ?_
  simp only [mj_step, mj_W_s, mj_fin, List.getElem?_cons_zero, List.getElem?_cons_succ, mj_go, Nat.reduceAdd, Nat.reduceSub, Nat.reduceLT, Nat.reduceLeDiff, Nat.zero_add, Nat.reduceEqDiff, Nat.reduceBEq, ↓reduceIte, Bool.false_eq_true, List.append_nil, List.nil_append, List.cons_append, Option.toList, and_true, true_and, true_or, or_true, reduceCtorEq, List.map_nil, bI_eq0, bI_eq1, bool_ft, pk_us, vnar0, vnar1, Bool.or_false, Bool.or_true, Bool.false_or, Bool.true_or, mj_kne, eq_self, Int32.reduceLT, Int32.reduceLE, Int32.reduceAdd, Int32.reduceSub, Int32.reduceMul, not_true_eq_false, not_false_eq_true, false_implies, true_implies, D_X12_law_0, D_X12_law_1, mj_F_aload_n_k, mj_F_bipush_n, mj_F_dup, mj_F_getfield_i, mj_F_goto_off, mj_F_iadd, mj_F_iaload, mj_F_iastore, mj_F_iconst_n, mj_F_ifCond_eq_off, mj_F_if_icmp_eq_off, mj_F_if_icmp_ge_off, mj_F_iinc_k_n, mj_F_iload_n_k, mj_F_imul, mj_F_invokestatic_i, mj_F_invokevirtual_i, mj_F_ireturn, mj_F_istore_n_k, mj_F_isub, mj_F_putfield_i, mj_F_sipush_n, mj_set, mj_set0, mj_unk, mj_c2, mj_kc, FT_X12, FT_X12_1, PT_X12, L_X12_law, List.take_succ_cons, List.take_zero, List.drop_succ_cons, List.drop_zero, List.reverse_cons, List.reverse_nil, List.length_cons, List.length_nil, gS_M0, gMf_40, gMf_39, gMf_30, gS_M26, sS_Ma_26, gMf_29, gS_M25, sS_Ma_25, gMf_31, gS_M27, sS_Ma_27, gMf_32, gS_M28, sS_Ma_28, gMf_33, gS_M29, sS_Ma_29, gMf_34, gS_M30, sS_Ma_30, gMf_0, gMf_35, sS_Mf_35, gMl, sS_Mf_40, c_in_eq, c_isYear_eq, J_X12_law]
  refine ⟨(ok_wr hw).1, ?_⟩
  replace hw := (ok_wr hw).2
  refine ⟨(ok_wr hw).1, ?_⟩
  replace hw := (ok_wr hw).2
  refine ⟨(ok_wr hw).1, ?_⟩
  replace hw := (ok_wr hw).2
  refine ⟨(ok_wr hw).1, ?_⟩
  replace hw := (ok_wr hw).2
  replace hw := ok_wI hw
  replace hw := ok_wI hw
  exact (ok_some hw :)

set_option maxHeartbeats 4000000 in
theorem g_X12_law_37 {k : Option Value → mj_H → Prop} {G : mj_K} (hG : mj_cl2 cX12_law (TbX12 4 ((some FieldType.int)) ct_X12_law) k G)   {v1 : Int32} {v2 : Int32} {v3 : Int32} {s : St} (hw : ok (F_X12_law_37 v1 v2 v3 s) (fun p => k (some (.int p.1)) (mkMs p.2))) : G 37 [.ref 0, .int v1, .int v2, .int v3] [] (mkMs s) 0 0 := by
  unfold F_X12_law_37 at hw
  refine lp_ok (B_X12_law_37 v1 v2) (fun x => G 37 [.ref 0, .int v1, .int v2, .int x.1] [] (mkMs x.2) 0 0) _ ?_ _ _ (ok_bind hw)
  rintro ⟨v3, s⟩ hb
  exact b_X12_law_37 hG (fun _ z => z) (fun y hw => by exact hG.2 _ _ _ _ _ _ _ _ _ (by refine ⟨Or.inr rfl, ?_⟩; refine ⟨Or.inr rfl, ?_⟩; refine ⟨Or.inr rfl, ?_⟩; exact trivial) (Nat.zero_le _) (Nat.zero_le _) (g_X12_law_72 hG  hw :)) hb

set_option maxHeartbeats 4000000 in
set_option maxRecDepth 20000 in
theorem g_X12_law {k : Option Value → mj_H → Prop} {G : mj_K} (hG : mj_cl2 cX12_law (TbX12 4 ((some FieldType.int)) ct_X12_law) k G) {v1 : Int32} {v2 : Int32} {s : St} (hw : ok (F_X12_law v1 v2 s) (fun p => k (some (.int p.1)) (mkMs p.2))) : G 0 [.ref 0, .int v1, .int v2] [] (mkMs s) 0 0 := by
  unfold F_X12_law at hw
  refine mj_run hG.1 (fun pc => pc == 29 || pc == 37 || pc == 72) 4000 ?_
  simp only [mj_step, mj_W_s, mj_fin, List.getElem?_cons_zero, List.getElem?_cons_succ, mj_go, Nat.reduceAdd, Nat.reduceSub, Nat.reduceLT, Nat.reduceLeDiff, Nat.zero_add, Nat.reduceEqDiff, Nat.reduceBEq, ↓reduceIte, Bool.false_eq_true, List.append_nil, List.nil_append, List.cons_append, Option.toList, and_true, true_and, true_or, or_true, reduceCtorEq, List.map_nil, bI_eq0, bI_eq1, bool_ft, pk_us, vnar0, vnar1, Bool.or_false, Bool.or_true, Bool.false_or, Bool.true_or, mj_kne, eq_self, Int32.reduceLT, Int32.reduceLE, Int32.reduceAdd, Int32.reduceSub, Int32.reduceMul, not_true_eq_false, not_false_eq_true, false_implies, true_implies, D_X12_law_0, D_X12_law_1, mj_F_aload_n_k, mj_F_bipush_n, mj_F_dup, mj_F_getfield_i, mj_F_goto_off, mj_F_iadd, mj_F_iaload, mj_F_iastore, mj_F_iconst_n, mj_F_ifCond_eq_off, mj_F_if_icmp_eq_off, mj_F_if_icmp_ge_off, mj_F_iinc_k_n, mj_F_iload_n_k, mj_F_imul, mj_F_invokestatic_i, mj_F_invokevirtual_i, mj_F_ireturn, mj_F_istore_n_k, mj_F_isub, mj_F_putfield_i, mj_F_sipush_n, mj_set, mj_set0, mj_unk, mj_c2, mj_kc, FT_X12, FT_X12_1, PT_X12, L_X12_law, List.take_succ_cons, List.take_zero, List.drop_succ_cons, List.drop_zero, List.reverse_cons, List.reverse_nil, List.length_cons, List.length_nil, gS_M0, gMf_40, gMf_39, gMf_30, gS_M26, sS_Ma_26, gMf_29, gS_M25, sS_Ma_25, gMf_31, gS_M27, sS_Ma_27, gMf_32, gS_M28, sS_Ma_28, gMf_33, gS_M29, sS_Ma_29, gMf_34, gS_M30, sS_Ma_30, gMf_0, gMf_35, sS_Mf_35, gMl, sS_Mf_40, c_in_eq, c_isYear_eq, J_X12_law]
  refine ⟨fun c => ?_, fun c => ?_⟩
  · replace hw := ok_t hw c
    exact (ok_some hw :)
  · replace hw := ok_f hw c
    refine ⟨fun c => ?_, fun c => ?_⟩
    · replace hw := ok_t hw c
      exact (ok_some hw :)
    · replace hw := ok_f hw c
      refine ⟨fun c => ?_, fun c => ?_⟩
      · replace hw := ok_t hw c
        exact (ok_some hw :)
      · replace hw := ok_f hw c
        refine c_X12_fault_in (ok_imp (ok_bind hw) ?_)
        intro p hw
        simp only [Option.toList, List.nil_append, List.cons_append, Nat.reduceSub]
        refine mj_run hG.1 (fun pc => pc == 29 || pc == 37 || pc == 72) 4000 ?_
        simp only [mj_step, mj_W_s, mj_fin, List.getElem?_cons_zero, List.getElem?_cons_succ, mj_go, Nat.reduceAdd, Nat.reduceSub, Nat.reduceLT, Nat.reduceLeDiff, Nat.zero_add, Nat.reduceEqDiff, Nat.reduceBEq, ↓reduceIte, Bool.false_eq_true, List.append_nil, List.nil_append, List.cons_append, Option.toList, and_true, true_and, true_or, or_true, reduceCtorEq, List.map_nil, bI_eq0, bI_eq1, bool_ft, pk_us, vnar0, vnar1, Bool.or_false, Bool.or_true, Bool.false_or, Bool.true_or, mj_kne, eq_self, Int32.reduceLT, Int32.reduceLE, Int32.reduceAdd, Int32.reduceSub, Int32.reduceMul, not_true_eq_false, not_false_eq_true, false_implies, true_implies, D_X12_law_0, D_X12_law_1, mj_F_aload_n_k, mj_F_bipush_n, mj_F_dup, mj_F_getfield_i, mj_F_goto_off, mj_F_iadd, mj_F_iaload, mj_F_iastore, mj_F_iconst_n, mj_F_ifCond_eq_off, mj_F_if_icmp_eq_off, mj_F_if_icmp_ge_off, mj_F_iinc_k_n, mj_F_iload_n_k, mj_F_imul, mj_F_invokestatic_i, mj_F_invokevirtual_i, mj_F_ireturn, mj_F_istore_n_k, mj_F_isub, mj_F_putfield_i, mj_F_sipush_n, mj_set, mj_set0, mj_unk, mj_c2, mj_kc, FT_X12, FT_X12_1, PT_X12, L_X12_law, List.take_succ_cons, List.take_zero, List.drop_succ_cons, List.drop_zero, List.reverse_cons, List.reverse_nil, List.length_cons, List.length_nil, gS_M0, gMf_40, gMf_39, gMf_30, gS_M26, sS_Ma_26, gMf_29, gS_M25, sS_Ma_25, gMf_31, gS_M27, sS_Ma_27, gMf_32, gS_M28, sS_Ma_28, gMf_33, gS_M29, sS_Ma_29, gMf_34, gS_M30, sS_Ma_30, gMf_0, gMf_35, sS_Mf_35, gMl, sS_Mf_40, c_in_eq, c_isYear_eq, J_X12_law]
        refine ⟨fun c => ?_, fun c => ?_⟩
        · replace hw := ok_t hw c
          exact hG.2 _ _ _ _ _ _ _ _ _ (by refine ⟨Or.inr rfl, ?_⟩; refine ⟨Or.inr rfl, ?_⟩; refine ⟨Or.inr rfl, ?_⟩; refine ⟨Or.inr rfl, ?_⟩; exact trivial) (Nat.zero_le _) (Nat.zero_le _) (g_X12_law_37 hG  hw :)
        · replace hw := ok_f hw c
          exact (ok_some hw :)

def c_X12_law : mj_S := fun as h k => ∃ (v1 : Int32) (v2 : Int32) (s : St), as = [.ref 0, .int v1, .int v2] ∧ h = mkMs s ∧ ok (F_X12_law v1 v2 s) (fun p => k (some (.int p.1)) (mkMs p.2))
theorem c_X12_law_in {v1 : Int32} {v2 : Int32} {s : St} {k : Option Value → mj_H → Prop} (hw : ok (F_X12_law v1 v2 s) (fun p => k (some (.int p.1)) (mkMs p.2))) : c_X12_law [.ref 0, .int v1, .int v2] (mkMs s) k := ⟨v1, v2, s, rfl, rfl, hw⟩
theorem m_X12_law (l : Launch) : mj_Met l yX12_law cX12_law 4 ((some FieldType.int)) 70 0 0 c_X12_law := by
  refine mj_body2 false (TbX12 4 ((some FieldType.int)) ct_X12_law) (by decide) rfl rfl (fun h => nomatch h) (tfX12 _ (List.forall_mem_cons.mpr ⟨cfX12_243 (m_X12_in l) (by decide), List.forall_mem_cons.mpr ⟨cfX12_277 (m_X12_isYear l) (by decide), List.forall_mem_cons.mpr ⟨cfX12_379 (m_X12_fault l) (by decide), fun _ h => nomatch h⟩⟩⟩)) ?_
  rintro as h k ⟨v1, v2, s, rfl, rfl, hw⟩
  exact ⟨rfl, fun G hG => g_X12_law hG hw⟩
def F_X12_isAsked (v1 : Int32) (v2 : Int32) (v3 : Int32) (s : St) : Option (Int32) :=
  if inb v1 0 3 = false then
    some 0
  else
    if inb v2 0 11 = false then
      some 0
    else
      (F_X12_isKnowing v3 s).bind fun r1 =>
      if r1 = 0 then
        some 0
      else
        some 1
theorem J_X12_isAsked : mj_t 4 22 = 26 ∧ mj_t 11 15 = 26 ∧ mj_t 19 7 = 26 ∧ mj_t 23 4 = 27 ∧ (0 ≤ ((4 : Nat) : Int) + 22) = True ∧ (0 ≤ ((11 : Nat) : Int) + 15) = True ∧ (0 ≤ ((19 : Nat) : Int) + 7) = True ∧ (0 ≤ ((23 : Nat) : Int) + 4) = True := by and_intros <;> first | rfl | exact eq_true (by decide)
def ct_X12_isAsked : List (Nat × mj_Cs) := [(271, 2, 1, 12, 0, 0, c_isShire), (277, 2, 1, 12, 0, 0, c_isYear), (287, 0, 2, 12, 0, 0, c_X12_isKnowing)]
theorem L_X12_isAsked : mj_lk ct_X12_isAsked 271 = some (2, 1, 12, 0, 0, c_isShire) ∧ mj_lk ct_X12_isAsked 277 = some (2, 1, 12, 0, 0, c_isYear) ∧ mj_lk ct_X12_isAsked 287 = some (0, 2, 12, 0, 0, c_X12_isKnowing) := ⟨rfl, rfl, rfl⟩
set_option maxHeartbeats 4000000 in
set_option maxRecDepth 20000 in
theorem g_X12_isAsked {k : Option Value → mj_H → Prop} {G : mj_K} (hG : mj_cl2 cX12_isAsked (TbX12 4 ((some FieldType.boolean)) ct_X12_isAsked) k G) {v1 : Int32} {v2 : Int32} {v3 : Int32} {s : St} (hw : ok (F_X12_isAsked v1 v2 v3 s) (fun p => k (some (.int p)) (mkMs s))) : G 0 [.ref 0, .int v1, .int v2, .int v3] [] (mkMs s) 0 0 := by
  unfold F_X12_isAsked at hw
  refine mj_run hG.1 (fun pc => pc == 19) 4000 ?_
  simp only [mj_step, mj_W_s, mj_fin, List.getElem?_cons_zero, List.getElem?_cons_succ, mj_go, Nat.reduceAdd, Nat.reduceSub, Nat.reduceLT, Nat.reduceLeDiff, Nat.zero_add, Nat.reduceEqDiff, Nat.reduceBEq, ↓reduceIte, Bool.false_eq_true, List.append_nil, List.nil_append, List.cons_append, Option.toList, and_true, true_and, true_or, or_true, reduceCtorEq, List.map_nil, bI_eq0, bI_eq1, bool_ft, pk_us, vnar0, vnar1, Bool.or_false, Bool.or_true, Bool.false_or, Bool.true_or, mj_kne, eq_self, Int32.reduceLT, Int32.reduceLE, Int32.reduceAdd, Int32.reduceSub, Int32.reduceMul, not_true_eq_false, not_false_eq_true, false_implies, true_implies, D_X12_isAsked, mj_F_aload_n_k, mj_F_goto_off, mj_F_iconst_n, mj_F_ifCond_eq_off, mj_F_iload_n_k, mj_F_invokestatic_i, mj_F_invokevirtual_i, mj_F_ireturn, mj_kc, L_X12_isAsked, List.take_succ_cons, List.take_zero, List.drop_succ_cons, List.drop_zero, List.reverse_cons, List.reverse_nil, List.length_cons, List.length_nil, c_isShire_eq, c_isYear_eq, gS_M0, J_X12_isAsked]
  refine ⟨fun c => ?_, fun c => ?_⟩
  · replace hw := ok_t hw c
    exact (ok_some hw :)
  · replace hw := ok_f hw c
    refine ⟨fun c => ?_, fun c => ?_⟩
    · replace hw := ok_t hw c
      exact (ok_some hw :)
    · replace hw := ok_f hw c
      refine c_X12_isKnowing_in (ok_imp (ok_bind hw) ?_)
      intro p hw
      simp only [Option.toList, List.nil_append, List.cons_append, Nat.reduceSub]
      refine mj_run hG.1 (fun pc => pc == 19) 4000 ?_
      simp only [mj_step, mj_W_s, mj_fin, List.getElem?_cons_zero, List.getElem?_cons_succ, mj_go, Nat.reduceAdd, Nat.reduceSub, Nat.reduceLT, Nat.reduceLeDiff, Nat.zero_add, Nat.reduceEqDiff, Nat.reduceBEq, ↓reduceIte, Bool.false_eq_true, List.append_nil, List.nil_append, List.cons_append, Option.toList, and_true, true_and, true_or, or_true, reduceCtorEq, List.map_nil, bI_eq0, bI_eq1, bool_ft, pk_us, vnar0, vnar1, Bool.or_false, Bool.or_true, Bool.false_or, Bool.true_or, mj_kne, eq_self, Int32.reduceLT, Int32.reduceLE, Int32.reduceAdd, Int32.reduceSub, Int32.reduceMul, not_true_eq_false, not_false_eq_true, false_implies, true_implies, D_X12_isAsked, mj_F_aload_n_k, mj_F_goto_off, mj_F_iconst_n, mj_F_ifCond_eq_off, mj_F_iload_n_k, mj_F_invokestatic_i, mj_F_invokevirtual_i, mj_F_ireturn, mj_kc, L_X12_isAsked, List.take_succ_cons, List.take_zero, List.drop_succ_cons, List.drop_zero, List.reverse_cons, List.reverse_nil, List.length_cons, List.length_nil, c_isShire_eq, c_isYear_eq, gS_M0, J_X12_isAsked]
      refine ⟨fun c => ?_, fun c => ?_⟩
      · replace hw := ok_t hw c
        exact (ok_some hw :)
      · replace hw := ok_f hw c
        exact (ok_some hw :)

def c_X12_isAsked : mj_S := fun as h k => ∃ (v1 : Int32) (v2 : Int32) (v3 : Int32) (s : St), as = [.ref 0, .int v1, .int v2, .int v3] ∧ h = mkMs s ∧ ok (F_X12_isAsked v1 v2 v3 s) (fun p => k (some (.int p)) (mkMs s))
theorem c_X12_isAsked_in {v1 : Int32} {v2 : Int32} {v3 : Int32} {s : St} {k : Option Value → mj_H → Prop} (hw : ok (F_X12_isAsked v1 v2 v3 s) (fun p => k (some (.int p)) (mkMs s))) : c_X12_isAsked [.ref 0, .int v1, .int v2, .int v3] (mkMs s) k := ⟨v1, v2, v3, s, rfl, rfl, hw⟩
theorem m_X12_isAsked (l : Launch) : mj_Met l yX12_isAsked cX12_isAsked 4 ((some FieldType.boolean)) 2 0 0 c_X12_isAsked := by
  refine mj_body2 false (TbX12 4 ((some FieldType.boolean)) ct_X12_isAsked) (by decide) rfl rfl (fun h => nomatch h) (tfX12 _ (List.forall_mem_cons.mpr ⟨cfX12_271 (m_X12_isShire l) (by decide), List.forall_mem_cons.mpr ⟨cfX12_277 (m_X12_isYear l) (by decide), List.forall_mem_cons.mpr ⟨cfX12_287 (m_X12_isKnowing l) (by decide), fun _ h => nomatch h⟩⟩⟩)) ?_
  rintro as h k ⟨v1, v2, v3, s, rfl, rfl, hw⟩
  exact ⟨rfl, fun G hG => g_X12_isAsked hG hw⟩
def F_X12_tell (v1 : Int32) (v2 : Int32) (v3 : Int32) (v4 : Int32) (v5 : Int32) (v6 : Int32) (s : St) : Option (St) :=
  (wr s 1241 128 121 v1).bind fun s1 =>
  (wr s1 1241 128 105 v2).bind fun s2 =>
  (wr s2 1241 128 110 v3).bind fun s3 =>
  (wr s3 1241 128 108 v4).bind fun s4 =>
  (wr s4 1241 128 120 v5).bind fun s5 =>
  (wr s5 1241 128 114 v6).bind fun s6 =>
  some s6
set_option maxHeartbeats 4000000 in
set_option maxRecDepth 20000 in
theorem g_X12_tell {k : Option Value → mj_H → Prop} {G : mj_K} (hG : mj_cl2 cX12_tell (TbX12 7 (none) []) k G) {v1 : Int32} {v2 : Int32} {v3 : Int32} {v4 : Int32} {v5 : Int32} {v6 : Int32} {s : St} (hw : ok (F_X12_tell v1 v2 v3 v4 v5 v6 s) (fun p => k none (mkMs p))) : G 0 [.ref 0, .int v1, .int v2, .int v3, .int v4, .int v5, .int v6] [] (mkMs s) 0 0 := by
  unfold F_X12_tell at hw
  refine mj_run hG.1 (fun _ => false) 4000 ?_
  simp only [mj_step, mj_W_s, mj_fin, List.getElem?_cons_zero, List.getElem?_cons_succ, mj_go, Nat.reduceAdd, Nat.reduceSub, Nat.reduceLT, Nat.reduceLeDiff, Nat.zero_add, Nat.reduceEqDiff, Nat.reduceBEq, ↓reduceIte, Bool.false_eq_true, List.append_nil, List.nil_append, List.cons_append, Option.toList, and_true, true_and, true_or, or_true, reduceCtorEq, List.map_nil, bI_eq0, bI_eq1, bool_ft, pk_us, vnar0, vnar1, Bool.or_false, Bool.or_true, Bool.false_or, Bool.true_or, mj_kne, eq_self, Int32.reduceLT, Int32.reduceLE, Int32.reduceAdd, Int32.reduceSub, Int32.reduceMul, not_true_eq_false, not_false_eq_true, false_implies, true_implies, D_X12_tell, mj_F_aload_n_k, mj_F_bipush_n, mj_F_getfield_i, mj_F_iastore, mj_F_iload_k, mj_F_iload_n_k, mj_F_return_, mj_kc, FT_X12, FT_X12_1, gS_M0, gMf_41, gS_M31, sS_Ma_31]
  refine ⟨(ok_wr hw).1, ?_⟩
  replace hw := (ok_wr hw).2
  refine ⟨(ok_wr hw).1, ?_⟩
  replace hw := (ok_wr hw).2
  refine ⟨(ok_wr hw).1, ?_⟩
  replace hw := (ok_wr hw).2
  refine ⟨(ok_wr hw).1, ?_⟩
  replace hw := (ok_wr hw).2
  refine ⟨(ok_wr hw).1, ?_⟩
  replace hw := (ok_wr hw).2
  refine ⟨(ok_wr hw).1, ?_⟩
  replace hw := (ok_wr hw).2
  exact (ok_some hw :)

def c_X12_tell : mj_S := fun as h k => ∃ (v1 : Int32) (v2 : Int32) (v3 : Int32) (v4 : Int32) (v5 : Int32) (v6 : Int32) (s : St), as = [.ref 0, .int v1, .int v2, .int v3, .int v4, .int v5, .int v6] ∧ h = mkMs s ∧ ok (F_X12_tell v1 v2 v3 v4 v5 v6 s) (fun p => k none (mkMs p))
theorem c_X12_tell_in {v1 : Int32} {v2 : Int32} {v3 : Int32} {v4 : Int32} {v5 : Int32} {v6 : Int32} {s : St} {k : Option Value → mj_H → Prop} (hw : ok (F_X12_tell v1 v2 v3 v4 v5 v6 s) (fun p => k none (mkMs p))) : c_X12_tell [.ref 0, .int v1, .int v2, .int v3, .int v4, .int v5, .int v6] (mkMs s) k := ⟨v1, v2, v3, v4, v5, v6, s, rfl, rfl, hw⟩
theorem m_X12_tell (l : Launch) : mj_Met l yX12_tell cX12_tell 7 (none) 0 0 0 c_X12_tell := by
  refine mj_body2 false (TbX12 7 (none) []) (by decide) rfl rfl (fun h => nomatch h) (tfX12 _ (fun _ h => nomatch h)) ?_
  rintro as h k ⟨v1, v2, v3, v4, v5, v6, s, rfl, rfl, hw⟩
  exact ⟨rfl, fun G hG => g_X12_tell hG hw⟩
def F_X12_bounded (v0 : Int64) : Option (Int32) :=
  some (Int64.toInt32 (mx64 (-1000000) (mn64 1000000 v0)))
set_option maxHeartbeats 4000000 in
set_option maxRecDepth 20000 in
theorem g_X12_bounded {k : Option Value → mj_H → Prop} {G : mj_K} (hG : mj_cl2 cX12_bounded (TbX12 2 ((some FieldType.int)) []) k G) (hM : mj_ml cX12_bounded yX12_bounded.cls G) {h : mj_H} {v0 : Int64} (hw : ok (F_X12_bounded v0) (fun p => k (some (.int p)) h)) : G 0 [.long v0, mj_unk] [] h 0 0 := by
  unfold F_X12_bounded at hw
  refine mj_run hG.1 (fun pc => pc == 7 || pc == 10) 4000 ?_
  simp only [mj_step, mj_W_s, mj_fin, List.getElem?_cons_zero, List.getElem?_cons_succ, mj_go, Nat.reduceAdd, Nat.reduceSub, Nat.reduceLT, Nat.reduceLeDiff, Nat.zero_add, Nat.reduceEqDiff, Nat.reduceBEq, ↓reduceIte, Bool.false_eq_true, List.append_nil, List.nil_append, List.cons_append, Option.toList, and_true, true_and, true_or, or_true, reduceCtorEq, List.map_nil, bI_eq0, bI_eq1, bool_ft, pk_us, vnar0, vnar1, Bool.or_false, Bool.or_true, Bool.false_or, Bool.true_or, mj_kne, eq_self, Int32.reduceLT, Int32.reduceLE, Int32.reduceAdd, Int32.reduceSub, Int32.reduceMul, not_true_eq_false, not_false_eq_true, false_implies, true_implies, D_X12_bounded, mj_F_invokestatic_i, mj_F_ireturn, mj_F_l2i, mj_F_ldc2_w_i, mj_F_lload_n_k, KT_X12, List.take_succ_cons, List.take_zero, List.drop_succ_cons, List.drop_zero, List.reverse_cons, List.reverse_nil, List.length_cons, List.length_nil]
  refine hM 7 386 2 _ _ _ _ _ _ _ _ (by simp only [D_X12_bounded]) (lkX12_386) rfl (Nat.le_of_ble_eq_true rfl) ?_
  refine hM 10 392 3 _ _ _ _ _ _ _ _ (by simp only [D_X12_bounded]) (lkX12_392) rfl (Nat.le_of_ble_eq_true rfl) ?_
  refine mj_run hG.1 (fun pc => pc == 7 || pc == 10) 4000 ?_
  simp only [mj_step, mj_W_s, mj_fin, List.getElem?_cons_zero, List.getElem?_cons_succ, mj_go, Nat.reduceAdd, Nat.reduceSub, Nat.reduceLT, Nat.reduceLeDiff, Nat.zero_add, Nat.reduceEqDiff, Nat.reduceBEq, ↓reduceIte, Bool.false_eq_true, List.append_nil, List.nil_append, List.cons_append, Option.toList, and_true, true_and, true_or, or_true, reduceCtorEq, List.map_nil, bI_eq0, bI_eq1, bool_ft, pk_us, vnar0, vnar1, Bool.or_false, Bool.or_true, Bool.false_or, Bool.true_or, mj_kne, eq_self, Int32.reduceLT, Int32.reduceLE, Int32.reduceAdd, Int32.reduceSub, Int32.reduceMul, not_true_eq_false, not_false_eq_true, false_implies, true_implies, D_X12_bounded, mj_F_invokestatic_i, mj_F_ireturn, mj_F_l2i, mj_F_ldc2_w_i, mj_F_lload_n_k, KT_X12, List.take_succ_cons, List.take_zero, List.drop_succ_cons, List.drop_zero, List.reverse_cons, List.reverse_nil, List.length_cons, List.length_nil]
  exact (ok_some hw :)

def c_X12_bounded : mj_S := fun as h k => ∃ (v0 : Int64), as = [.long v0] ∧ ok (F_X12_bounded v0) (fun p => k (some (.int p)) h)
theorem c_X12_bounded_in {v0 : Int64} {h : mj_H} {k : Option Value → mj_H → Prop} (hw : ok (F_X12_bounded v0) (fun p => k (some (.int p)) h)) : c_X12_bounded [.long v0] h k := ⟨v0, rfl, hw⟩
theorem m_X12_bounded (l : Launch) : mj_Met l yX12_bounded cX12_bounded 2 ((some FieldType.int)) 1 0 0 c_X12_bounded := by
  refine mj_body3 false (TbX12 2 ((some FieldType.int)) []) (by decide) (by decide) rfl rfl (fun h => nomatch h) (tfX12 _ (fun _ h => nomatch h)) ?_
  rintro as h k ⟨v0, rfl, hw⟩
  exact ⟨rfl, fun G hG hM => g_X12_bounded hG hM hw⟩
def F_X12_both (v0 : Int32) (v1 : Int32) (v2 : Int32) : Option (Int32) :=
  if v0 = 38 then
    if v1 = 0 then
      some 0
    else
      if v2 = 0 then
        some 0
      else
        some 1
  else
  if v0 = 42 then
    (F_X12_bounded ((Int32.toInt64 v1) * (Int32.toInt64 v2))).bind fun r1 =>
    some r1
  else
  if v0 = 43 then
    (F_X12_bounded ((Int32.toInt64 v1) + (Int32.toInt64 v2))).bind fun r2 =>
    some r2
  else
  if v0 = 45 then
    (F_X12_bounded ((Int32.toInt64 v1) - (Int32.toInt64 v2))).bind fun r3 =>
    some r3
  else
  if v0 = 47 then
    if v2 = 0 then
      some 0
    else
      (nzl (Int32.toInt64 v2)).bind fun _ =>
      (F_X12_bounded ((Int32.toInt64 v1) / (Int32.toInt64 v2))).bind fun r4 =>
      some r4
  else
  if v0 = 60 then
    if v2 ≤ v1 then
      some 0
    else
      some 1
  else
  if v0 = 61 then
    if v1 = v2 then
      some 1
    else
      some 0
  else
  if v0 = 62 then
    if v1 ≤ v2 then
      some 0
    else
      some 1
  else
  if v1 = 0 then
    if v2 = 0 then
      some 0
    else
      some 1
  else
    some 1
theorem J_X12_both : mj_t 1 115 = 116 ∧ mj_t 1 124 = 125 ∧ mj_t 1 133 = 134 ∧ mj_t 1 142 = 143 ∧ mj_t 1 159 = 160 ∧ mj_t 1 170 = 171 ∧ mj_t 1 181 = 182 ∧ mj_t 1 192 = 193 ∧ mj_t 1 206 = 207 ∧ mj_t 144 7 = 151 ∧ mj_t 148 11 = 159 ∧ mj_t 162 7 = 169 ∧ mj_t 166 4 = 170 ∧ mj_t 173 7 = 180 ∧ mj_t 177 4 = 181 ∧ mj_t 184 7 = 191 ∧ mj_t 188 4 = 192 ∧ mj_t 194 11 = 205 ∧ mj_t 198 7 = 205 ∧ mj_t 202 4 = 206 ∧ mj_t 208 7 = 215 ∧ mj_t 212 7 = 219 ∧ mj_t 216 4 = 220 ∧ (0 ≤ ((1 : Nat) : Int) + 115) = True ∧ (0 ≤ ((1 : Nat) : Int) + 124) = True ∧ (0 ≤ ((1 : Nat) : Int) + 133) = True ∧ (0 ≤ ((1 : Nat) : Int) + 142) = True ∧ (0 ≤ ((1 : Nat) : Int) + 159) = True ∧ (0 ≤ ((1 : Nat) : Int) + 170) = True ∧ (0 ≤ ((1 : Nat) : Int) + 181) = True ∧ (0 ≤ ((1 : Nat) : Int) + 192) = True ∧ (0 ≤ ((1 : Nat) : Int) + 206) = True ∧ (0 ≤ ((144 : Nat) : Int) + 7) = True ∧ (0 ≤ ((148 : Nat) : Int) + 11) = True ∧ (0 ≤ ((162 : Nat) : Int) + 7) = True ∧ (0 ≤ ((166 : Nat) : Int) + 4) = True ∧ (0 ≤ ((173 : Nat) : Int) + 7) = True ∧ (0 ≤ ((177 : Nat) : Int) + 4) = True ∧ (0 ≤ ((184 : Nat) : Int) + 7) = True ∧ (0 ≤ ((188 : Nat) : Int) + 4) = True ∧ (0 ≤ ((194 : Nat) : Int) + 11) = True ∧ (0 ≤ ((198 : Nat) : Int) + 7) = True ∧ (0 ≤ ((202 : Nat) : Int) + 4) = True ∧ (0 ≤ ((208 : Nat) : Int) + 7) = True ∧ (0 ≤ ((212 : Nat) : Int) + 7) = True ∧ (0 ≤ ((216 : Nat) : Int) + 4) = True := by and_intros <;> first | rfl | exact eq_true (by decide)
def ct_X12_both : List (Nat × mj_Cs) := [(395, 2, 1, 12, 0, 0, c_X12_bounded)]
theorem L_X12_both : mj_lk ct_X12_both 395 = some (2, 1, 12, 0, 0, c_X12_bounded) := rfl
set_option maxHeartbeats 4000000 in
set_option maxRecDepth 20000 in
theorem g_X12_both {k : Option Value → mj_H → Prop} {G : mj_K} (hG : mj_cl2 cX12_both (TbX12 3 ((some FieldType.int)) ct_X12_both) k G) {h : mj_H} {v0 : Int32} {v1 : Int32} {v2 : Int32} (hw : ok (F_X12_both v0 v1 v2) (fun p => k (some (.int p)) h)) : G 0 [.int v0, .int v1, .int v2] [] h 0 0 := by
  unfold F_X12_both at hw
  refine mj_run hG.1 (fun pc => pc == 124 || pc == 133 || pc == 142 || pc == 159) 4000 ?_
  simp only [mj_step, mj_W_s, mj_fin, List.getElem?_cons_zero, List.getElem?_cons_succ, mj_go, Nat.reduceAdd, Nat.reduceSub, Nat.reduceLT, Nat.reduceLeDiff, Nat.zero_add, Nat.reduceEqDiff, Nat.reduceBEq, ↓reduceIte, Bool.false_eq_true, List.append_nil, List.nil_append, List.cons_append, Option.toList, and_true, true_and, true_or, or_true, reduceCtorEq, List.map_nil, bI_eq0, bI_eq1, bool_ft, pk_us, vnar0, vnar1, Bool.or_false, Bool.or_true, Bool.false_or, Bool.true_or, mj_kne, eq_self, Int32.reduceLT, Int32.reduceLE, Int32.reduceAdd, Int32.reduceSub, Int32.reduceMul, not_true_eq_false, not_false_eq_true, false_implies, true_implies, D_X12_both_0, D_X12_both_1, mj_F_goto_off, mj_F_i2l, mj_F_iconst_n, mj_F_ifCond_eq_off, mj_F_ifCond_ne_off, mj_F_if_icmp_ge_off, mj_F_if_icmp_le_off, mj_F_if_icmp_ne_off, mj_F_iload_n_k, mj_F_invokestatic_i, mj_F_ireturn, mj_F_ladd, mj_F_ldiv, mj_F_lmul, mj_F_lsub, mj_kc, L_X12_both, List.take_succ_cons, List.take_zero, List.drop_succ_cons, List.drop_zero, List.reverse_cons, List.reverse_nil, List.length_cons, List.length_nil, J_X12_both]
  by_cases c5 : v0 = 38
  · replace hw := ok_t hw c5
    have c := c5
    refine mj_tsc 0 192 (by rw [show v0 = 38 from c]; decide) (by decide) rfl (by decide) ?_
    simp only [mj_step, mj_W_s, mj_fin, List.getElem?_cons_zero, List.getElem?_cons_succ, mj_go, Nat.reduceAdd, Nat.reduceSub, Nat.reduceLT, Nat.reduceLeDiff, Nat.zero_add, Nat.reduceEqDiff, Nat.reduceBEq, ↓reduceIte, Bool.false_eq_true, List.append_nil, List.nil_append, List.cons_append, Option.toList, and_true, true_and, true_or, or_true, reduceCtorEq, List.map_nil, bI_eq0, bI_eq1, bool_ft, pk_us, vnar0, vnar1, Bool.or_false, Bool.or_true, Bool.false_or, Bool.true_or, mj_kne, eq_self, Int32.reduceLT, Int32.reduceLE, Int32.reduceAdd, Int32.reduceSub, Int32.reduceMul, not_true_eq_false, not_false_eq_true, false_implies, true_implies, D_X12_both_0, D_X12_both_1, mj_F_goto_off, mj_F_i2l, mj_F_iconst_n, mj_F_ifCond_eq_off, mj_F_ifCond_ne_off, mj_F_if_icmp_ge_off, mj_F_if_icmp_le_off, mj_F_if_icmp_ne_off, mj_F_iload_n_k, mj_F_invokestatic_i, mj_F_ireturn, mj_F_ladd, mj_F_ldiv, mj_F_lmul, mj_F_lsub, mj_kc, L_X12_both, List.take_succ_cons, List.take_zero, List.drop_succ_cons, List.drop_zero, List.reverse_cons, List.reverse_nil, List.length_cons, List.length_nil, J_X12_both]
    refine ⟨fun c => ?_, fun c => ?_⟩
    · replace hw := ok_t hw c
      exact (ok_some hw :)
    · replace hw := ok_f hw c
      refine ⟨fun c => ?_, fun c => ?_⟩
      · replace hw := ok_t hw c
        exact (ok_some hw :)
      · replace hw := ok_f hw c
        exact (ok_some hw :)
  replace hw := ok_f hw c5
  by_cases c6 : v0 = 42
  · replace hw := ok_t hw c6
    have c := c6
    refine mj_tsc 4 133 (by rw [show v0 = 42 from c]; decide) (by decide) rfl (by decide) ?_
    simp only [mj_step, mj_W_s, mj_fin, List.getElem?_cons_zero, List.getElem?_cons_succ, mj_go, Nat.reduceAdd, Nat.reduceSub, Nat.reduceLT, Nat.reduceLeDiff, Nat.zero_add, Nat.reduceEqDiff, Nat.reduceBEq, ↓reduceIte, Bool.false_eq_true, List.append_nil, List.nil_append, List.cons_append, Option.toList, and_true, true_and, true_or, or_true, reduceCtorEq, List.map_nil, bI_eq0, bI_eq1, bool_ft, pk_us, vnar0, vnar1, Bool.or_false, Bool.or_true, Bool.false_or, Bool.true_or, mj_kne, eq_self, Int32.reduceLT, Int32.reduceLE, Int32.reduceAdd, Int32.reduceSub, Int32.reduceMul, not_true_eq_false, not_false_eq_true, false_implies, true_implies, D_X12_both_0, D_X12_both_1, mj_F_goto_off, mj_F_i2l, mj_F_iconst_n, mj_F_ifCond_eq_off, mj_F_ifCond_ne_off, mj_F_if_icmp_ge_off, mj_F_if_icmp_le_off, mj_F_if_icmp_ne_off, mj_F_iload_n_k, mj_F_invokestatic_i, mj_F_ireturn, mj_F_ladd, mj_F_ldiv, mj_F_lmul, mj_F_lsub, mj_kc, L_X12_both, List.take_succ_cons, List.take_zero, List.drop_succ_cons, List.drop_zero, List.reverse_cons, List.reverse_nil, List.length_cons, List.length_nil, J_X12_both]
    refine c_X12_bounded_in (ok_imp (ok_bind hw) ?_)
    intro p hw
    simp only [Option.toList, List.nil_append, List.cons_append, Nat.reduceSub]
    refine mj_run hG.1 (fun pc => pc == 124 || pc == 133 || pc == 142 || pc == 159) 4000 ?_
    simp only [mj_step, mj_W_s, mj_fin, List.getElem?_cons_zero, List.getElem?_cons_succ, mj_go, Nat.reduceAdd, Nat.reduceSub, Nat.reduceLT, Nat.reduceLeDiff, Nat.zero_add, Nat.reduceEqDiff, Nat.reduceBEq, ↓reduceIte, Bool.false_eq_true, List.append_nil, List.nil_append, List.cons_append, Option.toList, and_true, true_and, true_or, or_true, reduceCtorEq, List.map_nil, bI_eq0, bI_eq1, bool_ft, pk_us, vnar0, vnar1, Bool.or_false, Bool.or_true, Bool.false_or, Bool.true_or, mj_kne, eq_self, Int32.reduceLT, Int32.reduceLE, Int32.reduceAdd, Int32.reduceSub, Int32.reduceMul, not_true_eq_false, not_false_eq_true, false_implies, true_implies, D_X12_both_0, D_X12_both_1, mj_F_goto_off, mj_F_i2l, mj_F_iconst_n, mj_F_ifCond_eq_off, mj_F_ifCond_ne_off, mj_F_if_icmp_ge_off, mj_F_if_icmp_le_off, mj_F_if_icmp_ne_off, mj_F_iload_n_k, mj_F_invokestatic_i, mj_F_ireturn, mj_F_ladd, mj_F_ldiv, mj_F_lmul, mj_F_lsub, mj_kc, L_X12_both, List.take_succ_cons, List.take_zero, List.drop_succ_cons, List.drop_zero, List.reverse_cons, List.reverse_nil, List.length_cons, List.length_nil, J_X12_both]
    exact (ok_some hw :)
  replace hw := ok_f hw c6
  by_cases c7 : v0 = 43
  · replace hw := ok_t hw c7
    have c := c7
    refine mj_tsc 5 115 (by rw [show v0 = 43 from c]; decide) (by decide) rfl (by decide) ?_
    simp only [mj_step, mj_W_s, mj_fin, List.getElem?_cons_zero, List.getElem?_cons_succ, mj_go, Nat.reduceAdd, Nat.reduceSub, Nat.reduceLT, Nat.reduceLeDiff, Nat.zero_add, Nat.reduceEqDiff, Nat.reduceBEq, ↓reduceIte, Bool.false_eq_true, List.append_nil, List.nil_append, List.cons_append, Option.toList, and_true, true_and, true_or, or_true, reduceCtorEq, List.map_nil, bI_eq0, bI_eq1, bool_ft, pk_us, vnar0, vnar1, Bool.or_false, Bool.or_true, Bool.false_or, Bool.true_or, mj_kne, eq_self, Int32.reduceLT, Int32.reduceLE, Int32.reduceAdd, Int32.reduceSub, Int32.reduceMul, not_true_eq_false, not_false_eq_true, false_implies, true_implies, D_X12_both_0, D_X12_both_1, mj_F_goto_off, mj_F_i2l, mj_F_iconst_n, mj_F_ifCond_eq_off, mj_F_ifCond_ne_off, mj_F_if_icmp_ge_off, mj_F_if_icmp_le_off, mj_F_if_icmp_ne_off, mj_F_iload_n_k, mj_F_invokestatic_i, mj_F_ireturn, mj_F_ladd, mj_F_ldiv, mj_F_lmul, mj_F_lsub, mj_kc, L_X12_both, List.take_succ_cons, List.take_zero, List.drop_succ_cons, List.drop_zero, List.reverse_cons, List.reverse_nil, List.length_cons, List.length_nil, J_X12_both]
    refine c_X12_bounded_in (ok_imp (ok_bind hw) ?_)
    intro p hw
    simp only [Option.toList, List.nil_append, List.cons_append, Nat.reduceSub]
    refine mj_run hG.1 (fun pc => pc == 124 || pc == 133 || pc == 142 || pc == 159) 4000 ?_
    simp only [mj_step, mj_W_s, mj_fin, List.getElem?_cons_zero, List.getElem?_cons_succ, mj_go, Nat.reduceAdd, Nat.reduceSub, Nat.reduceLT, Nat.reduceLeDiff, Nat.zero_add, Nat.reduceEqDiff, Nat.reduceBEq, ↓reduceIte, Bool.false_eq_true, List.append_nil, List.nil_append, List.cons_append, Option.toList, and_true, true_and, true_or, or_true, reduceCtorEq, List.map_nil, bI_eq0, bI_eq1, bool_ft, pk_us, vnar0, vnar1, Bool.or_false, Bool.or_true, Bool.false_or, Bool.true_or, mj_kne, eq_self, Int32.reduceLT, Int32.reduceLE, Int32.reduceAdd, Int32.reduceSub, Int32.reduceMul, not_true_eq_false, not_false_eq_true, false_implies, true_implies, D_X12_both_0, D_X12_both_1, mj_F_goto_off, mj_F_i2l, mj_F_iconst_n, mj_F_ifCond_eq_off, mj_F_ifCond_ne_off, mj_F_if_icmp_ge_off, mj_F_if_icmp_le_off, mj_F_if_icmp_ne_off, mj_F_iload_n_k, mj_F_invokestatic_i, mj_F_ireturn, mj_F_ladd, mj_F_ldiv, mj_F_lmul, mj_F_lsub, mj_kc, L_X12_both, List.take_succ_cons, List.take_zero, List.drop_succ_cons, List.drop_zero, List.reverse_cons, List.reverse_nil, List.length_cons, List.length_nil, J_X12_both]
    exact (ok_some hw :)
  replace hw := ok_f hw c7
  by_cases c8 : v0 = 45
  · replace hw := ok_t hw c8
    have c := c8
    refine mj_tsc 7 124 (by rw [show v0 = 45 from c]; decide) (by decide) rfl (by decide) ?_
    simp only [mj_step, mj_W_s, mj_fin, List.getElem?_cons_zero, List.getElem?_cons_succ, mj_go, Nat.reduceAdd, Nat.reduceSub, Nat.reduceLT, Nat.reduceLeDiff, Nat.zero_add, Nat.reduceEqDiff, Nat.reduceBEq, ↓reduceIte, Bool.false_eq_true, List.append_nil, List.nil_append, List.cons_append, Option.toList, and_true, true_and, true_or, or_true, reduceCtorEq, List.map_nil, bI_eq0, bI_eq1, bool_ft, pk_us, vnar0, vnar1, Bool.or_false, Bool.or_true, Bool.false_or, Bool.true_or, mj_kne, eq_self, Int32.reduceLT, Int32.reduceLE, Int32.reduceAdd, Int32.reduceSub, Int32.reduceMul, not_true_eq_false, not_false_eq_true, false_implies, true_implies, D_X12_both_0, D_X12_both_1, mj_F_goto_off, mj_F_i2l, mj_F_iconst_n, mj_F_ifCond_eq_off, mj_F_ifCond_ne_off, mj_F_if_icmp_ge_off, mj_F_if_icmp_le_off, mj_F_if_icmp_ne_off, mj_F_iload_n_k, mj_F_invokestatic_i, mj_F_ireturn, mj_F_ladd, mj_F_ldiv, mj_F_lmul, mj_F_lsub, mj_kc, L_X12_both, List.take_succ_cons, List.take_zero, List.drop_succ_cons, List.drop_zero, List.reverse_cons, List.reverse_nil, List.length_cons, List.length_nil, J_X12_both]
    refine c_X12_bounded_in (ok_imp (ok_bind hw) ?_)
    intro p hw
    simp only [Option.toList, List.nil_append, List.cons_append, Nat.reduceSub]
    refine mj_run hG.1 (fun pc => pc == 124 || pc == 133 || pc == 142 || pc == 159) 4000 ?_
    simp only [mj_step, mj_W_s, mj_fin, List.getElem?_cons_zero, List.getElem?_cons_succ, mj_go, Nat.reduceAdd, Nat.reduceSub, Nat.reduceLT, Nat.reduceLeDiff, Nat.zero_add, Nat.reduceEqDiff, Nat.reduceBEq, ↓reduceIte, Bool.false_eq_true, List.append_nil, List.nil_append, List.cons_append, Option.toList, and_true, true_and, true_or, or_true, reduceCtorEq, List.map_nil, bI_eq0, bI_eq1, bool_ft, pk_us, vnar0, vnar1, Bool.or_false, Bool.or_true, Bool.false_or, Bool.true_or, mj_kne, eq_self, Int32.reduceLT, Int32.reduceLE, Int32.reduceAdd, Int32.reduceSub, Int32.reduceMul, not_true_eq_false, not_false_eq_true, false_implies, true_implies, D_X12_both_0, D_X12_both_1, mj_F_goto_off, mj_F_i2l, mj_F_iconst_n, mj_F_ifCond_eq_off, mj_F_ifCond_ne_off, mj_F_if_icmp_ge_off, mj_F_if_icmp_le_off, mj_F_if_icmp_ne_off, mj_F_iload_n_k, mj_F_invokestatic_i, mj_F_ireturn, mj_F_ladd, mj_F_ldiv, mj_F_lmul, mj_F_lsub, mj_kc, L_X12_both, List.take_succ_cons, List.take_zero, List.drop_succ_cons, List.drop_zero, List.reverse_cons, List.reverse_nil, List.length_cons, List.length_nil, J_X12_both]
    exact (ok_some hw :)
  replace hw := ok_f hw c8
  by_cases c9 : v0 = 47
  · replace hw := ok_t hw c9
    have c := c9
    refine mj_tsc 9 142 (by rw [show v0 = 47 from c]; decide) (by decide) rfl (by decide) ?_
    simp only [mj_step, mj_W_s, mj_fin, List.getElem?_cons_zero, List.getElem?_cons_succ, mj_go, Nat.reduceAdd, Nat.reduceSub, Nat.reduceLT, Nat.reduceLeDiff, Nat.zero_add, Nat.reduceEqDiff, Nat.reduceBEq, ↓reduceIte, Bool.false_eq_true, List.append_nil, List.nil_append, List.cons_append, Option.toList, and_true, true_and, true_or, or_true, reduceCtorEq, List.map_nil, bI_eq0, bI_eq1, bool_ft, pk_us, vnar0, vnar1, Bool.or_false, Bool.or_true, Bool.false_or, Bool.true_or, mj_kne, eq_self, Int32.reduceLT, Int32.reduceLE, Int32.reduceAdd, Int32.reduceSub, Int32.reduceMul, not_true_eq_false, not_false_eq_true, false_implies, true_implies, D_X12_both_0, D_X12_both_1, mj_F_goto_off, mj_F_i2l, mj_F_iconst_n, mj_F_ifCond_eq_off, mj_F_ifCond_ne_off, mj_F_if_icmp_ge_off, mj_F_if_icmp_le_off, mj_F_if_icmp_ne_off, mj_F_iload_n_k, mj_F_invokestatic_i, mj_F_ireturn, mj_F_ladd, mj_F_ldiv, mj_F_lmul, mj_F_lsub, mj_kc, L_X12_both, List.take_succ_cons, List.take_zero, List.drop_succ_cons, List.drop_zero, List.reverse_cons, List.reverse_nil, List.length_cons, List.length_nil, J_X12_both]
    refine ⟨fun c => ?_, fun c => ?_⟩
    · replace hw := ok_f hw c
      refine ⟨(ok_nzl hw).1, ?_⟩
      replace hw := (ok_nzl hw).2
      refine c_X12_bounded_in (ok_imp (ok_bind hw) ?_)
      intro p hw
      simp only [Option.toList, List.nil_append, List.cons_append, Nat.reduceSub]
      refine mj_run hG.1 (fun pc => pc == 124 || pc == 133 || pc == 142 || pc == 159) 4000 ?_
      simp only [mj_step, mj_W_s, mj_fin, List.getElem?_cons_zero, List.getElem?_cons_succ, mj_go, Nat.reduceAdd, Nat.reduceSub, Nat.reduceLT, Nat.reduceLeDiff, Nat.zero_add, Nat.reduceEqDiff, Nat.reduceBEq, ↓reduceIte, Bool.false_eq_true, List.append_nil, List.nil_append, List.cons_append, Option.toList, and_true, true_and, true_or, or_true, reduceCtorEq, List.map_nil, bI_eq0, bI_eq1, bool_ft, pk_us, vnar0, vnar1, Bool.or_false, Bool.or_true, Bool.false_or, Bool.true_or, mj_kne, eq_self, Int32.reduceLT, Int32.reduceLE, Int32.reduceAdd, Int32.reduceSub, Int32.reduceMul, not_true_eq_false, not_false_eq_true, false_implies, true_implies, D_X12_both_0, D_X12_both_1, mj_F_goto_off, mj_F_i2l, mj_F_iconst_n, mj_F_ifCond_eq_off, mj_F_ifCond_ne_off, mj_F_if_icmp_ge_off, mj_F_if_icmp_le_off, mj_F_if_icmp_ne_off, mj_F_iload_n_k, mj_F_invokestatic_i, mj_F_ireturn, mj_F_ladd, mj_F_ldiv, mj_F_lmul, mj_F_lsub, mj_kc, L_X12_both, List.take_succ_cons, List.take_zero, List.drop_succ_cons, List.drop_zero, List.reverse_cons, List.reverse_nil, List.length_cons, List.length_nil, J_X12_both]
      exact (ok_some hw :)
    · replace hw := ok_t hw c
      refine mj_run hG.1 (fun pc => pc == 124 || pc == 133 || pc == 142 || pc == 159) 4000 ?_
      simp only [mj_step, mj_W_s, mj_fin, List.getElem?_cons_zero, List.getElem?_cons_succ, mj_go, Nat.reduceAdd, Nat.reduceSub, Nat.reduceLT, Nat.reduceLeDiff, Nat.zero_add, Nat.reduceEqDiff, Nat.reduceBEq, ↓reduceIte, Bool.false_eq_true, List.append_nil, List.nil_append, List.cons_append, Option.toList, and_true, true_and, true_or, or_true, reduceCtorEq, List.map_nil, bI_eq0, bI_eq1, bool_ft, pk_us, vnar0, vnar1, Bool.or_false, Bool.or_true, Bool.false_or, Bool.true_or, mj_kne, eq_self, Int32.reduceLT, Int32.reduceLE, Int32.reduceAdd, Int32.reduceSub, Int32.reduceMul, not_true_eq_false, not_false_eq_true, false_implies, true_implies, D_X12_both_0, D_X12_both_1, mj_F_goto_off, mj_F_i2l, mj_F_iconst_n, mj_F_ifCond_eq_off, mj_F_ifCond_ne_off, mj_F_if_icmp_ge_off, mj_F_if_icmp_le_off, mj_F_if_icmp_ne_off, mj_F_iload_n_k, mj_F_invokestatic_i, mj_F_ireturn, mj_F_ladd, mj_F_ldiv, mj_F_lmul, mj_F_lsub, mj_kc, L_X12_both, List.take_succ_cons, List.take_zero, List.drop_succ_cons, List.drop_zero, List.reverse_cons, List.reverse_nil, List.length_cons, List.length_nil, J_X12_both]
      exact (ok_some hw :)
  replace hw := ok_f hw c9
  by_cases c10 : v0 = 60
  · replace hw := ok_t hw c10
    have c := c10
    refine mj_tsc 22 170 (by rw [show v0 = 60 from c]; decide) (by decide) rfl (by decide) ?_
    simp only [mj_step, mj_W_s, mj_fin, List.getElem?_cons_zero, List.getElem?_cons_succ, mj_go, Nat.reduceAdd, Nat.reduceSub, Nat.reduceLT, Nat.reduceLeDiff, Nat.zero_add, Nat.reduceEqDiff, Nat.reduceBEq, ↓reduceIte, Bool.false_eq_true, List.append_nil, List.nil_append, List.cons_append, Option.toList, and_true, true_and, true_or, or_true, reduceCtorEq, List.map_nil, bI_eq0, bI_eq1, bool_ft, pk_us, vnar0, vnar1, Bool.or_false, Bool.or_true, Bool.false_or, Bool.true_or, mj_kne, eq_self, Int32.reduceLT, Int32.reduceLE, Int32.reduceAdd, Int32.reduceSub, Int32.reduceMul, not_true_eq_false, not_false_eq_true, false_implies, true_implies, D_X12_both_0, D_X12_both_1, mj_F_goto_off, mj_F_i2l, mj_F_iconst_n, mj_F_ifCond_eq_off, mj_F_ifCond_ne_off, mj_F_if_icmp_ge_off, mj_F_if_icmp_le_off, mj_F_if_icmp_ne_off, mj_F_iload_n_k, mj_F_invokestatic_i, mj_F_ireturn, mj_F_ladd, mj_F_ldiv, mj_F_lmul, mj_F_lsub, mj_kc, L_X12_both, List.take_succ_cons, List.take_zero, List.drop_succ_cons, List.drop_zero, List.reverse_cons, List.reverse_nil, List.length_cons, List.length_nil, J_X12_both]
    refine ⟨fun c => ?_, fun c => ?_⟩
    · replace hw := ok_t hw c
      exact (ok_some hw :)
    · replace hw := ok_f hw c
      exact (ok_some hw :)
  replace hw := ok_f hw c10
  by_cases c11 : v0 = 61
  · replace hw := ok_t hw c11
    have c := c11
    refine mj_tsc 23 159 (by rw [show v0 = 61 from c]; decide) (by decide) rfl (by decide) ?_
    simp only [mj_step, mj_W_s, mj_fin, List.getElem?_cons_zero, List.getElem?_cons_succ, mj_go, Nat.reduceAdd, Nat.reduceSub, Nat.reduceLT, Nat.reduceLeDiff, Nat.zero_add, Nat.reduceEqDiff, Nat.reduceBEq, ↓reduceIte, Bool.false_eq_true, List.append_nil, List.nil_append, List.cons_append, Option.toList, and_true, true_and, true_or, or_true, reduceCtorEq, List.map_nil, bI_eq0, bI_eq1, bool_ft, pk_us, vnar0, vnar1, Bool.or_false, Bool.or_true, Bool.false_or, Bool.true_or, mj_kne, eq_self, Int32.reduceLT, Int32.reduceLE, Int32.reduceAdd, Int32.reduceSub, Int32.reduceMul, not_true_eq_false, not_false_eq_true, false_implies, true_implies, D_X12_both_0, D_X12_both_1, mj_F_goto_off, mj_F_i2l, mj_F_iconst_n, mj_F_ifCond_eq_off, mj_F_ifCond_ne_off, mj_F_if_icmp_ge_off, mj_F_if_icmp_le_off, mj_F_if_icmp_ne_off, mj_F_iload_n_k, mj_F_invokestatic_i, mj_F_ireturn, mj_F_ladd, mj_F_ldiv, mj_F_lmul, mj_F_lsub, mj_kc, L_X12_both, List.take_succ_cons, List.take_zero, List.drop_succ_cons, List.drop_zero, List.reverse_cons, List.reverse_nil, List.length_cons, List.length_nil, J_X12_both]
    refine ⟨fun c => ?_, fun c => ?_⟩
    · replace hw := ok_f hw c
      exact (ok_some hw :)
    · replace hw := ok_t hw c
      exact (ok_some hw :)
  replace hw := ok_f hw c11
  by_cases c12 : v0 = 62
  · replace hw := ok_t hw c12
    have c := c12
    refine mj_tsc 24 181 (by rw [show v0 = 62 from c]; decide) (by decide) rfl (by decide) ?_
    simp only [mj_step, mj_W_s, mj_fin, List.getElem?_cons_zero, List.getElem?_cons_succ, mj_go, Nat.reduceAdd, Nat.reduceSub, Nat.reduceLT, Nat.reduceLeDiff, Nat.zero_add, Nat.reduceEqDiff, Nat.reduceBEq, ↓reduceIte, Bool.false_eq_true, List.append_nil, List.nil_append, List.cons_append, Option.toList, and_true, true_and, true_or, or_true, reduceCtorEq, List.map_nil, bI_eq0, bI_eq1, bool_ft, pk_us, vnar0, vnar1, Bool.or_false, Bool.or_true, Bool.false_or, Bool.true_or, mj_kne, eq_self, Int32.reduceLT, Int32.reduceLE, Int32.reduceAdd, Int32.reduceSub, Int32.reduceMul, not_true_eq_false, not_false_eq_true, false_implies, true_implies, D_X12_both_0, D_X12_both_1, mj_F_goto_off, mj_F_i2l, mj_F_iconst_n, mj_F_ifCond_eq_off, mj_F_ifCond_ne_off, mj_F_if_icmp_ge_off, mj_F_if_icmp_le_off, mj_F_if_icmp_ne_off, mj_F_iload_n_k, mj_F_invokestatic_i, mj_F_ireturn, mj_F_ladd, mj_F_ldiv, mj_F_lmul, mj_F_lsub, mj_kc, L_X12_both, List.take_succ_cons, List.take_zero, List.drop_succ_cons, List.drop_zero, List.reverse_cons, List.reverse_nil, List.length_cons, List.length_nil, J_X12_both]
    refine ⟨fun c => ?_, fun c => ?_⟩
    · replace hw := ok_t hw c
      exact (ok_some hw :)
    · replace hw := ok_f hw c
      exact (ok_some hw :)
  replace hw := ok_f hw c12
  by_cases c13 : v0 = 39
  · have c := c13
    refine mj_tsc 1 206 (by rw [show v0 = 39 from c]; decide) (by decide) rfl (by decide) ?_
    simp only [mj_step, mj_W_s, mj_fin, List.getElem?_cons_zero, List.getElem?_cons_succ, mj_go, Nat.reduceAdd, Nat.reduceSub, Nat.reduceLT, Nat.reduceLeDiff, Nat.zero_add, Nat.reduceEqDiff, Nat.reduceBEq, ↓reduceIte, Bool.false_eq_true, List.append_nil, List.nil_append, List.cons_append, Option.toList, and_true, true_and, true_or, or_true, reduceCtorEq, List.map_nil, bI_eq0, bI_eq1, bool_ft, pk_us, vnar0, vnar1, Bool.or_false, Bool.or_true, Bool.false_or, Bool.true_or, mj_kne, eq_self, Int32.reduceLT, Int32.reduceLE, Int32.reduceAdd, Int32.reduceSub, Int32.reduceMul, not_true_eq_false, not_false_eq_true, false_implies, true_implies, D_X12_both_0, D_X12_both_1, mj_F_goto_off, mj_F_i2l, mj_F_iconst_n, mj_F_ifCond_eq_off, mj_F_ifCond_ne_off, mj_F_if_icmp_ge_off, mj_F_if_icmp_le_off, mj_F_if_icmp_ne_off, mj_F_iload_n_k, mj_F_invokestatic_i, mj_F_ireturn, mj_F_ladd, mj_F_ldiv, mj_F_lmul, mj_F_lsub, mj_kc, L_X12_both, List.take_succ_cons, List.take_zero, List.drop_succ_cons, List.drop_zero, List.reverse_cons, List.reverse_nil, List.length_cons, List.length_nil, J_X12_both]
    refine ⟨fun c => ?_, fun c => ?_⟩
    · replace hw := ok_f hw c
      exact (ok_some hw :)
    · replace hw := ok_t hw c
      refine ⟨fun c => ?_, fun c => ?_⟩
      · replace hw := ok_t hw c
        exact (ok_some hw :)
      · replace hw := ok_f hw c
        exact (ok_some hw :)
  by_cases c14 : v0 = 40
  · have c := c14
    refine mj_tsc 2 206 (by rw [show v0 = 40 from c]; decide) (by decide) rfl (by decide) ?_
    simp only [mj_step, mj_W_s, mj_fin, List.getElem?_cons_zero, List.getElem?_cons_succ, mj_go, Nat.reduceAdd, Nat.reduceSub, Nat.reduceLT, Nat.reduceLeDiff, Nat.zero_add, Nat.reduceEqDiff, Nat.reduceBEq, ↓reduceIte, Bool.false_eq_true, List.append_nil, List.nil_append, List.cons_append, Option.toList, and_true, true_and, true_or, or_true, reduceCtorEq, List.map_nil, bI_eq0, bI_eq1, bool_ft, pk_us, vnar0, vnar1, Bool.or_false, Bool.or_true, Bool.false_or, Bool.true_or, mj_kne, eq_self, Int32.reduceLT, Int32.reduceLE, Int32.reduceAdd, Int32.reduceSub, Int32.reduceMul, not_true_eq_false, not_false_eq_true, false_implies, true_implies, D_X12_both_0, D_X12_both_1, mj_F_goto_off, mj_F_i2l, mj_F_iconst_n, mj_F_ifCond_eq_off, mj_F_ifCond_ne_off, mj_F_if_icmp_ge_off, mj_F_if_icmp_le_off, mj_F_if_icmp_ne_off, mj_F_iload_n_k, mj_F_invokestatic_i, mj_F_ireturn, mj_F_ladd, mj_F_ldiv, mj_F_lmul, mj_F_lsub, mj_kc, L_X12_both, List.take_succ_cons, List.take_zero, List.drop_succ_cons, List.drop_zero, List.reverse_cons, List.reverse_nil, List.length_cons, List.length_nil, J_X12_both]
    refine ⟨fun c => ?_, fun c => ?_⟩
    · replace hw := ok_f hw c
      exact (ok_some hw :)
    · replace hw := ok_t hw c
      refine ⟨fun c => ?_, fun c => ?_⟩
      · replace hw := ok_t hw c
        exact (ok_some hw :)
      · replace hw := ok_f hw c
        exact (ok_some hw :)
  by_cases c15 : v0 = 41
  · have c := c15
    refine mj_tsc 3 206 (by rw [show v0 = 41 from c]; decide) (by decide) rfl (by decide) ?_
    simp only [mj_step, mj_W_s, mj_fin, List.getElem?_cons_zero, List.getElem?_cons_succ, mj_go, Nat.reduceAdd, Nat.reduceSub, Nat.reduceLT, Nat.reduceLeDiff, Nat.zero_add, Nat.reduceEqDiff, Nat.reduceBEq, ↓reduceIte, Bool.false_eq_true, List.append_nil, List.nil_append, List.cons_append, Option.toList, and_true, true_and, true_or, or_true, reduceCtorEq, List.map_nil, bI_eq0, bI_eq1, bool_ft, pk_us, vnar0, vnar1, Bool.or_false, Bool.or_true, Bool.false_or, Bool.true_or, mj_kne, eq_self, Int32.reduceLT, Int32.reduceLE, Int32.reduceAdd, Int32.reduceSub, Int32.reduceMul, not_true_eq_false, not_false_eq_true, false_implies, true_implies, D_X12_both_0, D_X12_both_1, mj_F_goto_off, mj_F_i2l, mj_F_iconst_n, mj_F_ifCond_eq_off, mj_F_ifCond_ne_off, mj_F_if_icmp_ge_off, mj_F_if_icmp_le_off, mj_F_if_icmp_ne_off, mj_F_iload_n_k, mj_F_invokestatic_i, mj_F_ireturn, mj_F_ladd, mj_F_ldiv, mj_F_lmul, mj_F_lsub, mj_kc, L_X12_both, List.take_succ_cons, List.take_zero, List.drop_succ_cons, List.drop_zero, List.reverse_cons, List.reverse_nil, List.length_cons, List.length_nil, J_X12_both]
    refine ⟨fun c => ?_, fun c => ?_⟩
    · replace hw := ok_f hw c
      exact (ok_some hw :)
    · replace hw := ok_t hw c
      refine ⟨fun c => ?_, fun c => ?_⟩
      · replace hw := ok_t hw c
        exact (ok_some hw :)
      · replace hw := ok_f hw c
        exact (ok_some hw :)
  by_cases c16 : v0 = 44
  · have c := c16
    refine mj_tsc 6 206 (by rw [show v0 = 44 from c]; decide) (by decide) rfl (by decide) ?_
    simp only [mj_step, mj_W_s, mj_fin, List.getElem?_cons_zero, List.getElem?_cons_succ, mj_go, Nat.reduceAdd, Nat.reduceSub, Nat.reduceLT, Nat.reduceLeDiff, Nat.zero_add, Nat.reduceEqDiff, Nat.reduceBEq, ↓reduceIte, Bool.false_eq_true, List.append_nil, List.nil_append, List.cons_append, Option.toList, and_true, true_and, true_or, or_true, reduceCtorEq, List.map_nil, bI_eq0, bI_eq1, bool_ft, pk_us, vnar0, vnar1, Bool.or_false, Bool.or_true, Bool.false_or, Bool.true_or, mj_kne, eq_self, Int32.reduceLT, Int32.reduceLE, Int32.reduceAdd, Int32.reduceSub, Int32.reduceMul, not_true_eq_false, not_false_eq_true, false_implies, true_implies, D_X12_both_0, D_X12_both_1, mj_F_goto_off, mj_F_i2l, mj_F_iconst_n, mj_F_ifCond_eq_off, mj_F_ifCond_ne_off, mj_F_if_icmp_ge_off, mj_F_if_icmp_le_off, mj_F_if_icmp_ne_off, mj_F_iload_n_k, mj_F_invokestatic_i, mj_F_ireturn, mj_F_ladd, mj_F_ldiv, mj_F_lmul, mj_F_lsub, mj_kc, L_X12_both, List.take_succ_cons, List.take_zero, List.drop_succ_cons, List.drop_zero, List.reverse_cons, List.reverse_nil, List.length_cons, List.length_nil, J_X12_both]
    refine ⟨fun c => ?_, fun c => ?_⟩
    · replace hw := ok_f hw c
      exact (ok_some hw :)
    · replace hw := ok_t hw c
      refine ⟨fun c => ?_, fun c => ?_⟩
      · replace hw := ok_t hw c
        exact (ok_some hw :)
      · replace hw := ok_f hw c
        exact (ok_some hw :)
  by_cases c17 : v0 = 46
  · have c := c17
    refine mj_tsc 8 206 (by rw [show v0 = 46 from c]; decide) (by decide) rfl (by decide) ?_
    simp only [mj_step, mj_W_s, mj_fin, List.getElem?_cons_zero, List.getElem?_cons_succ, mj_go, Nat.reduceAdd, Nat.reduceSub, Nat.reduceLT, Nat.reduceLeDiff, Nat.zero_add, Nat.reduceEqDiff, Nat.reduceBEq, ↓reduceIte, Bool.false_eq_true, List.append_nil, List.nil_append, List.cons_append, Option.toList, and_true, true_and, true_or, or_true, reduceCtorEq, List.map_nil, bI_eq0, bI_eq1, bool_ft, pk_us, vnar0, vnar1, Bool.or_false, Bool.or_true, Bool.false_or, Bool.true_or, mj_kne, eq_self, Int32.reduceLT, Int32.reduceLE, Int32.reduceAdd, Int32.reduceSub, Int32.reduceMul, not_true_eq_false, not_false_eq_true, false_implies, true_implies, D_X12_both_0, D_X12_both_1, mj_F_goto_off, mj_F_i2l, mj_F_iconst_n, mj_F_ifCond_eq_off, mj_F_ifCond_ne_off, mj_F_if_icmp_ge_off, mj_F_if_icmp_le_off, mj_F_if_icmp_ne_off, mj_F_iload_n_k, mj_F_invokestatic_i, mj_F_ireturn, mj_F_ladd, mj_F_ldiv, mj_F_lmul, mj_F_lsub, mj_kc, L_X12_both, List.take_succ_cons, List.take_zero, List.drop_succ_cons, List.drop_zero, List.reverse_cons, List.reverse_nil, List.length_cons, List.length_nil, J_X12_both]
    refine ⟨fun c => ?_, fun c => ?_⟩
    · replace hw := ok_f hw c
      exact (ok_some hw :)
    · replace hw := ok_t hw c
      refine ⟨fun c => ?_, fun c => ?_⟩
      · replace hw := ok_t hw c
        exact (ok_some hw :)
      · replace hw := ok_f hw c
        exact (ok_some hw :)
  by_cases c18 : v0 = 48
  · have c := c18
    refine mj_tsc 10 206 (by rw [show v0 = 48 from c]; decide) (by decide) rfl (by decide) ?_
    simp only [mj_step, mj_W_s, mj_fin, List.getElem?_cons_zero, List.getElem?_cons_succ, mj_go, Nat.reduceAdd, Nat.reduceSub, Nat.reduceLT, Nat.reduceLeDiff, Nat.zero_add, Nat.reduceEqDiff, Nat.reduceBEq, ↓reduceIte, Bool.false_eq_true, List.append_nil, List.nil_append, List.cons_append, Option.toList, and_true, true_and, true_or, or_true, reduceCtorEq, List.map_nil, bI_eq0, bI_eq1, bool_ft, pk_us, vnar0, vnar1, Bool.or_false, Bool.or_true, Bool.false_or, Bool.true_or, mj_kne, eq_self, Int32.reduceLT, Int32.reduceLE, Int32.reduceAdd, Int32.reduceSub, Int32.reduceMul, not_true_eq_false, not_false_eq_true, false_implies, true_implies, D_X12_both_0, D_X12_both_1, mj_F_goto_off, mj_F_i2l, mj_F_iconst_n, mj_F_ifCond_eq_off, mj_F_ifCond_ne_off, mj_F_if_icmp_ge_off, mj_F_if_icmp_le_off, mj_F_if_icmp_ne_off, mj_F_iload_n_k, mj_F_invokestatic_i, mj_F_ireturn, mj_F_ladd, mj_F_ldiv, mj_F_lmul, mj_F_lsub, mj_kc, L_X12_both, List.take_succ_cons, List.take_zero, List.drop_succ_cons, List.drop_zero, List.reverse_cons, List.reverse_nil, List.length_cons, List.length_nil, J_X12_both]
    refine ⟨fun c => ?_, fun c => ?_⟩
    · replace hw := ok_f hw c
      exact (ok_some hw :)
    · replace hw := ok_t hw c
      refine ⟨fun c => ?_, fun c => ?_⟩
      · replace hw := ok_t hw c
        exact (ok_some hw :)
      · replace hw := ok_f hw c
        exact (ok_some hw :)
  by_cases c19 : v0 = 49
  · have c := c19
    refine mj_tsc 11 206 (by rw [show v0 = 49 from c]; decide) (by decide) rfl (by decide) ?_
    simp only [mj_step, mj_W_s, mj_fin, List.getElem?_cons_zero, List.getElem?_cons_succ, mj_go, Nat.reduceAdd, Nat.reduceSub, Nat.reduceLT, Nat.reduceLeDiff, Nat.zero_add, Nat.reduceEqDiff, Nat.reduceBEq, ↓reduceIte, Bool.false_eq_true, List.append_nil, List.nil_append, List.cons_append, Option.toList, and_true, true_and, true_or, or_true, reduceCtorEq, List.map_nil, bI_eq0, bI_eq1, bool_ft, pk_us, vnar0, vnar1, Bool.or_false, Bool.or_true, Bool.false_or, Bool.true_or, mj_kne, eq_self, Int32.reduceLT, Int32.reduceLE, Int32.reduceAdd, Int32.reduceSub, Int32.reduceMul, not_true_eq_false, not_false_eq_true, false_implies, true_implies, D_X12_both_0, D_X12_both_1, mj_F_goto_off, mj_F_i2l, mj_F_iconst_n, mj_F_ifCond_eq_off, mj_F_ifCond_ne_off, mj_F_if_icmp_ge_off, mj_F_if_icmp_le_off, mj_F_if_icmp_ne_off, mj_F_iload_n_k, mj_F_invokestatic_i, mj_F_ireturn, mj_F_ladd, mj_F_ldiv, mj_F_lmul, mj_F_lsub, mj_kc, L_X12_both, List.take_succ_cons, List.take_zero, List.drop_succ_cons, List.drop_zero, List.reverse_cons, List.reverse_nil, List.length_cons, List.length_nil, J_X12_both]
    refine ⟨fun c => ?_, fun c => ?_⟩
    · replace hw := ok_f hw c
      exact (ok_some hw :)
    · replace hw := ok_t hw c
      refine ⟨fun c => ?_, fun c => ?_⟩
      · replace hw := ok_t hw c
        exact (ok_some hw :)
      · replace hw := ok_f hw c
        exact (ok_some hw :)
  by_cases c20 : v0 = 50
  · have c := c20
    refine mj_tsc 12 206 (by rw [show v0 = 50 from c]; decide) (by decide) rfl (by decide) ?_
    simp only [mj_step, mj_W_s, mj_fin, List.getElem?_cons_zero, List.getElem?_cons_succ, mj_go, Nat.reduceAdd, Nat.reduceSub, Nat.reduceLT, Nat.reduceLeDiff, Nat.zero_add, Nat.reduceEqDiff, Nat.reduceBEq, ↓reduceIte, Bool.false_eq_true, List.append_nil, List.nil_append, List.cons_append, Option.toList, and_true, true_and, true_or, or_true, reduceCtorEq, List.map_nil, bI_eq0, bI_eq1, bool_ft, pk_us, vnar0, vnar1, Bool.or_false, Bool.or_true, Bool.false_or, Bool.true_or, mj_kne, eq_self, Int32.reduceLT, Int32.reduceLE, Int32.reduceAdd, Int32.reduceSub, Int32.reduceMul, not_true_eq_false, not_false_eq_true, false_implies, true_implies, D_X12_both_0, D_X12_both_1, mj_F_goto_off, mj_F_i2l, mj_F_iconst_n, mj_F_ifCond_eq_off, mj_F_ifCond_ne_off, mj_F_if_icmp_ge_off, mj_F_if_icmp_le_off, mj_F_if_icmp_ne_off, mj_F_iload_n_k, mj_F_invokestatic_i, mj_F_ireturn, mj_F_ladd, mj_F_ldiv, mj_F_lmul, mj_F_lsub, mj_kc, L_X12_both, List.take_succ_cons, List.take_zero, List.drop_succ_cons, List.drop_zero, List.reverse_cons, List.reverse_nil, List.length_cons, List.length_nil, J_X12_both]
    refine ⟨fun c => ?_, fun c => ?_⟩
    · replace hw := ok_f hw c
      exact (ok_some hw :)
    · replace hw := ok_t hw c
      refine ⟨fun c => ?_, fun c => ?_⟩
      · replace hw := ok_t hw c
        exact (ok_some hw :)
      · replace hw := ok_f hw c
        exact (ok_some hw :)
  by_cases c21 : v0 = 51
  · have c := c21
    refine mj_tsc 13 206 (by rw [show v0 = 51 from c]; decide) (by decide) rfl (by decide) ?_
    simp only [mj_step, mj_W_s, mj_fin, List.getElem?_cons_zero, List.getElem?_cons_succ, mj_go, Nat.reduceAdd, Nat.reduceSub, Nat.reduceLT, Nat.reduceLeDiff, Nat.zero_add, Nat.reduceEqDiff, Nat.reduceBEq, ↓reduceIte, Bool.false_eq_true, List.append_nil, List.nil_append, List.cons_append, Option.toList, and_true, true_and, true_or, or_true, reduceCtorEq, List.map_nil, bI_eq0, bI_eq1, bool_ft, pk_us, vnar0, vnar1, Bool.or_false, Bool.or_true, Bool.false_or, Bool.true_or, mj_kne, eq_self, Int32.reduceLT, Int32.reduceLE, Int32.reduceAdd, Int32.reduceSub, Int32.reduceMul, not_true_eq_false, not_false_eq_true, false_implies, true_implies, D_X12_both_0, D_X12_both_1, mj_F_goto_off, mj_F_i2l, mj_F_iconst_n, mj_F_ifCond_eq_off, mj_F_ifCond_ne_off, mj_F_if_icmp_ge_off, mj_F_if_icmp_le_off, mj_F_if_icmp_ne_off, mj_F_iload_n_k, mj_F_invokestatic_i, mj_F_ireturn, mj_F_ladd, mj_F_ldiv, mj_F_lmul, mj_F_lsub, mj_kc, L_X12_both, List.take_succ_cons, List.take_zero, List.drop_succ_cons, List.drop_zero, List.reverse_cons, List.reverse_nil, List.length_cons, List.length_nil, J_X12_both]
    refine ⟨fun c => ?_, fun c => ?_⟩
    · replace hw := ok_f hw c
      exact (ok_some hw :)
    · replace hw := ok_t hw c
      refine ⟨fun c => ?_, fun c => ?_⟩
      · replace hw := ok_t hw c
        exact (ok_some hw :)
      · replace hw := ok_f hw c
        exact (ok_some hw :)
  by_cases c22 : v0 = 52
  · have c := c22
    refine mj_tsc 14 206 (by rw [show v0 = 52 from c]; decide) (by decide) rfl (by decide) ?_
    simp only [mj_step, mj_W_s, mj_fin, List.getElem?_cons_zero, List.getElem?_cons_succ, mj_go, Nat.reduceAdd, Nat.reduceSub, Nat.reduceLT, Nat.reduceLeDiff, Nat.zero_add, Nat.reduceEqDiff, Nat.reduceBEq, ↓reduceIte, Bool.false_eq_true, List.append_nil, List.nil_append, List.cons_append, Option.toList, and_true, true_and, true_or, or_true, reduceCtorEq, List.map_nil, bI_eq0, bI_eq1, bool_ft, pk_us, vnar0, vnar1, Bool.or_false, Bool.or_true, Bool.false_or, Bool.true_or, mj_kne, eq_self, Int32.reduceLT, Int32.reduceLE, Int32.reduceAdd, Int32.reduceSub, Int32.reduceMul, not_true_eq_false, not_false_eq_true, false_implies, true_implies, D_X12_both_0, D_X12_both_1, mj_F_goto_off, mj_F_i2l, mj_F_iconst_n, mj_F_ifCond_eq_off, mj_F_ifCond_ne_off, mj_F_if_icmp_ge_off, mj_F_if_icmp_le_off, mj_F_if_icmp_ne_off, mj_F_iload_n_k, mj_F_invokestatic_i, mj_F_ireturn, mj_F_ladd, mj_F_ldiv, mj_F_lmul, mj_F_lsub, mj_kc, L_X12_both, List.take_succ_cons, List.take_zero, List.drop_succ_cons, List.drop_zero, List.reverse_cons, List.reverse_nil, List.length_cons, List.length_nil, J_X12_both]
    refine ⟨fun c => ?_, fun c => ?_⟩
    · replace hw := ok_f hw c
      exact (ok_some hw :)
    · replace hw := ok_t hw c
      refine ⟨fun c => ?_, fun c => ?_⟩
      · replace hw := ok_t hw c
        exact (ok_some hw :)
      · replace hw := ok_f hw c
        exact (ok_some hw :)
  by_cases c23 : v0 = 53
  · have c := c23
    refine mj_tsc 15 206 (by rw [show v0 = 53 from c]; decide) (by decide) rfl (by decide) ?_
    simp only [mj_step, mj_W_s, mj_fin, List.getElem?_cons_zero, List.getElem?_cons_succ, mj_go, Nat.reduceAdd, Nat.reduceSub, Nat.reduceLT, Nat.reduceLeDiff, Nat.zero_add, Nat.reduceEqDiff, Nat.reduceBEq, ↓reduceIte, Bool.false_eq_true, List.append_nil, List.nil_append, List.cons_append, Option.toList, and_true, true_and, true_or, or_true, reduceCtorEq, List.map_nil, bI_eq0, bI_eq1, bool_ft, pk_us, vnar0, vnar1, Bool.or_false, Bool.or_true, Bool.false_or, Bool.true_or, mj_kne, eq_self, Int32.reduceLT, Int32.reduceLE, Int32.reduceAdd, Int32.reduceSub, Int32.reduceMul, not_true_eq_false, not_false_eq_true, false_implies, true_implies, D_X12_both_0, D_X12_both_1, mj_F_goto_off, mj_F_i2l, mj_F_iconst_n, mj_F_ifCond_eq_off, mj_F_ifCond_ne_off, mj_F_if_icmp_ge_off, mj_F_if_icmp_le_off, mj_F_if_icmp_ne_off, mj_F_iload_n_k, mj_F_invokestatic_i, mj_F_ireturn, mj_F_ladd, mj_F_ldiv, mj_F_lmul, mj_F_lsub, mj_kc, L_X12_both, List.take_succ_cons, List.take_zero, List.drop_succ_cons, List.drop_zero, List.reverse_cons, List.reverse_nil, List.length_cons, List.length_nil, J_X12_both]
    refine ⟨fun c => ?_, fun c => ?_⟩
    · replace hw := ok_f hw c
      exact (ok_some hw :)
    · replace hw := ok_t hw c
      refine ⟨fun c => ?_, fun c => ?_⟩
      · replace hw := ok_t hw c
        exact (ok_some hw :)
      · replace hw := ok_f hw c
        exact (ok_some hw :)
  by_cases c24 : v0 = 54
  · have c := c24
    refine mj_tsc 16 206 (by rw [show v0 = 54 from c]; decide) (by decide) rfl (by decide) ?_
    simp only [mj_step, mj_W_s, mj_fin, List.getElem?_cons_zero, List.getElem?_cons_succ, mj_go, Nat.reduceAdd, Nat.reduceSub, Nat.reduceLT, Nat.reduceLeDiff, Nat.zero_add, Nat.reduceEqDiff, Nat.reduceBEq, ↓reduceIte, Bool.false_eq_true, List.append_nil, List.nil_append, List.cons_append, Option.toList, and_true, true_and, true_or, or_true, reduceCtorEq, List.map_nil, bI_eq0, bI_eq1, bool_ft, pk_us, vnar0, vnar1, Bool.or_false, Bool.or_true, Bool.false_or, Bool.true_or, mj_kne, eq_self, Int32.reduceLT, Int32.reduceLE, Int32.reduceAdd, Int32.reduceSub, Int32.reduceMul, not_true_eq_false, not_false_eq_true, false_implies, true_implies, D_X12_both_0, D_X12_both_1, mj_F_goto_off, mj_F_i2l, mj_F_iconst_n, mj_F_ifCond_eq_off, mj_F_ifCond_ne_off, mj_F_if_icmp_ge_off, mj_F_if_icmp_le_off, mj_F_if_icmp_ne_off, mj_F_iload_n_k, mj_F_invokestatic_i, mj_F_ireturn, mj_F_ladd, mj_F_ldiv, mj_F_lmul, mj_F_lsub, mj_kc, L_X12_both, List.take_succ_cons, List.take_zero, List.drop_succ_cons, List.drop_zero, List.reverse_cons, List.reverse_nil, List.length_cons, List.length_nil, J_X12_both]
    refine ⟨fun c => ?_, fun c => ?_⟩
    · replace hw := ok_f hw c
      exact (ok_some hw :)
    · replace hw := ok_t hw c
      refine ⟨fun c => ?_, fun c => ?_⟩
      · replace hw := ok_t hw c
        exact (ok_some hw :)
      · replace hw := ok_f hw c
        exact (ok_some hw :)
  by_cases c25 : v0 = 55
  · have c := c25
    refine mj_tsc 17 206 (by rw [show v0 = 55 from c]; decide) (by decide) rfl (by decide) ?_
    simp only [mj_step, mj_W_s, mj_fin, List.getElem?_cons_zero, List.getElem?_cons_succ, mj_go, Nat.reduceAdd, Nat.reduceSub, Nat.reduceLT, Nat.reduceLeDiff, Nat.zero_add, Nat.reduceEqDiff, Nat.reduceBEq, ↓reduceIte, Bool.false_eq_true, List.append_nil, List.nil_append, List.cons_append, Option.toList, and_true, true_and, true_or, or_true, reduceCtorEq, List.map_nil, bI_eq0, bI_eq1, bool_ft, pk_us, vnar0, vnar1, Bool.or_false, Bool.or_true, Bool.false_or, Bool.true_or, mj_kne, eq_self, Int32.reduceLT, Int32.reduceLE, Int32.reduceAdd, Int32.reduceSub, Int32.reduceMul, not_true_eq_false, not_false_eq_true, false_implies, true_implies, D_X12_both_0, D_X12_both_1, mj_F_goto_off, mj_F_i2l, mj_F_iconst_n, mj_F_ifCond_eq_off, mj_F_ifCond_ne_off, mj_F_if_icmp_ge_off, mj_F_if_icmp_le_off, mj_F_if_icmp_ne_off, mj_F_iload_n_k, mj_F_invokestatic_i, mj_F_ireturn, mj_F_ladd, mj_F_ldiv, mj_F_lmul, mj_F_lsub, mj_kc, L_X12_both, List.take_succ_cons, List.take_zero, List.drop_succ_cons, List.drop_zero, List.reverse_cons, List.reverse_nil, List.length_cons, List.length_nil, J_X12_both]
    refine ⟨fun c => ?_, fun c => ?_⟩
    · replace hw := ok_f hw c
      exact (ok_some hw :)
    · replace hw := ok_t hw c
      refine ⟨fun c => ?_, fun c => ?_⟩
      · replace hw := ok_t hw c
        exact (ok_some hw :)
      · replace hw := ok_f hw c
        exact (ok_some hw :)
  by_cases c26 : v0 = 56
  · have c := c26
    refine mj_tsc 18 206 (by rw [show v0 = 56 from c]; decide) (by decide) rfl (by decide) ?_
    simp only [mj_step, mj_W_s, mj_fin, List.getElem?_cons_zero, List.getElem?_cons_succ, mj_go, Nat.reduceAdd, Nat.reduceSub, Nat.reduceLT, Nat.reduceLeDiff, Nat.zero_add, Nat.reduceEqDiff, Nat.reduceBEq, ↓reduceIte, Bool.false_eq_true, List.append_nil, List.nil_append, List.cons_append, Option.toList, and_true, true_and, true_or, or_true, reduceCtorEq, List.map_nil, bI_eq0, bI_eq1, bool_ft, pk_us, vnar0, vnar1, Bool.or_false, Bool.or_true, Bool.false_or, Bool.true_or, mj_kne, eq_self, Int32.reduceLT, Int32.reduceLE, Int32.reduceAdd, Int32.reduceSub, Int32.reduceMul, not_true_eq_false, not_false_eq_true, false_implies, true_implies, D_X12_both_0, D_X12_both_1, mj_F_goto_off, mj_F_i2l, mj_F_iconst_n, mj_F_ifCond_eq_off, mj_F_ifCond_ne_off, mj_F_if_icmp_ge_off, mj_F_if_icmp_le_off, mj_F_if_icmp_ne_off, mj_F_iload_n_k, mj_F_invokestatic_i, mj_F_ireturn, mj_F_ladd, mj_F_ldiv, mj_F_lmul, mj_F_lsub, mj_kc, L_X12_both, List.take_succ_cons, List.take_zero, List.drop_succ_cons, List.drop_zero, List.reverse_cons, List.reverse_nil, List.length_cons, List.length_nil, J_X12_both]
    refine ⟨fun c => ?_, fun c => ?_⟩
    · replace hw := ok_f hw c
      exact (ok_some hw :)
    · replace hw := ok_t hw c
      refine ⟨fun c => ?_, fun c => ?_⟩
      · replace hw := ok_t hw c
        exact (ok_some hw :)
      · replace hw := ok_f hw c
        exact (ok_some hw :)
  by_cases c27 : v0 = 57
  · have c := c27
    refine mj_tsc 19 206 (by rw [show v0 = 57 from c]; decide) (by decide) rfl (by decide) ?_
    simp only [mj_step, mj_W_s, mj_fin, List.getElem?_cons_zero, List.getElem?_cons_succ, mj_go, Nat.reduceAdd, Nat.reduceSub, Nat.reduceLT, Nat.reduceLeDiff, Nat.zero_add, Nat.reduceEqDiff, Nat.reduceBEq, ↓reduceIte, Bool.false_eq_true, List.append_nil, List.nil_append, List.cons_append, Option.toList, and_true, true_and, true_or, or_true, reduceCtorEq, List.map_nil, bI_eq0, bI_eq1, bool_ft, pk_us, vnar0, vnar1, Bool.or_false, Bool.or_true, Bool.false_or, Bool.true_or, mj_kne, eq_self, Int32.reduceLT, Int32.reduceLE, Int32.reduceAdd, Int32.reduceSub, Int32.reduceMul, not_true_eq_false, not_false_eq_true, false_implies, true_implies, D_X12_both_0, D_X12_both_1, mj_F_goto_off, mj_F_i2l, mj_F_iconst_n, mj_F_ifCond_eq_off, mj_F_ifCond_ne_off, mj_F_if_icmp_ge_off, mj_F_if_icmp_le_off, mj_F_if_icmp_ne_off, mj_F_iload_n_k, mj_F_invokestatic_i, mj_F_ireturn, mj_F_ladd, mj_F_ldiv, mj_F_lmul, mj_F_lsub, mj_kc, L_X12_both, List.take_succ_cons, List.take_zero, List.drop_succ_cons, List.drop_zero, List.reverse_cons, List.reverse_nil, List.length_cons, List.length_nil, J_X12_both]
    refine ⟨fun c => ?_, fun c => ?_⟩
    · replace hw := ok_f hw c
      exact (ok_some hw :)
    · replace hw := ok_t hw c
      refine ⟨fun c => ?_, fun c => ?_⟩
      · replace hw := ok_t hw c
        exact (ok_some hw :)
      · replace hw := ok_f hw c
        exact (ok_some hw :)
  by_cases c28 : v0 = 58
  · have c := c28
    refine mj_tsc 20 206 (by rw [show v0 = 58 from c]; decide) (by decide) rfl (by decide) ?_
    simp only [mj_step, mj_W_s, mj_fin, List.getElem?_cons_zero, List.getElem?_cons_succ, mj_go, Nat.reduceAdd, Nat.reduceSub, Nat.reduceLT, Nat.reduceLeDiff, Nat.zero_add, Nat.reduceEqDiff, Nat.reduceBEq, ↓reduceIte, Bool.false_eq_true, List.append_nil, List.nil_append, List.cons_append, Option.toList, and_true, true_and, true_or, or_true, reduceCtorEq, List.map_nil, bI_eq0, bI_eq1, bool_ft, pk_us, vnar0, vnar1, Bool.or_false, Bool.or_true, Bool.false_or, Bool.true_or, mj_kne, eq_self, Int32.reduceLT, Int32.reduceLE, Int32.reduceAdd, Int32.reduceSub, Int32.reduceMul, not_true_eq_false, not_false_eq_true, false_implies, true_implies, D_X12_both_0, D_X12_both_1, mj_F_goto_off, mj_F_i2l, mj_F_iconst_n, mj_F_ifCond_eq_off, mj_F_ifCond_ne_off, mj_F_if_icmp_ge_off, mj_F_if_icmp_le_off, mj_F_if_icmp_ne_off, mj_F_iload_n_k, mj_F_invokestatic_i, mj_F_ireturn, mj_F_ladd, mj_F_ldiv, mj_F_lmul, mj_F_lsub, mj_kc, L_X12_both, List.take_succ_cons, List.take_zero, List.drop_succ_cons, List.drop_zero, List.reverse_cons, List.reverse_nil, List.length_cons, List.length_nil, J_X12_both]
    refine ⟨fun c => ?_, fun c => ?_⟩
    · replace hw := ok_f hw c
      exact (ok_some hw :)
    · replace hw := ok_t hw c
      refine ⟨fun c => ?_, fun c => ?_⟩
      · replace hw := ok_t hw c
        exact (ok_some hw :)
      · replace hw := ok_f hw c
        exact (ok_some hw :)
  by_cases c29 : v0 = 59
  · have c := c29
    refine mj_tsc 21 206 (by rw [show v0 = 59 from c]; decide) (by decide) rfl (by decide) ?_
    simp only [mj_step, mj_W_s, mj_fin, List.getElem?_cons_zero, List.getElem?_cons_succ, mj_go, Nat.reduceAdd, Nat.reduceSub, Nat.reduceLT, Nat.reduceLeDiff, Nat.zero_add, Nat.reduceEqDiff, Nat.reduceBEq, ↓reduceIte, Bool.false_eq_true, List.append_nil, List.nil_append, List.cons_append, Option.toList, and_true, true_and, true_or, or_true, reduceCtorEq, List.map_nil, bI_eq0, bI_eq1, bool_ft, pk_us, vnar0, vnar1, Bool.or_false, Bool.or_true, Bool.false_or, Bool.true_or, mj_kne, eq_self, Int32.reduceLT, Int32.reduceLE, Int32.reduceAdd, Int32.reduceSub, Int32.reduceMul, not_true_eq_false, not_false_eq_true, false_implies, true_implies, D_X12_both_0, D_X12_both_1, mj_F_goto_off, mj_F_i2l, mj_F_iconst_n, mj_F_ifCond_eq_off, mj_F_ifCond_ne_off, mj_F_if_icmp_ge_off, mj_F_if_icmp_le_off, mj_F_if_icmp_ne_off, mj_F_iload_n_k, mj_F_invokestatic_i, mj_F_ireturn, mj_F_ladd, mj_F_ldiv, mj_F_lmul, mj_F_lsub, mj_kc, L_X12_both, List.take_succ_cons, List.take_zero, List.drop_succ_cons, List.drop_zero, List.reverse_cons, List.reverse_nil, List.length_cons, List.length_nil, J_X12_both]
    refine ⟨fun c => ?_, fun c => ?_⟩
    · replace hw := ok_f hw c
      exact (ok_some hw :)
    · replace hw := ok_t hw c
      refine ⟨fun c => ?_, fun c => ?_⟩
      · replace hw := ok_t hw c
        exact (ok_some hw :)
      · replace hw := ok_f hw c
        exact (ok_some hw :)
  refine mj_tsd (mj_tsr [38, 39, 40, 41, 42, 43, 44, 45, 46, 47, 48, 49, 50, 51, 52, 53, 54, 55, 56, 57, 58, 59, 60, 61, 62] (List.forall_mem_cons.mpr ⟨mj_nt c5 rfl, List.forall_mem_cons.mpr ⟨mj_nt c13 rfl, List.forall_mem_cons.mpr ⟨mj_nt c14 rfl, List.forall_mem_cons.mpr ⟨mj_nt c15 rfl, List.forall_mem_cons.mpr ⟨mj_nt c6 rfl, List.forall_mem_cons.mpr ⟨mj_nt c7 rfl, List.forall_mem_cons.mpr ⟨mj_nt c16 rfl, List.forall_mem_cons.mpr ⟨mj_nt c8 rfl, List.forall_mem_cons.mpr ⟨mj_nt c17 rfl, List.forall_mem_cons.mpr ⟨mj_nt c9 rfl, List.forall_mem_cons.mpr ⟨mj_nt c18 rfl, List.forall_mem_cons.mpr ⟨mj_nt c19 rfl, List.forall_mem_cons.mpr ⟨mj_nt c20 rfl, List.forall_mem_cons.mpr ⟨mj_nt c21 rfl, List.forall_mem_cons.mpr ⟨mj_nt c22 rfl, List.forall_mem_cons.mpr ⟨mj_nt c23 rfl, List.forall_mem_cons.mpr ⟨mj_nt c24 rfl, List.forall_mem_cons.mpr ⟨mj_nt c25 rfl, List.forall_mem_cons.mpr ⟨mj_nt c26 rfl, List.forall_mem_cons.mpr ⟨mj_nt c27 rfl, List.forall_mem_cons.mpr ⟨mj_nt c28 rfl, List.forall_mem_cons.mpr ⟨mj_nt c29 rfl, List.forall_mem_cons.mpr ⟨mj_nt c10 rfl, List.forall_mem_cons.mpr ⟨mj_nt c11 rfl, List.forall_mem_cons.mpr ⟨mj_nt c12 rfl, fun _ h => (nomatch h)⟩⟩⟩⟩⟩⟩⟩⟩⟩⟩⟩⟩⟩⟩⟩⟩⟩⟩⟩⟩⟩⟩⟩⟩⟩) (by decide)) (by decide) ?_
  simp only [mj_step, mj_W_s, mj_fin, List.getElem?_cons_zero, List.getElem?_cons_succ, mj_go, Nat.reduceAdd, Nat.reduceSub, Nat.reduceLT, Nat.reduceLeDiff, Nat.zero_add, Nat.reduceEqDiff, Nat.reduceBEq, ↓reduceIte, Bool.false_eq_true, List.append_nil, List.nil_append, List.cons_append, Option.toList, and_true, true_and, true_or, or_true, reduceCtorEq, List.map_nil, bI_eq0, bI_eq1, bool_ft, pk_us, vnar0, vnar1, Bool.or_false, Bool.or_true, Bool.false_or, Bool.true_or, mj_kne, eq_self, Int32.reduceLT, Int32.reduceLE, Int32.reduceAdd, Int32.reduceSub, Int32.reduceMul, not_true_eq_false, not_false_eq_true, false_implies, true_implies, D_X12_both_0, D_X12_both_1, mj_F_goto_off, mj_F_i2l, mj_F_iconst_n, mj_F_ifCond_eq_off, mj_F_ifCond_ne_off, mj_F_if_icmp_ge_off, mj_F_if_icmp_le_off, mj_F_if_icmp_ne_off, mj_F_iload_n_k, mj_F_invokestatic_i, mj_F_ireturn, mj_F_ladd, mj_F_ldiv, mj_F_lmul, mj_F_lsub, mj_kc, L_X12_both, List.take_succ_cons, List.take_zero, List.drop_succ_cons, List.drop_zero, List.reverse_cons, List.reverse_nil, List.length_cons, List.length_nil, J_X12_both]
  refine ⟨fun c => ?_, fun c => ?_⟩
  · replace hw := ok_f hw c
    exact (ok_some hw :)
  · replace hw := ok_t hw c
    refine ⟨fun c => ?_, fun c => ?_⟩
    · replace hw := ok_t hw c
      exact (ok_some hw :)
    · replace hw := ok_f hw c
      exact (ok_some hw :)

def c_X12_both : mj_S := fun as h k => ∃ (v0 : Int32) (v1 : Int32) (v2 : Int32), as = [.int v0, .int v1, .int v2] ∧ ok (F_X12_both v0 v1 v2) (fun p => k (some (.int p)) h)
theorem c_X12_both_in {v0 : Int32} {v1 : Int32} {v2 : Int32} {h : mj_H} {k : Option Value → mj_H → Prop} (hw : ok (F_X12_both v0 v1 v2) (fun p => k (some (.int p)) h)) : c_X12_both [.int v0, .int v1, .int v2] h k := ⟨v0, v1, v2, rfl, hw⟩
theorem m_X12_both (l : Launch) : mj_Met l yX12_both cX12_both 3 ((some FieldType.int)) 2 0 0 c_X12_both := by
  refine mj_body2 false (TbX12 3 ((some FieldType.int)) ct_X12_both) (by decide) rfl rfl (fun h => nomatch h) (tfX12 _ (List.forall_mem_cons.mpr ⟨cfX12_395 (m_X12_bounded l) (by decide), fun _ h => nomatch h⟩)) ?_
  rintro as h k ⟨v0, v1, v2, rfl, hw⟩
  exact ⟨rfl, fun G hG => g_X12_both hG hw⟩
def B_X12_work_2  : Int32 × St → Option ((Int32 × St) ⊕ ((St)))
  | (v1, s) =>
  (rd s 1230 8400 (s.1 1243)).bind fun x1 =>
  if x1 = 2 then
    some (.inr s)
  else
    (rd s 1230 8400 (s.1 1243)).bind fun x2 =>
    if x2 = 3 then
      some (.inr s)
    else
      (rd s 1230 8400 (s.1 1243)).bind fun x3 =>
      (wI s 1243 ((s.1 1243) + 1)).bind fun s4 =>
      if x3 = 0 then
        if x3 = 0 then
          (rd s4 1230 8400 (s4.1 1243)).bind fun x9 =>
          (wr s4 1242 200 v1 x9).bind fun s10 =>
          (wI s10 1243 ((s10.1 1243) + 1)).bind fun s11 =>
          some (.inl ((v1 + 1), s11))
        else
          (rd s4 1230 8400 (s4.1 1243)).bind fun x5 =>
          (rd s4 1241 128 x5).bind fun x6 =>
          (wr s4 1242 200 v1 x6).bind fun s7 =>
          (wI s7 1243 ((s7.1 1243) + 1)).bind fun s8 =>
          some (.inl ((v1 + 1), s8))
      else
        if x3 = 1 then
          if x3 = 0 then
            (rd s4 1230 8400 (s4.1 1243)).bind fun x23 =>
            (wr s4 1242 200 v1 x23).bind fun s24 =>
            (wI s24 1243 ((s24.1 1243) + 1)).bind fun s25 =>
            some (.inl ((v1 + 1), s25))
          else
            (rd s4 1230 8400 (s4.1 1243)).bind fun x19 =>
            (rd s4 1241 128 x19).bind fun x20 =>
            (wr s4 1242 200 v1 x20).bind fun s21 =>
            (wI s21 1243 ((s21.1 1243) + 1)).bind fun s22 =>
            some (.inl ((v1 + 1), s22))
        else
          if x3 = 33 then
            (rd s4 1242 200 (v1 - 1)).bind fun x16 =>
            if x16 = 0 then
              (wr s4 1242 200 (v1 - 1) 1).bind fun s18 =>
              some (.inl (v1, s18))
            else
              (wr s4 1242 200 (v1 - 1) 0).bind fun s17 =>
              some (.inl (v1, s17))
          else
            (rd s4 1242 200 ((v1 + (-1)) - 1)).bind fun x12 =>
            (rd s4 1242 200 (v1 + (-1))).bind fun x13 =>
            (F_X12_both x3 x12 x13).bind fun r14 =>
            (wr s4 1242 200 ((v1 + (-1)) - 1) r14).bind fun s15 =>
            some (.inl ((v1 + (-1)), s15))
def F_X12_work_174 (s : St) : Option (Int32 × St) :=
  (wI s 1243 ((s.1 1243) + 1)).bind fun s26 =>
  (rd s26 1242 200 0).bind fun x27 =>
  some (x27, s26)
def F_X12_work_2 (v1 : Int32) (s : St) : Option (Int32 × St) :=
  (lp (B_X12_work_2 ) FU (v1, s)).bind (fun y => F_X12_work_174 y)
def F_X12_work (s : St) : Option (Int32 × St) :=
  F_X12_work_2 0 s
theorem J_X12_work : mj_t 12 162 = 174 ∧ mj_t 25 149 = 174 ∧ mj_t 49 8 = 57 ∧ mj_t 54 55 = 109 ∧ mj_t 63 15 = 78 ∧ mj_t 75 17 = 92 ∧ mj_t 106 65 = 171 ∧ mj_t 112 30 = 142 ∧ mj_t 130 7 = 137 ∧ mj_t 134 4 = 138 ∧ mj_t 139 32 = 171 ∧ mj_t 171 (-169) = 2 ∧ (0 ≤ ((12 : Nat) : Int) + 162) = True ∧ (0 ≤ ((25 : Nat) : Int) + 149) = True ∧ (0 ≤ ((49 : Nat) : Int) + 8) = True ∧ (0 ≤ ((54 : Nat) : Int) + 55) = True ∧ (0 ≤ ((63 : Nat) : Int) + 15) = True ∧ (0 ≤ ((75 : Nat) : Int) + 17) = True ∧ (0 ≤ ((106 : Nat) : Int) + 65) = True ∧ (0 ≤ ((112 : Nat) : Int) + 30) = True ∧ (0 ≤ ((130 : Nat) : Int) + 7) = True ∧ (0 ≤ ((134 : Nat) : Int) + 4) = True ∧ (0 ≤ ((139 : Nat) : Int) + 32) = True ∧ (0 ≤ ((171 : Nat) : Int) + (-169)) = True := by and_intros <;> first | rfl | exact eq_true (by decide)
def ct_X12_work : List (Nat × mj_Cs) := [(402, 2, 3, 12, 0, 0, c_X12_both)]
theorem L_X12_work : mj_lk ct_X12_work 402 = some (2, 3, 12, 0, 0, c_X12_both) := rfl
set_option maxHeartbeats 4000000 in
set_option maxRecDepth 20000 in
theorem b_X12_work_2 {k : Option Value → mj_H → Prop} {G : mj_K} (hG : mj_cl2 cX12_work (TbX12 3 ((some FieldType.int)) ct_X12_work) k G)  {P : Int32 × St → Prop} {K : (St) → Prop} (hP : ∀ x, P x → G 2 [.ref 0, .int x.1] [] (mkMs x.2) 0 0) (hK0 : ∀ y, K y → G 174 [.ref 0] [] (mkMs y) 0 0) {v1 : Int32} {s : St} (hw : ok (B_X12_work_2  (v1, s)) (Sum.elim P K)) : G 2 [.ref 0, .int v1] [] (mkMs s) 0 0 := by
  unfold B_X12_work_2 at hw
  refine mj_run hG.1 (fun pc => pc == 2 || pc == 170 || pc == 174) 4000 ?_
  simp only [mj_step, mj_W_s, mj_fin, List.getElem?_cons_zero, List.getElem?_cons_succ, mj_go, Nat.reduceAdd, Nat.reduceSub, Nat.reduceLT, Nat.reduceLeDiff, Nat.zero_add, Nat.reduceEqDiff, Nat.reduceBEq, ↓reduceIte, Bool.false_eq_true, List.append_nil, List.nil_append, List.cons_append, Option.toList, and_true, true_and, true_or, or_true, reduceCtorEq, List.map_nil, bI_eq0, bI_eq1, bool_ft, pk_us, vnar0, vnar1, Bool.or_false, Bool.or_true, Bool.false_or, Bool.true_or, mj_kne, eq_self, Int32.reduceLT, Int32.reduceLE, Int32.reduceAdd, Int32.reduceSub, Int32.reduceMul, not_true_eq_false, not_false_eq_true, false_implies, true_implies, D_X12_work_0, D_X12_work_1, D_X12_work_2, mj_F_aload_n_k, mj_F_bipush_n, mj_F_dup, mj_F_getfield_i, mj_F_goto_off, mj_F_iadd, mj_F_iaload, mj_F_iastore, mj_F_iconst_n, mj_F_ifCond_eq_off, mj_F_ifCond_ne_off, mj_F_if_icmp_eq_off, mj_F_if_icmp_ne_off, mj_F_iinc_k_n, mj_F_iload_n_k, mj_F_invokestatic_i, mj_F_ireturn, mj_F_istore_n_k, mj_F_isub, mj_F_putfield_i, mj_set, mj_set0, mj_unk, mj_c2, mj_kc, FT_X12, FT_X12_1, PT_X12, L_X12_work, List.take_succ_cons, List.take_zero, List.drop_succ_cons, List.drop_zero, List.reverse_cons, List.reverse_nil, List.length_cons, List.length_nil, gS_M0, gMf_30, gS_M26, sS_Ma_26, gMf_43, sS_Mf_43, gMl, gMf_42, gS_M32, sS_Ma_32, gMf_41, gS_M31, sS_Ma_31, J_X12_work]
  refine ⟨(ok_rd hw).1, ?_⟩
  replace hw := (ok_rd hw).2
  refine ⟨fun c => ?_, fun c => ?_⟩
  · replace hw := ok_t hw c
    exact hG.2 _ _ _ _ _ _ _ _ _ (by refine ⟨Or.inr rfl, ?_⟩; exact trivial) (Nat.zero_le _) (Nat.zero_le _) (hK0 _ (ok_some hw :) :)
  · replace hw := ok_f hw c
    refine ⟨(ok_rd hw).1, ?_⟩
    replace hw := (ok_rd hw).2
    refine ⟨fun c => ?_, fun c => ?_⟩
    · replace hw := ok_t hw c
      exact hG.2 _ _ _ _ _ _ _ _ _ (by refine ⟨Or.inr rfl, ?_⟩; exact trivial) (Nat.zero_le _) (Nat.zero_le _) (hK0 _ (ok_some hw :) :)
    · replace hw := ok_f hw c
      refine ⟨(ok_rd hw).1, ?_⟩
      replace hw := (ok_rd hw).2
      replace hw := ok_wI hw
      refine ⟨fun c => ?_, fun c => ?_⟩
      · replace hw := ok_t hw c
        refine ⟨fun c => ?_, fun c => ?_⟩
        · replace hw := ok_f hw c
          refine ⟨(ok_rd hw).1, ?_⟩
          replace hw := (ok_rd hw).2
          refine ⟨(ok_rd hw).1, ?_⟩
          replace hw := (ok_rd hw).2
          refine ⟨(ok_wr hw).1, ?_⟩
          replace hw := (ok_wr hw).2
          replace hw := ok_wI hw
          exact hG.2 _ _ _ _ _ _ _ _ _ (by refine ⟨Or.inr rfl, ?_⟩; refine ⟨Or.inr rfl, ?_⟩; exact trivial) (Nat.zero_le _) (Nat.zero_le _) (hP _ (ok_some hw :) :)
        · replace hw := ok_t hw c
          refine ⟨(ok_rd hw).1, ?_⟩
          replace hw := (ok_rd hw).2
          refine ⟨(ok_wr hw).1, ?_⟩
          replace hw := (ok_wr hw).2
          replace hw := ok_wI hw
          exact hG.2 _ _ _ _ _ _ _ _ _ (by refine ⟨Or.inr rfl, ?_⟩; refine ⟨Or.inr rfl, ?_⟩; exact trivial) (Nat.zero_le _) (Nat.zero_le _) (hP _ (ok_some hw :) :)
      · replace hw := ok_f hw c
        refine ⟨fun c => ?_, fun c => ?_⟩
        · replace hw := ok_f hw c
          refine ⟨fun c => ?_, fun c => ?_⟩
          · replace hw := ok_f hw c
            refine ⟨(ok_rd hw).1, ?_⟩
            replace hw := (ok_rd hw).2
            refine ⟨(ok_rd hw).1, ?_⟩
            replace hw := (ok_rd hw).2
            refine c_X12_both_in (ok_imp (ok_bind hw) ?_)
            intro p hw
            simp only [Option.toList, List.nil_append, List.cons_append, Nat.reduceSub]
            refine mj_run hG.1 (fun pc => pc == 2 || pc == 170 || pc == 174) 4000 ?_
            simp only [mj_step, mj_W_s, mj_fin, List.getElem?_cons_zero, List.getElem?_cons_succ, mj_go, Nat.reduceAdd, Nat.reduceSub, Nat.reduceLT, Nat.reduceLeDiff, Nat.zero_add, Nat.reduceEqDiff, Nat.reduceBEq, ↓reduceIte, Bool.false_eq_true, List.append_nil, List.nil_append, List.cons_append, Option.toList, and_true, true_and, true_or, or_true, reduceCtorEq, List.map_nil, bI_eq0, bI_eq1, bool_ft, pk_us, vnar0, vnar1, Bool.or_false, Bool.or_true, Bool.false_or, Bool.true_or, mj_kne, eq_self, Int32.reduceLT, Int32.reduceLE, Int32.reduceAdd, Int32.reduceSub, Int32.reduceMul, not_true_eq_false, not_false_eq_true, false_implies, true_implies, D_X12_work_0, D_X12_work_1, D_X12_work_2, mj_F_aload_n_k, mj_F_bipush_n, mj_F_dup, mj_F_getfield_i, mj_F_goto_off, mj_F_iadd, mj_F_iaload, mj_F_iastore, mj_F_iconst_n, mj_F_ifCond_eq_off, mj_F_ifCond_ne_off, mj_F_if_icmp_eq_off, mj_F_if_icmp_ne_off, mj_F_iinc_k_n, mj_F_iload_n_k, mj_F_invokestatic_i, mj_F_ireturn, mj_F_istore_n_k, mj_F_isub, mj_F_putfield_i, mj_set, mj_set0, mj_unk, mj_c2, mj_kc, FT_X12, FT_X12_1, PT_X12, L_X12_work, List.take_succ_cons, List.take_zero, List.drop_succ_cons, List.drop_zero, List.reverse_cons, List.reverse_nil, List.length_cons, List.length_nil, gS_M0, gMf_30, gS_M26, sS_Ma_26, gMf_43, sS_Mf_43, gMl, gMf_42, gS_M32, sS_Ma_32, gMf_41, gS_M31, sS_Ma_31, J_X12_work]
            refine ⟨(ok_wr hw).1, ?_⟩
            replace hw := (ok_wr hw).2
            exact hG.2 _ _ _ _ _ _ _ _ _ (by refine ⟨Or.inr rfl, ?_⟩; refine ⟨Or.inr rfl, ?_⟩; exact trivial) (Nat.zero_le _) (Nat.zero_le _) (hP _ (ok_some hw :) :)
          · replace hw := ok_t hw c
            refine ⟨(ok_rd hw).1, ?_⟩
            replace hw := (ok_rd hw).2
            refine ⟨fun c => ?_, fun c => ?_⟩
            · replace hw := ok_f hw c
              refine ⟨(ok_wr hw).1, ?_⟩
              replace hw := (ok_wr hw).2
              exact hG.2 _ _ _ _ _ _ _ _ _ (by refine ⟨Or.inr rfl, ?_⟩; refine ⟨Or.inr rfl, ?_⟩; exact trivial) (Nat.zero_le _) (Nat.zero_le _) (hP _ (ok_some hw :) :)
            · replace hw := ok_t hw c
              refine ⟨(ok_wr hw).1, ?_⟩
              replace hw := (ok_wr hw).2
              exact hG.2 _ _ _ _ _ _ _ _ _ (by refine ⟨Or.inr rfl, ?_⟩; refine ⟨Or.inr rfl, ?_⟩; exact trivial) (Nat.zero_le _) (Nat.zero_le _) (hP _ (ok_some hw :) :)
        · replace hw := ok_t hw c
          refine ⟨fun c => ?_, fun c => ?_⟩
          · replace hw := ok_f hw c
            refine ⟨(ok_rd hw).1, ?_⟩
            replace hw := (ok_rd hw).2
            refine ⟨(ok_rd hw).1, ?_⟩
            replace hw := (ok_rd hw).2
            refine ⟨(ok_wr hw).1, ?_⟩
            replace hw := (ok_wr hw).2
            replace hw := ok_wI hw
            exact hG.2 _ _ _ _ _ _ _ _ _ (by refine ⟨Or.inr rfl, ?_⟩; refine ⟨Or.inr rfl, ?_⟩; exact trivial) (Nat.zero_le _) (Nat.zero_le _) (hP _ (ok_some hw :) :)
          · replace hw := ok_t hw c
            refine ⟨(ok_rd hw).1, ?_⟩
            replace hw := (ok_rd hw).2
            refine ⟨(ok_wr hw).1, ?_⟩
            replace hw := (ok_wr hw).2
            replace hw := ok_wI hw
            exact hG.2 _ _ _ _ _ _ _ _ _ (by refine ⟨Or.inr rfl, ?_⟩; refine ⟨Or.inr rfl, ?_⟩; exact trivial) (Nat.zero_le _) (Nat.zero_le _) (hP _ (ok_some hw :) :)

set_option maxHeartbeats 4000000 in
set_option maxRecDepth 20000 in
theorem g_X12_work_174 {k : Option Value → mj_H → Prop} {G : mj_K} (hG : mj_cl2 cX12_work (TbX12 3 ((some FieldType.int)) ct_X12_work) k G)   {s : St} (hw : ok (F_X12_work_174 s) (fun p => k (some (.int p.1)) (mkMs p.2))) : G 174 [.ref 0] [] (mkMs s) 0 0 := by
  unfold F_X12_work_174 at hw
  refine mj_run hG.1 (fun pc => pc == 2 || pc == 170 || pc == 174) 4000 ?_
  simp only [mj_step, mj_W_s, mj_fin, List.getElem?_cons_zero, List.getElem?_cons_succ, mj_go, Nat.reduceAdd, Nat.reduceSub, Nat.reduceLT, Nat.reduceLeDiff, Nat.zero_add, Nat.reduceEqDiff, Nat.reduceBEq, ↓reduceIte, Bool.false_eq_true, List.append_nil, List.nil_append, List.cons_append, Option.toList, and_true, true_and, true_or, or_true, reduceCtorEq, List.map_nil, bI_eq0, bI_eq1, bool_ft, pk_us, vnar0, vnar1, Bool.or_false, Bool.or_true, Bool.false_or, Bool.true_or, mj_kne, eq_self, Int32.reduceLT, Int32.reduceLE, Int32.reduceAdd, Int32.reduceSub, Int32.reduceMul, not_true_eq_false, not_false_eq_true, false_implies, true_implies, D_X12_work_0, D_X12_work_1, D_X12_work_2, mj_F_aload_n_k, mj_F_bipush_n, mj_F_dup, mj_F_getfield_i, mj_F_goto_off, mj_F_iadd, mj_F_iaload, mj_F_iastore, mj_F_iconst_n, mj_F_ifCond_eq_off, mj_F_ifCond_ne_off, mj_F_if_icmp_eq_off, mj_F_if_icmp_ne_off, mj_F_iinc_k_n, mj_F_iload_n_k, mj_F_invokestatic_i, mj_F_ireturn, mj_F_istore_n_k, mj_F_isub, mj_F_putfield_i, mj_set, mj_set0, mj_unk, mj_c2, mj_kc, FT_X12, FT_X12_1, PT_X12, L_X12_work, List.take_succ_cons, List.take_zero, List.drop_succ_cons, List.drop_zero, List.reverse_cons, List.reverse_nil, List.length_cons, List.length_nil, gS_M0, gMf_30, gS_M26, sS_Ma_26, gMf_43, sS_Mf_43, gMl, gMf_42, gS_M32, sS_Ma_32, gMf_41, gS_M31, sS_Ma_31, J_X12_work]
  replace hw := ok_wI hw
  refine ⟨(ok_rd hw).1, ?_⟩
  replace hw := (ok_rd hw).2
  exact (ok_some hw :)

set_option maxHeartbeats 4000000 in
theorem g_X12_work_2 {k : Option Value → mj_H → Prop} {G : mj_K} (hG : mj_cl2 cX12_work (TbX12 3 ((some FieldType.int)) ct_X12_work) k G)   {v1 : Int32} {s : St} (hw : ok (F_X12_work_2 v1 s) (fun p => k (some (.int p.1)) (mkMs p.2))) : G 2 [.ref 0, .int v1] [] (mkMs s) 0 0 := by
  unfold F_X12_work_2 at hw
  refine lp_ok (B_X12_work_2 ) (fun x => G 2 [.ref 0, .int x.1] [] (mkMs x.2) 0 0) _ ?_ _ _ (ok_bind hw)
  rintro ⟨v1, s⟩ hb
  exact b_X12_work_2 hG (fun _ z => z) (fun y hw => by exact hG.2 _ _ _ _ _ _ _ _ _ (by refine ⟨Or.inr rfl, ?_⟩; exact trivial) (Nat.zero_le _) (Nat.zero_le _) (g_X12_work_174 hG  hw :)) hb

set_option maxHeartbeats 4000000 in
set_option maxRecDepth 20000 in
theorem g_X12_work {k : Option Value → mj_H → Prop} {G : mj_K} (hG : mj_cl2 cX12_work (TbX12 3 ((some FieldType.int)) ct_X12_work) k G) {s : St} (hw : ok (F_X12_work s) (fun p => k (some (.int p.1)) (mkMs p.2))) : G 0 [.ref 0] [] (mkMs s) 0 0 := by
  unfold F_X12_work at hw
  refine mj_run hG.1 (fun pc => pc == 2 || pc == 170 || pc == 174) 4000 ?_
  simp only [mj_step, mj_W_s, mj_fin, List.getElem?_cons_zero, List.getElem?_cons_succ, mj_go, Nat.reduceAdd, Nat.reduceSub, Nat.reduceLT, Nat.reduceLeDiff, Nat.zero_add, Nat.reduceEqDiff, Nat.reduceBEq, ↓reduceIte, Bool.false_eq_true, List.append_nil, List.nil_append, List.cons_append, Option.toList, and_true, true_and, true_or, or_true, reduceCtorEq, List.map_nil, bI_eq0, bI_eq1, bool_ft, pk_us, vnar0, vnar1, Bool.or_false, Bool.or_true, Bool.false_or, Bool.true_or, mj_kne, eq_self, Int32.reduceLT, Int32.reduceLE, Int32.reduceAdd, Int32.reduceSub, Int32.reduceMul, not_true_eq_false, not_false_eq_true, false_implies, true_implies, D_X12_work_0, D_X12_work_1, D_X12_work_2, mj_F_aload_n_k, mj_F_bipush_n, mj_F_dup, mj_F_getfield_i, mj_F_goto_off, mj_F_iadd, mj_F_iaload, mj_F_iastore, mj_F_iconst_n, mj_F_ifCond_eq_off, mj_F_ifCond_ne_off, mj_F_if_icmp_eq_off, mj_F_if_icmp_ne_off, mj_F_iinc_k_n, mj_F_iload_n_k, mj_F_invokestatic_i, mj_F_ireturn, mj_F_istore_n_k, mj_F_isub, mj_F_putfield_i, mj_set, mj_set0, mj_unk, mj_c2, mj_kc, FT_X12, FT_X12_1, PT_X12, L_X12_work, List.take_succ_cons, List.take_zero, List.drop_succ_cons, List.drop_zero, List.reverse_cons, List.reverse_nil, List.length_cons, List.length_nil, gS_M0, gMf_30, gS_M26, sS_Ma_26, gMf_43, sS_Mf_43, gMl, gMf_42, gS_M32, sS_Ma_32, gMf_41, gS_M31, sS_Ma_31, J_X12_work]
  exact hG.2 _ _ _ _ _ _ _ _ _ (by refine ⟨Or.inr rfl, ?_⟩; refine ⟨Or.inr rfl, ?_⟩; exact trivial) (Nat.zero_le _) (Nat.zero_le _) (g_X12_work_2 hG  hw :)

def c_X12_work : mj_S := fun as h k => ∃ (s : St), as = [.ref 0] ∧ h = mkMs s ∧ ok (F_X12_work s) (fun p => k (some (.int p.1)) (mkMs p.2))
theorem c_X12_work_in {s : St} {k : Option Value → mj_H → Prop} (hw : ok (F_X12_work s) (fun p => k (some (.int p.1)) (mkMs p.2))) : c_X12_work [.ref 0] (mkMs s) k := ⟨s, rfl, rfl, hw⟩
theorem m_X12_work (l : Launch) : mj_Met l yX12_work cX12_work 3 ((some FieldType.int)) 3 0 0 c_X12_work := by
  refine mj_body2 false (TbX12 3 ((some FieldType.int)) ct_X12_work) (by decide) rfl rfl (fun h => nomatch h) (tfX12 _ (List.forall_mem_cons.mpr ⟨cfX12_402 (m_X12_both l) (by decide), fun _ h => nomatch h⟩)) ?_
  rintro as h k ⟨s, rfl, rfl, hw⟩
  exact ⟨rfl, fun G hG => g_X12_work hG hw⟩
def B_X12_says_9 (v1 : Int32) (v2 : Int32) : St → Option ((St) ⊕ ((St) ⊕ (Int32 × St)))
  | s =>
  (rd s 1231 20 v1).bind fun x2 =>
  if ((420 * v1) + x2) ≤ (s.1 1243) then
    some (.inr (.inl s))
  else
    (rd s 1230 8400 (s.1 1243)).bind fun x3 =>
    if x3 = v2 then
      (wI s 1243 ((s.1 1243) + 1)).bind fun s8 =>
      (F_X12_work s8).bind fun r9 =>
      if r9.1 = 0 then
        (F_X12_work r9.2).bind fun r10 =>
        some (.inl r10.2)
      else
        (F_X12_work r9.2).bind fun r11 =>
        some (.inr (.inr (r11.1, r11.2)))
    else
      (wI s 1243 ((s.1 1243) + 1)).bind fun s4 =>
      (F_X12_work s4).bind fun r5 =>
      if r5.1 = 0 then
        (F_X12_work r5.2).bind fun r6 =>
        some (.inl r6.2)
      else
        (F_X12_work r5.2).bind fun r7 =>
        some (.inl r7.2)
def F_X12_says_97 (s : St) : Option (Int32 × St) :=
  some (0, s)
def F_X12_says_86 (v5 : Int32) (s : St) : Option (Int32 × St) :=
  (wI s 1244 v5).bind fun s12 =>
  some (1, s12)
def F_X12_says_9 (v1 : Int32) (v2 : Int32) (s : St) : Option (Int32 × St) :=
  (lp (B_X12_says_9 v1 v2) FU s).bind (Sum.elim (fun y => F_X12_says_97 y) (fun y => F_X12_says_86 y.1 y.2))
def F_X12_says (v1 : Int32) (v2 : Int32) (s : St) : Option (Int32 × St) :=
  (wI s 1243 (420 * v1)).bind fun s1 =>
  F_X12_says_9 v1 v2 s1
theorem J_X12_says : mj_t 25 72 = 97 ∧ mj_t 38 7 = 45 ∧ mj_t 42 4 = 46 ∧ mj_t 61 7 = 68 ∧ mj_t 65 4 = 69 ∧ mj_t 78 16 = 94 ∧ mj_t 83 11 = 94 ∧ mj_t 94 (-85) = 9 ∧ (0 ≤ ((25 : Nat) : Int) + 72) = True ∧ (0 ≤ ((38 : Nat) : Int) + 7) = True ∧ (0 ≤ ((42 : Nat) : Int) + 4) = True ∧ (0 ≤ ((61 : Nat) : Int) + 7) = True ∧ (0 ≤ ((65 : Nat) : Int) + 4) = True ∧ (0 ≤ ((78 : Nat) : Int) + 16) = True ∧ (0 ≤ ((83 : Nat) : Int) + 11) = True ∧ (0 ≤ ((94 : Nat) : Int) + (-85)) = True := by and_intros <;> first | rfl | exact eq_true (by decide)
def ct_X12_says : List (Nat × mj_Cs) := [(405, 0, 1, 12, 0, 0, c_X12_work)]
theorem L_X12_says : mj_lk ct_X12_says 405 = some (0, 1, 12, 0, 0, c_X12_work) := rfl
set_option maxHeartbeats 4000000 in
set_option maxRecDepth 20000 in
theorem b_X12_says_9 {k : Option Value → mj_H → Prop} {G : mj_K} (hG : mj_cl2 cX12_says (TbX12 6 ((some FieldType.boolean)) ct_X12_says) k G) {v1 : Int32} {v2 : Int32} {P : St → Prop} {K : (St) ⊕ (Int32 × St) → Prop} (hP : ∀ x, P x → G 9 [.ref 0, .int v1, .int v2] [] (mkMs x) 0 0) (hK0 : ∀ y, K (.inl y) → G 97 [] [] (mkMs y) 0 0) (hK1 : ∀ y, K (.inr y) → G 86 [.ref 0, mj_unk, mj_unk, mj_unk, mj_unk, .int y.1] [] (mkMs y.2) 0 0) {s : St} (hw : ok (B_X12_says_9 v1 v2 s) (Sum.elim P K)) : G 9 [.ref 0, .int v1, .int v2] [] (mkMs s) 0 0 := by
  unfold B_X12_says_9 at hw
  refine mj_run hG.1 (fun pc => pc == 9 || pc == 61 || pc == 75 || pc == 86 || pc == 97) 4000 ?_
  simp only [mj_step, mj_W_s, mj_fin, List.getElem?_cons_zero, List.getElem?_cons_succ, mj_go, Nat.reduceAdd, Nat.reduceSub, Nat.reduceLT, Nat.reduceLeDiff, Nat.zero_add, Nat.reduceEqDiff, Nat.reduceBEq, ↓reduceIte, Bool.false_eq_true, List.append_nil, List.nil_append, List.cons_append, Option.toList, and_true, true_and, true_or, or_true, reduceCtorEq, List.map_nil, bI_eq0, bI_eq1, bool_ft, pk_us, vnar0, vnar1, Bool.or_false, Bool.or_true, Bool.false_or, Bool.true_or, mj_kne, eq_self, Int32.reduceLT, Int32.reduceLE, Int32.reduceAdd, Int32.reduceSub, Int32.reduceMul, not_true_eq_false, not_false_eq_true, false_implies, true_implies, D_X12_says_0, D_X12_says_1, mj_F_aload_n_k, mj_F_dup, mj_F_getfield_i, mj_F_goto_off, mj_F_iadd, mj_F_iaload, mj_F_iconst_n, mj_F_ifCond_eq_off, mj_F_if_icmp_ge_off, mj_F_if_icmp_ne_off, mj_F_iload_k, mj_F_iload_n_k, mj_F_imul, mj_F_invokevirtual_i, mj_F_ireturn, mj_F_istore_k, mj_F_istore_n_k, mj_F_putfield_i, mj_F_sipush_n, mj_set, mj_set0, mj_unk, mj_c2, mj_kc, FT_X12, FT_X12_1, PT_X12, L_X12_says, List.take_succ_cons, List.take_zero, List.drop_succ_cons, List.drop_zero, List.reverse_cons, List.reverse_nil, List.length_cons, List.length_nil, gS_M0, gMf_43, sS_Mf_43, gMl, gMf_31, gS_M27, sS_Ma_27, gMf_30, gS_M26, sS_Ma_26, gMf_44, sS_Mf_44, J_X12_says]
  refine ⟨(ok_rd hw).1, ?_⟩
  replace hw := (ok_rd hw).2
  refine ⟨fun c => ?_, fun c => ?_⟩
  · replace hw := ok_t hw c
    exact hG.2 _ _ _ _ _ _ _ _ _ (by exact trivial) (Nat.zero_le _) (Nat.zero_le _) (hK0 _ (ok_some hw :) :)
  · replace hw := ok_f hw c
    refine ⟨(ok_rd hw).1, ?_⟩
    replace hw := (ok_rd hw).2
    refine ⟨fun c => ?_, fun c => ?_⟩
    · replace hw := ok_f hw c
      replace hw := ok_wI hw
      refine c_X12_work_in (ok_imp (ok_bind hw) ?_)
      intro p hw
      simp only [Option.toList, List.nil_append, List.cons_append, Nat.reduceSub]
      refine mj_run hG.1 (fun pc => pc == 9 || pc == 61 || pc == 75 || pc == 86 || pc == 97) 4000 ?_
      simp only [mj_step, mj_W_s, mj_fin, List.getElem?_cons_zero, List.getElem?_cons_succ, mj_go, Nat.reduceAdd, Nat.reduceSub, Nat.reduceLT, Nat.reduceLeDiff, Nat.zero_add, Nat.reduceEqDiff, Nat.reduceBEq, ↓reduceIte, Bool.false_eq_true, List.append_nil, List.nil_append, List.cons_append, Option.toList, and_true, true_and, true_or, or_true, reduceCtorEq, List.map_nil, bI_eq0, bI_eq1, bool_ft, pk_us, vnar0, vnar1, Bool.or_false, Bool.or_true, Bool.false_or, Bool.true_or, mj_kne, eq_self, Int32.reduceLT, Int32.reduceLE, Int32.reduceAdd, Int32.reduceSub, Int32.reduceMul, not_true_eq_false, not_false_eq_true, false_implies, true_implies, D_X12_says_0, D_X12_says_1, mj_F_aload_n_k, mj_F_dup, mj_F_getfield_i, mj_F_goto_off, mj_F_iadd, mj_F_iaload, mj_F_iconst_n, mj_F_ifCond_eq_off, mj_F_if_icmp_ge_off, mj_F_if_icmp_ne_off, mj_F_iload_k, mj_F_iload_n_k, mj_F_imul, mj_F_invokevirtual_i, mj_F_ireturn, mj_F_istore_k, mj_F_istore_n_k, mj_F_putfield_i, mj_F_sipush_n, mj_set, mj_set0, mj_unk, mj_c2, mj_kc, FT_X12, FT_X12_1, PT_X12, L_X12_says, List.take_succ_cons, List.take_zero, List.drop_succ_cons, List.drop_zero, List.reverse_cons, List.reverse_nil, List.length_cons, List.length_nil, gS_M0, gMf_43, sS_Mf_43, gMl, gMf_31, gS_M27, sS_Ma_27, gMf_30, gS_M26, sS_Ma_26, gMf_44, sS_Mf_44, J_X12_says]
      refine ⟨fun c => ?_, fun c => ?_⟩
      · replace hw := ok_t hw c
        refine c_X12_work_in (ok_imp (ok_bind hw) ?_)
        intro p hw
        simp only [Option.toList, List.nil_append, List.cons_append, Nat.reduceSub]
        refine mj_run hG.1 (fun pc => pc == 9 || pc == 61 || pc == 75 || pc == 86 || pc == 97) 4000 ?_
        simp only [mj_step, mj_W_s, mj_fin, List.getElem?_cons_zero, List.getElem?_cons_succ, mj_go, Nat.reduceAdd, Nat.reduceSub, Nat.reduceLT, Nat.reduceLeDiff, Nat.zero_add, Nat.reduceEqDiff, Nat.reduceBEq, ↓reduceIte, Bool.false_eq_true, List.append_nil, List.nil_append, List.cons_append, Option.toList, and_true, true_and, true_or, or_true, reduceCtorEq, List.map_nil, bI_eq0, bI_eq1, bool_ft, pk_us, vnar0, vnar1, Bool.or_false, Bool.or_true, Bool.false_or, Bool.true_or, mj_kne, eq_self, Int32.reduceLT, Int32.reduceLE, Int32.reduceAdd, Int32.reduceSub, Int32.reduceMul, not_true_eq_false, not_false_eq_true, false_implies, true_implies, D_X12_says_0, D_X12_says_1, mj_F_aload_n_k, mj_F_dup, mj_F_getfield_i, mj_F_goto_off, mj_F_iadd, mj_F_iaload, mj_F_iconst_n, mj_F_ifCond_eq_off, mj_F_if_icmp_ge_off, mj_F_if_icmp_ne_off, mj_F_iload_k, mj_F_iload_n_k, mj_F_imul, mj_F_invokevirtual_i, mj_F_ireturn, mj_F_istore_k, mj_F_istore_n_k, mj_F_putfield_i, mj_F_sipush_n, mj_set, mj_set0, mj_unk, mj_c2, mj_kc, FT_X12, FT_X12_1, PT_X12, L_X12_says, List.take_succ_cons, List.take_zero, List.drop_succ_cons, List.drop_zero, List.reverse_cons, List.reverse_nil, List.length_cons, List.length_nil, gS_M0, gMf_43, sS_Mf_43, gMl, gMf_31, gS_M27, sS_Ma_27, gMf_30, gS_M26, sS_Ma_26, gMf_44, sS_Mf_44, J_X12_says]
        exact hG.2 _ _ _ _ _ _ _ _ _ (by refine ⟨Or.inr rfl, ?_⟩; refine ⟨Or.inr rfl, ?_⟩; refine ⟨Or.inr rfl, ?_⟩; exact trivial) (Nat.zero_le _) (Nat.zero_le _) (hP _ (ok_some hw :) :)
      · replace hw := ok_f hw c
        refine c_X12_work_in (ok_imp (ok_bind hw) ?_)
        intro p hw
        simp only [Option.toList, List.nil_append, List.cons_append, Nat.reduceSub]
        refine mj_run hG.1 (fun pc => pc == 9 || pc == 61 || pc == 75 || pc == 86 || pc == 97) 4000 ?_
        simp only [mj_step, mj_W_s, mj_fin, List.getElem?_cons_zero, List.getElem?_cons_succ, mj_go, Nat.reduceAdd, Nat.reduceSub, Nat.reduceLT, Nat.reduceLeDiff, Nat.zero_add, Nat.reduceEqDiff, Nat.reduceBEq, ↓reduceIte, Bool.false_eq_true, List.append_nil, List.nil_append, List.cons_append, Option.toList, and_true, true_and, true_or, or_true, reduceCtorEq, List.map_nil, bI_eq0, bI_eq1, bool_ft, pk_us, vnar0, vnar1, Bool.or_false, Bool.or_true, Bool.false_or, Bool.true_or, mj_kne, eq_self, Int32.reduceLT, Int32.reduceLE, Int32.reduceAdd, Int32.reduceSub, Int32.reduceMul, not_true_eq_false, not_false_eq_true, false_implies, true_implies, D_X12_says_0, D_X12_says_1, mj_F_aload_n_k, mj_F_dup, mj_F_getfield_i, mj_F_goto_off, mj_F_iadd, mj_F_iaload, mj_F_iconst_n, mj_F_ifCond_eq_off, mj_F_if_icmp_ge_off, mj_F_if_icmp_ne_off, mj_F_iload_k, mj_F_iload_n_k, mj_F_imul, mj_F_invokevirtual_i, mj_F_ireturn, mj_F_istore_k, mj_F_istore_n_k, mj_F_putfield_i, mj_F_sipush_n, mj_set, mj_set0, mj_unk, mj_c2, mj_kc, FT_X12, FT_X12_1, PT_X12, L_X12_says, List.take_succ_cons, List.take_zero, List.drop_succ_cons, List.drop_zero, List.reverse_cons, List.reverse_nil, List.length_cons, List.length_nil, gS_M0, gMf_43, sS_Mf_43, gMl, gMf_31, gS_M27, sS_Ma_27, gMf_30, gS_M26, sS_Ma_26, gMf_44, sS_Mf_44, J_X12_says]
        exact hG.2 _ _ _ _ _ _ _ _ _ (by refine ⟨Or.inr rfl, ?_⟩; refine ⟨Or.inr rfl, ?_⟩; refine ⟨Or.inr rfl, ?_⟩; exact trivial) (Nat.zero_le _) (Nat.zero_le _) (hP _ (ok_some hw :) :)
    · replace hw := ok_t hw c
      replace hw := ok_wI hw
      refine c_X12_work_in (ok_imp (ok_bind hw) ?_)
      intro p hw
      simp only [Option.toList, List.nil_append, List.cons_append, Nat.reduceSub]
      refine mj_run hG.1 (fun pc => pc == 9 || pc == 61 || pc == 75 || pc == 86 || pc == 97) 4000 ?_
      simp only [mj_step, mj_W_s, mj_fin, List.getElem?_cons_zero, List.getElem?_cons_succ, mj_go, Nat.reduceAdd, Nat.reduceSub, Nat.reduceLT, Nat.reduceLeDiff, Nat.zero_add, Nat.reduceEqDiff, Nat.reduceBEq, ↓reduceIte, Bool.false_eq_true, List.append_nil, List.nil_append, List.cons_append, Option.toList, and_true, true_and, true_or, or_true, reduceCtorEq, List.map_nil, bI_eq0, bI_eq1, bool_ft, pk_us, vnar0, vnar1, Bool.or_false, Bool.or_true, Bool.false_or, Bool.true_or, mj_kne, eq_self, Int32.reduceLT, Int32.reduceLE, Int32.reduceAdd, Int32.reduceSub, Int32.reduceMul, not_true_eq_false, not_false_eq_true, false_implies, true_implies, D_X12_says_0, D_X12_says_1, mj_F_aload_n_k, mj_F_dup, mj_F_getfield_i, mj_F_goto_off, mj_F_iadd, mj_F_iaload, mj_F_iconst_n, mj_F_ifCond_eq_off, mj_F_if_icmp_ge_off, mj_F_if_icmp_ne_off, mj_F_iload_k, mj_F_iload_n_k, mj_F_imul, mj_F_invokevirtual_i, mj_F_ireturn, mj_F_istore_k, mj_F_istore_n_k, mj_F_putfield_i, mj_F_sipush_n, mj_set, mj_set0, mj_unk, mj_c2, mj_kc, FT_X12, FT_X12_1, PT_X12, L_X12_says, List.take_succ_cons, List.take_zero, List.drop_succ_cons, List.drop_zero, List.reverse_cons, List.reverse_nil, List.length_cons, List.length_nil, gS_M0, gMf_43, sS_Mf_43, gMl, gMf_31, gS_M27, sS_Ma_27, gMf_30, gS_M26, sS_Ma_26, gMf_44, sS_Mf_44, J_X12_says]
      refine ⟨fun c => ?_, fun c => ?_⟩
      · replace hw := ok_t hw c
        refine c_X12_work_in (ok_imp (ok_bind hw) ?_)
        intro p hw
        simp only [Option.toList, List.nil_append, List.cons_append, Nat.reduceSub]
        refine mj_run hG.1 (fun pc => pc == 9 || pc == 61 || pc == 75 || pc == 86 || pc == 97) 4000 ?_
        simp only [mj_step, mj_W_s, mj_fin, List.getElem?_cons_zero, List.getElem?_cons_succ, mj_go, Nat.reduceAdd, Nat.reduceSub, Nat.reduceLT, Nat.reduceLeDiff, Nat.zero_add, Nat.reduceEqDiff, Nat.reduceBEq, ↓reduceIte, Bool.false_eq_true, List.append_nil, List.nil_append, List.cons_append, Option.toList, and_true, true_and, true_or, or_true, reduceCtorEq, List.map_nil, bI_eq0, bI_eq1, bool_ft, pk_us, vnar0, vnar1, Bool.or_false, Bool.or_true, Bool.false_or, Bool.true_or, mj_kne, eq_self, Int32.reduceLT, Int32.reduceLE, Int32.reduceAdd, Int32.reduceSub, Int32.reduceMul, not_true_eq_false, not_false_eq_true, false_implies, true_implies, D_X12_says_0, D_X12_says_1, mj_F_aload_n_k, mj_F_dup, mj_F_getfield_i, mj_F_goto_off, mj_F_iadd, mj_F_iaload, mj_F_iconst_n, mj_F_ifCond_eq_off, mj_F_if_icmp_ge_off, mj_F_if_icmp_ne_off, mj_F_iload_k, mj_F_iload_n_k, mj_F_imul, mj_F_invokevirtual_i, mj_F_ireturn, mj_F_istore_k, mj_F_istore_n_k, mj_F_putfield_i, mj_F_sipush_n, mj_set, mj_set0, mj_unk, mj_c2, mj_kc, FT_X12, FT_X12_1, PT_X12, L_X12_says, List.take_succ_cons, List.take_zero, List.drop_succ_cons, List.drop_zero, List.reverse_cons, List.reverse_nil, List.length_cons, List.length_nil, gS_M0, gMf_43, sS_Mf_43, gMl, gMf_31, gS_M27, sS_Ma_27, gMf_30, gS_M26, sS_Ma_26, gMf_44, sS_Mf_44, J_X12_says]
        exact hG.2 _ _ _ _ _ _ _ _ _ (by refine ⟨Or.inr rfl, ?_⟩; refine ⟨Or.inr rfl, ?_⟩; refine ⟨Or.inr rfl, ?_⟩; exact trivial) (Nat.zero_le _) (Nat.zero_le _) (hP _ (ok_some hw :) :)
      · replace hw := ok_f hw c
        refine c_X12_work_in (ok_imp (ok_bind hw) ?_)
        intro p hw
        simp only [Option.toList, List.nil_append, List.cons_append, Nat.reduceSub]
        refine mj_run hG.1 (fun pc => pc == 9 || pc == 61 || pc == 75 || pc == 86 || pc == 97) 4000 ?_
        simp only [mj_step, mj_W_s, mj_fin, List.getElem?_cons_zero, List.getElem?_cons_succ, mj_go, Nat.reduceAdd, Nat.reduceSub, Nat.reduceLT, Nat.reduceLeDiff, Nat.zero_add, Nat.reduceEqDiff, Nat.reduceBEq, ↓reduceIte, Bool.false_eq_true, List.append_nil, List.nil_append, List.cons_append, Option.toList, and_true, true_and, true_or, or_true, reduceCtorEq, List.map_nil, bI_eq0, bI_eq1, bool_ft, pk_us, vnar0, vnar1, Bool.or_false, Bool.or_true, Bool.false_or, Bool.true_or, mj_kne, eq_self, Int32.reduceLT, Int32.reduceLE, Int32.reduceAdd, Int32.reduceSub, Int32.reduceMul, not_true_eq_false, not_false_eq_true, false_implies, true_implies, D_X12_says_0, D_X12_says_1, mj_F_aload_n_k, mj_F_dup, mj_F_getfield_i, mj_F_goto_off, mj_F_iadd, mj_F_iaload, mj_F_iconst_n, mj_F_ifCond_eq_off, mj_F_if_icmp_ge_off, mj_F_if_icmp_ne_off, mj_F_iload_k, mj_F_iload_n_k, mj_F_imul, mj_F_invokevirtual_i, mj_F_ireturn, mj_F_istore_k, mj_F_istore_n_k, mj_F_putfield_i, mj_F_sipush_n, mj_set, mj_set0, mj_unk, mj_c2, mj_kc, FT_X12, FT_X12_1, PT_X12, L_X12_says, List.take_succ_cons, List.take_zero, List.drop_succ_cons, List.drop_zero, List.reverse_cons, List.reverse_nil, List.length_cons, List.length_nil, gS_M0, gMf_43, sS_Mf_43, gMl, gMf_31, gS_M27, sS_Ma_27, gMf_30, gS_M26, sS_Ma_26, gMf_44, sS_Mf_44, J_X12_says]
        exact hG.2 _ _ _ _ _ _ _ _ _ (by refine ⟨Or.inr rfl, ?_⟩; refine ⟨Or.inl rfl, ?_⟩; refine ⟨Or.inl rfl, ?_⟩; refine ⟨Or.inl rfl, ?_⟩; refine ⟨Or.inl rfl, ?_⟩; refine ⟨Or.inr rfl, ?_⟩; exact trivial) (Nat.zero_le _) (Nat.zero_le _) (hK1 _ (ok_some hw :) :)

set_option maxHeartbeats 4000000 in
set_option maxRecDepth 20000 in
theorem g_X12_says_97 {k : Option Value → mj_H → Prop} {G : mj_K} (hG : mj_cl2 cX12_says (TbX12 6 ((some FieldType.boolean)) ct_X12_says) k G)   {s : St} (hw : ok (F_X12_says_97 s) (fun p => k (some (.int p.1)) (mkMs p.2))) : G 97 [] [] (mkMs s) 0 0 := by
  unfold F_X12_says_97 at hw
  refine mj_run hG.1 (fun pc => pc == 9 || pc == 61 || pc == 75 || pc == 86 || pc == 97) 4000 ?_
  simp only [mj_step, mj_W_s, mj_fin, List.getElem?_cons_zero, List.getElem?_cons_succ, mj_go, Nat.reduceAdd, Nat.reduceSub, Nat.reduceLT, Nat.reduceLeDiff, Nat.zero_add, Nat.reduceEqDiff, Nat.reduceBEq, ↓reduceIte, Bool.false_eq_true, List.append_nil, List.nil_append, List.cons_append, Option.toList, and_true, true_and, true_or, or_true, reduceCtorEq, List.map_nil, bI_eq0, bI_eq1, bool_ft, pk_us, vnar0, vnar1, Bool.or_false, Bool.or_true, Bool.false_or, Bool.true_or, mj_kne, eq_self, Int32.reduceLT, Int32.reduceLE, Int32.reduceAdd, Int32.reduceSub, Int32.reduceMul, not_true_eq_false, not_false_eq_true, false_implies, true_implies, D_X12_says_0, D_X12_says_1, mj_F_aload_n_k, mj_F_dup, mj_F_getfield_i, mj_F_goto_off, mj_F_iadd, mj_F_iaload, mj_F_iconst_n, mj_F_ifCond_eq_off, mj_F_if_icmp_ge_off, mj_F_if_icmp_ne_off, mj_F_iload_k, mj_F_iload_n_k, mj_F_imul, mj_F_invokevirtual_i, mj_F_ireturn, mj_F_istore_k, mj_F_istore_n_k, mj_F_putfield_i, mj_F_sipush_n, mj_set, mj_set0, mj_unk, mj_c2, mj_kc, FT_X12, FT_X12_1, PT_X12, L_X12_says, List.take_succ_cons, List.take_zero, List.drop_succ_cons, List.drop_zero, List.reverse_cons, List.reverse_nil, List.length_cons, List.length_nil, gS_M0, gMf_43, sS_Mf_43, gMl, gMf_31, gS_M27, sS_Ma_27, gMf_30, gS_M26, sS_Ma_26, gMf_44, sS_Mf_44, J_X12_says]
  exact (ok_some hw :)

set_option maxHeartbeats 4000000 in
set_option maxRecDepth 20000 in
theorem g_X12_says_86 {k : Option Value → mj_H → Prop} {G : mj_K} (hG : mj_cl2 cX12_says (TbX12 6 ((some FieldType.boolean)) ct_X12_says) k G)   {v5 : Int32} {s : St} (hw : ok (F_X12_says_86 v5 s) (fun p => k (some (.int p.1)) (mkMs p.2))) : G 86 [.ref 0, mj_unk, mj_unk, mj_unk, mj_unk, .int v5] [] (mkMs s) 0 0 := by
  unfold F_X12_says_86 at hw
  refine mj_run hG.1 (fun pc => pc == 9 || pc == 61 || pc == 75 || pc == 86 || pc == 97) 4000 ?_
  simp only [mj_step, mj_W_s, mj_fin, List.getElem?_cons_zero, List.getElem?_cons_succ, mj_go, Nat.reduceAdd, Nat.reduceSub, Nat.reduceLT, Nat.reduceLeDiff, Nat.zero_add, Nat.reduceEqDiff, Nat.reduceBEq, ↓reduceIte, Bool.false_eq_true, List.append_nil, List.nil_append, List.cons_append, Option.toList, and_true, true_and, true_or, or_true, reduceCtorEq, List.map_nil, bI_eq0, bI_eq1, bool_ft, pk_us, vnar0, vnar1, Bool.or_false, Bool.or_true, Bool.false_or, Bool.true_or, mj_kne, eq_self, Int32.reduceLT, Int32.reduceLE, Int32.reduceAdd, Int32.reduceSub, Int32.reduceMul, not_true_eq_false, not_false_eq_true, false_implies, true_implies, D_X12_says_0, D_X12_says_1, mj_F_aload_n_k, mj_F_dup, mj_F_getfield_i, mj_F_goto_off, mj_F_iadd, mj_F_iaload, mj_F_iconst_n, mj_F_ifCond_eq_off, mj_F_if_icmp_ge_off, mj_F_if_icmp_ne_off, mj_F_iload_k, mj_F_iload_n_k, mj_F_imul, mj_F_invokevirtual_i, mj_F_ireturn, mj_F_istore_k, mj_F_istore_n_k, mj_F_putfield_i, mj_F_sipush_n, mj_set, mj_set0, mj_unk, mj_c2, mj_kc, FT_X12, FT_X12_1, PT_X12, L_X12_says, List.take_succ_cons, List.take_zero, List.drop_succ_cons, List.drop_zero, List.reverse_cons, List.reverse_nil, List.length_cons, List.length_nil, gS_M0, gMf_43, sS_Mf_43, gMl, gMf_31, gS_M27, sS_Ma_27, gMf_30, gS_M26, sS_Ma_26, gMf_44, sS_Mf_44, J_X12_says]
  replace hw := ok_wI hw
  exact (ok_some hw :)

set_option maxHeartbeats 4000000 in
theorem g_X12_says_9 {k : Option Value → mj_H → Prop} {G : mj_K} (hG : mj_cl2 cX12_says (TbX12 6 ((some FieldType.boolean)) ct_X12_says) k G)   {v1 : Int32} {v2 : Int32} {s : St} (hw : ok (F_X12_says_9 v1 v2 s) (fun p => k (some (.int p.1)) (mkMs p.2))) : G 9 [.ref 0, .int v1, .int v2] [] (mkMs s) 0 0 := by
  unfold F_X12_says_9 at hw
  refine lp_ok (B_X12_says_9 v1 v2) (fun x => G 9 [.ref 0, .int v1, .int v2] [] (mkMs x) 0 0) _ ?_ _ _ (ok_bind hw)
  rintro s hb
  exact b_X12_says_9 hG (fun _ z => z) (fun y hw => by exact hG.2 _ _ _ _ _ _ _ _ _ (by exact trivial) (Nat.zero_le _) (Nat.zero_le _) (g_X12_says_97 hG  hw :)) (fun y hw => by exact hG.2 _ _ _ _ _ _ _ _ _ (by refine ⟨Or.inr rfl, ?_⟩; refine ⟨Or.inl rfl, ?_⟩; refine ⟨Or.inl rfl, ?_⟩; refine ⟨Or.inl rfl, ?_⟩; refine ⟨Or.inl rfl, ?_⟩; refine ⟨Or.inr rfl, ?_⟩; exact trivial) (Nat.zero_le _) (Nat.zero_le _) (g_X12_says_86 hG  hw :)) hb

set_option maxHeartbeats 4000000 in
set_option maxRecDepth 20000 in
theorem g_X12_says {k : Option Value → mj_H → Prop} {G : mj_K} (hG : mj_cl2 cX12_says (TbX12 6 ((some FieldType.boolean)) ct_X12_says) k G) {v1 : Int32} {v2 : Int32} {s : St} (hw : ok (F_X12_says v1 v2 s) (fun p => k (some (.int p.1)) (mkMs p.2))) : G 0 [.ref 0, .int v1, .int v2] [] (mkMs s) 0 0 := by
  unfold F_X12_says at hw
  refine mj_run hG.1 (fun pc => pc == 9 || pc == 61 || pc == 75 || pc == 86 || pc == 97) 4000 ?_
  simp only [mj_step, mj_W_s, mj_fin, List.getElem?_cons_zero, List.getElem?_cons_succ, mj_go, Nat.reduceAdd, Nat.reduceSub, Nat.reduceLT, Nat.reduceLeDiff, Nat.zero_add, Nat.reduceEqDiff, Nat.reduceBEq, ↓reduceIte, Bool.false_eq_true, List.append_nil, List.nil_append, List.cons_append, Option.toList, and_true, true_and, true_or, or_true, reduceCtorEq, List.map_nil, bI_eq0, bI_eq1, bool_ft, pk_us, vnar0, vnar1, Bool.or_false, Bool.or_true, Bool.false_or, Bool.true_or, mj_kne, eq_self, Int32.reduceLT, Int32.reduceLE, Int32.reduceAdd, Int32.reduceSub, Int32.reduceMul, not_true_eq_false, not_false_eq_true, false_implies, true_implies, D_X12_says_0, D_X12_says_1, mj_F_aload_n_k, mj_F_dup, mj_F_getfield_i, mj_F_goto_off, mj_F_iadd, mj_F_iaload, mj_F_iconst_n, mj_F_ifCond_eq_off, mj_F_if_icmp_ge_off, mj_F_if_icmp_ne_off, mj_F_iload_k, mj_F_iload_n_k, mj_F_imul, mj_F_invokevirtual_i, mj_F_ireturn, mj_F_istore_k, mj_F_istore_n_k, mj_F_putfield_i, mj_F_sipush_n, mj_set, mj_set0, mj_unk, mj_c2, mj_kc, FT_X12, FT_X12_1, PT_X12, L_X12_says, List.take_succ_cons, List.take_zero, List.drop_succ_cons, List.drop_zero, List.reverse_cons, List.reverse_nil, List.length_cons, List.length_nil, gS_M0, gMf_43, sS_Mf_43, gMl, gMf_31, gS_M27, sS_Ma_27, gMf_30, gS_M26, sS_Ma_26, gMf_44, sS_Mf_44, J_X12_says]
  replace hw := ok_wI hw
  exact hG.2 _ _ _ _ _ _ _ _ _ (by refine ⟨Or.inr rfl, ?_⟩; refine ⟨Or.inr rfl, ?_⟩; refine ⟨Or.inr rfl, ?_⟩; exact trivial) (Nat.zero_le _) (Nat.zero_le _) (g_X12_says_9 hG  hw :)

def c_X12_says : mj_S := fun as h k => ∃ (v1 : Int32) (v2 : Int32) (s : St), as = [.ref 0, .int v1, .int v2] ∧ h = mkMs s ∧ ok (F_X12_says v1 v2 s) (fun p => k (some (.int p.1)) (mkMs p.2))
theorem c_X12_says_in {v1 : Int32} {v2 : Int32} {s : St} {k : Option Value → mj_H → Prop} (hw : ok (F_X12_says v1 v2 s) (fun p => k (some (.int p.1)) (mkMs p.2))) : c_X12_says [.ref 0, .int v1, .int v2] (mkMs s) k := ⟨v1, v2, s, rfl, rfl, hw⟩
theorem m_X12_says (l : Launch) : mj_Met l yX12_says cX12_says 6 ((some FieldType.boolean)) 4 0 0 c_X12_says := by
  refine mj_body2 false (TbX12 6 ((some FieldType.boolean)) ct_X12_says) (by decide) rfl rfl (fun h => nomatch h) (tfX12 _ (List.forall_mem_cons.mpr ⟨cfX12_405 (m_X12_work l) (by decide), fun _ h => nomatch h⟩)) ?_
  rintro as h k ⟨v1, v2, s, rfl, rfl, hw⟩
  exact ⟨rfl, fun G hG => g_X12_says hG hw⟩
def B_X12_lawFor_9 (v1 : Int32) (v2 : Int32) (v3 : Int32) (v4 : Int32) (v5 : Int32) : Int32 × Int32 × Int32 × St → Option ((Int32 × Int32 × Int32 × St) ⊕ ((Int32 × Int32 × St)))
  | (v6, v7, v8, s) =>
  if (s.1 1240) ≤ v8 then
    some (.inr (v6, v7, s))
  else
    if v5 = 2 then
      if v5 = 1 then
        some (.inl (v6, v7, (v8 + 1), s))
      else
        (rd s 1232 20 v8).bind fun x1 =>
        if x1 = v1 then
          (rd s 1234 20 v8).bind fun x2 =>
          if v3 < x2 then
            some (.inl (v6, v7, (v8 + 1), s))
          else
            (rd s 1233 20 v8).bind fun x3 =>
            if v2 < x3 then
              some (.inl (v6, v7, (v8 + 1), s))
            else
              if v6 = (-1) then
                (F_X12_says v8 v4 s).bind fun r4 =>
                if r4.1 = 0 then
                  some (.inl (v6, v7, (v8 + 1), r4.2))
                else
                  some (.inl (v8, (r4.2.1 1244), (v8 + 1), r4.2))
              else
                (rd s 1233 20 v8).bind fun x5 =>
                (rd s 1233 20 v6).bind fun x6 =>
                if x6 ≤ x5 then
                  (F_X12_says v8 v4 s).bind fun r7 =>
                  if r7.1 = 0 then
                    some (.inl (v6, v7, (v8 + 1), r7.2))
                  else
                    some (.inl (v8, (r7.2.1 1244), (v8 + 1), r7.2))
                else
                  some (.inl (v6, v7, (v8 + 1), s))
        else
          some (.inl (v6, v7, (v8 + 1), s))
    else
      (rd s 1232 20 v8).bind fun x8 =>
      if x8 = (-1) then
        (rd s 1234 20 v8).bind fun x9 =>
        if v3 < x9 then
          some (.inl (v6, v7, (v8 + 1), s))
        else
          (rd s 1233 20 v8).bind fun x10 =>
          if v2 < x10 then
            some (.inl (v6, v7, (v8 + 1), s))
          else
            if v6 = (-1) then
              (F_X12_says v8 v4 s).bind fun r11 =>
              if r11.1 = 0 then
                some (.inl (v6, v7, (v8 + 1), r11.2))
              else
                some (.inl (v8, (r11.2.1 1244), (v8 + 1), r11.2))
            else
              (rd s 1233 20 v8).bind fun x12 =>
              (rd s 1233 20 v6).bind fun x13 =>
              if x13 ≤ x12 then
                (F_X12_says v8 v4 s).bind fun r14 =>
                if r14.1 = 0 then
                  some (.inl (v6, v7, (v8 + 1), r14.2))
                else
                  some (.inl (v8, (r14.2.1 1244), (v8 + 1), r14.2))
              else
                some (.inl (v6, v7, (v8 + 1), s))
      else
        if v5 = 1 then
          some (.inl (v6, v7, (v8 + 1), s))
        else
          (rd s 1232 20 v8).bind fun x15 =>
          if x15 = v1 then
            (rd s 1234 20 v8).bind fun x16 =>
            if v3 < x16 then
              some (.inl (v6, v7, (v8 + 1), s))
            else
              (rd s 1233 20 v8).bind fun x17 =>
              if v2 < x17 then
                some (.inl (v6, v7, (v8 + 1), s))
              else
                if v6 = (-1) then
                  (F_X12_says v8 v4 s).bind fun r18 =>
                  if r18.1 = 0 then
                    some (.inl (v6, v7, (v8 + 1), r18.2))
                  else
                    some (.inl (v8, (r18.2.1 1244), (v8 + 1), r18.2))
                else
                  (rd s 1233 20 v8).bind fun x19 =>
                  (rd s 1233 20 v6).bind fun x20 =>
                  if x20 ≤ x19 then
                    (F_X12_says v8 v4 s).bind fun r21 =>
                    if r21.1 = 0 then
                      some (.inl (v6, v7, (v8 + 1), r21.2))
                    else
                      some (.inl (v8, (r21.2.1 1244), (v8 + 1), r21.2))
                  else
                    some (.inl (v6, v7, (v8 + 1), s))
          else
            some (.inl (v6, v7, (v8 + 1), s))
def F_X12_lawFor_139 (v6 : Int32) (v7 : Int32) (s : St) : Option (Int32 × St) :=
  (wI s 1244 v7).bind fun s22 =>
  some (v6, s22)
def F_X12_lawFor_9 (v1 : Int32) (v2 : Int32) (v3 : Int32) (v4 : Int32) (v5 : Int32) (v6 : Int32) (v7 : Int32) (v8 : Int32) (s : St) : Option (Int32 × St) :=
  (lp (B_X12_lawFor_9 v1 v2 v3 v4 v5) FU (v6, v7, v8, s)).bind (fun y => F_X12_lawFor_139 y.1 y.2.1 y.2.2)
def F_X12_lawFor (v1 : Int32) (v2 : Int32) (v3 : Int32) (v4 : Int32) (v5 : Int32) (s : St) : Option (Int32 × St) :=
  F_X12_lawFor_9 v1 v2 v3 v4 v5 (-1) 0 0 s
theorem J_X12_lawFor : mj_t 15 124 = 139 ∧ mj_t 21 14 = 35 ∧ mj_t 32 20 = 52 ∧ mj_t 38 18 = 56 ∧ mj_t 49 7 = 56 ∧ mj_t 53 4 = 57 ∧ mj_t 61 72 = 133 ∧ mj_t 72 61 = 133 ∧ mj_t 83 50 = 133 ∧ mj_t 89 23 = 112 ∧ mj_t 106 6 = 112 ∧ mj_t 109 24 = 133 ∧ mj_t 120 13 = 133 ∧ mj_t 136 (-127) = 9 ∧ (0 ≤ ((15 : Nat) : Int) + 124) = True ∧ (0 ≤ ((21 : Nat) : Int) + 14) = True ∧ (0 ≤ ((32 : Nat) : Int) + 20) = True ∧ (0 ≤ ((38 : Nat) : Int) + 18) = True ∧ (0 ≤ ((49 : Nat) : Int) + 7) = True ∧ (0 ≤ ((53 : Nat) : Int) + 4) = True ∧ (0 ≤ ((61 : Nat) : Int) + 72) = True ∧ (0 ≤ ((72 : Nat) : Int) + 61) = True ∧ (0 ≤ ((83 : Nat) : Int) + 50) = True ∧ (0 ≤ ((89 : Nat) : Int) + 23) = True ∧ (0 ≤ ((106 : Nat) : Int) + 6) = True ∧ (0 ≤ ((109 : Nat) : Int) + 24) = True ∧ (0 ≤ ((120 : Nat) : Int) + 13) = True ∧ (0 ≤ ((136 : Nat) : Int) + (-127)) = True := by and_intros <;> first | rfl | exact eq_true (by decide)
def ct_X12_lawFor : List (Nat × mj_Cs) := [(411, 0, 3, 12, 0, 0, c_X12_says)]
theorem L_X12_lawFor : mj_lk ct_X12_lawFor 411 = some (0, 3, 12, 0, 0, c_X12_says) := rfl
set_option maxHeartbeats 4000000 in
set_option maxRecDepth 20000 in
theorem b_X12_lawFor_9 {k : Option Value → mj_H → Prop} {G : mj_K} (hG : mj_cl2 cX12_lawFor (TbX12 10 ((some FieldType.int)) ct_X12_lawFor) k G) {v1 : Int32} {v2 : Int32} {v3 : Int32} {v4 : Int32} {v5 : Int32} {P : Int32 × Int32 × Int32 × St → Prop} {K : (Int32 × Int32 × St) → Prop} (hP : ∀ x, P x → G 9 [.ref 0, .int v1, .int v2, .int v3, .int v4, .int v5, .int x.1, .int x.2.1, .int x.2.2.1] [] (mkMs x.2.2.2) 0 0) (hK0 : ∀ y, K y → G 139 [.ref 0, mj_unk, mj_unk, mj_unk, mj_unk, mj_unk, .int y.1, .int y.2.1] [] (mkMs y.2.2) 0 0) {v6 : Int32} {v7 : Int32} {v8 : Int32} {s : St} (hw : ok (B_X12_lawFor_9 v1 v2 v3 v4 v5 (v6, v7, v8, s)) (Sum.elim P K)) : G 9 [.ref 0, .int v1, .int v2, .int v3, .int v4, .int v5, .int v6, .int v7, .int v8] [] (mkMs s) 0 0 := by
  unfold B_X12_lawFor_9 at hw
  refine mj_run hG.1 (fun pc => pc == 9 || pc == 120 || pc == 139) 4000 ?_
  simp only [mj_step, mj_W_s, mj_fin, List.getElem?_cons_zero, List.getElem?_cons_succ, mj_go, Nat.reduceAdd, Nat.reduceSub, Nat.reduceLT, Nat.reduceLeDiff, Nat.zero_add, Nat.reduceEqDiff, Nat.reduceBEq, ↓reduceIte, Bool.false_eq_true, List.append_nil, List.nil_append, List.cons_append, Option.toList, and_true, true_and, true_or, or_true, reduceCtorEq, List.map_nil, bI_eq0, bI_eq1, bool_ft, pk_us, vnar0, vnar1, Bool.or_false, Bool.or_true, Bool.false_or, Bool.true_or, mj_kne, eq_self, Int32.reduceLT, Int32.reduceLE, Int32.reduceAdd, Int32.reduceSub, Int32.reduceMul, not_true_eq_false, not_false_eq_true, false_implies, true_implies, D_X12_lawFor_0, D_X12_lawFor_1, mj_F_aload_n_k, mj_F_getfield_i, mj_F_goto_off, mj_F_iaload, mj_F_iconst_n, mj_F_ifCond_eq_off, mj_F_if_icmp_eq_off, mj_F_if_icmp_ge_off, mj_F_if_icmp_gt_off, mj_F_if_icmp_ne_off, mj_F_iinc_k_n, mj_F_iload_k, mj_F_iload_n_k, mj_F_invokevirtual_i, mj_F_ireturn, mj_F_istore_k, mj_F_putfield_i, mj_set, mj_set0, mj_unk, mj_c2, mj_kc, FT_X12, FT_X12_1, PT_X12, L_X12_lawFor, List.take_succ_cons, List.take_zero, List.drop_succ_cons, List.drop_zero, List.reverse_cons, List.reverse_nil, List.length_cons, List.length_nil, gS_M0, gMf_40, gMf_32, gS_M28, sS_Ma_28, gMf_34, gS_M30, sS_Ma_30, gMf_33, gS_M29, sS_Ma_29, gMf_44, sS_Mf_44, gMl, J_X12_lawFor]
  refine ⟨fun c => ?_, fun c => ?_⟩
  · replace hw := ok_t hw c
    exact hG.2 _ _ _ _ _ _ _ _ _ (by refine ⟨Or.inr rfl, ?_⟩; refine ⟨Or.inl rfl, ?_⟩; refine ⟨Or.inl rfl, ?_⟩; refine ⟨Or.inl rfl, ?_⟩; refine ⟨Or.inl rfl, ?_⟩; refine ⟨Or.inl rfl, ?_⟩; refine ⟨Or.inr rfl, ?_⟩; refine ⟨Or.inr rfl, ?_⟩; exact trivial) (Nat.zero_le _) (Nat.zero_le _) (hK0 _ (ok_some hw :) :)
  · replace hw := ok_f hw c
    refine ⟨fun c => ?_, fun c => ?_⟩
    · replace hw := ok_t hw c
      refine ⟨fun c => ?_, fun c => ?_⟩
      · replace hw := ok_t hw c
        exact hG.2 _ _ _ _ _ _ _ _ _ (by refine ⟨Or.inr rfl, ?_⟩; refine ⟨Or.inr rfl, ?_⟩; refine ⟨Or.inr rfl, ?_⟩; refine ⟨Or.inr rfl, ?_⟩; refine ⟨Or.inr rfl, ?_⟩; refine ⟨Or.inr rfl, ?_⟩; refine ⟨Or.inr rfl, ?_⟩; refine ⟨Or.inr rfl, ?_⟩; refine ⟨Or.inr rfl, ?_⟩; exact trivial) (Nat.zero_le _) (Nat.zero_le _) (hP _ (ok_some hw :) :)
      · replace hw := ok_f hw c
        refine ⟨(ok_rd hw).1, ?_⟩
        replace hw := (ok_rd hw).2
        refine ⟨fun c => ?_, fun c => ?_⟩
        · replace hw := ok_f hw c
          exact hG.2 _ _ _ _ _ _ _ _ _ (by refine ⟨Or.inr rfl, ?_⟩; refine ⟨Or.inr rfl, ?_⟩; refine ⟨Or.inr rfl, ?_⟩; refine ⟨Or.inr rfl, ?_⟩; refine ⟨Or.inr rfl, ?_⟩; refine ⟨Or.inr rfl, ?_⟩; refine ⟨Or.inr rfl, ?_⟩; refine ⟨Or.inr rfl, ?_⟩; refine ⟨Or.inr rfl, ?_⟩; exact trivial) (Nat.zero_le _) (Nat.zero_le _) (hP _ (ok_some hw :) :)
        · replace hw := ok_t hw c
          refine ⟨(ok_rd hw).1, ?_⟩
          replace hw := (ok_rd hw).2
          refine ⟨fun c => ?_, fun c => ?_⟩
          · replace hw := ok_t hw c
            exact hG.2 _ _ _ _ _ _ _ _ _ (by refine ⟨Or.inr rfl, ?_⟩; refine ⟨Or.inr rfl, ?_⟩; refine ⟨Or.inr rfl, ?_⟩; refine ⟨Or.inr rfl, ?_⟩; refine ⟨Or.inr rfl, ?_⟩; refine ⟨Or.inr rfl, ?_⟩; refine ⟨Or.inr rfl, ?_⟩; refine ⟨Or.inr rfl, ?_⟩; refine ⟨Or.inr rfl, ?_⟩; exact trivial) (Nat.zero_le _) (Nat.zero_le _) (hP _ (ok_some hw :) :)
          · replace hw := ok_f hw c
            refine ⟨(ok_rd hw).1, ?_⟩
            replace hw := (ok_rd hw).2
            refine ⟨fun c => ?_, fun c => ?_⟩
            · replace hw := ok_t hw c
              exact hG.2 _ _ _ _ _ _ _ _ _ (by refine ⟨Or.inr rfl, ?_⟩; refine ⟨Or.inr rfl, ?_⟩; refine ⟨Or.inr rfl, ?_⟩; refine ⟨Or.inr rfl, ?_⟩; refine ⟨Or.inr rfl, ?_⟩; refine ⟨Or.inr rfl, ?_⟩; refine ⟨Or.inr rfl, ?_⟩; refine ⟨Or.inr rfl, ?_⟩; refine ⟨Or.inr rfl, ?_⟩; exact trivial) (Nat.zero_le _) (Nat.zero_le _) (hP _ (ok_some hw :) :)
            · replace hw := ok_f hw c
              refine ⟨fun c => ?_, fun c => ?_⟩
              · replace hw := ok_t hw c
                refine c_X12_says_in (ok_imp (ok_bind hw) ?_)
                intro p hw
                simp only [Option.toList, List.nil_append, List.cons_append, Nat.reduceSub]
                refine mj_run hG.1 (fun pc => pc == 9 || pc == 120 || pc == 139) 4000 ?_
                simp only [mj_step, mj_W_s, mj_fin, List.getElem?_cons_zero, List.getElem?_cons_succ, mj_go, Nat.reduceAdd, Nat.reduceSub, Nat.reduceLT, Nat.reduceLeDiff, Nat.zero_add, Nat.reduceEqDiff, Nat.reduceBEq, ↓reduceIte, Bool.false_eq_true, List.append_nil, List.nil_append, List.cons_append, Option.toList, and_true, true_and, true_or, or_true, reduceCtorEq, List.map_nil, bI_eq0, bI_eq1, bool_ft, pk_us, vnar0, vnar1, Bool.or_false, Bool.or_true, Bool.false_or, Bool.true_or, mj_kne, eq_self, Int32.reduceLT, Int32.reduceLE, Int32.reduceAdd, Int32.reduceSub, Int32.reduceMul, not_true_eq_false, not_false_eq_true, false_implies, true_implies, D_X12_lawFor_0, D_X12_lawFor_1, mj_F_aload_n_k, mj_F_getfield_i, mj_F_goto_off, mj_F_iaload, mj_F_iconst_n, mj_F_ifCond_eq_off, mj_F_if_icmp_eq_off, mj_F_if_icmp_ge_off, mj_F_if_icmp_gt_off, mj_F_if_icmp_ne_off, mj_F_iinc_k_n, mj_F_iload_k, mj_F_iload_n_k, mj_F_invokevirtual_i, mj_F_ireturn, mj_F_istore_k, mj_F_putfield_i, mj_set, mj_set0, mj_unk, mj_c2, mj_kc, FT_X12, FT_X12_1, PT_X12, L_X12_lawFor, List.take_succ_cons, List.take_zero, List.drop_succ_cons, List.drop_zero, List.reverse_cons, List.reverse_nil, List.length_cons, List.length_nil, gS_M0, gMf_40, gMf_32, gS_M28, sS_Ma_28, gMf_34, gS_M30, sS_Ma_30, gMf_33, gS_M29, sS_Ma_29, gMf_44, sS_Mf_44, gMl, J_X12_lawFor]
                refine ⟨fun c => ?_, fun c => ?_⟩
                · replace hw := ok_t hw c
                  exact hG.2 _ _ _ _ _ _ _ _ _ (by refine ⟨Or.inr rfl, ?_⟩; refine ⟨Or.inr rfl, ?_⟩; refine ⟨Or.inr rfl, ?_⟩; refine ⟨Or.inr rfl, ?_⟩; refine ⟨Or.inr rfl, ?_⟩; refine ⟨Or.inr rfl, ?_⟩; refine ⟨Or.inr rfl, ?_⟩; refine ⟨Or.inr rfl, ?_⟩; refine ⟨Or.inr rfl, ?_⟩; exact trivial) (Nat.zero_le _) (Nat.zero_le _) (hP _ (ok_some hw :) :)
                · replace hw := ok_f hw c
                  exact hG.2 _ _ _ _ _ _ _ _ _ (by refine ⟨Or.inr rfl, ?_⟩; refine ⟨Or.inr rfl, ?_⟩; refine ⟨Or.inr rfl, ?_⟩; refine ⟨Or.inr rfl, ?_⟩; refine ⟨Or.inr rfl, ?_⟩; refine ⟨Or.inr rfl, ?_⟩; refine ⟨Or.inr rfl, ?_⟩; refine ⟨Or.inr rfl, ?_⟩; refine ⟨Or.inr rfl, ?_⟩; exact trivial) (Nat.zero_le _) (Nat.zero_le _) (hP _ (ok_some hw :) :)
              · replace hw := ok_f hw c
                refine ⟨(ok_rd hw).1, ?_⟩
                replace hw := (ok_rd hw).2
                refine ⟨(ok_rd hw).1, ?_⟩
                replace hw := (ok_rd hw).2
                refine ⟨fun c => ?_, fun c => ?_⟩
                · replace hw := ok_t hw c
                  refine c_X12_says_in (ok_imp (ok_bind hw) ?_)
                  intro p hw
                  simp only [Option.toList, List.nil_append, List.cons_append, Nat.reduceSub]
                  refine mj_run hG.1 (fun pc => pc == 9 || pc == 120 || pc == 139) 4000 ?_
                  simp only [mj_step, mj_W_s, mj_fin, List.getElem?_cons_zero, List.getElem?_cons_succ, mj_go, Nat.reduceAdd, Nat.reduceSub, Nat.reduceLT, Nat.reduceLeDiff, Nat.zero_add, Nat.reduceEqDiff, Nat.reduceBEq, ↓reduceIte, Bool.false_eq_true, List.append_nil, List.nil_append, List.cons_append, Option.toList, and_true, true_and, true_or, or_true, reduceCtorEq, List.map_nil, bI_eq0, bI_eq1, bool_ft, pk_us, vnar0, vnar1, Bool.or_false, Bool.or_true, Bool.false_or, Bool.true_or, mj_kne, eq_self, Int32.reduceLT, Int32.reduceLE, Int32.reduceAdd, Int32.reduceSub, Int32.reduceMul, not_true_eq_false, not_false_eq_true, false_implies, true_implies, D_X12_lawFor_0, D_X12_lawFor_1, mj_F_aload_n_k, mj_F_getfield_i, mj_F_goto_off, mj_F_iaload, mj_F_iconst_n, mj_F_ifCond_eq_off, mj_F_if_icmp_eq_off, mj_F_if_icmp_ge_off, mj_F_if_icmp_gt_off, mj_F_if_icmp_ne_off, mj_F_iinc_k_n, mj_F_iload_k, mj_F_iload_n_k, mj_F_invokevirtual_i, mj_F_ireturn, mj_F_istore_k, mj_F_putfield_i, mj_set, mj_set0, mj_unk, mj_c2, mj_kc, FT_X12, FT_X12_1, PT_X12, L_X12_lawFor, List.take_succ_cons, List.take_zero, List.drop_succ_cons, List.drop_zero, List.reverse_cons, List.reverse_nil, List.length_cons, List.length_nil, gS_M0, gMf_40, gMf_32, gS_M28, sS_Ma_28, gMf_34, gS_M30, sS_Ma_30, gMf_33, gS_M29, sS_Ma_29, gMf_44, sS_Mf_44, gMl, J_X12_lawFor]
                  refine ⟨fun c => ?_, fun c => ?_⟩
                  · replace hw := ok_t hw c
                    exact hG.2 _ _ _ _ _ _ _ _ _ (by refine ⟨Or.inr rfl, ?_⟩; refine ⟨Or.inr rfl, ?_⟩; refine ⟨Or.inr rfl, ?_⟩; refine ⟨Or.inr rfl, ?_⟩; refine ⟨Or.inr rfl, ?_⟩; refine ⟨Or.inr rfl, ?_⟩; refine ⟨Or.inr rfl, ?_⟩; refine ⟨Or.inr rfl, ?_⟩; refine ⟨Or.inr rfl, ?_⟩; exact trivial) (Nat.zero_le _) (Nat.zero_le _) (hP _ (ok_some hw :) :)
                  · replace hw := ok_f hw c
                    exact hG.2 _ _ _ _ _ _ _ _ _ (by refine ⟨Or.inr rfl, ?_⟩; refine ⟨Or.inr rfl, ?_⟩; refine ⟨Or.inr rfl, ?_⟩; refine ⟨Or.inr rfl, ?_⟩; refine ⟨Or.inr rfl, ?_⟩; refine ⟨Or.inr rfl, ?_⟩; refine ⟨Or.inr rfl, ?_⟩; refine ⟨Or.inr rfl, ?_⟩; refine ⟨Or.inr rfl, ?_⟩; exact trivial) (Nat.zero_le _) (Nat.zero_le _) (hP _ (ok_some hw :) :)
                · replace hw := ok_f hw c
                  exact hG.2 _ _ _ _ _ _ _ _ _ (by refine ⟨Or.inr rfl, ?_⟩; refine ⟨Or.inr rfl, ?_⟩; refine ⟨Or.inr rfl, ?_⟩; refine ⟨Or.inr rfl, ?_⟩; refine ⟨Or.inr rfl, ?_⟩; refine ⟨Or.inr rfl, ?_⟩; refine ⟨Or.inr rfl, ?_⟩; refine ⟨Or.inr rfl, ?_⟩; refine ⟨Or.inr rfl, ?_⟩; exact trivial) (Nat.zero_le _) (Nat.zero_le _) (hP _ (ok_some hw :) :)
    · replace hw := ok_f hw c
      refine ⟨(ok_rd hw).1, ?_⟩
      replace hw := (ok_rd hw).2
      refine ⟨fun c => ?_, fun c => ?_⟩
      · replace hw := ok_t hw c
        refine ⟨(ok_rd hw).1, ?_⟩
        replace hw := (ok_rd hw).2
        refine ⟨fun c => ?_, fun c => ?_⟩
        · replace hw := ok_t hw c
          exact hG.2 _ _ _ _ _ _ _ _ _ (by refine ⟨Or.inr rfl, ?_⟩; refine ⟨Or.inr rfl, ?_⟩; refine ⟨Or.inr rfl, ?_⟩; refine ⟨Or.inr rfl, ?_⟩; refine ⟨Or.inr rfl, ?_⟩; refine ⟨Or.inr rfl, ?_⟩; refine ⟨Or.inr rfl, ?_⟩; refine ⟨Or.inr rfl, ?_⟩; refine ⟨Or.inr rfl, ?_⟩; exact trivial) (Nat.zero_le _) (Nat.zero_le _) (hP _ (ok_some hw :) :)
        · replace hw := ok_f hw c
          refine ⟨(ok_rd hw).1, ?_⟩
          replace hw := (ok_rd hw).2
          refine ⟨fun c => ?_, fun c => ?_⟩
          · replace hw := ok_t hw c
            exact hG.2 _ _ _ _ _ _ _ _ _ (by refine ⟨Or.inr rfl, ?_⟩; refine ⟨Or.inr rfl, ?_⟩; refine ⟨Or.inr rfl, ?_⟩; refine ⟨Or.inr rfl, ?_⟩; refine ⟨Or.inr rfl, ?_⟩; refine ⟨Or.inr rfl, ?_⟩; refine ⟨Or.inr rfl, ?_⟩; refine ⟨Or.inr rfl, ?_⟩; refine ⟨Or.inr rfl, ?_⟩; exact trivial) (Nat.zero_le _) (Nat.zero_le _) (hP _ (ok_some hw :) :)
          · replace hw := ok_f hw c
            refine ⟨fun c => ?_, fun c => ?_⟩
            · replace hw := ok_t hw c
              refine c_X12_says_in (ok_imp (ok_bind hw) ?_)
              intro p hw
              simp only [Option.toList, List.nil_append, List.cons_append, Nat.reduceSub]
              refine mj_run hG.1 (fun pc => pc == 9 || pc == 120 || pc == 139) 4000 ?_
              simp only [mj_step, mj_W_s, mj_fin, List.getElem?_cons_zero, List.getElem?_cons_succ, mj_go, Nat.reduceAdd, Nat.reduceSub, Nat.reduceLT, Nat.reduceLeDiff, Nat.zero_add, Nat.reduceEqDiff, Nat.reduceBEq, ↓reduceIte, Bool.false_eq_true, List.append_nil, List.nil_append, List.cons_append, Option.toList, and_true, true_and, true_or, or_true, reduceCtorEq, List.map_nil, bI_eq0, bI_eq1, bool_ft, pk_us, vnar0, vnar1, Bool.or_false, Bool.or_true, Bool.false_or, Bool.true_or, mj_kne, eq_self, Int32.reduceLT, Int32.reduceLE, Int32.reduceAdd, Int32.reduceSub, Int32.reduceMul, not_true_eq_false, not_false_eq_true, false_implies, true_implies, D_X12_lawFor_0, D_X12_lawFor_1, mj_F_aload_n_k, mj_F_getfield_i, mj_F_goto_off, mj_F_iaload, mj_F_iconst_n, mj_F_ifCond_eq_off, mj_F_if_icmp_eq_off, mj_F_if_icmp_ge_off, mj_F_if_icmp_gt_off, mj_F_if_icmp_ne_off, mj_F_iinc_k_n, mj_F_iload_k, mj_F_iload_n_k, mj_F_invokevirtual_i, mj_F_ireturn, mj_F_istore_k, mj_F_putfield_i, mj_set, mj_set0, mj_unk, mj_c2, mj_kc, FT_X12, FT_X12_1, PT_X12, L_X12_lawFor, List.take_succ_cons, List.take_zero, List.drop_succ_cons, List.drop_zero, List.reverse_cons, List.reverse_nil, List.length_cons, List.length_nil, gS_M0, gMf_40, gMf_32, gS_M28, sS_Ma_28, gMf_34, gS_M30, sS_Ma_30, gMf_33, gS_M29, sS_Ma_29, gMf_44, sS_Mf_44, gMl, J_X12_lawFor]
              refine ⟨fun c => ?_, fun c => ?_⟩
              · replace hw := ok_t hw c
                exact hG.2 _ _ _ _ _ _ _ _ _ (by refine ⟨Or.inr rfl, ?_⟩; refine ⟨Or.inr rfl, ?_⟩; refine ⟨Or.inr rfl, ?_⟩; refine ⟨Or.inr rfl, ?_⟩; refine ⟨Or.inr rfl, ?_⟩; refine ⟨Or.inr rfl, ?_⟩; refine ⟨Or.inr rfl, ?_⟩; refine ⟨Or.inr rfl, ?_⟩; refine ⟨Or.inr rfl, ?_⟩; exact trivial) (Nat.zero_le _) (Nat.zero_le _) (hP _ (ok_some hw :) :)
              · replace hw := ok_f hw c
                exact hG.2 _ _ _ _ _ _ _ _ _ (by refine ⟨Or.inr rfl, ?_⟩; refine ⟨Or.inr rfl, ?_⟩; refine ⟨Or.inr rfl, ?_⟩; refine ⟨Or.inr rfl, ?_⟩; refine ⟨Or.inr rfl, ?_⟩; refine ⟨Or.inr rfl, ?_⟩; refine ⟨Or.inr rfl, ?_⟩; refine ⟨Or.inr rfl, ?_⟩; refine ⟨Or.inr rfl, ?_⟩; exact trivial) (Nat.zero_le _) (Nat.zero_le _) (hP _ (ok_some hw :) :)
            · replace hw := ok_f hw c
              refine ⟨(ok_rd hw).1, ?_⟩
              replace hw := (ok_rd hw).2
              refine ⟨(ok_rd hw).1, ?_⟩
              replace hw := (ok_rd hw).2
              refine ⟨fun c => ?_, fun c => ?_⟩
              · replace hw := ok_t hw c
                refine c_X12_says_in (ok_imp (ok_bind hw) ?_)
                intro p hw
                simp only [Option.toList, List.nil_append, List.cons_append, Nat.reduceSub]
                refine mj_run hG.1 (fun pc => pc == 9 || pc == 120 || pc == 139) 4000 ?_
                simp only [mj_step, mj_W_s, mj_fin, List.getElem?_cons_zero, List.getElem?_cons_succ, mj_go, Nat.reduceAdd, Nat.reduceSub, Nat.reduceLT, Nat.reduceLeDiff, Nat.zero_add, Nat.reduceEqDiff, Nat.reduceBEq, ↓reduceIte, Bool.false_eq_true, List.append_nil, List.nil_append, List.cons_append, Option.toList, and_true, true_and, true_or, or_true, reduceCtorEq, List.map_nil, bI_eq0, bI_eq1, bool_ft, pk_us, vnar0, vnar1, Bool.or_false, Bool.or_true, Bool.false_or, Bool.true_or, mj_kne, eq_self, Int32.reduceLT, Int32.reduceLE, Int32.reduceAdd, Int32.reduceSub, Int32.reduceMul, not_true_eq_false, not_false_eq_true, false_implies, true_implies, D_X12_lawFor_0, D_X12_lawFor_1, mj_F_aload_n_k, mj_F_getfield_i, mj_F_goto_off, mj_F_iaload, mj_F_iconst_n, mj_F_ifCond_eq_off, mj_F_if_icmp_eq_off, mj_F_if_icmp_ge_off, mj_F_if_icmp_gt_off, mj_F_if_icmp_ne_off, mj_F_iinc_k_n, mj_F_iload_k, mj_F_iload_n_k, mj_F_invokevirtual_i, mj_F_ireturn, mj_F_istore_k, mj_F_putfield_i, mj_set, mj_set0, mj_unk, mj_c2, mj_kc, FT_X12, FT_X12_1, PT_X12, L_X12_lawFor, List.take_succ_cons, List.take_zero, List.drop_succ_cons, List.drop_zero, List.reverse_cons, List.reverse_nil, List.length_cons, List.length_nil, gS_M0, gMf_40, gMf_32, gS_M28, sS_Ma_28, gMf_34, gS_M30, sS_Ma_30, gMf_33, gS_M29, sS_Ma_29, gMf_44, sS_Mf_44, gMl, J_X12_lawFor]
                refine ⟨fun c => ?_, fun c => ?_⟩
                · replace hw := ok_t hw c
                  exact hG.2 _ _ _ _ _ _ _ _ _ (by refine ⟨Or.inr rfl, ?_⟩; refine ⟨Or.inr rfl, ?_⟩; refine ⟨Or.inr rfl, ?_⟩; refine ⟨Or.inr rfl, ?_⟩; refine ⟨Or.inr rfl, ?_⟩; refine ⟨Or.inr rfl, ?_⟩; refine ⟨Or.inr rfl, ?_⟩; refine ⟨Or.inr rfl, ?_⟩; refine ⟨Or.inr rfl, ?_⟩; exact trivial) (Nat.zero_le _) (Nat.zero_le _) (hP _ (ok_some hw :) :)
                · replace hw := ok_f hw c
                  exact hG.2 _ _ _ _ _ _ _ _ _ (by refine ⟨Or.inr rfl, ?_⟩; refine ⟨Or.inr rfl, ?_⟩; refine ⟨Or.inr rfl, ?_⟩; refine ⟨Or.inr rfl, ?_⟩; refine ⟨Or.inr rfl, ?_⟩; refine ⟨Or.inr rfl, ?_⟩; refine ⟨Or.inr rfl, ?_⟩; refine ⟨Or.inr rfl, ?_⟩; refine ⟨Or.inr rfl, ?_⟩; exact trivial) (Nat.zero_le _) (Nat.zero_le _) (hP _ (ok_some hw :) :)
              · replace hw := ok_f hw c
                exact hG.2 _ _ _ _ _ _ _ _ _ (by refine ⟨Or.inr rfl, ?_⟩; refine ⟨Or.inr rfl, ?_⟩; refine ⟨Or.inr rfl, ?_⟩; refine ⟨Or.inr rfl, ?_⟩; refine ⟨Or.inr rfl, ?_⟩; refine ⟨Or.inr rfl, ?_⟩; refine ⟨Or.inr rfl, ?_⟩; refine ⟨Or.inr rfl, ?_⟩; refine ⟨Or.inr rfl, ?_⟩; exact trivial) (Nat.zero_le _) (Nat.zero_le _) (hP _ (ok_some hw :) :)
      · replace hw := ok_f hw c
        refine ⟨fun c => ?_, fun c => ?_⟩
        · replace hw := ok_t hw c
          exact hG.2 _ _ _ _ _ _ _ _ _ (by refine ⟨Or.inr rfl, ?_⟩; refine ⟨Or.inr rfl, ?_⟩; refine ⟨Or.inr rfl, ?_⟩; refine ⟨Or.inr rfl, ?_⟩; refine ⟨Or.inr rfl, ?_⟩; refine ⟨Or.inr rfl, ?_⟩; refine ⟨Or.inr rfl, ?_⟩; refine ⟨Or.inr rfl, ?_⟩; refine ⟨Or.inr rfl, ?_⟩; exact trivial) (Nat.zero_le _) (Nat.zero_le _) (hP _ (ok_some hw :) :)
        · replace hw := ok_f hw c
          refine ⟨(ok_rd hw).1, ?_⟩
          replace hw := (ok_rd hw).2
          refine ⟨fun c => ?_, fun c => ?_⟩
          · replace hw := ok_f hw c
            exact hG.2 _ _ _ _ _ _ _ _ _ (by refine ⟨Or.inr rfl, ?_⟩; refine ⟨Or.inr rfl, ?_⟩; refine ⟨Or.inr rfl, ?_⟩; refine ⟨Or.inr rfl, ?_⟩; refine ⟨Or.inr rfl, ?_⟩; refine ⟨Or.inr rfl, ?_⟩; refine ⟨Or.inr rfl, ?_⟩; refine ⟨Or.inr rfl, ?_⟩; refine ⟨Or.inr rfl, ?_⟩; exact trivial) (Nat.zero_le _) (Nat.zero_le _) (hP _ (ok_some hw :) :)
          · replace hw := ok_t hw c
            refine ⟨(ok_rd hw).1, ?_⟩
            replace hw := (ok_rd hw).2
            refine ⟨fun c => ?_, fun c => ?_⟩
            · replace hw := ok_t hw c
              exact hG.2 _ _ _ _ _ _ _ _ _ (by refine ⟨Or.inr rfl, ?_⟩; refine ⟨Or.inr rfl, ?_⟩; refine ⟨Or.inr rfl, ?_⟩; refine ⟨Or.inr rfl, ?_⟩; refine ⟨Or.inr rfl, ?_⟩; refine ⟨Or.inr rfl, ?_⟩; refine ⟨Or.inr rfl, ?_⟩; refine ⟨Or.inr rfl, ?_⟩; refine ⟨Or.inr rfl, ?_⟩; exact trivial) (Nat.zero_le _) (Nat.zero_le _) (hP _ (ok_some hw :) :)
            · replace hw := ok_f hw c
              refine ⟨(ok_rd hw).1, ?_⟩
              replace hw := (ok_rd hw).2
              refine ⟨fun c => ?_, fun c => ?_⟩
              · replace hw := ok_t hw c
                exact hG.2 _ _ _ _ _ _ _ _ _ (by refine ⟨Or.inr rfl, ?_⟩; refine ⟨Or.inr rfl, ?_⟩; refine ⟨Or.inr rfl, ?_⟩; refine ⟨Or.inr rfl, ?_⟩; refine ⟨Or.inr rfl, ?_⟩; refine ⟨Or.inr rfl, ?_⟩; refine ⟨Or.inr rfl, ?_⟩; refine ⟨Or.inr rfl, ?_⟩; refine ⟨Or.inr rfl, ?_⟩; exact trivial) (Nat.zero_le _) (Nat.zero_le _) (hP _ (ok_some hw :) :)
              · replace hw := ok_f hw c
                refine ⟨fun c => ?_, fun c => ?_⟩
                · replace hw := ok_t hw c
                  refine c_X12_says_in (ok_imp (ok_bind hw) ?_)
                  intro p hw
                  simp only [Option.toList, List.nil_append, List.cons_append, Nat.reduceSub]
                  refine mj_run hG.1 (fun pc => pc == 9 || pc == 120 || pc == 139) 4000 ?_
                  simp only [mj_step, mj_W_s, mj_fin, List.getElem?_cons_zero, List.getElem?_cons_succ, mj_go, Nat.reduceAdd, Nat.reduceSub, Nat.reduceLT, Nat.reduceLeDiff, Nat.zero_add, Nat.reduceEqDiff, Nat.reduceBEq, ↓reduceIte, Bool.false_eq_true, List.append_nil, List.nil_append, List.cons_append, Option.toList, and_true, true_and, true_or, or_true, reduceCtorEq, List.map_nil, bI_eq0, bI_eq1, bool_ft, pk_us, vnar0, vnar1, Bool.or_false, Bool.or_true, Bool.false_or, Bool.true_or, mj_kne, eq_self, Int32.reduceLT, Int32.reduceLE, Int32.reduceAdd, Int32.reduceSub, Int32.reduceMul, not_true_eq_false, not_false_eq_true, false_implies, true_implies, D_X12_lawFor_0, D_X12_lawFor_1, mj_F_aload_n_k, mj_F_getfield_i, mj_F_goto_off, mj_F_iaload, mj_F_iconst_n, mj_F_ifCond_eq_off, mj_F_if_icmp_eq_off, mj_F_if_icmp_ge_off, mj_F_if_icmp_gt_off, mj_F_if_icmp_ne_off, mj_F_iinc_k_n, mj_F_iload_k, mj_F_iload_n_k, mj_F_invokevirtual_i, mj_F_ireturn, mj_F_istore_k, mj_F_putfield_i, mj_set, mj_set0, mj_unk, mj_c2, mj_kc, FT_X12, FT_X12_1, PT_X12, L_X12_lawFor, List.take_succ_cons, List.take_zero, List.drop_succ_cons, List.drop_zero, List.reverse_cons, List.reverse_nil, List.length_cons, List.length_nil, gS_M0, gMf_40, gMf_32, gS_M28, sS_Ma_28, gMf_34, gS_M30, sS_Ma_30, gMf_33, gS_M29, sS_Ma_29, gMf_44, sS_Mf_44, gMl, J_X12_lawFor]
                  refine ⟨fun c => ?_, fun c => ?_⟩
                  · replace hw := ok_t hw c
                    exact hG.2 _ _ _ _ _ _ _ _ _ (by refine ⟨Or.inr rfl, ?_⟩; refine ⟨Or.inr rfl, ?_⟩; refine ⟨Or.inr rfl, ?_⟩; refine ⟨Or.inr rfl, ?_⟩; refine ⟨Or.inr rfl, ?_⟩; refine ⟨Or.inr rfl, ?_⟩; refine ⟨Or.inr rfl, ?_⟩; refine ⟨Or.inr rfl, ?_⟩; refine ⟨Or.inr rfl, ?_⟩; exact trivial) (Nat.zero_le _) (Nat.zero_le _) (hP _ (ok_some hw :) :)
                  · replace hw := ok_f hw c
                    exact hG.2 _ _ _ _ _ _ _ _ _ (by refine ⟨Or.inr rfl, ?_⟩; refine ⟨Or.inr rfl, ?_⟩; refine ⟨Or.inr rfl, ?_⟩; refine ⟨Or.inr rfl, ?_⟩; refine ⟨Or.inr rfl, ?_⟩; refine ⟨Or.inr rfl, ?_⟩; refine ⟨Or.inr rfl, ?_⟩; refine ⟨Or.inr rfl, ?_⟩; refine ⟨Or.inr rfl, ?_⟩; exact trivial) (Nat.zero_le _) (Nat.zero_le _) (hP _ (ok_some hw :) :)
                · replace hw := ok_f hw c
                  refine ⟨(ok_rd hw).1, ?_⟩
                  replace hw := (ok_rd hw).2
                  refine ⟨(ok_rd hw).1, ?_⟩
                  replace hw := (ok_rd hw).2
                  refine ⟨fun c => ?_, fun c => ?_⟩
                  · replace hw := ok_t hw c
                    refine c_X12_says_in (ok_imp (ok_bind hw) ?_)
                    intro p hw
                    simp only [Option.toList, List.nil_append, List.cons_append, Nat.reduceSub]
                    refine mj_run hG.1 (fun pc => pc == 9 || pc == 120 || pc == 139) 4000 ?_
                    simp only [mj_step, mj_W_s, mj_fin, List.getElem?_cons_zero, List.getElem?_cons_succ, mj_go, Nat.reduceAdd, Nat.reduceSub, Nat.reduceLT, Nat.reduceLeDiff, Nat.zero_add, Nat.reduceEqDiff, Nat.reduceBEq, ↓reduceIte, Bool.false_eq_true, List.append_nil, List.nil_append, List.cons_append, Option.toList, and_true, true_and, true_or, or_true, reduceCtorEq, List.map_nil, bI_eq0, bI_eq1, bool_ft, pk_us, vnar0, vnar1, Bool.or_false, Bool.or_true, Bool.false_or, Bool.true_or, mj_kne, eq_self, Int32.reduceLT, Int32.reduceLE, Int32.reduceAdd, Int32.reduceSub, Int32.reduceMul, not_true_eq_false, not_false_eq_true, false_implies, true_implies, D_X12_lawFor_0, D_X12_lawFor_1, mj_F_aload_n_k, mj_F_getfield_i, mj_F_goto_off, mj_F_iaload, mj_F_iconst_n, mj_F_ifCond_eq_off, mj_F_if_icmp_eq_off, mj_F_if_icmp_ge_off, mj_F_if_icmp_gt_off, mj_F_if_icmp_ne_off, mj_F_iinc_k_n, mj_F_iload_k, mj_F_iload_n_k, mj_F_invokevirtual_i, mj_F_ireturn, mj_F_istore_k, mj_F_putfield_i, mj_set, mj_set0, mj_unk, mj_c2, mj_kc, FT_X12, FT_X12_1, PT_X12, L_X12_lawFor, List.take_succ_cons, List.take_zero, List.drop_succ_cons, List.drop_zero, List.reverse_cons, List.reverse_nil, List.length_cons, List.length_nil, gS_M0, gMf_40, gMf_32, gS_M28, sS_Ma_28, gMf_34, gS_M30, sS_Ma_30, gMf_33, gS_M29, sS_Ma_29, gMf_44, sS_Mf_44, gMl, J_X12_lawFor]
                    refine ⟨fun c => ?_, fun c => ?_⟩
                    · replace hw := ok_t hw c
                      exact hG.2 _ _ _ _ _ _ _ _ _ (by refine ⟨Or.inr rfl, ?_⟩; refine ⟨Or.inr rfl, ?_⟩; refine ⟨Or.inr rfl, ?_⟩; refine ⟨Or.inr rfl, ?_⟩; refine ⟨Or.inr rfl, ?_⟩; refine ⟨Or.inr rfl, ?_⟩; refine ⟨Or.inr rfl, ?_⟩; refine ⟨Or.inr rfl, ?_⟩; refine ⟨Or.inr rfl, ?_⟩; exact trivial) (Nat.zero_le _) (Nat.zero_le _) (hP _ (ok_some hw :) :)
                    · replace hw := ok_f hw c
                      exact hG.2 _ _ _ _ _ _ _ _ _ (by refine ⟨Or.inr rfl, ?_⟩; refine ⟨Or.inr rfl, ?_⟩; refine ⟨Or.inr rfl, ?_⟩; refine ⟨Or.inr rfl, ?_⟩; refine ⟨Or.inr rfl, ?_⟩; refine ⟨Or.inr rfl, ?_⟩; refine ⟨Or.inr rfl, ?_⟩; refine ⟨Or.inr rfl, ?_⟩; refine ⟨Or.inr rfl, ?_⟩; exact trivial) (Nat.zero_le _) (Nat.zero_le _) (hP _ (ok_some hw :) :)
                  · replace hw := ok_f hw c
                    exact hG.2 _ _ _ _ _ _ _ _ _ (by refine ⟨Or.inr rfl, ?_⟩; refine ⟨Or.inr rfl, ?_⟩; refine ⟨Or.inr rfl, ?_⟩; refine ⟨Or.inr rfl, ?_⟩; refine ⟨Or.inr rfl, ?_⟩; refine ⟨Or.inr rfl, ?_⟩; refine ⟨Or.inr rfl, ?_⟩; refine ⟨Or.inr rfl, ?_⟩; refine ⟨Or.inr rfl, ?_⟩; exact trivial) (Nat.zero_le _) (Nat.zero_le _) (hP _ (ok_some hw :) :)

set_option maxHeartbeats 4000000 in
set_option maxRecDepth 20000 in
theorem g_X12_lawFor_139 {k : Option Value → mj_H → Prop} {G : mj_K} (hG : mj_cl2 cX12_lawFor (TbX12 10 ((some FieldType.int)) ct_X12_lawFor) k G)   {v6 : Int32} {v7 : Int32} {s : St} (hw : ok (F_X12_lawFor_139 v6 v7 s) (fun p => k (some (.int p.1)) (mkMs p.2))) : G 139 [.ref 0, mj_unk, mj_unk, mj_unk, mj_unk, mj_unk, .int v6, .int v7] [] (mkMs s) 0 0 := by
  unfold F_X12_lawFor_139 at hw
  refine mj_run hG.1 (fun pc => pc == 9 || pc == 120 || pc == 139) 4000 ?_
  simp only [mj_step, mj_W_s, mj_fin, List.getElem?_cons_zero, List.getElem?_cons_succ, mj_go, Nat.reduceAdd, Nat.reduceSub, Nat.reduceLT, Nat.reduceLeDiff, Nat.zero_add, Nat.reduceEqDiff, Nat.reduceBEq, ↓reduceIte, Bool.false_eq_true, List.append_nil, List.nil_append, List.cons_append, Option.toList, and_true, true_and, true_or, or_true, reduceCtorEq, List.map_nil, bI_eq0, bI_eq1, bool_ft, pk_us, vnar0, vnar1, Bool.or_false, Bool.or_true, Bool.false_or, Bool.true_or, mj_kne, eq_self, Int32.reduceLT, Int32.reduceLE, Int32.reduceAdd, Int32.reduceSub, Int32.reduceMul, not_true_eq_false, not_false_eq_true, false_implies, true_implies, D_X12_lawFor_0, D_X12_lawFor_1, mj_F_aload_n_k, mj_F_getfield_i, mj_F_goto_off, mj_F_iaload, mj_F_iconst_n, mj_F_ifCond_eq_off, mj_F_if_icmp_eq_off, mj_F_if_icmp_ge_off, mj_F_if_icmp_gt_off, mj_F_if_icmp_ne_off, mj_F_iinc_k_n, mj_F_iload_k, mj_F_iload_n_k, mj_F_invokevirtual_i, mj_F_ireturn, mj_F_istore_k, mj_F_putfield_i, mj_set, mj_set0, mj_unk, mj_c2, mj_kc, FT_X12, FT_X12_1, PT_X12, L_X12_lawFor, List.take_succ_cons, List.take_zero, List.drop_succ_cons, List.drop_zero, List.reverse_cons, List.reverse_nil, List.length_cons, List.length_nil, gS_M0, gMf_40, gMf_32, gS_M28, sS_Ma_28, gMf_34, gS_M30, sS_Ma_30, gMf_33, gS_M29, sS_Ma_29, gMf_44, sS_Mf_44, gMl, J_X12_lawFor]
  replace hw := ok_wI hw
  exact (ok_some hw :)

set_option maxHeartbeats 4000000 in
theorem g_X12_lawFor_9 {k : Option Value → mj_H → Prop} {G : mj_K} (hG : mj_cl2 cX12_lawFor (TbX12 10 ((some FieldType.int)) ct_X12_lawFor) k G)   {v1 : Int32} {v2 : Int32} {v3 : Int32} {v4 : Int32} {v5 : Int32} {v6 : Int32} {v7 : Int32} {v8 : Int32} {s : St} (hw : ok (F_X12_lawFor_9 v1 v2 v3 v4 v5 v6 v7 v8 s) (fun p => k (some (.int p.1)) (mkMs p.2))) : G 9 [.ref 0, .int v1, .int v2, .int v3, .int v4, .int v5, .int v6, .int v7, .int v8] [] (mkMs s) 0 0 := by
  unfold F_X12_lawFor_9 at hw
  refine lp_ok (B_X12_lawFor_9 v1 v2 v3 v4 v5) (fun x => G 9 [.ref 0, .int v1, .int v2, .int v3, .int v4, .int v5, .int x.1, .int x.2.1, .int x.2.2.1] [] (mkMs x.2.2.2) 0 0) _ ?_ _ _ (ok_bind hw)
  rintro ⟨v6, v7, v8, s⟩ hb
  exact b_X12_lawFor_9 hG (fun _ z => z) (fun y hw => by exact hG.2 _ _ _ _ _ _ _ _ _ (by refine ⟨Or.inr rfl, ?_⟩; refine ⟨Or.inl rfl, ?_⟩; refine ⟨Or.inl rfl, ?_⟩; refine ⟨Or.inl rfl, ?_⟩; refine ⟨Or.inl rfl, ?_⟩; refine ⟨Or.inl rfl, ?_⟩; refine ⟨Or.inr rfl, ?_⟩; refine ⟨Or.inr rfl, ?_⟩; exact trivial) (Nat.zero_le _) (Nat.zero_le _) (g_X12_lawFor_139 hG  hw :)) hb

set_option maxHeartbeats 4000000 in
set_option maxRecDepth 20000 in
theorem g_X12_lawFor {k : Option Value → mj_H → Prop} {G : mj_K} (hG : mj_cl2 cX12_lawFor (TbX12 10 ((some FieldType.int)) ct_X12_lawFor) k G) {v1 : Int32} {v2 : Int32} {v3 : Int32} {v4 : Int32} {v5 : Int32} {s : St} (hw : ok (F_X12_lawFor v1 v2 v3 v4 v5 s) (fun p => k (some (.int p.1)) (mkMs p.2))) : G 0 [.ref 0, .int v1, .int v2, .int v3, .int v4, .int v5] [] (mkMs s) 0 0 := by
  unfold F_X12_lawFor at hw
  refine mj_run hG.1 (fun pc => pc == 9 || pc == 120 || pc == 139) 4000 ?_
  simp only [mj_step, mj_W_s, mj_fin, List.getElem?_cons_zero, List.getElem?_cons_succ, mj_go, Nat.reduceAdd, Nat.reduceSub, Nat.reduceLT, Nat.reduceLeDiff, Nat.zero_add, Nat.reduceEqDiff, Nat.reduceBEq, ↓reduceIte, Bool.false_eq_true, List.append_nil, List.nil_append, List.cons_append, Option.toList, and_true, true_and, true_or, or_true, reduceCtorEq, List.map_nil, bI_eq0, bI_eq1, bool_ft, pk_us, vnar0, vnar1, Bool.or_false, Bool.or_true, Bool.false_or, Bool.true_or, mj_kne, eq_self, Int32.reduceLT, Int32.reduceLE, Int32.reduceAdd, Int32.reduceSub, Int32.reduceMul, not_true_eq_false, not_false_eq_true, false_implies, true_implies, D_X12_lawFor_0, D_X12_lawFor_1, mj_F_aload_n_k, mj_F_getfield_i, mj_F_goto_off, mj_F_iaload, mj_F_iconst_n, mj_F_ifCond_eq_off, mj_F_if_icmp_eq_off, mj_F_if_icmp_ge_off, mj_F_if_icmp_gt_off, mj_F_if_icmp_ne_off, mj_F_iinc_k_n, mj_F_iload_k, mj_F_iload_n_k, mj_F_invokevirtual_i, mj_F_ireturn, mj_F_istore_k, mj_F_putfield_i, mj_set, mj_set0, mj_unk, mj_c2, mj_kc, FT_X12, FT_X12_1, PT_X12, L_X12_lawFor, List.take_succ_cons, List.take_zero, List.drop_succ_cons, List.drop_zero, List.reverse_cons, List.reverse_nil, List.length_cons, List.length_nil, gS_M0, gMf_40, gMf_32, gS_M28, sS_Ma_28, gMf_34, gS_M30, sS_Ma_30, gMf_33, gS_M29, sS_Ma_29, gMf_44, sS_Mf_44, gMl, J_X12_lawFor]
  exact hG.2 _ _ _ _ _ _ _ _ _ (by refine ⟨Or.inr rfl, ?_⟩; refine ⟨Or.inr rfl, ?_⟩; refine ⟨Or.inr rfl, ?_⟩; refine ⟨Or.inr rfl, ?_⟩; refine ⟨Or.inr rfl, ?_⟩; refine ⟨Or.inr rfl, ?_⟩; refine ⟨Or.inr rfl, ?_⟩; refine ⟨Or.inr rfl, ?_⟩; refine ⟨Or.inr rfl, ?_⟩; exact trivial) (Nat.zero_le _) (Nat.zero_le _) (g_X12_lawFor_9 hG  hw :)

def c_X12_lawFor : mj_S := fun as h k => ∃ (v1 : Int32) (v2 : Int32) (v3 : Int32) (v4 : Int32) (v5 : Int32) (s : St), as = [.ref 0, .int v1, .int v2, .int v3, .int v4, .int v5] ∧ h = mkMs s ∧ ok (F_X12_lawFor v1 v2 v3 v4 v5 s) (fun p => k (some (.int p.1)) (mkMs p.2))
theorem c_X12_lawFor_in {v1 : Int32} {v2 : Int32} {v3 : Int32} {v4 : Int32} {v5 : Int32} {s : St} {k : Option Value → mj_H → Prop} (hw : ok (F_X12_lawFor v1 v2 v3 v4 v5 s) (fun p => k (some (.int p.1)) (mkMs p.2))) : c_X12_lawFor [.ref 0, .int v1, .int v2, .int v3, .int v4, .int v5] (mkMs s) k := ⟨v1, v2, v3, v4, v5, s, rfl, rfl, hw⟩
theorem m_X12_lawFor (l : Launch) : mj_Met l yX12_lawFor cX12_lawFor 10 ((some FieldType.int)) 5 0 0 c_X12_lawFor := by
  refine mj_body2 false (TbX12 10 ((some FieldType.int)) ct_X12_lawFor) (by decide) rfl rfl (fun h => nomatch h) (tfX12 _ (List.forall_mem_cons.mpr ⟨cfX12_411 (m_X12_says l) (by decide), fun _ h => nomatch h⟩)) ?_
  rintro as h k ⟨v1, v2, v3, v4, v5, s, rfl, rfl, hw⟩
  exact ⟨rfl, fun G hG => g_X12_lawFor hG hw⟩
def F_X12_plain (v0 : Int32) : Option (Int32) :=
  if v0 = 119 then
    some 60
  else
    if v0 = 104 then
      some 40
    else
      if v0 = 118 then
        some 0
      else
        if v0 = 102 then
          some 0
        else
          some 1
theorem J_X12_plain : mj_t 3 8 = 11 ∧ mj_t 8 31 = 39 ∧ mj_t 14 8 = 22 ∧ mj_t 19 20 = 39 ∧ mj_t 25 9 = 34 ∧ mj_t 31 7 = 38 ∧ mj_t 35 4 = 39 ∧ (0 ≤ ((3 : Nat) : Int) + 8) = True ∧ (0 ≤ ((8 : Nat) : Int) + 31) = True ∧ (0 ≤ ((14 : Nat) : Int) + 8) = True ∧ (0 ≤ ((19 : Nat) : Int) + 20) = True ∧ (0 ≤ ((25 : Nat) : Int) + 9) = True ∧ (0 ≤ ((31 : Nat) : Int) + 7) = True ∧ (0 ≤ ((35 : Nat) : Int) + 4) = True := by and_intros <;> first | rfl | exact eq_true (by decide)
set_option maxHeartbeats 4000000 in
set_option maxRecDepth 20000 in
theorem g_X12_plain {k : Option Value → mj_H → Prop} {G : mj_K} (hG : mj_cl2 cX12_plain (TbX12 1 ((some FieldType.int)) []) k G) {h : mj_H} {v0 : Int32} (hw : ok (F_X12_plain v0) (fun p => k (some (.int p)) h)) : G 0 [.int v0] [] h 0 0 := by
  unfold F_X12_plain at hw
  refine mj_run hG.1 (fun _ => false) 4000 ?_
  simp only [mj_step, mj_W_s, mj_fin, List.getElem?_cons_zero, List.getElem?_cons_succ, mj_go, Nat.reduceAdd, Nat.reduceSub, Nat.reduceLT, Nat.reduceLeDiff, Nat.zero_add, Nat.reduceEqDiff, Nat.reduceBEq, ↓reduceIte, Bool.false_eq_true, List.append_nil, List.nil_append, List.cons_append, Option.toList, and_true, true_and, true_or, or_true, reduceCtorEq, List.map_nil, bI_eq0, bI_eq1, bool_ft, pk_us, vnar0, vnar1, Bool.or_false, Bool.or_true, Bool.false_or, Bool.true_or, mj_kne, eq_self, Int32.reduceLT, Int32.reduceLE, Int32.reduceAdd, Int32.reduceSub, Int32.reduceMul, not_true_eq_false, not_false_eq_true, false_implies, true_implies, D_X12_plain, mj_F_bipush_n, mj_F_goto_off, mj_F_iconst_n, mj_F_if_icmp_eq_off, mj_F_if_icmp_ne_off, mj_F_iload_n_k, mj_F_ireturn, mj_kc, J_X12_plain]
  refine ⟨fun c => ?_, fun c => ?_⟩
  · replace hw := ok_f hw c
    refine ⟨fun c => ?_, fun c => ?_⟩
    · replace hw := ok_f hw c
      refine ⟨fun c => ?_, fun c => ?_⟩
      · replace hw := ok_t hw c
        exact (ok_some hw :)
      · replace hw := ok_f hw c
        refine ⟨fun c => ?_, fun c => ?_⟩
        · replace hw := ok_f hw c
          exact (ok_some hw :)
        · replace hw := ok_t hw c
          exact (ok_some hw :)
    · replace hw := ok_t hw c
      exact (ok_some hw :)
  · replace hw := ok_t hw c
    exact (ok_some hw :)

def c_X12_plain : mj_S := fun as h k => ∃ (v0 : Int32), as = [.int v0] ∧ ok (F_X12_plain v0) (fun p => k (some (.int p)) h)
theorem c_X12_plain_in {v0 : Int32} {h : mj_H} {k : Option Value → mj_H → Prop} (hw : ok (F_X12_plain v0) (fun p => k (some (.int p)) h)) : c_X12_plain [.int v0] h k := ⟨v0, rfl, hw⟩
theorem m_X12_plain (l : Launch) : mj_Met l yX12_plain cX12_plain 1 ((some FieldType.int)) 0 0 0 c_X12_plain := by
  refine mj_body2 false (TbX12 1 ((some FieldType.int)) []) (by decide) rfl rfl (fun h => nomatch h) (tfX12 _ (fun _ h => nomatch h)) ?_
  rintro as h k ⟨v0, rfl, hw⟩
  exact ⟨rfl, fun G hG => g_X12_plain hG hw⟩
def F_X12_worthOf (v1 : Int32) (v2 : Int32) (v3 : Int32) (v4 : Int32) (s : St) : Option (Int32 × St) :=
  (F_X12_lawFor v1 v2 v3 v4 0 s).bind fun r1 =>
  if r1.1 = (-1) then
    (F_X12_plain v4).bind fun r2 =>
    some (r2, r1.2)
  else
    some ((r1.2.1 1244), r1.2)
theorem J_X12_worthOf : mj_t 11 11 = 22 ∧ mj_t 19 7 = 26 ∧ (0 ≤ ((11 : Nat) : Int) + 11) = True ∧ (0 ≤ ((19 : Nat) : Int) + 7) = True := by and_intros <;> first | rfl | exact eq_true (by decide)
def ct_X12_worthOf : List (Nat × mj_Cs) := [(415, 0, 6, 12, 0, 0, c_X12_lawFor), (419, 2, 1, 12, 0, 0, c_X12_plain)]
theorem L_X12_worthOf : mj_lk ct_X12_worthOf 415 = some (0, 6, 12, 0, 0, c_X12_lawFor) ∧ mj_lk ct_X12_worthOf 419 = some (2, 1, 12, 0, 0, c_X12_plain) := ⟨rfl, rfl⟩
set_option maxHeartbeats 4000000 in
set_option maxRecDepth 20000 in
theorem g_X12_worthOf {k : Option Value → mj_H → Prop} {G : mj_K} (hG : mj_cl2 cX12_worthOf (TbX12 5 ((some FieldType.int)) ct_X12_worthOf) k G) {v1 : Int32} {v2 : Int32} {v3 : Int32} {v4 : Int32} {s : St} (hw : ok (F_X12_worthOf v1 v2 v3 v4 s) (fun p => k (some (.int p.1)) (mkMs p.2))) : G 0 [.ref 0, .int v1, .int v2, .int v3, .int v4] [] (mkMs s) 0 0 := by
  unfold F_X12_worthOf at hw
  refine mj_run hG.1 (fun pc => pc == 10 || pc == 19) 4000 ?_
  simp only [mj_step, mj_W_s, mj_fin, List.getElem?_cons_zero, List.getElem?_cons_succ, mj_go, Nat.reduceAdd, Nat.reduceSub, Nat.reduceLT, Nat.reduceLeDiff, Nat.zero_add, Nat.reduceEqDiff, Nat.reduceBEq, ↓reduceIte, Bool.false_eq_true, List.append_nil, List.nil_append, List.cons_append, Option.toList, and_true, true_and, true_or, or_true, reduceCtorEq, List.map_nil, bI_eq0, bI_eq1, bool_ft, pk_us, vnar0, vnar1, Bool.or_false, Bool.or_true, Bool.false_or, Bool.true_or, mj_kne, eq_self, Int32.reduceLT, Int32.reduceLE, Int32.reduceAdd, Int32.reduceSub, Int32.reduceMul, not_true_eq_false, not_false_eq_true, false_implies, true_implies, D_X12_worthOf, mj_F_aload_n_k, mj_F_getfield_i, mj_F_goto_off, mj_F_iconst_n, mj_F_if_icmp_ne_off, mj_F_iload_k, mj_F_iload_n_k, mj_F_invokestatic_i, mj_F_invokevirtual_i, mj_F_ireturn, mj_kc, FT_X12, FT_X12_1, L_X12_worthOf, List.take_succ_cons, List.take_zero, List.drop_succ_cons, List.drop_zero, List.reverse_cons, List.reverse_nil, List.length_cons, List.length_nil, gS_M0, gMf_44, J_X12_worthOf]
  refine c_X12_lawFor_in (ok_imp (ok_bind hw) ?_)
  intro p hw
  simp only [Option.toList, List.nil_append, List.cons_append, Nat.reduceSub]
  refine mj_run hG.1 (fun pc => pc == 10 || pc == 19) 4000 ?_
  simp only [mj_step, mj_W_s, mj_fin, List.getElem?_cons_zero, List.getElem?_cons_succ, mj_go, Nat.reduceAdd, Nat.reduceSub, Nat.reduceLT, Nat.reduceLeDiff, Nat.zero_add, Nat.reduceEqDiff, Nat.reduceBEq, ↓reduceIte, Bool.false_eq_true, List.append_nil, List.nil_append, List.cons_append, Option.toList, and_true, true_and, true_or, or_true, reduceCtorEq, List.map_nil, bI_eq0, bI_eq1, bool_ft, pk_us, vnar0, vnar1, Bool.or_false, Bool.or_true, Bool.false_or, Bool.true_or, mj_kne, eq_self, Int32.reduceLT, Int32.reduceLE, Int32.reduceAdd, Int32.reduceSub, Int32.reduceMul, not_true_eq_false, not_false_eq_true, false_implies, true_implies, D_X12_worthOf, mj_F_aload_n_k, mj_F_getfield_i, mj_F_goto_off, mj_F_iconst_n, mj_F_if_icmp_ne_off, mj_F_iload_k, mj_F_iload_n_k, mj_F_invokestatic_i, mj_F_invokevirtual_i, mj_F_ireturn, mj_kc, FT_X12, FT_X12_1, L_X12_worthOf, List.take_succ_cons, List.take_zero, List.drop_succ_cons, List.drop_zero, List.reverse_cons, List.reverse_nil, List.length_cons, List.length_nil, gS_M0, gMf_44, J_X12_worthOf]
  refine ⟨fun c => ?_, fun c => ?_⟩
  · replace hw := ok_f hw c
    exact (ok_some hw :)
  · replace hw := ok_t hw c
    refine c_X12_plain_in (ok_imp (ok_bind hw) ?_)
    intro p hw
    simp only [Option.toList, List.nil_append, List.cons_append, Nat.reduceSub]
    refine mj_run hG.1 (fun pc => pc == 10 || pc == 19) 4000 ?_
    simp only [mj_step, mj_W_s, mj_fin, List.getElem?_cons_zero, List.getElem?_cons_succ, mj_go, Nat.reduceAdd, Nat.reduceSub, Nat.reduceLT, Nat.reduceLeDiff, Nat.zero_add, Nat.reduceEqDiff, Nat.reduceBEq, ↓reduceIte, Bool.false_eq_true, List.append_nil, List.nil_append, List.cons_append, Option.toList, and_true, true_and, true_or, or_true, reduceCtorEq, List.map_nil, bI_eq0, bI_eq1, bool_ft, pk_us, vnar0, vnar1, Bool.or_false, Bool.or_true, Bool.false_or, Bool.true_or, mj_kne, eq_self, Int32.reduceLT, Int32.reduceLE, Int32.reduceAdd, Int32.reduceSub, Int32.reduceMul, not_true_eq_false, not_false_eq_true, false_implies, true_implies, D_X12_worthOf, mj_F_aload_n_k, mj_F_getfield_i, mj_F_goto_off, mj_F_iconst_n, mj_F_if_icmp_ne_off, mj_F_iload_k, mj_F_iload_n_k, mj_F_invokestatic_i, mj_F_invokevirtual_i, mj_F_ireturn, mj_kc, FT_X12, FT_X12_1, L_X12_worthOf, List.take_succ_cons, List.take_zero, List.drop_succ_cons, List.drop_zero, List.reverse_cons, List.reverse_nil, List.length_cons, List.length_nil, gS_M0, gMf_44, J_X12_worthOf]
    exact (ok_some hw :)

def c_X12_worthOf : mj_S := fun as h k => ∃ (v1 : Int32) (v2 : Int32) (v3 : Int32) (v4 : Int32) (s : St), as = [.ref 0, .int v1, .int v2, .int v3, .int v4] ∧ h = mkMs s ∧ ok (F_X12_worthOf v1 v2 v3 v4 s) (fun p => k (some (.int p.1)) (mkMs p.2))
theorem c_X12_worthOf_in {v1 : Int32} {v2 : Int32} {v3 : Int32} {v4 : Int32} {s : St} {k : Option Value → mj_H → Prop} (hw : ok (F_X12_worthOf v1 v2 v3 v4 s) (fun p => k (some (.int p.1)) (mkMs p.2))) : c_X12_worthOf [.ref 0, .int v1, .int v2, .int v3, .int v4] (mkMs s) k := ⟨v1, v2, v3, v4, s, rfl, rfl, hw⟩
theorem m_X12_worthOf (l : Launch) : mj_Met l yX12_worthOf cX12_worthOf 5 ((some FieldType.int)) 6 0 0 c_X12_worthOf := by
  refine mj_body2 false (TbX12 5 ((some FieldType.int)) ct_X12_worthOf) (by decide) rfl rfl (fun h => nomatch h) (tfX12 _ (List.forall_mem_cons.mpr ⟨cfX12_415 (m_X12_lawFor l) (by decide), List.forall_mem_cons.mpr ⟨cfX12_419 (m_X12_plain l) (by decide), fun _ h => nomatch h⟩⟩)) ?_
  rintro as h k ⟨v1, v2, v3, v4, s, rfl, rfl, hw⟩
  exact ⟨rfl, fun G hG => g_X12_worthOf hG hw⟩
def F_X12_worth (v1 : Int32) (v2 : Int32) (v3 : Int32) (v4 : Int32) (v5 : Int32) (v6 : Int32) (v7 : Int32) (v8 : Int32) (s : St) : Option (Int32 × St) :=
  (F_X12_isAsked v1 v2 v3 s).bind fun r1 =>
  if r1 = 0 then
    some ((-2000000), s)
  else
    (F_X12_isLabel v4).bind fun r2 =>
    if r2 = 0 then
      some ((-2000000), s)
    else
      (F_X12_tell v2 v1 v5 v6 v7 v8 s).bind fun s3 =>
      (F_X12_worthOf v1 v2 v3 v4 s3).bind fun r4 =>
      some (r4.1, r4.2)
theorem J_X12_worth : mj_t 7 11 = 18 ∧ mj_t 15 7 = 22 ∧ (0 ≤ ((7 : Nat) : Int) + 11) = True ∧ (0 ≤ ((15 : Nat) : Int) + 7) = True := by and_intros <;> first | rfl | exact eq_true (by decide)
def ct_X12_worth : List (Nat × mj_Cs) := [(370, 2, 1, 12, 0, 0, c_X12_isLabel), (422, 0, 4, 12, 0, 0, c_X12_isAsked), (426, 0, 7, 12, 0, 0, c_X12_tell), (430, 0, 5, 12, 0, 0, c_X12_worthOf)]
theorem L_X12_worth : mj_lk ct_X12_worth 370 = some (2, 1, 12, 0, 0, c_X12_isLabel) ∧ mj_lk ct_X12_worth 422 = some (0, 4, 12, 0, 0, c_X12_isAsked) ∧ mj_lk ct_X12_worth 426 = some (0, 7, 12, 0, 0, c_X12_tell) ∧ mj_lk ct_X12_worth 430 = some (0, 5, 12, 0, 0, c_X12_worthOf) := ⟨rfl, rfl, rfl, rfl⟩
set_option maxHeartbeats 4000000 in
set_option maxRecDepth 20000 in
theorem g_X12_worth {k : Option Value → mj_H → Prop} {G : mj_K} (hG : mj_cl2 cX12_worth (TbX12 9 ((some FieldType.int)) ct_X12_worth) k G) {v1 : Int32} {v2 : Int32} {v3 : Int32} {v4 : Int32} {v5 : Int32} {v6 : Int32} {v7 : Int32} {v8 : Int32} {s : St} (hw : ok (F_X12_worth v1 v2 v3 v4 v5 v6 v7 v8 s) (fun p => k (some (.int p.1)) (mkMs p.2))) : G 0 [.ref 0, .int v1, .int v2, .int v3, .int v4, .int v5, .int v6, .int v7, .int v8] [] (mkMs s) 0 0 := by
  unfold F_X12_worth at hw
  refine mj_run hG.1 (fun pc => pc == 7 || pc == 15 || pc == 36 || pc == 45) 4000 ?_
  simp only [mj_step, mj_W_s, mj_fin, List.getElem?_cons_zero, List.getElem?_cons_succ, mj_go, Nat.reduceAdd, Nat.reduceSub, Nat.reduceLT, Nat.reduceLeDiff, Nat.zero_add, Nat.reduceEqDiff, Nat.reduceBEq, ↓reduceIte, Bool.false_eq_true, List.append_nil, List.nil_append, List.cons_append, Option.toList, and_true, true_and, true_or, or_true, reduceCtorEq, List.map_nil, bI_eq0, bI_eq1, bool_ft, pk_us, vnar0, vnar1, Bool.or_false, Bool.or_true, Bool.false_or, Bool.true_or, mj_kne, eq_self, Int32.reduceLT, Int32.reduceLE, Int32.reduceAdd, Int32.reduceSub, Int32.reduceMul, not_true_eq_false, not_false_eq_true, false_implies, true_implies, D_X12_worth, mj_F_aload_n_k, mj_F_ifCond_eq_off, mj_F_ifCond_ne_off, mj_F_iload_k, mj_F_iload_n_k, mj_F_invokestatic_i, mj_F_invokevirtual_i, mj_F_ireturn, mj_F_ldc_w_i, KT_X12, L_X12_worth, List.take_succ_cons, List.take_zero, List.drop_succ_cons, List.drop_zero, List.reverse_cons, List.reverse_nil, List.length_cons, List.length_nil, gS_M0, J_X12_worth]
  refine c_X12_isAsked_in (ok_imp (ok_bind hw) ?_)
  intro p hw
  simp only [Option.toList, List.nil_append, List.cons_append, Nat.reduceSub]
  refine mj_run hG.1 (fun pc => pc == 7 || pc == 15 || pc == 36 || pc == 45) 4000 ?_
  simp only [mj_step, mj_W_s, mj_fin, List.getElem?_cons_zero, List.getElem?_cons_succ, mj_go, Nat.reduceAdd, Nat.reduceSub, Nat.reduceLT, Nat.reduceLeDiff, Nat.zero_add, Nat.reduceEqDiff, Nat.reduceBEq, ↓reduceIte, Bool.false_eq_true, List.append_nil, List.nil_append, List.cons_append, Option.toList, and_true, true_and, true_or, or_true, reduceCtorEq, List.map_nil, bI_eq0, bI_eq1, bool_ft, pk_us, vnar0, vnar1, Bool.or_false, Bool.or_true, Bool.false_or, Bool.true_or, mj_kne, eq_self, Int32.reduceLT, Int32.reduceLE, Int32.reduceAdd, Int32.reduceSub, Int32.reduceMul, not_true_eq_false, not_false_eq_true, false_implies, true_implies, D_X12_worth, mj_F_aload_n_k, mj_F_ifCond_eq_off, mj_F_ifCond_ne_off, mj_F_iload_k, mj_F_iload_n_k, mj_F_invokestatic_i, mj_F_invokevirtual_i, mj_F_ireturn, mj_F_ldc_w_i, KT_X12, L_X12_worth, List.take_succ_cons, List.take_zero, List.drop_succ_cons, List.drop_zero, List.reverse_cons, List.reverse_nil, List.length_cons, List.length_nil, gS_M0, J_X12_worth]
  refine ⟨fun c => ?_, fun c => ?_⟩
  · replace hw := ok_t hw c
    exact (ok_some hw :)
  · replace hw := ok_f hw c
    refine c_X12_isLabel_in (ok_imp (ok_bind hw) ?_)
    intro p hw
    simp only [Option.toList, List.nil_append, List.cons_append, Nat.reduceSub]
    refine mj_run hG.1 (fun pc => pc == 7 || pc == 15 || pc == 36 || pc == 45) 4000 ?_
    simp only [mj_step, mj_W_s, mj_fin, List.getElem?_cons_zero, List.getElem?_cons_succ, mj_go, Nat.reduceAdd, Nat.reduceSub, Nat.reduceLT, Nat.reduceLeDiff, Nat.zero_add, Nat.reduceEqDiff, Nat.reduceBEq, ↓reduceIte, Bool.false_eq_true, List.append_nil, List.nil_append, List.cons_append, Option.toList, and_true, true_and, true_or, or_true, reduceCtorEq, List.map_nil, bI_eq0, bI_eq1, bool_ft, pk_us, vnar0, vnar1, Bool.or_false, Bool.or_true, Bool.false_or, Bool.true_or, mj_kne, eq_self, Int32.reduceLT, Int32.reduceLE, Int32.reduceAdd, Int32.reduceSub, Int32.reduceMul, not_true_eq_false, not_false_eq_true, false_implies, true_implies, D_X12_worth, mj_F_aload_n_k, mj_F_ifCond_eq_off, mj_F_ifCond_ne_off, mj_F_iload_k, mj_F_iload_n_k, mj_F_invokestatic_i, mj_F_invokevirtual_i, mj_F_ireturn, mj_F_ldc_w_i, KT_X12, L_X12_worth, List.take_succ_cons, List.take_zero, List.drop_succ_cons, List.drop_zero, List.reverse_cons, List.reverse_nil, List.length_cons, List.length_nil, gS_M0, J_X12_worth]
    refine ⟨fun c => ?_, fun c => ?_⟩
    · replace hw := ok_f hw c
      refine c_X12_tell_in (ok_imp (ok_bind hw) ?_)
      intro p hw
      simp only [Option.toList, List.nil_append, List.cons_append, Nat.reduceSub]
      refine mj_run hG.1 (fun pc => pc == 7 || pc == 15 || pc == 36 || pc == 45) 4000 ?_
      simp only [mj_step, mj_W_s, mj_fin, List.getElem?_cons_zero, List.getElem?_cons_succ, mj_go, Nat.reduceAdd, Nat.reduceSub, Nat.reduceLT, Nat.reduceLeDiff, Nat.zero_add, Nat.reduceEqDiff, Nat.reduceBEq, ↓reduceIte, Bool.false_eq_true, List.append_nil, List.nil_append, List.cons_append, Option.toList, and_true, true_and, true_or, or_true, reduceCtorEq, List.map_nil, bI_eq0, bI_eq1, bool_ft, pk_us, vnar0, vnar1, Bool.or_false, Bool.or_true, Bool.false_or, Bool.true_or, mj_kne, eq_self, Int32.reduceLT, Int32.reduceLE, Int32.reduceAdd, Int32.reduceSub, Int32.reduceMul, not_true_eq_false, not_false_eq_true, false_implies, true_implies, D_X12_worth, mj_F_aload_n_k, mj_F_ifCond_eq_off, mj_F_ifCond_ne_off, mj_F_iload_k, mj_F_iload_n_k, mj_F_invokestatic_i, mj_F_invokevirtual_i, mj_F_ireturn, mj_F_ldc_w_i, KT_X12, L_X12_worth, List.take_succ_cons, List.take_zero, List.drop_succ_cons, List.drop_zero, List.reverse_cons, List.reverse_nil, List.length_cons, List.length_nil, gS_M0, J_X12_worth]
      refine c_X12_worthOf_in (ok_imp (ok_bind hw) ?_)
      intro p hw
      simp only [Option.toList, List.nil_append, List.cons_append, Nat.reduceSub]
      refine mj_run hG.1 (fun pc => pc == 7 || pc == 15 || pc == 36 || pc == 45) 4000 ?_
      simp only [mj_step, mj_W_s, mj_fin, List.getElem?_cons_zero, List.getElem?_cons_succ, mj_go, Nat.reduceAdd, Nat.reduceSub, Nat.reduceLT, Nat.reduceLeDiff, Nat.zero_add, Nat.reduceEqDiff, Nat.reduceBEq, ↓reduceIte, Bool.false_eq_true, List.append_nil, List.nil_append, List.cons_append, Option.toList, and_true, true_and, true_or, or_true, reduceCtorEq, List.map_nil, bI_eq0, bI_eq1, bool_ft, pk_us, vnar0, vnar1, Bool.or_false, Bool.or_true, Bool.false_or, Bool.true_or, mj_kne, eq_self, Int32.reduceLT, Int32.reduceLE, Int32.reduceAdd, Int32.reduceSub, Int32.reduceMul, not_true_eq_false, not_false_eq_true, false_implies, true_implies, D_X12_worth, mj_F_aload_n_k, mj_F_ifCond_eq_off, mj_F_ifCond_ne_off, mj_F_iload_k, mj_F_iload_n_k, mj_F_invokestatic_i, mj_F_invokevirtual_i, mj_F_ireturn, mj_F_ldc_w_i, KT_X12, L_X12_worth, List.take_succ_cons, List.take_zero, List.drop_succ_cons, List.drop_zero, List.reverse_cons, List.reverse_nil, List.length_cons, List.length_nil, gS_M0, J_X12_worth]
      exact (ok_some hw :)
    · replace hw := ok_t hw c
      exact (ok_some hw :)

def c_X12_worth : mj_S := fun as h k => ∃ (v1 : Int32) (v2 : Int32) (v3 : Int32) (v4 : Int32) (v5 : Int32) (v6 : Int32) (v7 : Int32) (v8 : Int32) (s : St), as = [.ref 0, .int v1, .int v2, .int v3, .int v4, .int v5, .int v6, .int v7, .int v8] ∧ h = mkMs s ∧ ok (F_X12_worth v1 v2 v3 v4 v5 v6 v7 v8 s) (fun p => k (some (.int p.1)) (mkMs p.2))
theorem c_X12_worth_in {v1 : Int32} {v2 : Int32} {v3 : Int32} {v4 : Int32} {v5 : Int32} {v6 : Int32} {v7 : Int32} {v8 : Int32} {s : St} {k : Option Value → mj_H → Prop} (hw : ok (F_X12_worth v1 v2 v3 v4 v5 v6 v7 v8 s) (fun p => k (some (.int p.1)) (mkMs p.2))) : c_X12_worth [.ref 0, .int v1, .int v2, .int v3, .int v4, .int v5, .int v6, .int v7, .int v8] (mkMs s) k := ⟨v1, v2, v3, v4, v5, v6, v7, v8, s, rfl, rfl, hw⟩
theorem m_X12_worth (l : Launch) : mj_Met l yX12_worth cX12_worth 9 ((some FieldType.int)) 7 0 0 c_X12_worth := by
  refine mj_body2 false (TbX12 9 ((some FieldType.int)) ct_X12_worth) (by decide) rfl rfl (fun h => nomatch h) (tfX12 _ (List.forall_mem_cons.mpr ⟨cfX12_370 (m_X12_isLabel l) (by decide), List.forall_mem_cons.mpr ⟨cfX12_422 (m_X12_isAsked l) (by decide), List.forall_mem_cons.mpr ⟨cfX12_426 (m_X12_tell l) (by decide), List.forall_mem_cons.mpr ⟨cfX12_430 (m_X12_worthOf l) (by decide), fun _ h => nomatch h⟩⟩⟩⟩)) ?_
  rintro as h k ⟨v1, v2, v3, v4, v5, v6, v7, v8, s, rfl, rfl, hw⟩
  exact ⟨rfl, fun G hG => g_X12_worth hG hw⟩
def F_X12_why (v1 : Int32) (v2 : Int32) (v3 : Int32) (v4 : Int32) (v5 : Int32) (v6 : Int32) (v7 : Int32) (v8 : Int32) (s : St) : Option (Int32 × St) :=
  (F_X12_isAsked v1 v2 v3 s).bind fun r1 =>
  if r1 = 0 then
    some ((-1), s)
  else
    (F_X12_isLabel v4).bind fun r2 =>
    if r2 = 0 then
      some ((-1), s)
    else
      (F_X12_tell v2 v1 v5 v6 v7 v8 s).bind fun s3 =>
      (F_X12_lawFor v1 v2 v3 v4 0 s3).bind fun r4 =>
      some (r4.1, r4.2)
theorem J_X12_why : mj_t 7 11 = 18 ∧ mj_t 15 5 = 20 ∧ (0 ≤ ((7 : Nat) : Int) + 11) = True ∧ (0 ≤ ((15 : Nat) : Int) + 5) = True := by and_intros <;> first | rfl | exact eq_true (by decide)
def ct_X12_why : List (Nat × mj_Cs) := [(370, 2, 1, 12, 0, 0, c_X12_isLabel), (415, 0, 6, 12, 0, 0, c_X12_lawFor), (422, 0, 4, 12, 0, 0, c_X12_isAsked), (426, 0, 7, 12, 0, 0, c_X12_tell)]
theorem L_X12_why : mj_lk ct_X12_why 370 = some (2, 1, 12, 0, 0, c_X12_isLabel) ∧ mj_lk ct_X12_why 415 = some (0, 6, 12, 0, 0, c_X12_lawFor) ∧ mj_lk ct_X12_why 422 = some (0, 4, 12, 0, 0, c_X12_isAsked) ∧ mj_lk ct_X12_why 426 = some (0, 7, 12, 0, 0, c_X12_tell) := ⟨rfl, rfl, rfl, rfl⟩
set_option maxHeartbeats 4000000 in
set_option maxRecDepth 20000 in
theorem g_X12_why {k : Option Value → mj_H → Prop} {G : mj_K} (hG : mj_cl2 cX12_why (TbX12 9 ((some FieldType.int)) ct_X12_why) k G) {v1 : Int32} {v2 : Int32} {v3 : Int32} {v4 : Int32} {v5 : Int32} {v6 : Int32} {v7 : Int32} {v8 : Int32} {s : St} (hw : ok (F_X12_why v1 v2 v3 v4 v5 v6 v7 v8 s) (fun p => k (some (.int p.1)) (mkMs p.2))) : G 0 [.ref 0, .int v1, .int v2, .int v3, .int v4, .int v5, .int v6, .int v7, .int v8] [] (mkMs s) 0 0 := by
  unfold F_X12_why at hw
  refine mj_run hG.1 (fun pc => pc == 7 || pc == 15 || pc == 34 || pc == 44) 4000 ?_
  simp only [mj_step, mj_W_s, mj_fin, List.getElem?_cons_zero, List.getElem?_cons_succ, mj_go, Nat.reduceAdd, Nat.reduceSub, Nat.reduceLT, Nat.reduceLeDiff, Nat.zero_add, Nat.reduceEqDiff, Nat.reduceBEq, ↓reduceIte, Bool.false_eq_true, List.append_nil, List.nil_append, List.cons_append, Option.toList, and_true, true_and, true_or, or_true, reduceCtorEq, List.map_nil, bI_eq0, bI_eq1, bool_ft, pk_us, vnar0, vnar1, Bool.or_false, Bool.or_true, Bool.false_or, Bool.true_or, mj_kne, eq_self, Int32.reduceLT, Int32.reduceLE, Int32.reduceAdd, Int32.reduceSub, Int32.reduceMul, not_true_eq_false, not_false_eq_true, false_implies, true_implies, D_X12_why, mj_F_aload_n_k, mj_F_iconst_n, mj_F_ifCond_eq_off, mj_F_ifCond_ne_off, mj_F_iload_k, mj_F_iload_n_k, mj_F_invokestatic_i, mj_F_invokevirtual_i, mj_F_ireturn, mj_kc, L_X12_why, List.take_succ_cons, List.take_zero, List.drop_succ_cons, List.drop_zero, List.reverse_cons, List.reverse_nil, List.length_cons, List.length_nil, gS_M0, J_X12_why]
  refine c_X12_isAsked_in (ok_imp (ok_bind hw) ?_)
  intro p hw
  simp only [Option.toList, List.nil_append, List.cons_append, Nat.reduceSub]
  refine mj_run hG.1 (fun pc => pc == 7 || pc == 15 || pc == 34 || pc == 44) 4000 ?_
  simp only [mj_step, mj_W_s, mj_fin, List.getElem?_cons_zero, List.getElem?_cons_succ, mj_go, Nat.reduceAdd, Nat.reduceSub, Nat.reduceLT, Nat.reduceLeDiff, Nat.zero_add, Nat.reduceEqDiff, Nat.reduceBEq, ↓reduceIte, Bool.false_eq_true, List.append_nil, List.nil_append, List.cons_append, Option.toList, and_true, true_and, true_or, or_true, reduceCtorEq, List.map_nil, bI_eq0, bI_eq1, bool_ft, pk_us, vnar0, vnar1, Bool.or_false, Bool.or_true, Bool.false_or, Bool.true_or, mj_kne, eq_self, Int32.reduceLT, Int32.reduceLE, Int32.reduceAdd, Int32.reduceSub, Int32.reduceMul, not_true_eq_false, not_false_eq_true, false_implies, true_implies, D_X12_why, mj_F_aload_n_k, mj_F_iconst_n, mj_F_ifCond_eq_off, mj_F_ifCond_ne_off, mj_F_iload_k, mj_F_iload_n_k, mj_F_invokestatic_i, mj_F_invokevirtual_i, mj_F_ireturn, mj_kc, L_X12_why, List.take_succ_cons, List.take_zero, List.drop_succ_cons, List.drop_zero, List.reverse_cons, List.reverse_nil, List.length_cons, List.length_nil, gS_M0, J_X12_why]
  refine ⟨fun c => ?_, fun c => ?_⟩
  · replace hw := ok_t hw c
    exact (ok_some hw :)
  · replace hw := ok_f hw c
    refine c_X12_isLabel_in (ok_imp (ok_bind hw) ?_)
    intro p hw
    simp only [Option.toList, List.nil_append, List.cons_append, Nat.reduceSub]
    refine mj_run hG.1 (fun pc => pc == 7 || pc == 15 || pc == 34 || pc == 44) 4000 ?_
    simp only [mj_step, mj_W_s, mj_fin, List.getElem?_cons_zero, List.getElem?_cons_succ, mj_go, Nat.reduceAdd, Nat.reduceSub, Nat.reduceLT, Nat.reduceLeDiff, Nat.zero_add, Nat.reduceEqDiff, Nat.reduceBEq, ↓reduceIte, Bool.false_eq_true, List.append_nil, List.nil_append, List.cons_append, Option.toList, and_true, true_and, true_or, or_true, reduceCtorEq, List.map_nil, bI_eq0, bI_eq1, bool_ft, pk_us, vnar0, vnar1, Bool.or_false, Bool.or_true, Bool.false_or, Bool.true_or, mj_kne, eq_self, Int32.reduceLT, Int32.reduceLE, Int32.reduceAdd, Int32.reduceSub, Int32.reduceMul, not_true_eq_false, not_false_eq_true, false_implies, true_implies, D_X12_why, mj_F_aload_n_k, mj_F_iconst_n, mj_F_ifCond_eq_off, mj_F_ifCond_ne_off, mj_F_iload_k, mj_F_iload_n_k, mj_F_invokestatic_i, mj_F_invokevirtual_i, mj_F_ireturn, mj_kc, L_X12_why, List.take_succ_cons, List.take_zero, List.drop_succ_cons, List.drop_zero, List.reverse_cons, List.reverse_nil, List.length_cons, List.length_nil, gS_M0, J_X12_why]
    refine ⟨fun c => ?_, fun c => ?_⟩
    · replace hw := ok_f hw c
      refine c_X12_tell_in (ok_imp (ok_bind hw) ?_)
      intro p hw
      simp only [Option.toList, List.nil_append, List.cons_append, Nat.reduceSub]
      refine mj_run hG.1 (fun pc => pc == 7 || pc == 15 || pc == 34 || pc == 44) 4000 ?_
      simp only [mj_step, mj_W_s, mj_fin, List.getElem?_cons_zero, List.getElem?_cons_succ, mj_go, Nat.reduceAdd, Nat.reduceSub, Nat.reduceLT, Nat.reduceLeDiff, Nat.zero_add, Nat.reduceEqDiff, Nat.reduceBEq, ↓reduceIte, Bool.false_eq_true, List.append_nil, List.nil_append, List.cons_append, Option.toList, and_true, true_and, true_or, or_true, reduceCtorEq, List.map_nil, bI_eq0, bI_eq1, bool_ft, pk_us, vnar0, vnar1, Bool.or_false, Bool.or_true, Bool.false_or, Bool.true_or, mj_kne, eq_self, Int32.reduceLT, Int32.reduceLE, Int32.reduceAdd, Int32.reduceSub, Int32.reduceMul, not_true_eq_false, not_false_eq_true, false_implies, true_implies, D_X12_why, mj_F_aload_n_k, mj_F_iconst_n, mj_F_ifCond_eq_off, mj_F_ifCond_ne_off, mj_F_iload_k, mj_F_iload_n_k, mj_F_invokestatic_i, mj_F_invokevirtual_i, mj_F_ireturn, mj_kc, L_X12_why, List.take_succ_cons, List.take_zero, List.drop_succ_cons, List.drop_zero, List.reverse_cons, List.reverse_nil, List.length_cons, List.length_nil, gS_M0, J_X12_why]
      refine c_X12_lawFor_in (ok_imp (ok_bind hw) ?_)
      intro p hw
      simp only [Option.toList, List.nil_append, List.cons_append, Nat.reduceSub]
      refine mj_run hG.1 (fun pc => pc == 7 || pc == 15 || pc == 34 || pc == 44) 4000 ?_
      simp only [mj_step, mj_W_s, mj_fin, List.getElem?_cons_zero, List.getElem?_cons_succ, mj_go, Nat.reduceAdd, Nat.reduceSub, Nat.reduceLT, Nat.reduceLeDiff, Nat.zero_add, Nat.reduceEqDiff, Nat.reduceBEq, ↓reduceIte, Bool.false_eq_true, List.append_nil, List.nil_append, List.cons_append, Option.toList, and_true, true_and, true_or, or_true, reduceCtorEq, List.map_nil, bI_eq0, bI_eq1, bool_ft, pk_us, vnar0, vnar1, Bool.or_false, Bool.or_true, Bool.false_or, Bool.true_or, mj_kne, eq_self, Int32.reduceLT, Int32.reduceLE, Int32.reduceAdd, Int32.reduceSub, Int32.reduceMul, not_true_eq_false, not_false_eq_true, false_implies, true_implies, D_X12_why, mj_F_aload_n_k, mj_F_iconst_n, mj_F_ifCond_eq_off, mj_F_ifCond_ne_off, mj_F_iload_k, mj_F_iload_n_k, mj_F_invokestatic_i, mj_F_invokevirtual_i, mj_F_ireturn, mj_kc, L_X12_why, List.take_succ_cons, List.take_zero, List.drop_succ_cons, List.drop_zero, List.reverse_cons, List.reverse_nil, List.length_cons, List.length_nil, gS_M0, J_X12_why]
      exact (ok_some hw :)
    · replace hw := ok_t hw c
      exact (ok_some hw :)

def c_X12_why : mj_S := fun as h k => ∃ (v1 : Int32) (v2 : Int32) (v3 : Int32) (v4 : Int32) (v5 : Int32) (v6 : Int32) (v7 : Int32) (v8 : Int32) (s : St), as = [.ref 0, .int v1, .int v2, .int v3, .int v4, .int v5, .int v6, .int v7, .int v8] ∧ h = mkMs s ∧ ok (F_X12_why v1 v2 v3 v4 v5 v6 v7 v8 s) (fun p => k (some (.int p.1)) (mkMs p.2))
theorem c_X12_why_in {v1 : Int32} {v2 : Int32} {v3 : Int32} {v4 : Int32} {v5 : Int32} {v6 : Int32} {v7 : Int32} {v8 : Int32} {s : St} {k : Option Value → mj_H → Prop} (hw : ok (F_X12_why v1 v2 v3 v4 v5 v6 v7 v8 s) (fun p => k (some (.int p.1)) (mkMs p.2))) : c_X12_why [.ref 0, .int v1, .int v2, .int v3, .int v4, .int v5, .int v6, .int v7, .int v8] (mkMs s) k := ⟨v1, v2, v3, v4, v5, v6, v7, v8, s, rfl, rfl, hw⟩
theorem m_X12_why (l : Launch) : mj_Met l yX12_why cX12_why 9 ((some FieldType.int)) 6 0 0 c_X12_why := by
  refine mj_body2 false (TbX12 9 ((some FieldType.int)) ct_X12_why) (by decide) rfl rfl (fun h => nomatch h) (tfX12 _ (List.forall_mem_cons.mpr ⟨cfX12_370 (m_X12_isLabel l) (by decide), List.forall_mem_cons.mpr ⟨cfX12_415 (m_X12_lawFor l) (by decide), List.forall_mem_cons.mpr ⟨cfX12_422 (m_X12_isAsked l) (by decide), List.forall_mem_cons.mpr ⟨cfX12_426 (m_X12_tell l) (by decide), fun _ h => nomatch h⟩⟩⟩⟩)) ?_
  rintro as h k ⟨v1, v2, v3, v4, v5, v6, v7, v8, s, rfl, rfl, hw⟩
  exact ⟨rfl, fun G hG => g_X12_why hG hw⟩
def F_X12_isWeek (v1 : Int32) (s : St) : Option (Int32) :=
  some (bI (inb v1 0 (s.1 1200)))
def ct_X12_isWeek : List (Nat × mj_Cs) := [(243, 2, 3, 12, 0, 0, c_in)]
theorem L_X12_isWeek : mj_lk ct_X12_isWeek 243 = some (2, 3, 12, 0, 0, c_in) := rfl
set_option maxHeartbeats 4000000 in
set_option maxRecDepth 20000 in
theorem g_X12_isWeek {k : Option Value → mj_H → Prop} {G : mj_K} (hG : mj_cl2 cX12_isWeek (TbX12 2 ((some FieldType.boolean)) ct_X12_isWeek) k G) {v1 : Int32} {s : St} (hw : ok (F_X12_isWeek v1 s) (fun p => k (some (.int p)) (mkMs s))) : G 0 [.ref 0, .int v1] [] (mkMs s) 0 0 := by
  unfold F_X12_isWeek at hw
  refine mj_run hG.1 (fun _ => false) 4000 ?_
  simp only [mj_step, mj_W_s, mj_fin, List.getElem?_cons_zero, List.getElem?_cons_succ, mj_go, Nat.reduceAdd, Nat.reduceSub, Nat.reduceLT, Nat.reduceLeDiff, Nat.zero_add, Nat.reduceEqDiff, Nat.reduceBEq, ↓reduceIte, Bool.false_eq_true, List.append_nil, List.nil_append, List.cons_append, Option.toList, and_true, true_and, true_or, or_true, reduceCtorEq, List.map_nil, bI_eq0, bI_eq1, bool_ft, pk_us, vnar0, vnar1, Bool.or_false, Bool.or_true, Bool.false_or, Bool.true_or, mj_kne, eq_self, Int32.reduceLT, Int32.reduceLE, Int32.reduceAdd, Int32.reduceSub, Int32.reduceMul, not_true_eq_false, not_false_eq_true, false_implies, true_implies, D_X12_isWeek, mj_F_aload_n_k, mj_F_getfield_i, mj_F_iconst_n, mj_F_iload_n_k, mj_F_invokestatic_i, mj_F_ireturn, mj_kc, FT_X12, FT_X12_1, L_X12_isWeek, List.take_succ_cons, List.take_zero, List.drop_succ_cons, List.drop_zero, List.reverse_cons, List.reverse_nil, List.length_cons, List.length_nil, gS_M0, gMf_0, c_in_eq]
  exact (ok_some hw :)

def c_X12_isWeek : mj_S := fun as h k => ∃ (v1 : Int32) (s : St), as = [.ref 0, .int v1] ∧ h = mkMs s ∧ ok (F_X12_isWeek v1 s) (fun p => k (some (.int p)) (mkMs s))
theorem c_X12_isWeek_in {v1 : Int32} {s : St} {k : Option Value → mj_H → Prop} (hw : ok (F_X12_isWeek v1 s) (fun p => k (some (.int p)) (mkMs s))) : c_X12_isWeek [.ref 0, .int v1] (mkMs s) k := ⟨v1, s, rfl, rfl, hw⟩
theorem m_X12_isWeek (l : Launch) : mj_Met l yX12_isWeek cX12_isWeek 2 ((some FieldType.boolean)) 1 0 0 c_X12_isWeek := by
  refine mj_body2 false (TbX12 2 ((some FieldType.boolean)) ct_X12_isWeek) (by decide) rfl rfl (fun h => nomatch h) (tfX12 _ (List.forall_mem_cons.mpr ⟨cfX12_243 (m_X12_in l) (by decide), fun _ h => nomatch h⟩)) ?_
  rintro as h k ⟨v1, s, rfl, rfl, hw⟩
  exact ⟨rfl, fun G hG => g_X12_isWeek hG hw⟩
def B_X12_wasShut_6 (v1 : Int32) (v2 : Int32) (v3 : Int32) (s : St) : Int32 × Int32 → Option ((Int32 × Int32) ⊕ ((Int32)))
  | (v4, v5) =>
  if (s.1 1226) ≤ v5 then
    some (.inr v4)
  else
    (rd s 1224 4096 v5).bind fun x1 =>
    if x1 = v1 then
      (rd s 1225 4096 v5).bind fun x2 =>
      if v2 < x2 then
        some (.inl (v4, (v5 + 1)))
      else
        (rd s 1225 4096 v5).bind fun x3 =>
        if v3 < x3 then
          some (.inl (v4, (v5 + 1)))
        else
          if v4 = 0 then
            some (.inl (1, (v5 + 1)))
          else
            some (.inl (0, (v5 + 1)))
    else
      some (.inl (v4, (v5 + 1)))
def F_X12_wasShut_66 (v4 : Int32) (s : St) : Option (Int32) :=
  (bz v4).bind fun _ =>
  some v4
def F_X12_wasShut_6 (v1 : Int32) (v2 : Int32) (v3 : Int32) (v4 : Int32) (v5 : Int32) (s : St) : Option (Int32) :=
  (lp (B_X12_wasShut_6 v1 v2 v3 s) FU (v4, v5)).bind (fun y => F_X12_wasShut_66 y s)
def F_X12_wasShut (v1 : Int32) (v2 : Int32) (v3 : Int32) (s : St) : Option (Int32) :=
  F_X12_wasShut_6 v1 v2 v3 0 0 s
theorem J_X12_wasShut : mj_t 12 54 = 66 ∧ mj_t 23 37 = 60 ∧ mj_t 34 26 = 60 ∧ mj_t 45 15 = 60 ∧ mj_t 50 7 = 57 ∧ mj_t 54 4 = 58 ∧ mj_t 63 (-57) = 6 ∧ (0 ≤ ((12 : Nat) : Int) + 54) = True ∧ (0 ≤ ((23 : Nat) : Int) + 37) = True ∧ (0 ≤ ((34 : Nat) : Int) + 26) = True ∧ (0 ≤ ((45 : Nat) : Int) + 15) = True ∧ (0 ≤ ((50 : Nat) : Int) + 7) = True ∧ (0 ≤ ((54 : Nat) : Int) + 4) = True ∧ (0 ≤ ((63 : Nat) : Int) + (-57)) = True := by and_intros <;> first | rfl | exact eq_true (by decide)
set_option maxHeartbeats 4000000 in
set_option maxRecDepth 20000 in
theorem b_X12_wasShut_6 {k : Option Value → mj_H → Prop} {G : mj_K} (hG : mj_cl2 cX12_wasShut (TbX12 6 ((some FieldType.boolean)) []) k G) {v1 : Int32} {v2 : Int32} {v3 : Int32} {s : St} {P : Int32 × Int32 → Prop} {K : (Int32) → Prop} (hP : ∀ x, P x → G 6 [.ref 0, .int v1, .int v2, .int v3, .int x.1, .int x.2] [] (mkMs s) 0 0) (hK0 : ∀ y, K y → G 66 [mj_unk, mj_unk, mj_unk, mj_unk, .int y] [] (mkMs s) 0 0) {v4 : Int32} {v5 : Int32} (hw : ok (B_X12_wasShut_6 v1 v2 v3 s (v4, v5)) (Sum.elim P K)) : G 6 [.ref 0, .int v1, .int v2, .int v3, .int v4, .int v5] [] (mkMs s) 0 0 := by
  unfold B_X12_wasShut_6 at hw
  refine mj_run hG.1 (fun pc => pc == 6 || pc == 66) 4000 ?_
  simp only [mj_step, mj_W_s, mj_fin, List.getElem?_cons_zero, List.getElem?_cons_succ, mj_go, Nat.reduceAdd, Nat.reduceSub, Nat.reduceLT, Nat.reduceLeDiff, Nat.zero_add, Nat.reduceEqDiff, Nat.reduceBEq, ↓reduceIte, Bool.false_eq_true, List.append_nil, List.nil_append, List.cons_append, Option.toList, and_true, true_and, true_or, or_true, reduceCtorEq, List.map_nil, bI_eq0, bI_eq1, bool_ft, pk_us, vnar0, vnar1, Bool.or_false, Bool.or_true, Bool.false_or, Bool.true_or, mj_kne, eq_self, Int32.reduceLT, Int32.reduceLE, Int32.reduceAdd, Int32.reduceSub, Int32.reduceMul, not_true_eq_false, not_false_eq_true, false_implies, true_implies, D_X12_wasShut, mj_F_aload_n_k, mj_F_getfield_i, mj_F_goto_off, mj_F_iaload, mj_F_iconst_n, mj_F_ifCond_ne_off, mj_F_if_icmp_ge_off, mj_F_if_icmp_gt_off, mj_F_if_icmp_ne_off, mj_F_iinc_k_n, mj_F_iload_k, mj_F_iload_n_k, mj_F_ireturn, mj_F_istore_k, mj_set, mj_set0, mj_unk, mj_c2, mj_kc, FT_X12, FT_X12_1, gS_M0, gMf_26, gMf_24, gS_M21, sS_Ma_21, gMf_25, gS_M22, sS_Ma_22, J_X12_wasShut]
  refine ⟨fun c => ?_, fun c => ?_⟩
  · replace hw := ok_t hw c
    exact hG.2 _ _ _ _ _ _ _ _ _ (by refine ⟨Or.inl rfl, ?_⟩; refine ⟨Or.inl rfl, ?_⟩; refine ⟨Or.inl rfl, ?_⟩; refine ⟨Or.inl rfl, ?_⟩; refine ⟨Or.inr rfl, ?_⟩; exact trivial) (Nat.zero_le _) (Nat.zero_le _) (hK0 _ (ok_some hw :) :)
  · replace hw := ok_f hw c
    refine ⟨(ok_rd hw).1, ?_⟩
    replace hw := (ok_rd hw).2
    refine ⟨fun c => ?_, fun c => ?_⟩
    · replace hw := ok_f hw c
      exact hG.2 _ _ _ _ _ _ _ _ _ (by refine ⟨Or.inr rfl, ?_⟩; refine ⟨Or.inr rfl, ?_⟩; refine ⟨Or.inr rfl, ?_⟩; refine ⟨Or.inr rfl, ?_⟩; refine ⟨Or.inr rfl, ?_⟩; refine ⟨Or.inr rfl, ?_⟩; exact trivial) (Nat.zero_le _) (Nat.zero_le _) (hP _ (ok_some hw :) :)
    · replace hw := ok_t hw c
      refine ⟨(ok_rd hw).1, ?_⟩
      replace hw := (ok_rd hw).2
      refine ⟨fun c => ?_, fun c => ?_⟩
      · replace hw := ok_t hw c
        exact hG.2 _ _ _ _ _ _ _ _ _ (by refine ⟨Or.inr rfl, ?_⟩; refine ⟨Or.inr rfl, ?_⟩; refine ⟨Or.inr rfl, ?_⟩; refine ⟨Or.inr rfl, ?_⟩; refine ⟨Or.inr rfl, ?_⟩; refine ⟨Or.inr rfl, ?_⟩; exact trivial) (Nat.zero_le _) (Nat.zero_le _) (hP _ (ok_some hw :) :)
      · replace hw := ok_f hw c
        refine ⟨(ok_rd hw).1, ?_⟩
        replace hw := (ok_rd hw).2
        refine ⟨fun c => ?_, fun c => ?_⟩
        · replace hw := ok_t hw c
          exact hG.2 _ _ _ _ _ _ _ _ _ (by refine ⟨Or.inr rfl, ?_⟩; refine ⟨Or.inr rfl, ?_⟩; refine ⟨Or.inr rfl, ?_⟩; refine ⟨Or.inr rfl, ?_⟩; refine ⟨Or.inr rfl, ?_⟩; refine ⟨Or.inr rfl, ?_⟩; exact trivial) (Nat.zero_le _) (Nat.zero_le _) (hP _ (ok_some hw :) :)
        · replace hw := ok_f hw c
          refine ⟨fun c => ?_, fun c => ?_⟩
          · replace hw := ok_f hw c
            exact hG.2 _ _ _ _ _ _ _ _ _ (by refine ⟨Or.inr rfl, ?_⟩; refine ⟨Or.inr rfl, ?_⟩; refine ⟨Or.inr rfl, ?_⟩; refine ⟨Or.inr rfl, ?_⟩; refine ⟨Or.inr rfl, ?_⟩; refine ⟨Or.inr rfl, ?_⟩; exact trivial) (Nat.zero_le _) (Nat.zero_le _) (hP _ (ok_some hw :) :)
          · replace hw := ok_t hw c
            exact hG.2 _ _ _ _ _ _ _ _ _ (by refine ⟨Or.inr rfl, ?_⟩; refine ⟨Or.inr rfl, ?_⟩; refine ⟨Or.inr rfl, ?_⟩; refine ⟨Or.inr rfl, ?_⟩; refine ⟨Or.inr rfl, ?_⟩; refine ⟨Or.inr rfl, ?_⟩; exact trivial) (Nat.zero_le _) (Nat.zero_le _) (hP _ (ok_some hw :) :)

set_option maxHeartbeats 4000000 in
set_option maxRecDepth 20000 in
theorem g_X12_wasShut_66 {k : Option Value → mj_H → Prop} {G : mj_K} (hG : mj_cl2 cX12_wasShut (TbX12 6 ((some FieldType.boolean)) []) k G)   {v4 : Int32} {s : St} (hw : ok (F_X12_wasShut_66 v4 s) (fun p => k (some (.int p)) (mkMs s))) : G 66 [mj_unk, mj_unk, mj_unk, mj_unk, .int v4] [] (mkMs s) 0 0 := by
  unfold F_X12_wasShut_66 at hw
  refine mj_run hG.1 (fun pc => pc == 6 || pc == 66) 4000 ?_
  simp only [mj_step, mj_W_s, mj_fin, List.getElem?_cons_zero, List.getElem?_cons_succ, mj_go, Nat.reduceAdd, Nat.reduceSub, Nat.reduceLT, Nat.reduceLeDiff, Nat.zero_add, Nat.reduceEqDiff, Nat.reduceBEq, ↓reduceIte, Bool.false_eq_true, List.append_nil, List.nil_append, List.cons_append, Option.toList, and_true, true_and, true_or, or_true, reduceCtorEq, List.map_nil, bI_eq0, bI_eq1, bool_ft, pk_us, vnar0, vnar1, Bool.or_false, Bool.or_true, Bool.false_or, Bool.true_or, mj_kne, eq_self, Int32.reduceLT, Int32.reduceLE, Int32.reduceAdd, Int32.reduceSub, Int32.reduceMul, not_true_eq_false, not_false_eq_true, false_implies, true_implies, D_X12_wasShut, mj_F_aload_n_k, mj_F_getfield_i, mj_F_goto_off, mj_F_iaload, mj_F_iconst_n, mj_F_ifCond_ne_off, mj_F_if_icmp_ge_off, mj_F_if_icmp_gt_off, mj_F_if_icmp_ne_off, mj_F_iinc_k_n, mj_F_iload_k, mj_F_iload_n_k, mj_F_ireturn, mj_F_istore_k, mj_set, mj_set0, mj_unk, mj_c2, mj_kc, FT_X12, FT_X12_1, gS_M0, gMf_26, gMf_24, gS_M21, sS_Ma_21, gMf_25, gS_M22, sS_Ma_22, J_X12_wasShut]
  refine ⟨(ok_bz hw).1, ?_⟩
  replace hw := (ok_bz hw).2
  exact (ok_some hw :)

set_option maxHeartbeats 4000000 in
theorem g_X12_wasShut_6 {k : Option Value → mj_H → Prop} {G : mj_K} (hG : mj_cl2 cX12_wasShut (TbX12 6 ((some FieldType.boolean)) []) k G)   {v1 : Int32} {v2 : Int32} {v3 : Int32} {v4 : Int32} {v5 : Int32} {s : St} (hw : ok (F_X12_wasShut_6 v1 v2 v3 v4 v5 s) (fun p => k (some (.int p)) (mkMs s))) : G 6 [.ref 0, .int v1, .int v2, .int v3, .int v4, .int v5] [] (mkMs s) 0 0 := by
  unfold F_X12_wasShut_6 at hw
  refine lp_ok (B_X12_wasShut_6 v1 v2 v3 s) (fun x => G 6 [.ref 0, .int v1, .int v2, .int v3, .int x.1, .int x.2] [] (mkMs s) 0 0) _ ?_ _ _ (ok_bind hw)
  rintro ⟨v4, v5⟩ hb
  exact b_X12_wasShut_6 hG (fun _ z => z) (fun y hw => by exact hG.2 _ _ _ _ _ _ _ _ _ (by refine ⟨Or.inl rfl, ?_⟩; refine ⟨Or.inl rfl, ?_⟩; refine ⟨Or.inl rfl, ?_⟩; refine ⟨Or.inl rfl, ?_⟩; refine ⟨Or.inr rfl, ?_⟩; exact trivial) (Nat.zero_le _) (Nat.zero_le _) (g_X12_wasShut_66 hG  hw :)) hb

set_option maxHeartbeats 4000000 in
set_option maxRecDepth 20000 in
theorem g_X12_wasShut {k : Option Value → mj_H → Prop} {G : mj_K} (hG : mj_cl2 cX12_wasShut (TbX12 6 ((some FieldType.boolean)) []) k G) {v1 : Int32} {v2 : Int32} {v3 : Int32} {s : St} (hw : ok (F_X12_wasShut v1 v2 v3 s) (fun p => k (some (.int p)) (mkMs s))) : G 0 [.ref 0, .int v1, .int v2, .int v3] [] (mkMs s) 0 0 := by
  unfold F_X12_wasShut at hw
  refine mj_run hG.1 (fun pc => pc == 6 || pc == 66) 4000 ?_
  simp only [mj_step, mj_W_s, mj_fin, List.getElem?_cons_zero, List.getElem?_cons_succ, mj_go, Nat.reduceAdd, Nat.reduceSub, Nat.reduceLT, Nat.reduceLeDiff, Nat.zero_add, Nat.reduceEqDiff, Nat.reduceBEq, ↓reduceIte, Bool.false_eq_true, List.append_nil, List.nil_append, List.cons_append, Option.toList, and_true, true_and, true_or, or_true, reduceCtorEq, List.map_nil, bI_eq0, bI_eq1, bool_ft, pk_us, vnar0, vnar1, Bool.or_false, Bool.or_true, Bool.false_or, Bool.true_or, mj_kne, eq_self, Int32.reduceLT, Int32.reduceLE, Int32.reduceAdd, Int32.reduceSub, Int32.reduceMul, not_true_eq_false, not_false_eq_true, false_implies, true_implies, D_X12_wasShut, mj_F_aload_n_k, mj_F_getfield_i, mj_F_goto_off, mj_F_iaload, mj_F_iconst_n, mj_F_ifCond_ne_off, mj_F_if_icmp_ge_off, mj_F_if_icmp_gt_off, mj_F_if_icmp_ne_off, mj_F_iinc_k_n, mj_F_iload_k, mj_F_iload_n_k, mj_F_ireturn, mj_F_istore_k, mj_set, mj_set0, mj_unk, mj_c2, mj_kc, FT_X12, FT_X12_1, gS_M0, gMf_26, gMf_24, gS_M21, sS_Ma_21, gMf_25, gS_M22, sS_Ma_22, J_X12_wasShut]
  exact hG.2 _ _ _ _ _ _ _ _ _ (by refine ⟨Or.inr rfl, ?_⟩; refine ⟨Or.inr rfl, ?_⟩; refine ⟨Or.inr rfl, ?_⟩; refine ⟨Or.inr rfl, ?_⟩; refine ⟨Or.inr rfl, ?_⟩; refine ⟨Or.inr rfl, ?_⟩; exact trivial) (Nat.zero_le _) (Nat.zero_le _) (g_X12_wasShut_6 hG  hw :)

def c_X12_wasShut : mj_S := fun as h k => ∃ (v1 : Int32) (v2 : Int32) (v3 : Int32) (s : St), as = [.ref 0, .int v1, .int v2, .int v3] ∧ h = mkMs s ∧ ok (F_X12_wasShut v1 v2 v3 s) (fun p => k (some (.int p)) (mkMs s))
theorem c_X12_wasShut_in {v1 : Int32} {v2 : Int32} {v3 : Int32} {s : St} {k : Option Value → mj_H → Prop} (hw : ok (F_X12_wasShut v1 v2 v3 s) (fun p => k (some (.int p)) (mkMs s))) : c_X12_wasShut [.ref 0, .int v1, .int v2, .int v3] (mkMs s) k := ⟨v1, v2, v3, s, rfl, rfl, hw⟩
theorem m_X12_wasShut (l : Launch) : mj_Met l yX12_wasShut cX12_wasShut 6 ((some FieldType.boolean)) 0 0 0 c_X12_wasShut := by
  refine mj_body2 false (TbX12 6 ((some FieldType.boolean)) []) (by decide) rfl rfl (fun h => nomatch h) (tfX12 _ (fun _ h => nomatch h)) ?_
  rintro as h k ⟨v1, v2, v3, s, rfl, rfl, hw⟩
  exact ⟨rfl, fun G hG => g_X12_wasShut hG hw⟩
def F_X12_isOpen (v1 : Int32) (v2 : Int32) (v3 : Int32) (s : St) : Option (Int32) :=
  (rd s 1219 20 v1).bind fun x1 =>
  if v3 < x1 then
    some 0
  else
    (rd s 1220 20 v1).bind fun x2 =>
    if x2 = (-1) then
      some 0
    else
      (rd s 1220 20 v1).bind fun x3 =>
      if v2 < x3 then
        some 0
      else
        (F_X12_wasShut v1 v2 v3 s).bind fun r4 =>
        if r4 = 0 then
          some 1
        else
          some 0
theorem J_X12_isOpen : mj_t 7 37 = 44 ∧ mj_t 17 27 = 44 ∧ mj_t 27 17 = 44 ∧ mj_t 37 7 = 44 ∧ mj_t 41 4 = 45 ∧ (0 ≤ ((7 : Nat) : Int) + 37) = True ∧ (0 ≤ ((17 : Nat) : Int) + 27) = True ∧ (0 ≤ ((27 : Nat) : Int) + 17) = True ∧ (0 ≤ ((37 : Nat) : Int) + 7) = True ∧ (0 ≤ ((41 : Nat) : Int) + 4) = True := by and_intros <;> first | rfl | exact eq_true (by decide)
def ct_X12_isOpen : List (Nat × mj_Cs) := [(441, 0, 4, 12, 0, 0, c_X12_wasShut)]
theorem L_X12_isOpen : mj_lk ct_X12_isOpen 441 = some (0, 4, 12, 0, 0, c_X12_wasShut) := rfl
set_option maxHeartbeats 4000000 in
set_option maxRecDepth 20000 in
theorem g_X12_isOpen {k : Option Value → mj_H → Prop} {G : mj_K} (hG : mj_cl2 cX12_isOpen (TbX12 4 ((some FieldType.boolean)) ct_X12_isOpen) k G) {v1 : Int32} {v2 : Int32} {v3 : Int32} {s : St} (hw : ok (F_X12_isOpen v1 v2 v3 s) (fun p => k (some (.int p)) (mkMs s))) : G 0 [.ref 0, .int v1, .int v2, .int v3] [] (mkMs s) 0 0 := by
  unfold F_X12_isOpen at hw
  refine mj_run hG.1 (fun pc => pc == 37) 4000 ?_
  simp only [mj_step, mj_W_s, mj_fin, List.getElem?_cons_zero, List.getElem?_cons_succ, mj_go, Nat.reduceAdd, Nat.reduceSub, Nat.reduceLT, Nat.reduceLeDiff, Nat.zero_add, Nat.reduceEqDiff, Nat.reduceBEq, ↓reduceIte, Bool.false_eq_true, List.append_nil, List.nil_append, List.cons_append, Option.toList, and_true, true_and, true_or, or_true, reduceCtorEq, List.map_nil, bI_eq0, bI_eq1, bool_ft, pk_us, vnar0, vnar1, Bool.or_false, Bool.or_true, Bool.false_or, Bool.true_or, mj_kne, eq_self, Int32.reduceLT, Int32.reduceLE, Int32.reduceAdd, Int32.reduceSub, Int32.reduceMul, not_true_eq_false, not_false_eq_true, false_implies, true_implies, D_X12_isOpen, mj_F_aload_n_k, mj_F_getfield_i, mj_F_goto_off, mj_F_iaload, mj_F_iconst_n, mj_F_ifCond_ne_off, mj_F_if_icmp_eq_off, mj_F_if_icmp_gt_off, mj_F_iload_n_k, mj_F_invokevirtual_i, mj_F_ireturn, mj_kc, FT_X12, FT_X12_1, L_X12_isOpen, List.take_succ_cons, List.take_zero, List.drop_succ_cons, List.drop_zero, List.reverse_cons, List.reverse_nil, List.length_cons, List.length_nil, gS_M0, gMf_19, gS_M17, sS_Ma_17, gMf_20, gS_M18, sS_Ma_18, J_X12_isOpen]
  refine ⟨(ok_rd hw).1, ?_⟩
  replace hw := (ok_rd hw).2
  refine ⟨fun c => ?_, fun c => ?_⟩
  · replace hw := ok_t hw c
    exact (ok_some hw :)
  · replace hw := ok_f hw c
    refine ⟨(ok_rd hw).1, ?_⟩
    replace hw := (ok_rd hw).2
    refine ⟨fun c => ?_, fun c => ?_⟩
    · replace hw := ok_t hw c
      exact (ok_some hw :)
    · replace hw := ok_f hw c
      refine ⟨(ok_rd hw).1, ?_⟩
      replace hw := (ok_rd hw).2
      refine ⟨fun c => ?_, fun c => ?_⟩
      · replace hw := ok_t hw c
        exact (ok_some hw :)
      · replace hw := ok_f hw c
        refine c_X12_wasShut_in (ok_imp (ok_bind hw) ?_)
        intro p hw
        simp only [Option.toList, List.nil_append, List.cons_append, Nat.reduceSub]
        refine mj_run hG.1 (fun pc => pc == 37) 4000 ?_
        simp only [mj_step, mj_W_s, mj_fin, List.getElem?_cons_zero, List.getElem?_cons_succ, mj_go, Nat.reduceAdd, Nat.reduceSub, Nat.reduceLT, Nat.reduceLeDiff, Nat.zero_add, Nat.reduceEqDiff, Nat.reduceBEq, ↓reduceIte, Bool.false_eq_true, List.append_nil, List.nil_append, List.cons_append, Option.toList, and_true, true_and, true_or, or_true, reduceCtorEq, List.map_nil, bI_eq0, bI_eq1, bool_ft, pk_us, vnar0, vnar1, Bool.or_false, Bool.or_true, Bool.false_or, Bool.true_or, mj_kne, eq_self, Int32.reduceLT, Int32.reduceLE, Int32.reduceAdd, Int32.reduceSub, Int32.reduceMul, not_true_eq_false, not_false_eq_true, false_implies, true_implies, D_X12_isOpen, mj_F_aload_n_k, mj_F_getfield_i, mj_F_goto_off, mj_F_iaload, mj_F_iconst_n, mj_F_ifCond_ne_off, mj_F_if_icmp_eq_off, mj_F_if_icmp_gt_off, mj_F_iload_n_k, mj_F_invokevirtual_i, mj_F_ireturn, mj_kc, FT_X12, FT_X12_1, L_X12_isOpen, List.take_succ_cons, List.take_zero, List.drop_succ_cons, List.drop_zero, List.reverse_cons, List.reverse_nil, List.length_cons, List.length_nil, gS_M0, gMf_19, gS_M17, sS_Ma_17, gMf_20, gS_M18, sS_Ma_18, J_X12_isOpen]
        refine ⟨fun c => ?_, fun c => ?_⟩
        · replace hw := ok_f hw c
          exact (ok_some hw :)
        · replace hw := ok_t hw c
          exact (ok_some hw :)

def c_X12_isOpen : mj_S := fun as h k => ∃ (v1 : Int32) (v2 : Int32) (v3 : Int32) (s : St), as = [.ref 0, .int v1, .int v2, .int v3] ∧ h = mkMs s ∧ ok (F_X12_isOpen v1 v2 v3 s) (fun p => k (some (.int p)) (mkMs s))
theorem c_X12_isOpen_in {v1 : Int32} {v2 : Int32} {v3 : Int32} {s : St} {k : Option Value → mj_H → Prop} (hw : ok (F_X12_isOpen v1 v2 v3 s) (fun p => k (some (.int p)) (mkMs s))) : c_X12_isOpen [.ref 0, .int v1, .int v2, .int v3] (mkMs s) k := ⟨v1, v2, v3, s, rfl, rfl, hw⟩
theorem m_X12_isOpen (l : Launch) : mj_Met l yX12_isOpen cX12_isOpen 4 ((some FieldType.boolean)) 1 0 0 c_X12_isOpen := by
  refine mj_body2 false (TbX12 4 ((some FieldType.boolean)) ct_X12_isOpen) (by decide) rfl rfl (fun h => nomatch h) (tfX12 _ (List.forall_mem_cons.mpr ⟨cfX12_441 (m_X12_wasShut l) (by decide), fun _ h => nomatch h⟩)) ?_
  rintro as h k ⟨v1, v2, v3, s, rfl, rfl, hw⟩
  exact ⟨rfl, fun G hG => g_X12_isOpen hG hw⟩
def F_X12_classesOf (v1 : Int32) (v2 : Int32) (v3 : Int32) (s : St) : Option (Int32 × St) :=
  (rd s 1215 20 v1).bind fun x1 =>
  (F_X12_tell (v2 / 52) x1 0 0 0 0 s).bind fun s2 =>
  (rd s2 1216 20 v1).bind fun x3 =>
  (rd s2 1217 20 v1).bind fun x4 =>
  (rd s2 1215 20 v1).bind fun x5 =>
  (F_X12_worthOf x5 (v2 / 52) v3 115 s2).bind fun r6 =>
  some ((x3 * (zmn x4 (zmx 1 r6.1))), r6.2)
def ct_X12_classesOf : List (Nat × mj_Cs) := [(426, 0, 7, 12, 0, 0, c_X12_tell), (430, 0, 5, 12, 0, 0, c_X12_worthOf), (444, 2, 1, 12, 0, 0, c_yearOf)]
theorem L_X12_classesOf : mj_lk ct_X12_classesOf 426 = some (0, 7, 12, 0, 0, c_X12_tell) ∧ mj_lk ct_X12_classesOf 430 = some (0, 5, 12, 0, 0, c_X12_worthOf) ∧ mj_lk ct_X12_classesOf 444 = some (2, 1, 12, 0, 0, c_yearOf) := ⟨rfl, rfl, rfl⟩
set_option maxHeartbeats 4000000 in
set_option maxRecDepth 20000 in
theorem g_X12_classesOf {k : Option Value → mj_H → Prop} {G : mj_K} (hG : mj_cl2 cX12_classesOf (TbX12 5 ((some FieldType.int)) ct_X12_classesOf) k G) (hM : mj_ml cX12_classesOf yX12_classesOf.cls G) {v1 : Int32} {v2 : Int32} {v3 : Int32} {s : St} (hw : ok (F_X12_classesOf v1 v2 v3 s) (fun p => k (some (.int p.1)) (mkMs p.2))) : G 0 [.ref 0, .int v1, .int v2, .int v3] [] (mkMs s) 0 0 := by
  unfold F_X12_classesOf at hw
  refine mj_run hG.1 (fun pc => pc == 22 || pc == 50 || pc == 53) 4000 ?_
  simp only [mj_step, mj_W_s, mj_fin, List.getElem?_cons_zero, List.getElem?_cons_succ, mj_go, Nat.reduceAdd, Nat.reduceSub, Nat.reduceLT, Nat.reduceLeDiff, Nat.zero_add, Nat.reduceEqDiff, Nat.reduceBEq, ↓reduceIte, Bool.false_eq_true, List.append_nil, List.nil_append, List.cons_append, Option.toList, and_true, true_and, true_or, or_true, reduceCtorEq, List.map_nil, bI_eq0, bI_eq1, bool_ft, pk_us, vnar0, vnar1, Bool.or_false, Bool.or_true, Bool.false_or, Bool.true_or, mj_kne, eq_self, Int32.reduceLT, Int32.reduceLE, Int32.reduceAdd, Int32.reduceSub, Int32.reduceMul, not_true_eq_false, not_false_eq_true, false_implies, true_implies, D_X12_classesOf, mj_F_aload_n_k, mj_F_bipush_n, mj_F_getfield_i, mj_F_iaload, mj_F_iconst_n, mj_F_iload_k, mj_F_iload_n_k, mj_F_imul, mj_F_invokestatic_i, mj_F_invokevirtual_i, mj_F_ireturn, mj_F_istore_k, mj_set, mj_set0, mj_unk, mj_c2, mj_kc, FT_X12, FT_X12_1, L_X12_classesOf, List.take_succ_cons, List.take_zero, List.drop_succ_cons, List.drop_zero, List.reverse_cons, List.reverse_nil, List.length_cons, List.length_nil, gS_M0, gMf_15, gS_M13, sS_Ma_13, gMf_16, gS_M14, sS_Ma_14, gMf_17, gS_M15, sS_Ma_15, c_yearOf_eq]
  refine ⟨(ok_rd hw).1, ?_⟩
  replace hw := (ok_rd hw).2
  refine c_X12_tell_in (ok_imp (ok_bind hw) ?_)
  intro p hw
  simp only [Option.toList, List.nil_append, List.cons_append, Nat.reduceSub]
  refine mj_run hG.1 (fun pc => pc == 22 || pc == 50 || pc == 53) 4000 ?_
  simp only [mj_step, mj_W_s, mj_fin, List.getElem?_cons_zero, List.getElem?_cons_succ, mj_go, Nat.reduceAdd, Nat.reduceSub, Nat.reduceLT, Nat.reduceLeDiff, Nat.zero_add, Nat.reduceEqDiff, Nat.reduceBEq, ↓reduceIte, Bool.false_eq_true, List.append_nil, List.nil_append, List.cons_append, Option.toList, and_true, true_and, true_or, or_true, reduceCtorEq, List.map_nil, bI_eq0, bI_eq1, bool_ft, pk_us, vnar0, vnar1, Bool.or_false, Bool.or_true, Bool.false_or, Bool.true_or, mj_kne, eq_self, Int32.reduceLT, Int32.reduceLE, Int32.reduceAdd, Int32.reduceSub, Int32.reduceMul, not_true_eq_false, not_false_eq_true, false_implies, true_implies, D_X12_classesOf, mj_F_aload_n_k, mj_F_bipush_n, mj_F_getfield_i, mj_F_iaload, mj_F_iconst_n, mj_F_iload_k, mj_F_iload_n_k, mj_F_imul, mj_F_invokestatic_i, mj_F_invokevirtual_i, mj_F_ireturn, mj_F_istore_k, mj_set, mj_set0, mj_unk, mj_c2, mj_kc, FT_X12, FT_X12_1, L_X12_classesOf, List.take_succ_cons, List.take_zero, List.drop_succ_cons, List.drop_zero, List.reverse_cons, List.reverse_nil, List.length_cons, List.length_nil, gS_M0, gMf_15, gS_M13, sS_Ma_13, gMf_16, gS_M14, sS_Ma_14, gMf_17, gS_M15, sS_Ma_15, c_yearOf_eq]
  refine ⟨(ok_rd hw).1, ?_⟩
  replace hw := (ok_rd hw).2
  refine ⟨(ok_rd hw).1, ?_⟩
  replace hw := (ok_rd hw).2
  refine ⟨(ok_rd hw).1, ?_⟩
  replace hw := (ok_rd hw).2
  refine c_X12_worthOf_in (ok_imp (ok_bind hw) ?_)
  intro p hw
  simp only [Option.toList, List.nil_append, List.cons_append, Nat.reduceSub]
  refine hM 50 447 1 _ _ _ _ _ _ _ _ (by simp only [D_X12_classesOf]) (lkX12_447) rfl (Nat.le_of_ble_eq_true rfl) ?_
  refine hM 53 449 0 _ _ _ _ _ _ _ _ (by simp only [D_X12_classesOf]) (lkX12_449) rfl (Nat.le_of_ble_eq_true rfl) ?_
  refine mj_run hG.1 (fun pc => pc == 22 || pc == 50 || pc == 53) 4000 ?_
  simp only [mj_step, mj_W_s, mj_fin, List.getElem?_cons_zero, List.getElem?_cons_succ, mj_go, Nat.reduceAdd, Nat.reduceSub, Nat.reduceLT, Nat.reduceLeDiff, Nat.zero_add, Nat.reduceEqDiff, Nat.reduceBEq, ↓reduceIte, Bool.false_eq_true, List.append_nil, List.nil_append, List.cons_append, Option.toList, and_true, true_and, true_or, or_true, reduceCtorEq, List.map_nil, bI_eq0, bI_eq1, bool_ft, pk_us, vnar0, vnar1, Bool.or_false, Bool.or_true, Bool.false_or, Bool.true_or, mj_kne, eq_self, Int32.reduceLT, Int32.reduceLE, Int32.reduceAdd, Int32.reduceSub, Int32.reduceMul, not_true_eq_false, not_false_eq_true, false_implies, true_implies, D_X12_classesOf, mj_F_aload_n_k, mj_F_bipush_n, mj_F_getfield_i, mj_F_iaload, mj_F_iconst_n, mj_F_iload_k, mj_F_iload_n_k, mj_F_imul, mj_F_invokestatic_i, mj_F_invokevirtual_i, mj_F_ireturn, mj_F_istore_k, mj_set, mj_set0, mj_unk, mj_c2, mj_kc, FT_X12, FT_X12_1, L_X12_classesOf, List.take_succ_cons, List.take_zero, List.drop_succ_cons, List.drop_zero, List.reverse_cons, List.reverse_nil, List.length_cons, List.length_nil, gS_M0, gMf_15, gS_M13, sS_Ma_13, gMf_16, gS_M14, sS_Ma_14, gMf_17, gS_M15, sS_Ma_15, c_yearOf_eq]
  exact (ok_some hw :)

def c_X12_classesOf : mj_S := fun as h k => ∃ (v1 : Int32) (v2 : Int32) (v3 : Int32) (s : St), as = [.ref 0, .int v1, .int v2, .int v3] ∧ h = mkMs s ∧ ok (F_X12_classesOf v1 v2 v3 s) (fun p => k (some (.int p.1)) (mkMs p.2))
theorem c_X12_classesOf_in {v1 : Int32} {v2 : Int32} {v3 : Int32} {s : St} {k : Option Value → mj_H → Prop} (hw : ok (F_X12_classesOf v1 v2 v3 s) (fun p => k (some (.int p.1)) (mkMs p.2))) : c_X12_classesOf [.ref 0, .int v1, .int v2, .int v3] (mkMs s) k := ⟨v1, v2, v3, s, rfl, rfl, hw⟩
theorem m_X12_classesOf (l : Launch) : mj_Met l yX12_classesOf cX12_classesOf 5 ((some FieldType.int)) 7 0 0 c_X12_classesOf := by
  refine mj_body3 false (TbX12 5 ((some FieldType.int)) ct_X12_classesOf) (by decide) (by decide) rfl rfl (fun h => nomatch h) (tfX12 _ (List.forall_mem_cons.mpr ⟨cfX12_426 (m_X12_tell l) (by decide), List.forall_mem_cons.mpr ⟨cfX12_430 (m_X12_worthOf l) (by decide), List.forall_mem_cons.mpr ⟨cfX12_444 (m_X12_yearOf l) (by decide), fun _ h => nomatch h⟩⟩⟩)) ?_
  rintro as h k ⟨v1, v2, v3, s, rfl, rfl, hw⟩
  exact ⟨rfl, fun G hG hM => g_X12_classesOf hG hM hw⟩
def F_X12_placesOf (v1 : Int32) (v2 : Int32) (v3 : Int32) (s : St) : Option (Int32 × St) :=
  (F_X12_isOpen v1 v2 v3 s).bind fun r1 =>
  if r1 = 0 then
    some (0, s)
  else
    (F_X12_classesOf v1 v2 v3 s).bind fun r2 =>
    (rd r2.2 1215 20 v1).bind fun x3 =>
    (F_X12_worthOf x3 (v2 / 52) v3 104 r2.2).bind fun r4 =>
    some ((Int64.toInt32 ((Int32.toInt64 r2.1) * (Int32.toInt64 (zmx 0 r4.1)))), r4.2)
theorem J_X12_placesOf : mj_t 7 5 = 12 ∧ (0 ≤ ((7 : Nat) : Int) + 5) = True := by and_intros <;> first | rfl | exact eq_true (by decide)
def ct_X12_placesOf : List (Nat × mj_Cs) := [(430, 0, 5, 12, 0, 0, c_X12_worthOf), (444, 2, 1, 12, 0, 0, c_yearOf), (451, 0, 4, 12, 0, 0, c_X12_isOpen), (454, 0, 4, 12, 0, 0, c_X12_classesOf)]
theorem L_X12_placesOf : mj_lk ct_X12_placesOf 430 = some (0, 5, 12, 0, 0, c_X12_worthOf) ∧ mj_lk ct_X12_placesOf 444 = some (2, 1, 12, 0, 0, c_yearOf) ∧ mj_lk ct_X12_placesOf 451 = some (0, 4, 12, 0, 0, c_X12_isOpen) ∧ mj_lk ct_X12_placesOf 454 = some (0, 4, 12, 0, 0, c_X12_classesOf) := ⟨rfl, rfl, rfl, rfl⟩
set_option maxHeartbeats 4000000 in
set_option maxRecDepth 20000 in
theorem g_X12_placesOf {k : Option Value → mj_H → Prop} {G : mj_K} (hG : mj_cl2 cX12_placesOf (TbX12 7 ((some FieldType.int)) ct_X12_placesOf) k G) (hM : mj_ml cX12_placesOf yX12_placesOf.cls G) {v1 : Int32} {v2 : Int32} {v3 : Int32} {s : St} (hw : ok (F_X12_placesOf v1 v2 v3 s) (fun p => k (some (.int p.1)) (mkMs p.2))) : G 0 [.ref 0, .int v1, .int v2, .int v3] [] (mkMs s) 0 0 := by
  unfold F_X12_placesOf at hw
  refine mj_run hG.1 (fun pc => pc == 7 || pc == 19 || pc == 42) 4000 ?_
  simp only [mj_step, mj_W_s, mj_fin, List.getElem?_cons_zero, List.getElem?_cons_succ, mj_go, Nat.reduceAdd, Nat.reduceSub, Nat.reduceLT, Nat.reduceLeDiff, Nat.zero_add, Nat.reduceEqDiff, Nat.reduceBEq, ↓reduceIte, Bool.false_eq_true, List.append_nil, List.nil_append, List.cons_append, Option.toList, and_true, true_and, true_or, or_true, reduceCtorEq, List.map_nil, bI_eq0, bI_eq1, bool_ft, pk_us, vnar0, vnar1, Bool.or_false, Bool.or_true, Bool.false_or, Bool.true_or, mj_kne, eq_self, Int32.reduceLT, Int32.reduceLE, Int32.reduceAdd, Int32.reduceSub, Int32.reduceMul, not_true_eq_false, not_false_eq_true, false_implies, true_implies, D_X12_placesOf, mj_F_aload_n_k, mj_F_bipush_n, mj_F_getfield_i, mj_F_i2l, mj_F_iaload, mj_F_iconst_n, mj_F_ifCond_ne_off, mj_F_iload_k, mj_F_iload_n_k, mj_F_invokestatic_i, mj_F_invokevirtual_i, mj_F_ireturn, mj_F_istore_k, mj_F_l2i, mj_F_lload_k, mj_F_lmul, mj_F_lstore_k, mj_set, mj_set0, mj_unk, mj_c2, mj_kc, FT_X12, FT_X12_1, L_X12_placesOf, List.take_succ_cons, List.take_zero, List.drop_succ_cons, List.drop_zero, List.reverse_cons, List.reverse_nil, List.length_cons, List.length_nil, gS_M0, gMf_15, gS_M13, sS_Ma_13, c_yearOf_eq, J_X12_placesOf]
  refine c_X12_isOpen_in (ok_imp (ok_bind hw) ?_)
  intro p hw
  simp only [Option.toList, List.nil_append, List.cons_append, Nat.reduceSub]
  refine mj_run hG.1 (fun pc => pc == 7 || pc == 19 || pc == 42) 4000 ?_
  simp only [mj_step, mj_W_s, mj_fin, List.getElem?_cons_zero, List.getElem?_cons_succ, mj_go, Nat.reduceAdd, Nat.reduceSub, Nat.reduceLT, Nat.reduceLeDiff, Nat.zero_add, Nat.reduceEqDiff, Nat.reduceBEq, ↓reduceIte, Bool.false_eq_true, List.append_nil, List.nil_append, List.cons_append, Option.toList, and_true, true_and, true_or, or_true, reduceCtorEq, List.map_nil, bI_eq0, bI_eq1, bool_ft, pk_us, vnar0, vnar1, Bool.or_false, Bool.or_true, Bool.false_or, Bool.true_or, mj_kne, eq_self, Int32.reduceLT, Int32.reduceLE, Int32.reduceAdd, Int32.reduceSub, Int32.reduceMul, not_true_eq_false, not_false_eq_true, false_implies, true_implies, D_X12_placesOf, mj_F_aload_n_k, mj_F_bipush_n, mj_F_getfield_i, mj_F_i2l, mj_F_iaload, mj_F_iconst_n, mj_F_ifCond_ne_off, mj_F_iload_k, mj_F_iload_n_k, mj_F_invokestatic_i, mj_F_invokevirtual_i, mj_F_ireturn, mj_F_istore_k, mj_F_l2i, mj_F_lload_k, mj_F_lmul, mj_F_lstore_k, mj_set, mj_set0, mj_unk, mj_c2, mj_kc, FT_X12, FT_X12_1, L_X12_placesOf, List.take_succ_cons, List.take_zero, List.drop_succ_cons, List.drop_zero, List.reverse_cons, List.reverse_nil, List.length_cons, List.length_nil, gS_M0, gMf_15, gS_M13, sS_Ma_13, c_yearOf_eq, J_X12_placesOf]
  refine ⟨fun c => ?_, fun c => ?_⟩
  · replace hw := ok_f hw c
    refine c_X12_classesOf_in (ok_imp (ok_bind hw) ?_)
    intro p hw
    simp only [Option.toList, List.nil_append, List.cons_append, Nat.reduceSub]
    refine mj_run hG.1 (fun pc => pc == 7 || pc == 19 || pc == 42) 4000 ?_
    simp only [mj_step, mj_W_s, mj_fin, List.getElem?_cons_zero, List.getElem?_cons_succ, mj_go, Nat.reduceAdd, Nat.reduceSub, Nat.reduceLT, Nat.reduceLeDiff, Nat.zero_add, Nat.reduceEqDiff, Nat.reduceBEq, ↓reduceIte, Bool.false_eq_true, List.append_nil, List.nil_append, List.cons_append, Option.toList, and_true, true_and, true_or, or_true, reduceCtorEq, List.map_nil, bI_eq0, bI_eq1, bool_ft, pk_us, vnar0, vnar1, Bool.or_false, Bool.or_true, Bool.false_or, Bool.true_or, mj_kne, eq_self, Int32.reduceLT, Int32.reduceLE, Int32.reduceAdd, Int32.reduceSub, Int32.reduceMul, not_true_eq_false, not_false_eq_true, false_implies, true_implies, D_X12_placesOf, mj_F_aload_n_k, mj_F_bipush_n, mj_F_getfield_i, mj_F_i2l, mj_F_iaload, mj_F_iconst_n, mj_F_ifCond_ne_off, mj_F_iload_k, mj_F_iload_n_k, mj_F_invokestatic_i, mj_F_invokevirtual_i, mj_F_ireturn, mj_F_istore_k, mj_F_l2i, mj_F_lload_k, mj_F_lmul, mj_F_lstore_k, mj_set, mj_set0, mj_unk, mj_c2, mj_kc, FT_X12, FT_X12_1, L_X12_placesOf, List.take_succ_cons, List.take_zero, List.drop_succ_cons, List.drop_zero, List.reverse_cons, List.reverse_nil, List.length_cons, List.length_nil, gS_M0, gMf_15, gS_M13, sS_Ma_13, c_yearOf_eq, J_X12_placesOf]
    refine ⟨(ok_rd hw).1, ?_⟩
    replace hw := (ok_rd hw).2
    refine c_X12_worthOf_in (ok_imp (ok_bind hw) ?_)
    intro p hw
    simp only [Option.toList, List.nil_append, List.cons_append, Nat.reduceSub]
    refine hM 42 447 1 _ _ _ _ _ _ _ _ (by simp only [D_X12_placesOf]) (lkX12_447) rfl (Nat.le_of_ble_eq_true rfl) ?_
    refine mj_run hG.1 (fun pc => pc == 7 || pc == 19 || pc == 42) 4000 ?_
    simp only [mj_step, mj_W_s, mj_fin, List.getElem?_cons_zero, List.getElem?_cons_succ, mj_go, Nat.reduceAdd, Nat.reduceSub, Nat.reduceLT, Nat.reduceLeDiff, Nat.zero_add, Nat.reduceEqDiff, Nat.reduceBEq, ↓reduceIte, Bool.false_eq_true, List.append_nil, List.nil_append, List.cons_append, Option.toList, and_true, true_and, true_or, or_true, reduceCtorEq, List.map_nil, bI_eq0, bI_eq1, bool_ft, pk_us, vnar0, vnar1, Bool.or_false, Bool.or_true, Bool.false_or, Bool.true_or, mj_kne, eq_self, Int32.reduceLT, Int32.reduceLE, Int32.reduceAdd, Int32.reduceSub, Int32.reduceMul, not_true_eq_false, not_false_eq_true, false_implies, true_implies, D_X12_placesOf, mj_F_aload_n_k, mj_F_bipush_n, mj_F_getfield_i, mj_F_i2l, mj_F_iaload, mj_F_iconst_n, mj_F_ifCond_ne_off, mj_F_iload_k, mj_F_iload_n_k, mj_F_invokestatic_i, mj_F_invokevirtual_i, mj_F_ireturn, mj_F_istore_k, mj_F_l2i, mj_F_lload_k, mj_F_lmul, mj_F_lstore_k, mj_set, mj_set0, mj_unk, mj_c2, mj_kc, FT_X12, FT_X12_1, L_X12_placesOf, List.take_succ_cons, List.take_zero, List.drop_succ_cons, List.drop_zero, List.reverse_cons, List.reverse_nil, List.length_cons, List.length_nil, gS_M0, gMf_15, gS_M13, sS_Ma_13, c_yearOf_eq, J_X12_placesOf]
    exact (ok_some hw :)
  · replace hw := ok_t hw c
    exact (ok_some hw :)

def c_X12_placesOf : mj_S := fun as h k => ∃ (v1 : Int32) (v2 : Int32) (v3 : Int32) (s : St), as = [.ref 0, .int v1, .int v2, .int v3] ∧ h = mkMs s ∧ ok (F_X12_placesOf v1 v2 v3 s) (fun p => k (some (.int p.1)) (mkMs p.2))
theorem c_X12_placesOf_in {v1 : Int32} {v2 : Int32} {v3 : Int32} {s : St} {k : Option Value → mj_H → Prop} (hw : ok (F_X12_placesOf v1 v2 v3 s) (fun p => k (some (.int p.1)) (mkMs p.2))) : c_X12_placesOf [.ref 0, .int v1, .int v2, .int v3] (mkMs s) k := ⟨v1, v2, v3, s, rfl, rfl, hw⟩
theorem m_X12_placesOf (l : Launch) : mj_Met l yX12_placesOf cX12_placesOf 7 ((some FieldType.int)) 8 0 0 c_X12_placesOf := by
  refine mj_body3 false (TbX12 7 ((some FieldType.int)) ct_X12_placesOf) (by decide) (by decide) rfl rfl (fun h => nomatch h) (tfX12 _ (List.forall_mem_cons.mpr ⟨cfX12_430 (m_X12_worthOf l) (by decide), List.forall_mem_cons.mpr ⟨cfX12_444 (m_X12_yearOf l) (by decide), List.forall_mem_cons.mpr ⟨cfX12_451 (m_X12_isOpen l) (by decide), List.forall_mem_cons.mpr ⟨cfX12_454 (m_X12_classesOf l) (by decide), fun _ h => nomatch h⟩⟩⟩⟩)) ?_
  rintro as h k ⟨v1, v2, v3, s, rfl, rfl, hw⟩
  exact ⟨rfl, fun G hG hM => g_X12_placesOf hG hM hw⟩
def F_X12_places (v1 : Int32) (v2 : Int32) (v3 : Int32) (s : St) : Option (Int32 × St) :=
  (F_X12_isSchool v1 s).bind fun r1 =>
  if r1 = 0 then
    some ((-1), s)
  else
    (F_X12_isWeek v2 s).bind fun r2 =>
    if r2 = 0 then
      some ((-1), s)
    else
      (F_X12_isKnowing v3 s).bind fun r3 =>
      if r3 = 0 then
        some ((-1), s)
      else
        (F_X12_placesOf v1 v2 v3 s).bind fun r4 =>
        some (r4.1, r4.2)
theorem J_X12_places : mj_t 5 29 = 34 ∧ mj_t 13 21 = 34 ∧ mj_t 21 13 = 34 ∧ mj_t 31 4 = 35 ∧ (0 ≤ ((5 : Nat) : Int) + 29) = True ∧ (0 ≤ ((13 : Nat) : Int) + 21) = True ∧ (0 ≤ ((21 : Nat) : Int) + 13) = True ∧ (0 ≤ ((31 : Nat) : Int) + 4) = True := by and_intros <;> first | rfl | exact eq_true (by decide)
def ct_X12_places : List (Nat × mj_Cs) := [(287, 0, 2, 12, 0, 0, c_X12_isKnowing), (293, 0, 2, 12, 0, 0, c_X12_isSchool), (457, 0, 2, 12, 0, 0, c_X12_isWeek), (460, 0, 4, 12, 0, 0, c_X12_placesOf)]
theorem L_X12_places : mj_lk ct_X12_places 287 = some (0, 2, 12, 0, 0, c_X12_isKnowing) ∧ mj_lk ct_X12_places 293 = some (0, 2, 12, 0, 0, c_X12_isSchool) ∧ mj_lk ct_X12_places 457 = some (0, 2, 12, 0, 0, c_X12_isWeek) ∧ mj_lk ct_X12_places 460 = some (0, 4, 12, 0, 0, c_X12_placesOf) := ⟨rfl, rfl, rfl, rfl⟩
set_option maxHeartbeats 4000000 in
set_option maxRecDepth 20000 in
theorem g_X12_places {k : Option Value → mj_H → Prop} {G : mj_K} (hG : mj_cl2 cX12_places (TbX12 4 ((some FieldType.int)) ct_X12_places) k G) {v1 : Int32} {v2 : Int32} {v3 : Int32} {s : St} (hw : ok (F_X12_places v1 v2 v3 s) (fun p => k (some (.int p.1)) (mkMs p.2))) : G 0 [.ref 0, .int v1, .int v2, .int v3] [] (mkMs s) 0 0 := by
  unfold F_X12_places at hw
  refine mj_run hG.1 (fun pc => pc == 5 || pc == 13 || pc == 21 || pc == 31) 4000 ?_
  simp only [mj_step, mj_W_s, mj_fin, List.getElem?_cons_zero, List.getElem?_cons_succ, mj_go, Nat.reduceAdd, Nat.reduceSub, Nat.reduceLT, Nat.reduceLeDiff, Nat.zero_add, Nat.reduceEqDiff, Nat.reduceBEq, ↓reduceIte, Bool.false_eq_true, List.append_nil, List.nil_append, List.cons_append, Option.toList, and_true, true_and, true_or, or_true, reduceCtorEq, List.map_nil, bI_eq0, bI_eq1, bool_ft, pk_us, vnar0, vnar1, Bool.or_false, Bool.or_true, Bool.false_or, Bool.true_or, mj_kne, eq_self, Int32.reduceLT, Int32.reduceLE, Int32.reduceAdd, Int32.reduceSub, Int32.reduceMul, not_true_eq_false, not_false_eq_true, false_implies, true_implies, D_X12_places, mj_F_aload_n_k, mj_F_goto_off, mj_F_iconst_n, mj_F_ifCond_eq_off, mj_F_iload_n_k, mj_F_invokevirtual_i, mj_F_ireturn, mj_kc, L_X12_places, List.take_succ_cons, List.take_zero, List.drop_succ_cons, List.drop_zero, List.reverse_cons, List.reverse_nil, List.length_cons, List.length_nil, gS_M0, J_X12_places]
  refine c_X12_isSchool_in (ok_imp (ok_bind hw) ?_)
  intro p hw
  simp only [Option.toList, List.nil_append, List.cons_append, Nat.reduceSub]
  refine mj_run hG.1 (fun pc => pc == 5 || pc == 13 || pc == 21 || pc == 31) 4000 ?_
  simp only [mj_step, mj_W_s, mj_fin, List.getElem?_cons_zero, List.getElem?_cons_succ, mj_go, Nat.reduceAdd, Nat.reduceSub, Nat.reduceLT, Nat.reduceLeDiff, Nat.zero_add, Nat.reduceEqDiff, Nat.reduceBEq, ↓reduceIte, Bool.false_eq_true, List.append_nil, List.nil_append, List.cons_append, Option.toList, and_true, true_and, true_or, or_true, reduceCtorEq, List.map_nil, bI_eq0, bI_eq1, bool_ft, pk_us, vnar0, vnar1, Bool.or_false, Bool.or_true, Bool.false_or, Bool.true_or, mj_kne, eq_self, Int32.reduceLT, Int32.reduceLE, Int32.reduceAdd, Int32.reduceSub, Int32.reduceMul, not_true_eq_false, not_false_eq_true, false_implies, true_implies, D_X12_places, mj_F_aload_n_k, mj_F_goto_off, mj_F_iconst_n, mj_F_ifCond_eq_off, mj_F_iload_n_k, mj_F_invokevirtual_i, mj_F_ireturn, mj_kc, L_X12_places, List.take_succ_cons, List.take_zero, List.drop_succ_cons, List.drop_zero, List.reverse_cons, List.reverse_nil, List.length_cons, List.length_nil, gS_M0, J_X12_places]
  refine ⟨fun c => ?_, fun c => ?_⟩
  · replace hw := ok_t hw c
    exact (ok_some hw :)
  · replace hw := ok_f hw c
    refine c_X12_isWeek_in (ok_imp (ok_bind hw) ?_)
    intro p hw
    simp only [Option.toList, List.nil_append, List.cons_append, Nat.reduceSub]
    refine mj_run hG.1 (fun pc => pc == 5 || pc == 13 || pc == 21 || pc == 31) 4000 ?_
    simp only [mj_step, mj_W_s, mj_fin, List.getElem?_cons_zero, List.getElem?_cons_succ, mj_go, Nat.reduceAdd, Nat.reduceSub, Nat.reduceLT, Nat.reduceLeDiff, Nat.zero_add, Nat.reduceEqDiff, Nat.reduceBEq, ↓reduceIte, Bool.false_eq_true, List.append_nil, List.nil_append, List.cons_append, Option.toList, and_true, true_and, true_or, or_true, reduceCtorEq, List.map_nil, bI_eq0, bI_eq1, bool_ft, pk_us, vnar0, vnar1, Bool.or_false, Bool.or_true, Bool.false_or, Bool.true_or, mj_kne, eq_self, Int32.reduceLT, Int32.reduceLE, Int32.reduceAdd, Int32.reduceSub, Int32.reduceMul, not_true_eq_false, not_false_eq_true, false_implies, true_implies, D_X12_places, mj_F_aload_n_k, mj_F_goto_off, mj_F_iconst_n, mj_F_ifCond_eq_off, mj_F_iload_n_k, mj_F_invokevirtual_i, mj_F_ireturn, mj_kc, L_X12_places, List.take_succ_cons, List.take_zero, List.drop_succ_cons, List.drop_zero, List.reverse_cons, List.reverse_nil, List.length_cons, List.length_nil, gS_M0, J_X12_places]
    refine ⟨fun c => ?_, fun c => ?_⟩
    · replace hw := ok_t hw c
      exact (ok_some hw :)
    · replace hw := ok_f hw c
      refine c_X12_isKnowing_in (ok_imp (ok_bind hw) ?_)
      intro p hw
      simp only [Option.toList, List.nil_append, List.cons_append, Nat.reduceSub]
      refine mj_run hG.1 (fun pc => pc == 5 || pc == 13 || pc == 21 || pc == 31) 4000 ?_
      simp only [mj_step, mj_W_s, mj_fin, List.getElem?_cons_zero, List.getElem?_cons_succ, mj_go, Nat.reduceAdd, Nat.reduceSub, Nat.reduceLT, Nat.reduceLeDiff, Nat.zero_add, Nat.reduceEqDiff, Nat.reduceBEq, ↓reduceIte, Bool.false_eq_true, List.append_nil, List.nil_append, List.cons_append, Option.toList, and_true, true_and, true_or, or_true, reduceCtorEq, List.map_nil, bI_eq0, bI_eq1, bool_ft, pk_us, vnar0, vnar1, Bool.or_false, Bool.or_true, Bool.false_or, Bool.true_or, mj_kne, eq_self, Int32.reduceLT, Int32.reduceLE, Int32.reduceAdd, Int32.reduceSub, Int32.reduceMul, not_true_eq_false, not_false_eq_true, false_implies, true_implies, D_X12_places, mj_F_aload_n_k, mj_F_goto_off, mj_F_iconst_n, mj_F_ifCond_eq_off, mj_F_iload_n_k, mj_F_invokevirtual_i, mj_F_ireturn, mj_kc, L_X12_places, List.take_succ_cons, List.take_zero, List.drop_succ_cons, List.drop_zero, List.reverse_cons, List.reverse_nil, List.length_cons, List.length_nil, gS_M0, J_X12_places]
      refine ⟨fun c => ?_, fun c => ?_⟩
      · replace hw := ok_t hw c
        exact (ok_some hw :)
      · replace hw := ok_f hw c
        refine c_X12_placesOf_in (ok_imp (ok_bind hw) ?_)
        intro p hw
        simp only [Option.toList, List.nil_append, List.cons_append, Nat.reduceSub]
        refine mj_run hG.1 (fun pc => pc == 5 || pc == 13 || pc == 21 || pc == 31) 4000 ?_
        simp only [mj_step, mj_W_s, mj_fin, List.getElem?_cons_zero, List.getElem?_cons_succ, mj_go, Nat.reduceAdd, Nat.reduceSub, Nat.reduceLT, Nat.reduceLeDiff, Nat.zero_add, Nat.reduceEqDiff, Nat.reduceBEq, ↓reduceIte, Bool.false_eq_true, List.append_nil, List.nil_append, List.cons_append, Option.toList, and_true, true_and, true_or, or_true, reduceCtorEq, List.map_nil, bI_eq0, bI_eq1, bool_ft, pk_us, vnar0, vnar1, Bool.or_false, Bool.or_true, Bool.false_or, Bool.true_or, mj_kne, eq_self, Int32.reduceLT, Int32.reduceLE, Int32.reduceAdd, Int32.reduceSub, Int32.reduceMul, not_true_eq_false, not_false_eq_true, false_implies, true_implies, D_X12_places, mj_F_aload_n_k, mj_F_goto_off, mj_F_iconst_n, mj_F_ifCond_eq_off, mj_F_iload_n_k, mj_F_invokevirtual_i, mj_F_ireturn, mj_kc, L_X12_places, List.take_succ_cons, List.take_zero, List.drop_succ_cons, List.drop_zero, List.reverse_cons, List.reverse_nil, List.length_cons, List.length_nil, gS_M0, J_X12_places]
        exact (ok_some hw :)

def c_X12_places : mj_S := fun as h k => ∃ (v1 : Int32) (v2 : Int32) (v3 : Int32) (s : St), as = [.ref 0, .int v1, .int v2, .int v3] ∧ h = mkMs s ∧ ok (F_X12_places v1 v2 v3 s) (fun p => k (some (.int p.1)) (mkMs p.2))
theorem c_X12_places_in {v1 : Int32} {v2 : Int32} {v3 : Int32} {s : St} {k : Option Value → mj_H → Prop} (hw : ok (F_X12_places v1 v2 v3 s) (fun p => k (some (.int p.1)) (mkMs p.2))) : c_X12_places [.ref 0, .int v1, .int v2, .int v3] (mkMs s) k := ⟨v1, v2, v3, s, rfl, rfl, hw⟩
theorem m_X12_places (l : Launch) : mj_Met l yX12_places cX12_places 4 ((some FieldType.int)) 9 0 0 c_X12_places := by
  refine mj_body2 false (TbX12 4 ((some FieldType.int)) ct_X12_places) (by decide) rfl rfl (fun h => nomatch h) (tfX12 _ (List.forall_mem_cons.mpr ⟨cfX12_287 (m_X12_isKnowing l) (by decide), List.forall_mem_cons.mpr ⟨cfX12_293 (m_X12_isSchool l) (by decide), List.forall_mem_cons.mpr ⟨cfX12_457 (m_X12_isWeek l) (by decide), List.forall_mem_cons.mpr ⟨cfX12_460 (m_X12_placesOf l) (by decide), fun _ h => nomatch h⟩⟩⟩⟩)) ?_
  rintro as h k ⟨v1, v2, v3, s, rfl, rfl, hw⟩
  exact ⟨rfl, fun G hG => g_X12_places hG hw⟩
def F_X12_walkIn (v1 : Int32) (v2 : Int32) (v3 : Int32) (s : St) : Option (Int32 × St) :=
  (rd s 1204 24 v1).bind fun x1 =>
  (rd s 1202 601 v3).bind fun x2 =>
  if x2 = 0 then
    (F_X12_walkOf x1 v2 0 s).bind fun r3 =>
    some (r3.1, r3.2)
  else
    (F_X12_walkOf x1 v2 1 s).bind fun r4 =>
    some (r4.1, r4.2)
theorem J_X12_walkIn : mj_t 14 7 = 21 ∧ mj_t 18 4 = 22 ∧ (0 ≤ ((14 : Nat) : Int) + 7) = True ∧ (0 ≤ ((18 : Nat) : Int) + 4) = True := by and_intros <;> first | rfl | exact eq_true (by decide)
def ct_X12_walkIn : List (Nat × mj_Cs) := [(264, 0, 4, 12, 0, 0, c_X12_walkOf)]
theorem L_X12_walkIn : mj_lk ct_X12_walkIn 264 = some (0, 4, 12, 0, 0, c_X12_walkOf) := rfl
set_option maxHeartbeats 4000000 in
set_option maxRecDepth 20000 in
theorem g_X12_walkIn {k : Option Value → mj_H → Prop} {G : mj_K} (hG : mj_cl2 cX12_walkIn (TbX12 4 ((some FieldType.int)) ct_X12_walkIn) k G) {v1 : Int32} {v2 : Int32} {v3 : Int32} {s : St} (hw : ok (F_X12_walkIn v1 v2 v3 s) (fun p => k (some (.int p.1)) (mkMs p.2))) : G 0 [.ref 0, .int v1, .int v2, .int v3] [] (mkMs s) 0 0 := by
  unfold F_X12_walkIn at hw
  refine mj_run hG.1 (fun pc => pc == 25) 4000 ?_
  simp only [mj_step, mj_W_s, mj_fin, List.getElem?_cons_zero, List.getElem?_cons_succ, mj_go, Nat.reduceAdd, Nat.reduceSub, Nat.reduceLT, Nat.reduceLeDiff, Nat.zero_add, Nat.reduceEqDiff, Nat.reduceBEq, ↓reduceIte, Bool.false_eq_true, List.append_nil, List.nil_append, List.cons_append, Option.toList, and_true, true_and, true_or, or_true, reduceCtorEq, List.map_nil, bI_eq0, bI_eq1, bool_ft, pk_us, vnar0, vnar1, Bool.or_false, Bool.or_true, Bool.false_or, Bool.true_or, mj_kne, eq_self, Int32.reduceLT, Int32.reduceLE, Int32.reduceAdd, Int32.reduceSub, Int32.reduceMul, not_true_eq_false, not_false_eq_true, false_implies, true_implies, D_X12_walkIn, mj_F_aload_n_k, mj_F_baload, mj_F_getfield_i, mj_F_goto_off, mj_F_iaload, mj_F_iconst_n, mj_F_ifCond_eq_off, mj_F_iload_n_k, mj_F_invokevirtual_i, mj_F_ireturn, mj_kc, FT_X12, FT_X12_1, L_X12_walkIn, List.take_succ_cons, List.take_zero, List.drop_succ_cons, List.drop_zero, List.reverse_cons, List.reverse_nil, List.length_cons, List.length_nil, gS_M0, gMf_4, gS_M4, sS_Ma_4, gMf_2, gS_M2, sS_Ma_2, J_X12_walkIn]
  refine ⟨(ok_rd hw).1, ?_⟩
  replace hw := (ok_rd hw).2
  refine ⟨(ok_rd hw).1, ?_⟩
  replace hw := (ok_rd hw).2
  refine ⟨fun c => ?_, fun c => ?_⟩
  · replace hw := ok_t hw c
    refine c_X12_walkOf_in (ok_imp (ok_bind hw) ?_)
    intro p hw
    simp only [Option.toList, List.nil_append, List.cons_append, Nat.reduceSub]
    refine mj_run hG.1 (fun pc => pc == 25) 4000 ?_
    simp only [mj_step, mj_W_s, mj_fin, List.getElem?_cons_zero, List.getElem?_cons_succ, mj_go, Nat.reduceAdd, Nat.reduceSub, Nat.reduceLT, Nat.reduceLeDiff, Nat.zero_add, Nat.reduceEqDiff, Nat.reduceBEq, ↓reduceIte, Bool.false_eq_true, List.append_nil, List.nil_append, List.cons_append, Option.toList, and_true, true_and, true_or, or_true, reduceCtorEq, List.map_nil, bI_eq0, bI_eq1, bool_ft, pk_us, vnar0, vnar1, Bool.or_false, Bool.or_true, Bool.false_or, Bool.true_or, mj_kne, eq_self, Int32.reduceLT, Int32.reduceLE, Int32.reduceAdd, Int32.reduceSub, Int32.reduceMul, not_true_eq_false, not_false_eq_true, false_implies, true_implies, D_X12_walkIn, mj_F_aload_n_k, mj_F_baload, mj_F_getfield_i, mj_F_goto_off, mj_F_iaload, mj_F_iconst_n, mj_F_ifCond_eq_off, mj_F_iload_n_k, mj_F_invokevirtual_i, mj_F_ireturn, mj_kc, FT_X12, FT_X12_1, L_X12_walkIn, List.take_succ_cons, List.take_zero, List.drop_succ_cons, List.drop_zero, List.reverse_cons, List.reverse_nil, List.length_cons, List.length_nil, gS_M0, gMf_4, gS_M4, sS_Ma_4, gMf_2, gS_M2, sS_Ma_2, J_X12_walkIn]
    exact (ok_some hw :)
  · replace hw := ok_f hw c
    refine c_X12_walkOf_in (ok_imp (ok_bind hw) ?_)
    intro p hw
    simp only [Option.toList, List.nil_append, List.cons_append, Nat.reduceSub]
    refine mj_run hG.1 (fun pc => pc == 25) 4000 ?_
    simp only [mj_step, mj_W_s, mj_fin, List.getElem?_cons_zero, List.getElem?_cons_succ, mj_go, Nat.reduceAdd, Nat.reduceSub, Nat.reduceLT, Nat.reduceLeDiff, Nat.zero_add, Nat.reduceEqDiff, Nat.reduceBEq, ↓reduceIte, Bool.false_eq_true, List.append_nil, List.nil_append, List.cons_append, Option.toList, and_true, true_and, true_or, or_true, reduceCtorEq, List.map_nil, bI_eq0, bI_eq1, bool_ft, pk_us, vnar0, vnar1, Bool.or_false, Bool.or_true, Bool.false_or, Bool.true_or, mj_kne, eq_self, Int32.reduceLT, Int32.reduceLE, Int32.reduceAdd, Int32.reduceSub, Int32.reduceMul, not_true_eq_false, not_false_eq_true, false_implies, true_implies, D_X12_walkIn, mj_F_aload_n_k, mj_F_baload, mj_F_getfield_i, mj_F_goto_off, mj_F_iaload, mj_F_iconst_n, mj_F_ifCond_eq_off, mj_F_iload_n_k, mj_F_invokevirtual_i, mj_F_ireturn, mj_kc, FT_X12, FT_X12_1, L_X12_walkIn, List.take_succ_cons, List.take_zero, List.drop_succ_cons, List.drop_zero, List.reverse_cons, List.reverse_nil, List.length_cons, List.length_nil, gS_M0, gMf_4, gS_M4, sS_Ma_4, gMf_2, gS_M2, sS_Ma_2, J_X12_walkIn]
    exact (ok_some hw :)

def c_X12_walkIn : mj_S := fun as h k => ∃ (v1 : Int32) (v2 : Int32) (v3 : Int32) (s : St), as = [.ref 0, .int v1, .int v2, .int v3] ∧ h = mkMs s ∧ ok (F_X12_walkIn v1 v2 v3 s) (fun p => k (some (.int p.1)) (mkMs p.2))
theorem c_X12_walkIn_in {v1 : Int32} {v2 : Int32} {v3 : Int32} {s : St} {k : Option Value → mj_H → Prop} (hw : ok (F_X12_walkIn v1 v2 v3 s) (fun p => k (some (.int p.1)) (mkMs p.2))) : c_X12_walkIn [.ref 0, .int v1, .int v2, .int v3] (mkMs s) k := ⟨v1, v2, v3, s, rfl, rfl, hw⟩
theorem m_X12_walkIn (l : Launch) : mj_Met l yX12_walkIn cX12_walkIn 4 ((some FieldType.int)) 4 0 0 c_X12_walkIn := by
  refine mj_body2 false (TbX12 4 ((some FieldType.int)) ct_X12_walkIn) (by decide) rfl rfl (fun h => nomatch h) (tfX12 _ (List.forall_mem_cons.mpr ⟨cfX12_264 (m_X12_walkOf l) (by decide), fun _ h => nomatch h⟩)) ?_
  rintro as h k ⟨v1, v2, v3, s, rfl, rfl, hw⟩
  exact ⟨rfl, fun G hG => g_X12_walkIn hG hw⟩
def F_X12_children (v1 : Int32) (v2 : Int32) (v3 : Int32) (s : St) : Option (Int32) :=
  (F_X12_childOf v1 v2 v3 0 s).bind fun r1 =>
  (F_X12_childOf v1 v2 v3 1 s).bind fun r2 =>
  some (r1 + r2)
def ct_X12_children : List (Nat × mj_Cs) := [(283, 0, 5, 12, 0, 0, c_X12_childOf)]
theorem L_X12_children : mj_lk ct_X12_children 283 = some (0, 5, 12, 0, 0, c_X12_childOf) := rfl
set_option maxHeartbeats 4000000 in
set_option maxRecDepth 20000 in
theorem g_X12_children {k : Option Value → mj_H → Prop} {G : mj_K} (hG : mj_cl2 cX12_children (TbX12 4 ((some FieldType.int)) ct_X12_children) k G) {v1 : Int32} {v2 : Int32} {v3 : Int32} {s : St} (hw : ok (F_X12_children v1 v2 v3 s) (fun p => k (some (.int p)) (mkMs s))) : G 0 [.ref 0, .int v1, .int v2, .int v3] [] (mkMs s) 0 0 := by
  unfold F_X12_children at hw
  refine mj_run hG.1 (fun pc => pc == 8 || pc == 16) 4000 ?_
  simp only [mj_step, mj_W_s, mj_fin, List.getElem?_cons_zero, List.getElem?_cons_succ, mj_go, Nat.reduceAdd, Nat.reduceSub, Nat.reduceLT, Nat.reduceLeDiff, Nat.zero_add, Nat.reduceEqDiff, Nat.reduceBEq, ↓reduceIte, Bool.false_eq_true, List.append_nil, List.nil_append, List.cons_append, Option.toList, and_true, true_and, true_or, or_true, reduceCtorEq, List.map_nil, bI_eq0, bI_eq1, bool_ft, pk_us, vnar0, vnar1, Bool.or_false, Bool.or_true, Bool.false_or, Bool.true_or, mj_kne, eq_self, Int32.reduceLT, Int32.reduceLE, Int32.reduceAdd, Int32.reduceSub, Int32.reduceMul, not_true_eq_false, not_false_eq_true, false_implies, true_implies, D_X12_children, mj_F_aload_n_k, mj_F_iadd, mj_F_iconst_n, mj_F_iload_n_k, mj_F_invokevirtual_i, mj_F_ireturn, mj_kc, L_X12_children, List.take_succ_cons, List.take_zero, List.drop_succ_cons, List.drop_zero, List.reverse_cons, List.reverse_nil, List.length_cons, List.length_nil, gS_M0]
  refine c_X12_childOf_in (ok_imp (ok_bind hw) ?_)
  intro p hw
  simp only [Option.toList, List.nil_append, List.cons_append, Nat.reduceSub]
  refine mj_run hG.1 (fun pc => pc == 8 || pc == 16) 4000 ?_
  simp only [mj_step, mj_W_s, mj_fin, List.getElem?_cons_zero, List.getElem?_cons_succ, mj_go, Nat.reduceAdd, Nat.reduceSub, Nat.reduceLT, Nat.reduceLeDiff, Nat.zero_add, Nat.reduceEqDiff, Nat.reduceBEq, ↓reduceIte, Bool.false_eq_true, List.append_nil, List.nil_append, List.cons_append, Option.toList, and_true, true_and, true_or, or_true, reduceCtorEq, List.map_nil, bI_eq0, bI_eq1, bool_ft, pk_us, vnar0, vnar1, Bool.or_false, Bool.or_true, Bool.false_or, Bool.true_or, mj_kne, eq_self, Int32.reduceLT, Int32.reduceLE, Int32.reduceAdd, Int32.reduceSub, Int32.reduceMul, not_true_eq_false, not_false_eq_true, false_implies, true_implies, D_X12_children, mj_F_aload_n_k, mj_F_iadd, mj_F_iconst_n, mj_F_iload_n_k, mj_F_invokevirtual_i, mj_F_ireturn, mj_kc, L_X12_children, List.take_succ_cons, List.take_zero, List.drop_succ_cons, List.drop_zero, List.reverse_cons, List.reverse_nil, List.length_cons, List.length_nil, gS_M0]
  refine c_X12_childOf_in (ok_imp (ok_bind hw) ?_)
  intro p hw
  simp only [Option.toList, List.nil_append, List.cons_append, Nat.reduceSub]
  refine mj_run hG.1 (fun pc => pc == 8 || pc == 16) 4000 ?_
  simp only [mj_step, mj_W_s, mj_fin, List.getElem?_cons_zero, List.getElem?_cons_succ, mj_go, Nat.reduceAdd, Nat.reduceSub, Nat.reduceLT, Nat.reduceLeDiff, Nat.zero_add, Nat.reduceEqDiff, Nat.reduceBEq, ↓reduceIte, Bool.false_eq_true, List.append_nil, List.nil_append, List.cons_append, Option.toList, and_true, true_and, true_or, or_true, reduceCtorEq, List.map_nil, bI_eq0, bI_eq1, bool_ft, pk_us, vnar0, vnar1, Bool.or_false, Bool.or_true, Bool.false_or, Bool.true_or, mj_kne, eq_self, Int32.reduceLT, Int32.reduceLE, Int32.reduceAdd, Int32.reduceSub, Int32.reduceMul, not_true_eq_false, not_false_eq_true, false_implies, true_implies, D_X12_children, mj_F_aload_n_k, mj_F_iadd, mj_F_iconst_n, mj_F_iload_n_k, mj_F_invokevirtual_i, mj_F_ireturn, mj_kc, L_X12_children, List.take_succ_cons, List.take_zero, List.drop_succ_cons, List.drop_zero, List.reverse_cons, List.reverse_nil, List.length_cons, List.length_nil, gS_M0]
  exact (ok_some hw :)

def c_X12_children : mj_S := fun as h k => ∃ (v1 : Int32) (v2 : Int32) (v3 : Int32) (s : St), as = [.ref 0, .int v1, .int v2, .int v3] ∧ h = mkMs s ∧ ok (F_X12_children v1 v2 v3 s) (fun p => k (some (.int p)) (mkMs s))
theorem c_X12_children_in {v1 : Int32} {v2 : Int32} {v3 : Int32} {s : St} {k : Option Value → mj_H → Prop} (hw : ok (F_X12_children v1 v2 v3 s) (fun p => k (some (.int p)) (mkMs s))) : c_X12_children [.ref 0, .int v1, .int v2, .int v3] (mkMs s) k := ⟨v1, v2, v3, s, rfl, rfl, hw⟩
theorem m_X12_children (l : Launch) : mj_Met l yX12_children cX12_children 4 ((some FieldType.int)) 1 0 0 c_X12_children := by
  refine mj_body2 false (TbX12 4 ((some FieldType.int)) ct_X12_children) (by decide) rfl rfl (fun h => nomatch h) (tfX12 _ (List.forall_mem_cons.mpr ⟨cfX12_283 (m_X12_childOf l) (by decide), fun _ h => nomatch h⟩)) ?_
  rintro as h k ⟨v1, v2, v3, s, rfl, rfl, hw⟩
  exact ⟨rfl, fun G hG => g_X12_children hG hw⟩
def F_X12_mayWalk (v1 : Int32) (v2 : Int32) (v3 : Int32) (s : St) : Option (Int32 × St) :=
  (rd s 1205 24 v1).bind fun x1 =>
  (F_X12_children v1 (v2 / 52) v3 s).bind fun r2 =>
  (rd s 1206 24 v1).bind fun x3 =>
  (F_X12_tell (v2 / 52) x1 r2 x3 0 0 s).bind fun s4 =>
  (rd s4 1205 24 v1).bind fun x5 =>
  (F_X12_worthOf x5 (v2 / 52) v3 119 s4).bind fun r6 =>
  some (r6.1, r6.2)
def ct_X12_mayWalk : List (Nat × mj_Cs) := [(426, 0, 7, 12, 0, 0, c_X12_tell), (430, 0, 5, 12, 0, 0, c_X12_worthOf), (444, 2, 1, 12, 0, 0, c_yearOf), (463, 0, 4, 12, 0, 0, c_X12_children)]
theorem L_X12_mayWalk : mj_lk ct_X12_mayWalk 426 = some (0, 7, 12, 0, 0, c_X12_tell) ∧ mj_lk ct_X12_mayWalk 430 = some (0, 5, 12, 0, 0, c_X12_worthOf) ∧ mj_lk ct_X12_mayWalk 444 = some (2, 1, 12, 0, 0, c_yearOf) ∧ mj_lk ct_X12_mayWalk 463 = some (0, 4, 12, 0, 0, c_X12_children) := ⟨rfl, rfl, rfl, rfl⟩
set_option maxHeartbeats 4000000 in
set_option maxRecDepth 20000 in
theorem g_X12_mayWalk {k : Option Value → mj_H → Prop} {G : mj_K} (hG : mj_cl2 cX12_mayWalk (TbX12 5 ((some FieldType.int)) ct_X12_mayWalk) k G) {v1 : Int32} {v2 : Int32} {v3 : Int32} {s : St} (hw : ok (F_X12_mayWalk v1 v2 v3 s) (fun p => k (some (.int p.1)) (mkMs p.2))) : G 0 [.ref 0, .int v1, .int v2, .int v3] [] (mkMs s) 0 0 := by
  unfold F_X12_mayWalk at hw
  refine mj_run hG.1 (fun pc => pc == 23 || pc == 34 || pc == 49) 4000 ?_
  simp only [mj_step, mj_W_s, mj_fin, List.getElem?_cons_zero, List.getElem?_cons_succ, mj_go, Nat.reduceAdd, Nat.reduceSub, Nat.reduceLT, Nat.reduceLeDiff, Nat.zero_add, Nat.reduceEqDiff, Nat.reduceBEq, ↓reduceIte, Bool.false_eq_true, List.append_nil, List.nil_append, List.cons_append, Option.toList, and_true, true_and, true_or, or_true, reduceCtorEq, List.map_nil, bI_eq0, bI_eq1, bool_ft, pk_us, vnar0, vnar1, Bool.or_false, Bool.or_true, Bool.false_or, Bool.true_or, mj_kne, eq_self, Int32.reduceLT, Int32.reduceLE, Int32.reduceAdd, Int32.reduceSub, Int32.reduceMul, not_true_eq_false, not_false_eq_true, false_implies, true_implies, D_X12_mayWalk, mj_F_aload_n_k, mj_F_bipush_n, mj_F_getfield_i, mj_F_iaload, mj_F_iconst_n, mj_F_iload_k, mj_F_iload_n_k, mj_F_invokestatic_i, mj_F_invokevirtual_i, mj_F_ireturn, mj_F_istore_k, mj_set, mj_set0, mj_unk, mj_c2, mj_kc, FT_X12, FT_X12_1, L_X12_mayWalk, List.take_succ_cons, List.take_zero, List.drop_succ_cons, List.drop_zero, List.reverse_cons, List.reverse_nil, List.length_cons, List.length_nil, gS_M0, gMf_5, gS_M5, sS_Ma_5, gMf_6, gS_M6, sS_Ma_6, c_yearOf_eq]
  refine ⟨(ok_rd hw).1, ?_⟩
  replace hw := (ok_rd hw).2
  refine c_X12_children_in (ok_imp (ok_bind hw) ?_)
  intro p hw
  simp only [Option.toList, List.nil_append, List.cons_append, Nat.reduceSub]
  refine mj_run hG.1 (fun pc => pc == 23 || pc == 34 || pc == 49) 4000 ?_
  simp only [mj_step, mj_W_s, mj_fin, List.getElem?_cons_zero, List.getElem?_cons_succ, mj_go, Nat.reduceAdd, Nat.reduceSub, Nat.reduceLT, Nat.reduceLeDiff, Nat.zero_add, Nat.reduceEqDiff, Nat.reduceBEq, ↓reduceIte, Bool.false_eq_true, List.append_nil, List.nil_append, List.cons_append, Option.toList, and_true, true_and, true_or, or_true, reduceCtorEq, List.map_nil, bI_eq0, bI_eq1, bool_ft, pk_us, vnar0, vnar1, Bool.or_false, Bool.or_true, Bool.false_or, Bool.true_or, mj_kne, eq_self, Int32.reduceLT, Int32.reduceLE, Int32.reduceAdd, Int32.reduceSub, Int32.reduceMul, not_true_eq_false, not_false_eq_true, false_implies, true_implies, D_X12_mayWalk, mj_F_aload_n_k, mj_F_bipush_n, mj_F_getfield_i, mj_F_iaload, mj_F_iconst_n, mj_F_iload_k, mj_F_iload_n_k, mj_F_invokestatic_i, mj_F_invokevirtual_i, mj_F_ireturn, mj_F_istore_k, mj_set, mj_set0, mj_unk, mj_c2, mj_kc, FT_X12, FT_X12_1, L_X12_mayWalk, List.take_succ_cons, List.take_zero, List.drop_succ_cons, List.drop_zero, List.reverse_cons, List.reverse_nil, List.length_cons, List.length_nil, gS_M0, gMf_5, gS_M5, sS_Ma_5, gMf_6, gS_M6, sS_Ma_6, c_yearOf_eq]
  refine ⟨(ok_rd hw).1, ?_⟩
  replace hw := (ok_rd hw).2
  refine c_X12_tell_in (ok_imp (ok_bind hw) ?_)
  intro p hw
  simp only [Option.toList, List.nil_append, List.cons_append, Nat.reduceSub]
  refine mj_run hG.1 (fun pc => pc == 23 || pc == 34 || pc == 49) 4000 ?_
  simp only [mj_step, mj_W_s, mj_fin, List.getElem?_cons_zero, List.getElem?_cons_succ, mj_go, Nat.reduceAdd, Nat.reduceSub, Nat.reduceLT, Nat.reduceLeDiff, Nat.zero_add, Nat.reduceEqDiff, Nat.reduceBEq, ↓reduceIte, Bool.false_eq_true, List.append_nil, List.nil_append, List.cons_append, Option.toList, and_true, true_and, true_or, or_true, reduceCtorEq, List.map_nil, bI_eq0, bI_eq1, bool_ft, pk_us, vnar0, vnar1, Bool.or_false, Bool.or_true, Bool.false_or, Bool.true_or, mj_kne, eq_self, Int32.reduceLT, Int32.reduceLE, Int32.reduceAdd, Int32.reduceSub, Int32.reduceMul, not_true_eq_false, not_false_eq_true, false_implies, true_implies, D_X12_mayWalk, mj_F_aload_n_k, mj_F_bipush_n, mj_F_getfield_i, mj_F_iaload, mj_F_iconst_n, mj_F_iload_k, mj_F_iload_n_k, mj_F_invokestatic_i, mj_F_invokevirtual_i, mj_F_ireturn, mj_F_istore_k, mj_set, mj_set0, mj_unk, mj_c2, mj_kc, FT_X12, FT_X12_1, L_X12_mayWalk, List.take_succ_cons, List.take_zero, List.drop_succ_cons, List.drop_zero, List.reverse_cons, List.reverse_nil, List.length_cons, List.length_nil, gS_M0, gMf_5, gS_M5, sS_Ma_5, gMf_6, gS_M6, sS_Ma_6, c_yearOf_eq]
  refine ⟨(ok_rd hw).1, ?_⟩
  replace hw := (ok_rd hw).2
  refine c_X12_worthOf_in (ok_imp (ok_bind hw) ?_)
  intro p hw
  simp only [Option.toList, List.nil_append, List.cons_append, Nat.reduceSub]
  refine mj_run hG.1 (fun pc => pc == 23 || pc == 34 || pc == 49) 4000 ?_
  simp only [mj_step, mj_W_s, mj_fin, List.getElem?_cons_zero, List.getElem?_cons_succ, mj_go, Nat.reduceAdd, Nat.reduceSub, Nat.reduceLT, Nat.reduceLeDiff, Nat.zero_add, Nat.reduceEqDiff, Nat.reduceBEq, ↓reduceIte, Bool.false_eq_true, List.append_nil, List.nil_append, List.cons_append, Option.toList, and_true, true_and, true_or, or_true, reduceCtorEq, List.map_nil, bI_eq0, bI_eq1, bool_ft, pk_us, vnar0, vnar1, Bool.or_false, Bool.or_true, Bool.false_or, Bool.true_or, mj_kne, eq_self, Int32.reduceLT, Int32.reduceLE, Int32.reduceAdd, Int32.reduceSub, Int32.reduceMul, not_true_eq_false, not_false_eq_true, false_implies, true_implies, D_X12_mayWalk, mj_F_aload_n_k, mj_F_bipush_n, mj_F_getfield_i, mj_F_iaload, mj_F_iconst_n, mj_F_iload_k, mj_F_iload_n_k, mj_F_invokestatic_i, mj_F_invokevirtual_i, mj_F_ireturn, mj_F_istore_k, mj_set, mj_set0, mj_unk, mj_c2, mj_kc, FT_X12, FT_X12_1, L_X12_mayWalk, List.take_succ_cons, List.take_zero, List.drop_succ_cons, List.drop_zero, List.reverse_cons, List.reverse_nil, List.length_cons, List.length_nil, gS_M0, gMf_5, gS_M5, sS_Ma_5, gMf_6, gS_M6, sS_Ma_6, c_yearOf_eq]
  exact (ok_some hw :)

def c_X12_mayWalk : mj_S := fun as h k => ∃ (v1 : Int32) (v2 : Int32) (v3 : Int32) (s : St), as = [.ref 0, .int v1, .int v2, .int v3] ∧ h = mkMs s ∧ ok (F_X12_mayWalk v1 v2 v3 s) (fun p => k (some (.int p.1)) (mkMs p.2))
theorem c_X12_mayWalk_in {v1 : Int32} {v2 : Int32} {v3 : Int32} {s : St} {k : Option Value → mj_H → Prop} (hw : ok (F_X12_mayWalk v1 v2 v3 s) (fun p => k (some (.int p.1)) (mkMs p.2))) : c_X12_mayWalk [.ref 0, .int v1, .int v2, .int v3] (mkMs s) k := ⟨v1, v2, v3, s, rfl, rfl, hw⟩
theorem m_X12_mayWalk (l : Launch) : mj_Met l yX12_mayWalk cX12_mayWalk 5 ((some FieldType.int)) 7 0 0 c_X12_mayWalk := by
  refine mj_body2 false (TbX12 5 ((some FieldType.int)) ct_X12_mayWalk) (by decide) rfl rfl (fun h => nomatch h) (tfX12 _ (List.forall_mem_cons.mpr ⟨cfX12_426 (m_X12_tell l) (by decide), List.forall_mem_cons.mpr ⟨cfX12_430 (m_X12_worthOf l) (by decide), List.forall_mem_cons.mpr ⟨cfX12_444 (m_X12_yearOf l) (by decide), List.forall_mem_cons.mpr ⟨cfX12_463 (m_X12_children l) (by decide), fun _ h => nomatch h⟩⟩⟩⟩)) ?_
  rintro as h k ⟨v1, v2, v3, s, rfl, rfl, hw⟩
  exact ⟨rfl, fun G hG => g_X12_mayWalk hG hw⟩
def F_X12_isTongueRight (v1 : Int32) (v2 : Int32) (v3 : Int32) (v4 : Int32) (s : St) : Option (Int32 × St) :=
  (rd s 1215 20 v2).bind fun x1 =>
  (F_X12_tell (v3 / 52) x1 0 0 0 0 s).bind fun s2 =>
  (rd s2 1215 20 v2).bind fun x3 =>
  (F_X12_worthOf x3 (v3 / 52) v4 102 s2).bind fun r4 =>
  if r4.1 = 0 then
    some (1, r4.2)
  else
    (rd r4.2 1218 20 v2).bind fun x5 =>
    (rd r4.2 1206 24 v1).bind fun x6 =>
    if ((x5 >>> (x6 &&& 31)) &&& 1) = 1 then
      some (1, r4.2)
    else
      some (0, r4.2)
theorem J_X12_isTongueRight : mj_t 38 22 = 60 ∧ mj_t 57 7 = 64 ∧ mj_t 61 4 = 65 ∧ (0 ≤ ((38 : Nat) : Int) + 22) = True ∧ (0 ≤ ((57 : Nat) : Int) + 7) = True ∧ (0 ≤ ((61 : Nat) : Int) + 4) = True := by and_intros <;> first | rfl | exact eq_true (by decide)
def ct_X12_isTongueRight : List (Nat × mj_Cs) := [(426, 0, 7, 12, 0, 0, c_X12_tell), (430, 0, 5, 12, 0, 0, c_X12_worthOf), (444, 2, 1, 12, 0, 0, c_yearOf)]
theorem L_X12_isTongueRight : mj_lk ct_X12_isTongueRight 426 = some (0, 7, 12, 0, 0, c_X12_tell) ∧ mj_lk ct_X12_isTongueRight 430 = some (0, 5, 12, 0, 0, c_X12_worthOf) ∧ mj_lk ct_X12_isTongueRight 444 = some (2, 1, 12, 0, 0, c_yearOf) := ⟨rfl, rfl, rfl⟩
set_option maxHeartbeats 4000000 in
set_option maxRecDepth 20000 in
theorem g_X12_isTongueRight {k : Option Value → mj_H → Prop} {G : mj_K} (hG : mj_cl2 cX12_isTongueRight (TbX12 6 ((some FieldType.boolean)) ct_X12_isTongueRight) k G) {v1 : Int32} {v2 : Int32} {v3 : Int32} {v4 : Int32} {s : St} (hw : ok (F_X12_isTongueRight v1 v2 v3 v4 s) (fun p => k (some (.int p.1)) (mkMs p.2))) : G 0 [.ref 0, .int v1, .int v2, .int v3, .int v4] [] (mkMs s) 0 0 := by
  unfold F_X12_isTongueRight at hw
  refine mj_run hG.1 (fun pc => pc == 22 || pc == 38) 4000 ?_
  simp only [mj_step, mj_W_s, mj_fin, List.getElem?_cons_zero, List.getElem?_cons_succ, mj_go, Nat.reduceAdd, Nat.reduceSub, Nat.reduceLT, Nat.reduceLeDiff, Nat.zero_add, Nat.reduceEqDiff, Nat.reduceBEq, ↓reduceIte, Bool.false_eq_true, List.append_nil, List.nil_append, List.cons_append, Option.toList, and_true, true_and, true_or, or_true, reduceCtorEq, List.map_nil, bI_eq0, bI_eq1, bool_ft, pk_us, vnar0, vnar1, Bool.or_false, Bool.or_true, Bool.false_or, Bool.true_or, mj_kne, eq_self, Int32.reduceLT, Int32.reduceLE, Int32.reduceAdd, Int32.reduceSub, Int32.reduceMul, not_true_eq_false, not_false_eq_true, false_implies, true_implies, D_X12_isTongueRight, mj_F_aload_n_k, mj_F_bipush_n, mj_F_getfield_i, mj_F_goto_off, mj_F_iaload, mj_F_iand, mj_F_iconst_n, mj_F_ifCond_eq_off, mj_F_if_icmp_ne_off, mj_F_iload_k, mj_F_iload_n_k, mj_F_invokestatic_i, mj_F_invokevirtual_i, mj_F_ireturn, mj_F_ishr, mj_F_istore_k, mj_set, mj_set0, mj_unk, mj_c2, mj_kc, FT_X12, FT_X12_1, L_X12_isTongueRight, List.take_succ_cons, List.take_zero, List.drop_succ_cons, List.drop_zero, List.reverse_cons, List.reverse_nil, List.length_cons, List.length_nil, gS_M0, gMf_15, gS_M13, sS_Ma_13, gMf_18, gS_M16, sS_Ma_16, gMf_6, gS_M6, sS_Ma_6, c_yearOf_eq, J_X12_isTongueRight]
  refine ⟨(ok_rd hw).1, ?_⟩
  replace hw := (ok_rd hw).2
  refine c_X12_tell_in (ok_imp (ok_bind hw) ?_)
  intro p hw
  simp only [Option.toList, List.nil_append, List.cons_append, Nat.reduceSub]
  refine mj_run hG.1 (fun pc => pc == 22 || pc == 38) 4000 ?_
  simp only [mj_step, mj_W_s, mj_fin, List.getElem?_cons_zero, List.getElem?_cons_succ, mj_go, Nat.reduceAdd, Nat.reduceSub, Nat.reduceLT, Nat.reduceLeDiff, Nat.zero_add, Nat.reduceEqDiff, Nat.reduceBEq, ↓reduceIte, Bool.false_eq_true, List.append_nil, List.nil_append, List.cons_append, Option.toList, and_true, true_and, true_or, or_true, reduceCtorEq, List.map_nil, bI_eq0, bI_eq1, bool_ft, pk_us, vnar0, vnar1, Bool.or_false, Bool.or_true, Bool.false_or, Bool.true_or, mj_kne, eq_self, Int32.reduceLT, Int32.reduceLE, Int32.reduceAdd, Int32.reduceSub, Int32.reduceMul, not_true_eq_false, not_false_eq_true, false_implies, true_implies, D_X12_isTongueRight, mj_F_aload_n_k, mj_F_bipush_n, mj_F_getfield_i, mj_F_goto_off, mj_F_iaload, mj_F_iand, mj_F_iconst_n, mj_F_ifCond_eq_off, mj_F_if_icmp_ne_off, mj_F_iload_k, mj_F_iload_n_k, mj_F_invokestatic_i, mj_F_invokevirtual_i, mj_F_ireturn, mj_F_ishr, mj_F_istore_k, mj_set, mj_set0, mj_unk, mj_c2, mj_kc, FT_X12, FT_X12_1, L_X12_isTongueRight, List.take_succ_cons, List.take_zero, List.drop_succ_cons, List.drop_zero, List.reverse_cons, List.reverse_nil, List.length_cons, List.length_nil, gS_M0, gMf_15, gS_M13, sS_Ma_13, gMf_18, gS_M16, sS_Ma_16, gMf_6, gS_M6, sS_Ma_6, c_yearOf_eq, J_X12_isTongueRight]
  refine ⟨(ok_rd hw).1, ?_⟩
  replace hw := (ok_rd hw).2
  refine c_X12_worthOf_in (ok_imp (ok_bind hw) ?_)
  intro p hw
  simp only [Option.toList, List.nil_append, List.cons_append, Nat.reduceSub]
  refine mj_run hG.1 (fun pc => pc == 22 || pc == 38) 4000 ?_
  simp only [mj_step, mj_W_s, mj_fin, List.getElem?_cons_zero, List.getElem?_cons_succ, mj_go, Nat.reduceAdd, Nat.reduceSub, Nat.reduceLT, Nat.reduceLeDiff, Nat.zero_add, Nat.reduceEqDiff, Nat.reduceBEq, ↓reduceIte, Bool.false_eq_true, List.append_nil, List.nil_append, List.cons_append, Option.toList, and_true, true_and, true_or, or_true, reduceCtorEq, List.map_nil, bI_eq0, bI_eq1, bool_ft, pk_us, vnar0, vnar1, Bool.or_false, Bool.or_true, Bool.false_or, Bool.true_or, mj_kne, eq_self, Int32.reduceLT, Int32.reduceLE, Int32.reduceAdd, Int32.reduceSub, Int32.reduceMul, not_true_eq_false, not_false_eq_true, false_implies, true_implies, D_X12_isTongueRight, mj_F_aload_n_k, mj_F_bipush_n, mj_F_getfield_i, mj_F_goto_off, mj_F_iaload, mj_F_iand, mj_F_iconst_n, mj_F_ifCond_eq_off, mj_F_if_icmp_ne_off, mj_F_iload_k, mj_F_iload_n_k, mj_F_invokestatic_i, mj_F_invokevirtual_i, mj_F_ireturn, mj_F_ishr, mj_F_istore_k, mj_set, mj_set0, mj_unk, mj_c2, mj_kc, FT_X12, FT_X12_1, L_X12_isTongueRight, List.take_succ_cons, List.take_zero, List.drop_succ_cons, List.drop_zero, List.reverse_cons, List.reverse_nil, List.length_cons, List.length_nil, gS_M0, gMf_15, gS_M13, sS_Ma_13, gMf_18, gS_M16, sS_Ma_16, gMf_6, gS_M6, sS_Ma_6, c_yearOf_eq, J_X12_isTongueRight]
  refine ⟨fun c => ?_, fun c => ?_⟩
  · replace hw := ok_t hw c
    exact (ok_some hw :)
  · replace hw := ok_f hw c
    refine ⟨(ok_rd hw).1, ?_⟩
    replace hw := (ok_rd hw).2
    refine ⟨(ok_rd hw).1, ?_⟩
    replace hw := (ok_rd hw).2
    refine ⟨fun c => ?_, fun c => ?_⟩
    · replace hw := ok_f hw c
      exact (ok_some hw :)
    · replace hw := ok_t hw c
      exact (ok_some hw :)

def c_X12_isTongueRight : mj_S := fun as h k => ∃ (v1 : Int32) (v2 : Int32) (v3 : Int32) (v4 : Int32) (s : St), as = [.ref 0, .int v1, .int v2, .int v3, .int v4] ∧ h = mkMs s ∧ ok (F_X12_isTongueRight v1 v2 v3 v4 s) (fun p => k (some (.int p.1)) (mkMs p.2))
theorem c_X12_isTongueRight_in {v1 : Int32} {v2 : Int32} {v3 : Int32} {v4 : Int32} {s : St} {k : Option Value → mj_H → Prop} (hw : ok (F_X12_isTongueRight v1 v2 v3 v4 s) (fun p => k (some (.int p.1)) (mkMs p.2))) : c_X12_isTongueRight [.ref 0, .int v1, .int v2, .int v3, .int v4] (mkMs s) k := ⟨v1, v2, v3, v4, s, rfl, rfl, hw⟩
theorem m_X12_isTongueRight (l : Launch) : mj_Met l yX12_isTongueRight cX12_isTongueRight 6 ((some FieldType.boolean)) 7 0 0 c_X12_isTongueRight := by
  refine mj_body2 false (TbX12 6 ((some FieldType.boolean)) ct_X12_isTongueRight) (by decide) rfl rfl (fun h => nomatch h) (tfX12 _ (List.forall_mem_cons.mpr ⟨cfX12_426 (m_X12_tell l) (by decide), List.forall_mem_cons.mpr ⟨cfX12_430 (m_X12_worthOf l) (by decide), List.forall_mem_cons.mpr ⟨cfX12_444 (m_X12_yearOf l) (by decide), fun _ h => nomatch h⟩⟩⟩)) ?_
  rintro as h k ⟨v1, v2, v3, v4, s, rfl, rfl, hw⟩
  exact ⟨rfl, fun G hG => g_X12_isTongueRight hG hw⟩
def F_X12_reaches (v1 : Int32) (v2 : Int32) (v3 : Int32) (v4 : Int32) (s : St) : Option (Int32 × St) :=
  (rd s 1214 20 v2).bind fun x1 =>
  (F_X12_walkIn v1 x1 v3 s).bind fun r2 =>
  if r2.1 = (-1) then
    some (0, r2.2)
  else
    (F_X12_mayWalk v1 v3 v4 r2.2).bind fun r3 =>
    if r3.1 < r2.1 then
      some (0, r3.2)
    else
      (F_X12_isTongueRight v1 v2 v3 v4 r3.2).bind fun r4 =>
      if r4.1 = 0 then
        some (0, r4.2)
      else
        some (1, r4.2)
theorem J_X12_reaches : mj_t 17 32 = 49 ∧ mj_t 30 19 = 49 ∧ mj_t 42 7 = 49 ∧ mj_t 46 4 = 50 ∧ (0 ≤ ((17 : Nat) : Int) + 32) = True ∧ (0 ≤ ((30 : Nat) : Int) + 19) = True ∧ (0 ≤ ((42 : Nat) : Int) + 7) = True ∧ (0 ≤ ((46 : Nat) : Int) + 4) = True := by and_intros <;> first | rfl | exact eq_true (by decide)
def ct_X12_reaches : List (Nat × mj_Cs) := [(466, 0, 4, 12, 0, 0, c_X12_walkIn), (469, 0, 4, 12, 0, 0, c_X12_mayWalk), (472, 0, 5, 12, 0, 0, c_X12_isTongueRight)]
theorem L_X12_reaches : mj_lk ct_X12_reaches 466 = some (0, 4, 12, 0, 0, c_X12_walkIn) ∧ mj_lk ct_X12_reaches 469 = some (0, 4, 12, 0, 0, c_X12_mayWalk) ∧ mj_lk ct_X12_reaches 472 = some (0, 5, 12, 0, 0, c_X12_isTongueRight) := ⟨rfl, rfl, rfl⟩
set_option maxHeartbeats 4000000 in
set_option maxRecDepth 20000 in
theorem g_X12_reaches {k : Option Value → mj_H → Prop} {G : mj_K} (hG : mj_cl2 cX12_reaches (TbX12 6 ((some FieldType.boolean)) ct_X12_reaches) k G) {v1 : Int32} {v2 : Int32} {v3 : Int32} {v4 : Int32} {s : St} (hw : ok (F_X12_reaches v1 v2 v3 v4 s) (fun p => k (some (.int p.1)) (mkMs p.2))) : G 0 [.ref 0, .int v1, .int v2, .int v3, .int v4] [] (mkMs s) 0 0 := by
  unfold F_X12_reaches at hw
  refine mj_run hG.1 (fun pc => pc == 12 || pc == 30 || pc == 42) 4000 ?_
  simp only [mj_step, mj_W_s, mj_fin, List.getElem?_cons_zero, List.getElem?_cons_succ, mj_go, Nat.reduceAdd, Nat.reduceSub, Nat.reduceLT, Nat.reduceLeDiff, Nat.zero_add, Nat.reduceEqDiff, Nat.reduceBEq, ↓reduceIte, Bool.false_eq_true, List.append_nil, List.nil_append, List.cons_append, Option.toList, and_true, true_and, true_or, or_true, reduceCtorEq, List.map_nil, bI_eq0, bI_eq1, bool_ft, pk_us, vnar0, vnar1, Bool.or_false, Bool.or_true, Bool.false_or, Bool.true_or, mj_kne, eq_self, Int32.reduceLT, Int32.reduceLE, Int32.reduceAdd, Int32.reduceSub, Int32.reduceMul, not_true_eq_false, not_false_eq_true, false_implies, true_implies, D_X12_reaches, mj_F_aload_n_k, mj_F_getfield_i, mj_F_goto_off, mj_F_iaload, mj_F_iconst_n, mj_F_ifCond_eq_off, mj_F_if_icmp_eq_off, mj_F_if_icmp_gt_off, mj_F_iload_k, mj_F_iload_n_k, mj_F_invokevirtual_i, mj_F_ireturn, mj_F_istore_k, mj_set, mj_set0, mj_unk, mj_c2, mj_kc, FT_X12, FT_X12_1, L_X12_reaches, List.take_succ_cons, List.take_zero, List.drop_succ_cons, List.drop_zero, List.reverse_cons, List.reverse_nil, List.length_cons, List.length_nil, gS_M0, gMf_14, gS_M12, sS_Ma_12, J_X12_reaches]
  refine ⟨(ok_rd hw).1, ?_⟩
  replace hw := (ok_rd hw).2
  refine c_X12_walkIn_in (ok_imp (ok_bind hw) ?_)
  intro p hw
  simp only [Option.toList, List.nil_append, List.cons_append, Nat.reduceSub]
  refine mj_run hG.1 (fun pc => pc == 12 || pc == 30 || pc == 42) 4000 ?_
  simp only [mj_step, mj_W_s, mj_fin, List.getElem?_cons_zero, List.getElem?_cons_succ, mj_go, Nat.reduceAdd, Nat.reduceSub, Nat.reduceLT, Nat.reduceLeDiff, Nat.zero_add, Nat.reduceEqDiff, Nat.reduceBEq, ↓reduceIte, Bool.false_eq_true, List.append_nil, List.nil_append, List.cons_append, Option.toList, and_true, true_and, true_or, or_true, reduceCtorEq, List.map_nil, bI_eq0, bI_eq1, bool_ft, pk_us, vnar0, vnar1, Bool.or_false, Bool.or_true, Bool.false_or, Bool.true_or, mj_kne, eq_self, Int32.reduceLT, Int32.reduceLE, Int32.reduceAdd, Int32.reduceSub, Int32.reduceMul, not_true_eq_false, not_false_eq_true, false_implies, true_implies, D_X12_reaches, mj_F_aload_n_k, mj_F_getfield_i, mj_F_goto_off, mj_F_iaload, mj_F_iconst_n, mj_F_ifCond_eq_off, mj_F_if_icmp_eq_off, mj_F_if_icmp_gt_off, mj_F_iload_k, mj_F_iload_n_k, mj_F_invokevirtual_i, mj_F_ireturn, mj_F_istore_k, mj_set, mj_set0, mj_unk, mj_c2, mj_kc, FT_X12, FT_X12_1, L_X12_reaches, List.take_succ_cons, List.take_zero, List.drop_succ_cons, List.drop_zero, List.reverse_cons, List.reverse_nil, List.length_cons, List.length_nil, gS_M0, gMf_14, gS_M12, sS_Ma_12, J_X12_reaches]
  refine ⟨fun c => ?_, fun c => ?_⟩
  · replace hw := ok_t hw c
    exact (ok_some hw :)
  · replace hw := ok_f hw c
    refine c_X12_mayWalk_in (ok_imp (ok_bind hw) ?_)
    intro p hw
    simp only [Option.toList, List.nil_append, List.cons_append, Nat.reduceSub]
    refine mj_run hG.1 (fun pc => pc == 12 || pc == 30 || pc == 42) 4000 ?_
    simp only [mj_step, mj_W_s, mj_fin, List.getElem?_cons_zero, List.getElem?_cons_succ, mj_go, Nat.reduceAdd, Nat.reduceSub, Nat.reduceLT, Nat.reduceLeDiff, Nat.zero_add, Nat.reduceEqDiff, Nat.reduceBEq, ↓reduceIte, Bool.false_eq_true, List.append_nil, List.nil_append, List.cons_append, Option.toList, and_true, true_and, true_or, or_true, reduceCtorEq, List.map_nil, bI_eq0, bI_eq1, bool_ft, pk_us, vnar0, vnar1, Bool.or_false, Bool.or_true, Bool.false_or, Bool.true_or, mj_kne, eq_self, Int32.reduceLT, Int32.reduceLE, Int32.reduceAdd, Int32.reduceSub, Int32.reduceMul, not_true_eq_false, not_false_eq_true, false_implies, true_implies, D_X12_reaches, mj_F_aload_n_k, mj_F_getfield_i, mj_F_goto_off, mj_F_iaload, mj_F_iconst_n, mj_F_ifCond_eq_off, mj_F_if_icmp_eq_off, mj_F_if_icmp_gt_off, mj_F_iload_k, mj_F_iload_n_k, mj_F_invokevirtual_i, mj_F_ireturn, mj_F_istore_k, mj_set, mj_set0, mj_unk, mj_c2, mj_kc, FT_X12, FT_X12_1, L_X12_reaches, List.take_succ_cons, List.take_zero, List.drop_succ_cons, List.drop_zero, List.reverse_cons, List.reverse_nil, List.length_cons, List.length_nil, gS_M0, gMf_14, gS_M12, sS_Ma_12, J_X12_reaches]
    refine ⟨fun c => ?_, fun c => ?_⟩
    · replace hw := ok_t hw c
      exact (ok_some hw :)
    · replace hw := ok_f hw c
      refine c_X12_isTongueRight_in (ok_imp (ok_bind hw) ?_)
      intro p hw
      simp only [Option.toList, List.nil_append, List.cons_append, Nat.reduceSub]
      refine mj_run hG.1 (fun pc => pc == 12 || pc == 30 || pc == 42) 4000 ?_
      simp only [mj_step, mj_W_s, mj_fin, List.getElem?_cons_zero, List.getElem?_cons_succ, mj_go, Nat.reduceAdd, Nat.reduceSub, Nat.reduceLT, Nat.reduceLeDiff, Nat.zero_add, Nat.reduceEqDiff, Nat.reduceBEq, ↓reduceIte, Bool.false_eq_true, List.append_nil, List.nil_append, List.cons_append, Option.toList, and_true, true_and, true_or, or_true, reduceCtorEq, List.map_nil, bI_eq0, bI_eq1, bool_ft, pk_us, vnar0, vnar1, Bool.or_false, Bool.or_true, Bool.false_or, Bool.true_or, mj_kne, eq_self, Int32.reduceLT, Int32.reduceLE, Int32.reduceAdd, Int32.reduceSub, Int32.reduceMul, not_true_eq_false, not_false_eq_true, false_implies, true_implies, D_X12_reaches, mj_F_aload_n_k, mj_F_getfield_i, mj_F_goto_off, mj_F_iaload, mj_F_iconst_n, mj_F_ifCond_eq_off, mj_F_if_icmp_eq_off, mj_F_if_icmp_gt_off, mj_F_iload_k, mj_F_iload_n_k, mj_F_invokevirtual_i, mj_F_ireturn, mj_F_istore_k, mj_set, mj_set0, mj_unk, mj_c2, mj_kc, FT_X12, FT_X12_1, L_X12_reaches, List.take_succ_cons, List.take_zero, List.drop_succ_cons, List.drop_zero, List.reverse_cons, List.reverse_nil, List.length_cons, List.length_nil, gS_M0, gMf_14, gS_M12, sS_Ma_12, J_X12_reaches]
      refine ⟨fun c => ?_, fun c => ?_⟩
      · replace hw := ok_t hw c
        exact (ok_some hw :)
      · replace hw := ok_f hw c
        exact (ok_some hw :)

def c_X12_reaches : mj_S := fun as h k => ∃ (v1 : Int32) (v2 : Int32) (v3 : Int32) (v4 : Int32) (s : St), as = [.ref 0, .int v1, .int v2, .int v3, .int v4] ∧ h = mkMs s ∧ ok (F_X12_reaches v1 v2 v3 v4 s) (fun p => k (some (.int p.1)) (mkMs p.2))
theorem c_X12_reaches_in {v1 : Int32} {v2 : Int32} {v3 : Int32} {v4 : Int32} {s : St} {k : Option Value → mj_H → Prop} (hw : ok (F_X12_reaches v1 v2 v3 v4 s) (fun p => k (some (.int p.1)) (mkMs p.2))) : c_X12_reaches [.ref 0, .int v1, .int v2, .int v3, .int v4] (mkMs s) k := ⟨v1, v2, v3, v4, s, rfl, rfl, hw⟩
theorem m_X12_reaches (l : Launch) : mj_Met l yX12_reaches cX12_reaches 6 ((some FieldType.boolean)) 8 0 0 c_X12_reaches := by
  refine mj_body2 false (TbX12 6 ((some FieldType.boolean)) ct_X12_reaches) (by decide) rfl rfl (fun h => nomatch h) (tfX12 _ (List.forall_mem_cons.mpr ⟨cfX12_466 (m_X12_walkIn l) (by decide), List.forall_mem_cons.mpr ⟨cfX12_469 (m_X12_mayWalk l) (by decide), List.forall_mem_cons.mpr ⟨cfX12_472 (m_X12_isTongueRight l) (by decide), fun _ h => nomatch h⟩⟩⟩)) ?_
  rintro as h k ⟨v1, v2, v3, v4, s, rfl, rfl, hw⟩
  exact ⟨rfl, fun G hG => g_X12_reaches hG hw⟩
def F_X12_reach (v1 : Int32) (v2 : Int32) (v3 : Int32) (v4 : Int32) (s : St) : Option (Int32 × St) :=
  (F_X12_isVillage v1 s).bind fun r1 =>
  if r1 = 0 then
    some ((-1), s)
  else
    (F_X12_isSchool v2 s).bind fun r2 =>
    if r2 = 0 then
      some ((-1), s)
    else
      (F_X12_isWeek v3 s).bind fun r3 =>
      if r3 = 0 then
        some ((-1), s)
      else
        (F_X12_isKnowing v4 s).bind fun r4 =>
        if r4 = 0 then
          some ((-1), s)
        else
          (F_X12_reaches v1 v2 v3 v4 s).bind fun r5 =>
          if r5.1 = 0 then
            some (0, r5.2)
          else
            some (1, r5.2)
theorem J_X12_reach : mj_t 5 48 = 53 ∧ mj_t 13 40 = 53 ∧ mj_t 21 32 = 53 ∧ mj_t 30 23 = 53 ∧ mj_t 42 7 = 49 ∧ mj_t 46 8 = 54 ∧ mj_t 50 4 = 54 ∧ (0 ≤ ((5 : Nat) : Int) + 48) = True ∧ (0 ≤ ((13 : Nat) : Int) + 40) = True ∧ (0 ≤ ((21 : Nat) : Int) + 32) = True ∧ (0 ≤ ((30 : Nat) : Int) + 23) = True ∧ (0 ≤ ((42 : Nat) : Int) + 7) = True ∧ (0 ≤ ((46 : Nat) : Int) + 8) = True ∧ (0 ≤ ((50 : Nat) : Int) + 4) = True := by and_intros <;> first | rfl | exact eq_true (by decide)
def ct_X12_reach : List (Nat × mj_Cs) := [(274, 0, 2, 12, 0, 0, c_X12_isVillage), (287, 0, 2, 12, 0, 0, c_X12_isKnowing), (293, 0, 2, 12, 0, 0, c_X12_isSchool), (457, 0, 2, 12, 0, 0, c_X12_isWeek), (476, 0, 5, 12, 0, 0, c_X12_reaches)]
theorem L_X12_reach : mj_lk ct_X12_reach 274 = some (0, 2, 12, 0, 0, c_X12_isVillage) ∧ mj_lk ct_X12_reach 287 = some (0, 2, 12, 0, 0, c_X12_isKnowing) ∧ mj_lk ct_X12_reach 293 = some (0, 2, 12, 0, 0, c_X12_isSchool) ∧ mj_lk ct_X12_reach 457 = some (0, 2, 12, 0, 0, c_X12_isWeek) ∧ mj_lk ct_X12_reach 476 = some (0, 5, 12, 0, 0, c_X12_reaches) := ⟨rfl, rfl, rfl, rfl, rfl⟩
set_option maxHeartbeats 4000000 in
set_option maxRecDepth 20000 in
theorem g_X12_reach {k : Option Value → mj_H → Prop} {G : mj_K} (hG : mj_cl2 cX12_reach (TbX12 5 ((some FieldType.int)) ct_X12_reach) k G) {v1 : Int32} {v2 : Int32} {v3 : Int32} {v4 : Int32} {s : St} (hw : ok (F_X12_reach v1 v2 v3 v4 s) (fun p => k (some (.int p.1)) (mkMs p.2))) : G 0 [.ref 0, .int v1, .int v2, .int v3, .int v4] [] (mkMs s) 0 0 := by
  unfold F_X12_reach at hw
  refine mj_run hG.1 (fun pc => pc == 5 || pc == 13 || pc == 21 || pc == 30 || pc == 42) 4000 ?_
  simp only [mj_step, mj_W_s, mj_fin, List.getElem?_cons_zero, List.getElem?_cons_succ, mj_go, Nat.reduceAdd, Nat.reduceSub, Nat.reduceLT, Nat.reduceLeDiff, Nat.zero_add, Nat.reduceEqDiff, Nat.reduceBEq, ↓reduceIte, Bool.false_eq_true, List.append_nil, List.nil_append, List.cons_append, Option.toList, and_true, true_and, true_or, or_true, reduceCtorEq, List.map_nil, bI_eq0, bI_eq1, bool_ft, pk_us, vnar0, vnar1, Bool.or_false, Bool.or_true, Bool.false_or, Bool.true_or, mj_kne, eq_self, Int32.reduceLT, Int32.reduceLE, Int32.reduceAdd, Int32.reduceSub, Int32.reduceMul, not_true_eq_false, not_false_eq_true, false_implies, true_implies, D_X12_reach, mj_F_aload_n_k, mj_F_goto_off, mj_F_iconst_n, mj_F_ifCond_eq_off, mj_F_iload_k, mj_F_iload_n_k, mj_F_invokevirtual_i, mj_F_ireturn, mj_kc, L_X12_reach, List.take_succ_cons, List.take_zero, List.drop_succ_cons, List.drop_zero, List.reverse_cons, List.reverse_nil, List.length_cons, List.length_nil, gS_M0, J_X12_reach]
  refine c_X12_isVillage_in (ok_imp (ok_bind hw) ?_)
  intro p hw
  simp only [Option.toList, List.nil_append, List.cons_append, Nat.reduceSub]
  refine mj_run hG.1 (fun pc => pc == 5 || pc == 13 || pc == 21 || pc == 30 || pc == 42) 4000 ?_
  simp only [mj_step, mj_W_s, mj_fin, List.getElem?_cons_zero, List.getElem?_cons_succ, mj_go, Nat.reduceAdd, Nat.reduceSub, Nat.reduceLT, Nat.reduceLeDiff, Nat.zero_add, Nat.reduceEqDiff, Nat.reduceBEq, ↓reduceIte, Bool.false_eq_true, List.append_nil, List.nil_append, List.cons_append, Option.toList, and_true, true_and, true_or, or_true, reduceCtorEq, List.map_nil, bI_eq0, bI_eq1, bool_ft, pk_us, vnar0, vnar1, Bool.or_false, Bool.or_true, Bool.false_or, Bool.true_or, mj_kne, eq_self, Int32.reduceLT, Int32.reduceLE, Int32.reduceAdd, Int32.reduceSub, Int32.reduceMul, not_true_eq_false, not_false_eq_true, false_implies, true_implies, D_X12_reach, mj_F_aload_n_k, mj_F_goto_off, mj_F_iconst_n, mj_F_ifCond_eq_off, mj_F_iload_k, mj_F_iload_n_k, mj_F_invokevirtual_i, mj_F_ireturn, mj_kc, L_X12_reach, List.take_succ_cons, List.take_zero, List.drop_succ_cons, List.drop_zero, List.reverse_cons, List.reverse_nil, List.length_cons, List.length_nil, gS_M0, J_X12_reach]
  refine ⟨fun c => ?_, fun c => ?_⟩
  · replace hw := ok_t hw c
    exact (ok_some hw :)
  · replace hw := ok_f hw c
    refine c_X12_isSchool_in (ok_imp (ok_bind hw) ?_)
    intro p hw
    simp only [Option.toList, List.nil_append, List.cons_append, Nat.reduceSub]
    refine mj_run hG.1 (fun pc => pc == 5 || pc == 13 || pc == 21 || pc == 30 || pc == 42) 4000 ?_
    simp only [mj_step, mj_W_s, mj_fin, List.getElem?_cons_zero, List.getElem?_cons_succ, mj_go, Nat.reduceAdd, Nat.reduceSub, Nat.reduceLT, Nat.reduceLeDiff, Nat.zero_add, Nat.reduceEqDiff, Nat.reduceBEq, ↓reduceIte, Bool.false_eq_true, List.append_nil, List.nil_append, List.cons_append, Option.toList, and_true, true_and, true_or, or_true, reduceCtorEq, List.map_nil, bI_eq0, bI_eq1, bool_ft, pk_us, vnar0, vnar1, Bool.or_false, Bool.or_true, Bool.false_or, Bool.true_or, mj_kne, eq_self, Int32.reduceLT, Int32.reduceLE, Int32.reduceAdd, Int32.reduceSub, Int32.reduceMul, not_true_eq_false, not_false_eq_true, false_implies, true_implies, D_X12_reach, mj_F_aload_n_k, mj_F_goto_off, mj_F_iconst_n, mj_F_ifCond_eq_off, mj_F_iload_k, mj_F_iload_n_k, mj_F_invokevirtual_i, mj_F_ireturn, mj_kc, L_X12_reach, List.take_succ_cons, List.take_zero, List.drop_succ_cons, List.drop_zero, List.reverse_cons, List.reverse_nil, List.length_cons, List.length_nil, gS_M0, J_X12_reach]
    refine ⟨fun c => ?_, fun c => ?_⟩
    · replace hw := ok_t hw c
      exact (ok_some hw :)
    · replace hw := ok_f hw c
      refine c_X12_isWeek_in (ok_imp (ok_bind hw) ?_)
      intro p hw
      simp only [Option.toList, List.nil_append, List.cons_append, Nat.reduceSub]
      refine mj_run hG.1 (fun pc => pc == 5 || pc == 13 || pc == 21 || pc == 30 || pc == 42) 4000 ?_
      simp only [mj_step, mj_W_s, mj_fin, List.getElem?_cons_zero, List.getElem?_cons_succ, mj_go, Nat.reduceAdd, Nat.reduceSub, Nat.reduceLT, Nat.reduceLeDiff, Nat.zero_add, Nat.reduceEqDiff, Nat.reduceBEq, ↓reduceIte, Bool.false_eq_true, List.append_nil, List.nil_append, List.cons_append, Option.toList, and_true, true_and, true_or, or_true, reduceCtorEq, List.map_nil, bI_eq0, bI_eq1, bool_ft, pk_us, vnar0, vnar1, Bool.or_false, Bool.or_true, Bool.false_or, Bool.true_or, mj_kne, eq_self, Int32.reduceLT, Int32.reduceLE, Int32.reduceAdd, Int32.reduceSub, Int32.reduceMul, not_true_eq_false, not_false_eq_true, false_implies, true_implies, D_X12_reach, mj_F_aload_n_k, mj_F_goto_off, mj_F_iconst_n, mj_F_ifCond_eq_off, mj_F_iload_k, mj_F_iload_n_k, mj_F_invokevirtual_i, mj_F_ireturn, mj_kc, L_X12_reach, List.take_succ_cons, List.take_zero, List.drop_succ_cons, List.drop_zero, List.reverse_cons, List.reverse_nil, List.length_cons, List.length_nil, gS_M0, J_X12_reach]
      refine ⟨fun c => ?_, fun c => ?_⟩
      · replace hw := ok_t hw c
        exact (ok_some hw :)
      · replace hw := ok_f hw c
        refine c_X12_isKnowing_in (ok_imp (ok_bind hw) ?_)
        intro p hw
        simp only [Option.toList, List.nil_append, List.cons_append, Nat.reduceSub]
        refine mj_run hG.1 (fun pc => pc == 5 || pc == 13 || pc == 21 || pc == 30 || pc == 42) 4000 ?_
        simp only [mj_step, mj_W_s, mj_fin, List.getElem?_cons_zero, List.getElem?_cons_succ, mj_go, Nat.reduceAdd, Nat.reduceSub, Nat.reduceLT, Nat.reduceLeDiff, Nat.zero_add, Nat.reduceEqDiff, Nat.reduceBEq, ↓reduceIte, Bool.false_eq_true, List.append_nil, List.nil_append, List.cons_append, Option.toList, and_true, true_and, true_or, or_true, reduceCtorEq, List.map_nil, bI_eq0, bI_eq1, bool_ft, pk_us, vnar0, vnar1, Bool.or_false, Bool.or_true, Bool.false_or, Bool.true_or, mj_kne, eq_self, Int32.reduceLT, Int32.reduceLE, Int32.reduceAdd, Int32.reduceSub, Int32.reduceMul, not_true_eq_false, not_false_eq_true, false_implies, true_implies, D_X12_reach, mj_F_aload_n_k, mj_F_goto_off, mj_F_iconst_n, mj_F_ifCond_eq_off, mj_F_iload_k, mj_F_iload_n_k, mj_F_invokevirtual_i, mj_F_ireturn, mj_kc, L_X12_reach, List.take_succ_cons, List.take_zero, List.drop_succ_cons, List.drop_zero, List.reverse_cons, List.reverse_nil, List.length_cons, List.length_nil, gS_M0, J_X12_reach]
        refine ⟨fun c => ?_, fun c => ?_⟩
        · replace hw := ok_t hw c
          exact (ok_some hw :)
        · replace hw := ok_f hw c
          refine c_X12_reaches_in (ok_imp (ok_bind hw) ?_)
          intro p hw
          simp only [Option.toList, List.nil_append, List.cons_append, Nat.reduceSub]
          refine mj_run hG.1 (fun pc => pc == 5 || pc == 13 || pc == 21 || pc == 30 || pc == 42) 4000 ?_
          simp only [mj_step, mj_W_s, mj_fin, List.getElem?_cons_zero, List.getElem?_cons_succ, mj_go, Nat.reduceAdd, Nat.reduceSub, Nat.reduceLT, Nat.reduceLeDiff, Nat.zero_add, Nat.reduceEqDiff, Nat.reduceBEq, ↓reduceIte, Bool.false_eq_true, List.append_nil, List.nil_append, List.cons_append, Option.toList, and_true, true_and, true_or, or_true, reduceCtorEq, List.map_nil, bI_eq0, bI_eq1, bool_ft, pk_us, vnar0, vnar1, Bool.or_false, Bool.or_true, Bool.false_or, Bool.true_or, mj_kne, eq_self, Int32.reduceLT, Int32.reduceLE, Int32.reduceAdd, Int32.reduceSub, Int32.reduceMul, not_true_eq_false, not_false_eq_true, false_implies, true_implies, D_X12_reach, mj_F_aload_n_k, mj_F_goto_off, mj_F_iconst_n, mj_F_ifCond_eq_off, mj_F_iload_k, mj_F_iload_n_k, mj_F_invokevirtual_i, mj_F_ireturn, mj_kc, L_X12_reach, List.take_succ_cons, List.take_zero, List.drop_succ_cons, List.drop_zero, List.reverse_cons, List.reverse_nil, List.length_cons, List.length_nil, gS_M0, J_X12_reach]
          refine ⟨fun c => ?_, fun c => ?_⟩
          · replace hw := ok_t hw c
            exact (ok_some hw :)
          · replace hw := ok_f hw c
            exact (ok_some hw :)

def c_X12_reach : mj_S := fun as h k => ∃ (v1 : Int32) (v2 : Int32) (v3 : Int32) (v4 : Int32) (s : St), as = [.ref 0, .int v1, .int v2, .int v3, .int v4] ∧ h = mkMs s ∧ ok (F_X12_reach v1 v2 v3 v4 s) (fun p => k (some (.int p.1)) (mkMs p.2))
theorem c_X12_reach_in {v1 : Int32} {v2 : Int32} {v3 : Int32} {v4 : Int32} {s : St} {k : Option Value → mj_H → Prop} (hw : ok (F_X12_reach v1 v2 v3 v4 s) (fun p => k (some (.int p.1)) (mkMs p.2))) : c_X12_reach [.ref 0, .int v1, .int v2, .int v3, .int v4] (mkMs s) k := ⟨v1, v2, v3, v4, s, rfl, rfl, hw⟩
theorem m_X12_reach (l : Launch) : mj_Met l yX12_reach cX12_reach 5 ((some FieldType.int)) 9 0 0 c_X12_reach := by
  refine mj_body2 false (TbX12 5 ((some FieldType.int)) ct_X12_reach) (by decide) rfl rfl (fun h => nomatch h) (tfX12 _ (List.forall_mem_cons.mpr ⟨cfX12_274 (m_X12_isVillage l) (by decide), List.forall_mem_cons.mpr ⟨cfX12_287 (m_X12_isKnowing l) (by decide), List.forall_mem_cons.mpr ⟨cfX12_293 (m_X12_isSchool l) (by decide), List.forall_mem_cons.mpr ⟨cfX12_457 (m_X12_isWeek l) (by decide), List.forall_mem_cons.mpr ⟨cfX12_476 (m_X12_reaches l) (by decide), fun _ h => nomatch h⟩⟩⟩⟩⟩)) ?_
  rintro as h k ⟨v1, v2, v3, v4, s, rfl, rfl, hw⟩
  exact ⟨rfl, fun G hG => g_X12_reach hG hw⟩
def B_X12_gather_2 (v1 : Int32) (v2 : Int32) : Int32 × St → Option ((Int32 × St) ⊕ ((St)))
  | (v3, s) =>
  if (s.1 1223) ≤ v3 then
    some (.inr s)
  else
    (F_X12_placesOf v3 v1 v2 s).bind fun r1 =>
    (wr r1.2 1246 20 v3 r1.1).bind fun s2 =>
    some (.inl ((v3 + 1), s2))
def B_X12_gather_91 (v1 : Int32) (v2 : Int32) (v3 : Int32) (v4 : Int32) : Int32 × St → Option ((Int32 × St) ⊕ ((St)))
  | (v5, s) =>
  if (s.1 1223) ≤ v5 then
    some (.inr s)
  else
    (rd s 1214 20 v5).bind fun x11 =>
    (F_X12_walkedTo x11 s).bind fun r12 =>
    (wr s 1248 480 ((20 * v3) + v5) r12).bind fun s13 =>
    (rd s13 1248 480 ((20 * v3) + v5)).bind fun x14 =>
    if x14 = (-1) then
      (wr s13 1249 480 ((20 * v3) + v5) 0).bind fun s15 =>
      some (.inl ((v5 + 1), s15))
    else
      (rd s13 1248 480 ((20 * v3) + v5)).bind fun x16 =>
      if v4 < x16 then
        (wr s13 1249 480 ((20 * v3) + v5) 0).bind fun s17 =>
        some (.inl ((v5 + 1), s17))
      else
        (F_X12_isTongueRight v3 v5 v1 v2 s13).bind fun r18 =>
        if r18.1 = 0 then
          (wr r18.2 1249 480 ((20 * v3) + v5) 0).bind fun s19 =>
          some (.inl ((v5 + 1), s19))
        else
          (wr r18.2 1249 480 ((20 * v3) + v5) 1).bind fun s20 =>
          some (.inl ((v5 + 1), s20))
def F_X12_gather_180 (v1 : Int32) (v2 : Int32) (v3 : Int32) (s : St) : Option ((Int32 × St) ⊕ ((St))) :=
  some (.inl ((v3 + 1), s))
def F_X12_gather_91 (v1 : Int32) (v2 : Int32) (v3 : Int32) (v4 : Int32) (v5 : Int32) (s : St) : Option ((Int32 × St) ⊕ ((St))) :=
  (lp (B_X12_gather_91 v1 v2 v3 v4) FU (v5, s)).bind (fun y => F_X12_gather_180 v1 v2 v3 y)
def B_X12_gather_31 (v1 : Int32) (v2 : Int32) : Int32 × St → Option ((Int32 × St) ⊕ ((St)))
  | (v3, s) =>
  if (s.1 1212) ≤ v3 then
    some (.inr s)
  else
    (F_X12_children v3 (v1 / 52) v2 s).bind fun r3 =>
    (wr s 1247 24 v3 r3).bind fun s4 =>
    (rd s4 1204 24 v3).bind fun x5 =>
    (rd s4 1202 601 v1).bind fun x6 =>
    if x6 = 0 then
      (F_X12_spread x5 0 s4).bind fun s7 =>
      (F_X12_mayWalk v3 v1 v2 s7).bind fun r8 =>
      F_X12_gather_91 v1 v2 v3 r8.1 0 r8.2
    else
      (F_X12_spread x5 1 s4).bind fun s9 =>
      (F_X12_mayWalk v3 v1 v2 s9).bind fun r10 =>
      F_X12_gather_91 v1 v2 v3 r10.1 0 r10.2
def F_X12_gather_186 (s : St) : Option (St) :=
  some s
def F_X12_gather_31 (v1 : Int32) (v2 : Int32) (v3 : Int32) (s : St) : Option (St) :=
  (lp (B_X12_gather_31 v1 v2) FU (v3, s)).bind (fun y => F_X12_gather_186 y)
def F_X12_gather_29 (v1 : Int32) (v2 : Int32) (s : St) : Option (St) :=
  F_X12_gather_31 v1 v2 0 s
def F_X12_gather_2 (v1 : Int32) (v2 : Int32) (v3 : Int32) (s : St) : Option (St) :=
  (lp (B_X12_gather_2 v1 v2) FU (v3, s)).bind (fun y => F_X12_gather_29 v1 v2 y)
def F_X12_gather (v1 : Int32) (v2 : Int32) (s : St) : Option (St) :=
  F_X12_gather_2 v1 v2 0 s
theorem J_X12_gather : mj_t 7 22 = 29 ∧ mj_t 26 (-24) = 2 ∧ mj_t 36 150 = 186 ∧ mj_t 68 7 = 75 ∧ mj_t 72 4 = 76 ∧ mj_t 97 83 = 180 ∧ mj_t 141 31 = 172 ∧ mj_t 153 19 = 172 ∧ mj_t 165 7 = 172 ∧ mj_t 169 4 = 173 ∧ mj_t 177 (-86) = 91 ∧ mj_t 183 (-152) = 31 ∧ (0 ≤ ((7 : Nat) : Int) + 22) = True ∧ (0 ≤ ((26 : Nat) : Int) + (-24)) = True ∧ (0 ≤ ((36 : Nat) : Int) + 150) = True ∧ (0 ≤ ((68 : Nat) : Int) + 7) = True ∧ (0 ≤ ((72 : Nat) : Int) + 4) = True ∧ (0 ≤ ((97 : Nat) : Int) + 83) = True ∧ (0 ≤ ((141 : Nat) : Int) + 31) = True ∧ (0 ≤ ((153 : Nat) : Int) + 19) = True ∧ (0 ≤ ((165 : Nat) : Int) + 7) = True ∧ (0 ≤ ((169 : Nat) : Int) + 4) = True ∧ (0 ≤ ((177 : Nat) : Int) + (-86)) = True ∧ (0 ≤ ((183 : Nat) : Int) + (-152)) = True := by and_intros <;> first | rfl | exact eq_true (by decide)
def ct_X12_gather : List (Nat × mj_Cs) := [(247, 0, 3, 12, 0, 0, c_X12_spread), (251, 0, 2, 12, 0, 0, c_X12_walkedTo), (444, 2, 1, 12, 0, 0, c_yearOf), (460, 0, 4, 12, 0, 0, c_X12_placesOf), (463, 0, 4, 12, 0, 0, c_X12_children), (469, 0, 4, 12, 0, 0, c_X12_mayWalk), (472, 0, 5, 12, 0, 0, c_X12_isTongueRight)]
theorem L_X12_gather : mj_lk ct_X12_gather 247 = some (0, 3, 12, 0, 0, c_X12_spread) ∧ mj_lk ct_X12_gather 251 = some (0, 2, 12, 0, 0, c_X12_walkedTo) ∧ mj_lk ct_X12_gather 444 = some (2, 1, 12, 0, 0, c_yearOf) ∧ mj_lk ct_X12_gather 460 = some (0, 4, 12, 0, 0, c_X12_placesOf) ∧ mj_lk ct_X12_gather 463 = some (0, 4, 12, 0, 0, c_X12_children) ∧ mj_lk ct_X12_gather 469 = some (0, 4, 12, 0, 0, c_X12_mayWalk) ∧ mj_lk ct_X12_gather 472 = some (0, 5, 12, 0, 0, c_X12_isTongueRight) := ⟨rfl, rfl, rfl, rfl, rfl, rfl, rfl⟩
set_option maxHeartbeats 4000000 in
set_option maxRecDepth 20000 in
theorem b_X12_gather_2 {k : Option Value → mj_H → Prop} {G : mj_K} (hG : mj_cl2 cX12_gather (TbX12 7 (none) ct_X12_gather) k G) {v1 : Int32} {v2 : Int32} {P : Int32 × St → Prop} {K : (St) → Prop} (hP : ∀ x, P x → G 2 [.ref 0, .int v1, .int v2, .int x.1] [] (mkMs x.2) 0 0) (hK0 : ∀ y, K y → G 29 [.ref 0, .int v1, .int v2] [] (mkMs y) 0 0) {v3 : Int32} {s : St} (hw : ok (B_X12_gather_2 v1 v2 (v3, s)) (Sum.elim P K)) : G 2 [.ref 0, .int v1, .int v2, .int v3] [] (mkMs s) 0 0 := by
  unfold B_X12_gather_2 at hw
  refine mj_run hG.1 (fun pc => pc == 2 || pc == 22 || pc == 29 || pc == 31 || pc == 54 || pc == 79 || pc == 86 || pc == 91 || pc == 126 || pc == 165 || pc == 180 || pc == 186) 4000 ?_
  simp only [mj_step, mj_W_s, mj_fin, List.getElem?_cons_zero, List.getElem?_cons_succ, mj_go, Nat.reduceAdd, Nat.reduceSub, Nat.reduceLT, Nat.reduceLeDiff, Nat.zero_add, Nat.reduceEqDiff, Nat.reduceBEq, ↓reduceIte, Bool.false_eq_true, List.append_nil, List.nil_append, List.cons_append, Option.toList, and_true, true_and, true_or, or_true, reduceCtorEq, List.map_nil, bI_eq0, bI_eq1, bool_ft, pk_us, vnar0, vnar1, Bool.or_false, Bool.or_true, Bool.false_or, Bool.true_or, mj_kne, eq_self, Int32.reduceLT, Int32.reduceLE, Int32.reduceAdd, Int32.reduceSub, Int32.reduceMul, not_true_eq_false, not_false_eq_true, false_implies, true_implies, D_X12_gather_0, D_X12_gather_1, D_X12_gather_2, mj_F_aload_n_k, mj_F_baload, mj_F_bastore, mj_F_bipush_n, mj_F_getfield_i, mj_F_goto_off, mj_F_iadd, mj_F_iaload, mj_F_iastore, mj_F_iconst_n, mj_F_ifCond_eq_off, mj_F_if_icmp_eq_off, mj_F_if_icmp_ge_off, mj_F_if_icmp_gt_off, mj_F_iinc_k_n, mj_F_iload_k, mj_F_iload_n_k, mj_F_imul, mj_F_invokestatic_i, mj_F_invokevirtual_i, mj_F_istore_k, mj_F_istore_n_k, mj_F_return_, mj_set, mj_set0, mj_unk, mj_c2, mj_kc, FT_X12, FT_X12_1, L_X12_gather, List.take_succ_cons, List.take_zero, List.drop_succ_cons, List.drop_zero, List.reverse_cons, List.reverse_nil, List.length_cons, List.length_nil, gS_M0, gMf_23, gMf_46, gS_M34, sS_Ma_34, gMf_12, gMf_47, gS_M35, sS_Ma_35, gMf_4, gS_M4, sS_Ma_4, gMf_2, gS_M2, sS_Ma_2, gMf_48, gS_M36, sS_Ma_36, gMf_14, gS_M12, sS_Ma_12, gMf_49, gS_M37, sS_Ma_37, c_yearOf_eq, J_X12_gather]
  refine ⟨fun c => ?_, fun c => ?_⟩
  · replace hw := ok_t hw c
    exact hG.2 _ _ _ _ _ _ _ _ _ (by refine ⟨Or.inr rfl, ?_⟩; refine ⟨Or.inr rfl, ?_⟩; refine ⟨Or.inr rfl, ?_⟩; exact trivial) (Nat.zero_le _) (Nat.zero_le _) (hK0 _ (ok_some hw :) :)
  · replace hw := ok_f hw c
    refine c_X12_placesOf_in (ok_imp (ok_bind hw) ?_)
    intro p hw
    simp only [Option.toList, List.nil_append, List.cons_append, Nat.reduceSub]
    refine mj_run hG.1 (fun pc => pc == 2 || pc == 22 || pc == 29 || pc == 31 || pc == 54 || pc == 79 || pc == 86 || pc == 91 || pc == 126 || pc == 165 || pc == 180 || pc == 186) 4000 ?_
    simp only [mj_step, mj_W_s, mj_fin, List.getElem?_cons_zero, List.getElem?_cons_succ, mj_go, Nat.reduceAdd, Nat.reduceSub, Nat.reduceLT, Nat.reduceLeDiff, Nat.zero_add, Nat.reduceEqDiff, Nat.reduceBEq, ↓reduceIte, Bool.false_eq_true, List.append_nil, List.nil_append, List.cons_append, Option.toList, and_true, true_and, true_or, or_true, reduceCtorEq, List.map_nil, bI_eq0, bI_eq1, bool_ft, pk_us, vnar0, vnar1, Bool.or_false, Bool.or_true, Bool.false_or, Bool.true_or, mj_kne, eq_self, Int32.reduceLT, Int32.reduceLE, Int32.reduceAdd, Int32.reduceSub, Int32.reduceMul, not_true_eq_false, not_false_eq_true, false_implies, true_implies, D_X12_gather_0, D_X12_gather_1, D_X12_gather_2, mj_F_aload_n_k, mj_F_baload, mj_F_bastore, mj_F_bipush_n, mj_F_getfield_i, mj_F_goto_off, mj_F_iadd, mj_F_iaload, mj_F_iastore, mj_F_iconst_n, mj_F_ifCond_eq_off, mj_F_if_icmp_eq_off, mj_F_if_icmp_ge_off, mj_F_if_icmp_gt_off, mj_F_iinc_k_n, mj_F_iload_k, mj_F_iload_n_k, mj_F_imul, mj_F_invokestatic_i, mj_F_invokevirtual_i, mj_F_istore_k, mj_F_istore_n_k, mj_F_return_, mj_set, mj_set0, mj_unk, mj_c2, mj_kc, FT_X12, FT_X12_1, L_X12_gather, List.take_succ_cons, List.take_zero, List.drop_succ_cons, List.drop_zero, List.reverse_cons, List.reverse_nil, List.length_cons, List.length_nil, gS_M0, gMf_23, gMf_46, gS_M34, sS_Ma_34, gMf_12, gMf_47, gS_M35, sS_Ma_35, gMf_4, gS_M4, sS_Ma_4, gMf_2, gS_M2, sS_Ma_2, gMf_48, gS_M36, sS_Ma_36, gMf_14, gS_M12, sS_Ma_12, gMf_49, gS_M37, sS_Ma_37, c_yearOf_eq, J_X12_gather]
    refine ⟨(ok_wr hw).1, ?_⟩
    replace hw := (ok_wr hw).2
    exact hG.2 _ _ _ _ _ _ _ _ _ (by refine ⟨Or.inr rfl, ?_⟩; refine ⟨Or.inr rfl, ?_⟩; refine ⟨Or.inr rfl, ?_⟩; refine ⟨Or.inr rfl, ?_⟩; exact trivial) (Nat.zero_le _) (Nat.zero_le _) (hP _ (ok_some hw :) :)

set_option maxHeartbeats 4000000 in
set_option maxRecDepth 20000 in
theorem b_X12_gather_91 {k : Option Value → mj_H → Prop} {G : mj_K} (hG : mj_cl2 cX12_gather (TbX12 7 (none) ct_X12_gather) k G) {v1 : Int32} {v2 : Int32} {v3 : Int32} {v4 : Int32} {P : Int32 × St → Prop} {K : (St) → Prop} (hP : ∀ x, P x → G 91 [.ref 0, .int v1, .int v2, .int v3, .int v4, .int x.1] [] (mkMs x.2) 0 0) (hK0 : ∀ y, K y → G 180 [.ref 0, .int v1, .int v2, .int v3] [] (mkMs y) 0 0) {v5 : Int32} {s : St} (hw : ok (B_X12_gather_91 v1 v2 v3 v4 (v5, s)) (Sum.elim P K)) : G 91 [.ref 0, .int v1, .int v2, .int v3, .int v4, .int v5] [] (mkMs s) 0 0 := by
  unfold B_X12_gather_91 at hw
  refine mj_run hG.1 (fun pc => pc == 2 || pc == 22 || pc == 29 || pc == 31 || pc == 54 || pc == 79 || pc == 86 || pc == 91 || pc == 126 || pc == 165 || pc == 180 || pc == 186) 4000 ?_
  simp only [mj_step, mj_W_s, mj_fin, List.getElem?_cons_zero, List.getElem?_cons_succ, mj_go, Nat.reduceAdd, Nat.reduceSub, Nat.reduceLT, Nat.reduceLeDiff, Nat.zero_add, Nat.reduceEqDiff, Nat.reduceBEq, ↓reduceIte, Bool.false_eq_true, List.append_nil, List.nil_append, List.cons_append, Option.toList, and_true, true_and, true_or, or_true, reduceCtorEq, List.map_nil, bI_eq0, bI_eq1, bool_ft, pk_us, vnar0, vnar1, Bool.or_false, Bool.or_true, Bool.false_or, Bool.true_or, mj_kne, eq_self, Int32.reduceLT, Int32.reduceLE, Int32.reduceAdd, Int32.reduceSub, Int32.reduceMul, not_true_eq_false, not_false_eq_true, false_implies, true_implies, D_X12_gather_0, D_X12_gather_1, D_X12_gather_2, mj_F_aload_n_k, mj_F_baload, mj_F_bastore, mj_F_bipush_n, mj_F_getfield_i, mj_F_goto_off, mj_F_iadd, mj_F_iaload, mj_F_iastore, mj_F_iconst_n, mj_F_ifCond_eq_off, mj_F_if_icmp_eq_off, mj_F_if_icmp_ge_off, mj_F_if_icmp_gt_off, mj_F_iinc_k_n, mj_F_iload_k, mj_F_iload_n_k, mj_F_imul, mj_F_invokestatic_i, mj_F_invokevirtual_i, mj_F_istore_k, mj_F_istore_n_k, mj_F_return_, mj_set, mj_set0, mj_unk, mj_c2, mj_kc, FT_X12, FT_X12_1, L_X12_gather, List.take_succ_cons, List.take_zero, List.drop_succ_cons, List.drop_zero, List.reverse_cons, List.reverse_nil, List.length_cons, List.length_nil, gS_M0, gMf_23, gMf_46, gS_M34, sS_Ma_34, gMf_12, gMf_47, gS_M35, sS_Ma_35, gMf_4, gS_M4, sS_Ma_4, gMf_2, gS_M2, sS_Ma_2, gMf_48, gS_M36, sS_Ma_36, gMf_14, gS_M12, sS_Ma_12, gMf_49, gS_M37, sS_Ma_37, c_yearOf_eq, J_X12_gather]
  refine ⟨fun c => ?_, fun c => ?_⟩
  · replace hw := ok_t hw c
    exact hG.2 _ _ _ _ _ _ _ _ _ (by refine ⟨Or.inr rfl, ?_⟩; refine ⟨Or.inr rfl, ?_⟩; refine ⟨Or.inr rfl, ?_⟩; refine ⟨Or.inr rfl, ?_⟩; exact trivial) (Nat.zero_le _) (Nat.zero_le _) (hK0 _ (ok_some hw :) :)
  · replace hw := ok_f hw c
    refine ⟨(ok_rd hw).1, ?_⟩
    replace hw := (ok_rd hw).2
    refine c_X12_walkedTo_in (ok_imp (ok_bind hw) ?_)
    intro p hw
    simp only [Option.toList, List.nil_append, List.cons_append, Nat.reduceSub]
    refine mj_run hG.1 (fun pc => pc == 2 || pc == 22 || pc == 29 || pc == 31 || pc == 54 || pc == 79 || pc == 86 || pc == 91 || pc == 126 || pc == 165 || pc == 180 || pc == 186) 4000 ?_
    simp only [mj_step, mj_W_s, mj_fin, List.getElem?_cons_zero, List.getElem?_cons_succ, mj_go, Nat.reduceAdd, Nat.reduceSub, Nat.reduceLT, Nat.reduceLeDiff, Nat.zero_add, Nat.reduceEqDiff, Nat.reduceBEq, ↓reduceIte, Bool.false_eq_true, List.append_nil, List.nil_append, List.cons_append, Option.toList, and_true, true_and, true_or, or_true, reduceCtorEq, List.map_nil, bI_eq0, bI_eq1, bool_ft, pk_us, vnar0, vnar1, Bool.or_false, Bool.or_true, Bool.false_or, Bool.true_or, mj_kne, eq_self, Int32.reduceLT, Int32.reduceLE, Int32.reduceAdd, Int32.reduceSub, Int32.reduceMul, not_true_eq_false, not_false_eq_true, false_implies, true_implies, D_X12_gather_0, D_X12_gather_1, D_X12_gather_2, mj_F_aload_n_k, mj_F_baload, mj_F_bastore, mj_F_bipush_n, mj_F_getfield_i, mj_F_goto_off, mj_F_iadd, mj_F_iaload, mj_F_iastore, mj_F_iconst_n, mj_F_ifCond_eq_off, mj_F_if_icmp_eq_off, mj_F_if_icmp_ge_off, mj_F_if_icmp_gt_off, mj_F_iinc_k_n, mj_F_iload_k, mj_F_iload_n_k, mj_F_imul, mj_F_invokestatic_i, mj_F_invokevirtual_i, mj_F_istore_k, mj_F_istore_n_k, mj_F_return_, mj_set, mj_set0, mj_unk, mj_c2, mj_kc, FT_X12, FT_X12_1, L_X12_gather, List.take_succ_cons, List.take_zero, List.drop_succ_cons, List.drop_zero, List.reverse_cons, List.reverse_nil, List.length_cons, List.length_nil, gS_M0, gMf_23, gMf_46, gS_M34, sS_Ma_34, gMf_12, gMf_47, gS_M35, sS_Ma_35, gMf_4, gS_M4, sS_Ma_4, gMf_2, gS_M2, sS_Ma_2, gMf_48, gS_M36, sS_Ma_36, gMf_14, gS_M12, sS_Ma_12, gMf_49, gS_M37, sS_Ma_37, c_yearOf_eq, J_X12_gather]
    refine ⟨(ok_wr hw).1, ?_⟩
    replace hw := (ok_wr hw).2
    refine ⟨(ok_rd hw).1, ?_⟩
    replace hw := (ok_rd hw).2
    refine ⟨fun c => ?_, fun c => ?_⟩
    · replace hw := ok_t hw c
      refine ⟨(ok_wr hw).1, ?_⟩
      replace hw := (ok_wr hw).2
      exact hG.2 _ _ _ _ _ _ _ _ _ (by refine ⟨Or.inr rfl, ?_⟩; refine ⟨Or.inr rfl, ?_⟩; refine ⟨Or.inr rfl, ?_⟩; refine ⟨Or.inr rfl, ?_⟩; refine ⟨Or.inr rfl, ?_⟩; refine ⟨Or.inr rfl, ?_⟩; exact trivial) (Nat.zero_le _) (Nat.zero_le _) (hP _ (ok_some hw :) :)
    · replace hw := ok_f hw c
      refine ⟨(ok_rd hw).1, ?_⟩
      replace hw := (ok_rd hw).2
      refine ⟨fun c => ?_, fun c => ?_⟩
      · replace hw := ok_t hw c
        refine ⟨(ok_wr hw).1, ?_⟩
        replace hw := (ok_wr hw).2
        exact hG.2 _ _ _ _ _ _ _ _ _ (by refine ⟨Or.inr rfl, ?_⟩; refine ⟨Or.inr rfl, ?_⟩; refine ⟨Or.inr rfl, ?_⟩; refine ⟨Or.inr rfl, ?_⟩; refine ⟨Or.inr rfl, ?_⟩; refine ⟨Or.inr rfl, ?_⟩; exact trivial) (Nat.zero_le _) (Nat.zero_le _) (hP _ (ok_some hw :) :)
      · replace hw := ok_f hw c
        refine c_X12_isTongueRight_in (ok_imp (ok_bind hw) ?_)
        intro p hw
        simp only [Option.toList, List.nil_append, List.cons_append, Nat.reduceSub]
        refine mj_run hG.1 (fun pc => pc == 2 || pc == 22 || pc == 29 || pc == 31 || pc == 54 || pc == 79 || pc == 86 || pc == 91 || pc == 126 || pc == 165 || pc == 180 || pc == 186) 4000 ?_
        simp only [mj_step, mj_W_s, mj_fin, List.getElem?_cons_zero, List.getElem?_cons_succ, mj_go, Nat.reduceAdd, Nat.reduceSub, Nat.reduceLT, Nat.reduceLeDiff, Nat.zero_add, Nat.reduceEqDiff, Nat.reduceBEq, ↓reduceIte, Bool.false_eq_true, List.append_nil, List.nil_append, List.cons_append, Option.toList, and_true, true_and, true_or, or_true, reduceCtorEq, List.map_nil, bI_eq0, bI_eq1, bool_ft, pk_us, vnar0, vnar1, Bool.or_false, Bool.or_true, Bool.false_or, Bool.true_or, mj_kne, eq_self, Int32.reduceLT, Int32.reduceLE, Int32.reduceAdd, Int32.reduceSub, Int32.reduceMul, not_true_eq_false, not_false_eq_true, false_implies, true_implies, D_X12_gather_0, D_X12_gather_1, D_X12_gather_2, mj_F_aload_n_k, mj_F_baload, mj_F_bastore, mj_F_bipush_n, mj_F_getfield_i, mj_F_goto_off, mj_F_iadd, mj_F_iaload, mj_F_iastore, mj_F_iconst_n, mj_F_ifCond_eq_off, mj_F_if_icmp_eq_off, mj_F_if_icmp_ge_off, mj_F_if_icmp_gt_off, mj_F_iinc_k_n, mj_F_iload_k, mj_F_iload_n_k, mj_F_imul, mj_F_invokestatic_i, mj_F_invokevirtual_i, mj_F_istore_k, mj_F_istore_n_k, mj_F_return_, mj_set, mj_set0, mj_unk, mj_c2, mj_kc, FT_X12, FT_X12_1, L_X12_gather, List.take_succ_cons, List.take_zero, List.drop_succ_cons, List.drop_zero, List.reverse_cons, List.reverse_nil, List.length_cons, List.length_nil, gS_M0, gMf_23, gMf_46, gS_M34, sS_Ma_34, gMf_12, gMf_47, gS_M35, sS_Ma_35, gMf_4, gS_M4, sS_Ma_4, gMf_2, gS_M2, sS_Ma_2, gMf_48, gS_M36, sS_Ma_36, gMf_14, gS_M12, sS_Ma_12, gMf_49, gS_M37, sS_Ma_37, c_yearOf_eq, J_X12_gather]
        refine ⟨fun c => ?_, fun c => ?_⟩
        · replace hw := ok_t hw c
          refine ⟨(ok_wr hw).1, ?_⟩
          replace hw := (ok_wr hw).2
          exact hG.2 _ _ _ _ _ _ _ _ _ (by refine ⟨Or.inr rfl, ?_⟩; refine ⟨Or.inr rfl, ?_⟩; refine ⟨Or.inr rfl, ?_⟩; refine ⟨Or.inr rfl, ?_⟩; refine ⟨Or.inr rfl, ?_⟩; refine ⟨Or.inr rfl, ?_⟩; exact trivial) (Nat.zero_le _) (Nat.zero_le _) (hP _ (ok_some hw :) :)
        · replace hw := ok_f hw c
          refine ⟨(ok_wr hw).1, ?_⟩
          replace hw := (ok_wr hw).2
          exact hG.2 _ _ _ _ _ _ _ _ _ (by refine ⟨Or.inr rfl, ?_⟩; refine ⟨Or.inr rfl, ?_⟩; refine ⟨Or.inr rfl, ?_⟩; refine ⟨Or.inr rfl, ?_⟩; refine ⟨Or.inr rfl, ?_⟩; refine ⟨Or.inr rfl, ?_⟩; exact trivial) (Nat.zero_le _) (Nat.zero_le _) (hP _ (ok_some hw :) :)

set_option maxHeartbeats 4000000 in
set_option maxRecDepth 20000 in
theorem g_X12_gather_180 {k : Option Value → mj_H → Prop} {G : mj_K} (hG : mj_cl2 cX12_gather (TbX12 7 (none) ct_X12_gather) k G) {v1 : Int32} {v2 : Int32} {P : Int32 × St → Prop} {K : (St) → Prop} (hP : ∀ x, P x → G 31 [.ref 0, .int v1, .int v2, .int x.1] [] (mkMs x.2) 0 0) (hK0 : ∀ y, K y → G 186 [] [] (mkMs y) 0 0) {v3 : Int32} {s : St} (hw : ok (F_X12_gather_180 v1 v2 v3 s) (Sum.elim P K)) : G 180 [.ref 0, .int v1, .int v2, .int v3] [] (mkMs s) 0 0 := by
  unfold F_X12_gather_180 at hw
  refine mj_run hG.1 (fun pc => pc == 2 || pc == 22 || pc == 29 || pc == 31 || pc == 54 || pc == 79 || pc == 86 || pc == 91 || pc == 126 || pc == 165 || pc == 180 || pc == 186) 4000 ?_
  simp only [mj_step, mj_W_s, mj_fin, List.getElem?_cons_zero, List.getElem?_cons_succ, mj_go, Nat.reduceAdd, Nat.reduceSub, Nat.reduceLT, Nat.reduceLeDiff, Nat.zero_add, Nat.reduceEqDiff, Nat.reduceBEq, ↓reduceIte, Bool.false_eq_true, List.append_nil, List.nil_append, List.cons_append, Option.toList, and_true, true_and, true_or, or_true, reduceCtorEq, List.map_nil, bI_eq0, bI_eq1, bool_ft, pk_us, vnar0, vnar1, Bool.or_false, Bool.or_true, Bool.false_or, Bool.true_or, mj_kne, eq_self, Int32.reduceLT, Int32.reduceLE, Int32.reduceAdd, Int32.reduceSub, Int32.reduceMul, not_true_eq_false, not_false_eq_true, false_implies, true_implies, D_X12_gather_0, D_X12_gather_1, D_X12_gather_2, mj_F_aload_n_k, mj_F_baload, mj_F_bastore, mj_F_bipush_n, mj_F_getfield_i, mj_F_goto_off, mj_F_iadd, mj_F_iaload, mj_F_iastore, mj_F_iconst_n, mj_F_ifCond_eq_off, mj_F_if_icmp_eq_off, mj_F_if_icmp_ge_off, mj_F_if_icmp_gt_off, mj_F_iinc_k_n, mj_F_iload_k, mj_F_iload_n_k, mj_F_imul, mj_F_invokestatic_i, mj_F_invokevirtual_i, mj_F_istore_k, mj_F_istore_n_k, mj_F_return_, mj_set, mj_set0, mj_unk, mj_c2, mj_kc, FT_X12, FT_X12_1, L_X12_gather, List.take_succ_cons, List.take_zero, List.drop_succ_cons, List.drop_zero, List.reverse_cons, List.reverse_nil, List.length_cons, List.length_nil, gS_M0, gMf_23, gMf_46, gS_M34, sS_Ma_34, gMf_12, gMf_47, gS_M35, sS_Ma_35, gMf_4, gS_M4, sS_Ma_4, gMf_2, gS_M2, sS_Ma_2, gMf_48, gS_M36, sS_Ma_36, gMf_14, gS_M12, sS_Ma_12, gMf_49, gS_M37, sS_Ma_37, c_yearOf_eq, J_X12_gather]
  exact hG.2 _ _ _ _ _ _ _ _ _ (by refine ⟨Or.inr rfl, ?_⟩; refine ⟨Or.inr rfl, ?_⟩; refine ⟨Or.inr rfl, ?_⟩; refine ⟨Or.inr rfl, ?_⟩; exact trivial) (Nat.zero_le _) (Nat.zero_le _) (hP _ (ok_some hw :) :)

set_option maxHeartbeats 4000000 in
theorem g_X12_gather_91 {k : Option Value → mj_H → Prop} {G : mj_K} (hG : mj_cl2 cX12_gather (TbX12 7 (none) ct_X12_gather) k G) {v1 : Int32} {v2 : Int32} {P : Int32 × St → Prop} {K : (St) → Prop} (hP : ∀ x, P x → G 31 [.ref 0, .int v1, .int v2, .int x.1] [] (mkMs x.2) 0 0) (hK0 : ∀ y, K y → G 186 [] [] (mkMs y) 0 0) {v3 : Int32} {v4 : Int32} {v5 : Int32} {s : St} (hw : ok (F_X12_gather_91 v1 v2 v3 v4 v5 s) (Sum.elim P K)) : G 91 [.ref 0, .int v1, .int v2, .int v3, .int v4, .int v5] [] (mkMs s) 0 0 := by
  unfold F_X12_gather_91 at hw
  refine lp_ok (B_X12_gather_91 v1 v2 v3 v4) (fun x => G 91 [.ref 0, .int v1, .int v2, .int v3, .int v4, .int x.1] [] (mkMs x.2) 0 0) _ ?_ _ _ (ok_bind hw)
  rintro ⟨v5, s⟩ hb
  exact b_X12_gather_91 hG (fun _ z => z) (fun y hw => by exact hG.2 _ _ _ _ _ _ _ _ _ (by refine ⟨Or.inr rfl, ?_⟩; refine ⟨Or.inr rfl, ?_⟩; refine ⟨Or.inr rfl, ?_⟩; refine ⟨Or.inr rfl, ?_⟩; exact trivial) (Nat.zero_le _) (Nat.zero_le _) (g_X12_gather_180 hG hP hK0  hw :)) hb

set_option maxHeartbeats 4000000 in
set_option maxRecDepth 20000 in
theorem b_X12_gather_31 {k : Option Value → mj_H → Prop} {G : mj_K} (hG : mj_cl2 cX12_gather (TbX12 7 (none) ct_X12_gather) k G) {v1 : Int32} {v2 : Int32} {P : Int32 × St → Prop} {K : (St) → Prop} (hP : ∀ x, P x → G 31 [.ref 0, .int v1, .int v2, .int x.1] [] (mkMs x.2) 0 0) (hK0 : ∀ y, K y → G 186 [] [] (mkMs y) 0 0) {v3 : Int32} {s : St} (hw : ok (B_X12_gather_31 v1 v2 (v3, s)) (Sum.elim P K)) : G 31 [.ref 0, .int v1, .int v2, .int v3] [] (mkMs s) 0 0 := by
  unfold B_X12_gather_31 at hw
  refine mj_run hG.1 (fun pc => pc == 2 || pc == 22 || pc == 29 || pc == 31 || pc == 54 || pc == 79 || pc == 86 || pc == 91 || pc == 126 || pc == 165 || pc == 180 || pc == 186) 4000 ?_
  simp only [mj_step, mj_W_s, mj_fin, List.getElem?_cons_zero, List.getElem?_cons_succ, mj_go, Nat.reduceAdd, Nat.reduceSub, Nat.reduceLT, Nat.reduceLeDiff, Nat.zero_add, Nat.reduceEqDiff, Nat.reduceBEq, ↓reduceIte, Bool.false_eq_true, List.append_nil, List.nil_append, List.cons_append, Option.toList, and_true, true_and, true_or, or_true, reduceCtorEq, List.map_nil, bI_eq0, bI_eq1, bool_ft, pk_us, vnar0, vnar1, Bool.or_false, Bool.or_true, Bool.false_or, Bool.true_or, mj_kne, eq_self, Int32.reduceLT, Int32.reduceLE, Int32.reduceAdd, Int32.reduceSub, Int32.reduceMul, not_true_eq_false, not_false_eq_true, false_implies, true_implies, D_X12_gather_0, D_X12_gather_1, D_X12_gather_2, mj_F_aload_n_k, mj_F_baload, mj_F_bastore, mj_F_bipush_n, mj_F_getfield_i, mj_F_goto_off, mj_F_iadd, mj_F_iaload, mj_F_iastore, mj_F_iconst_n, mj_F_ifCond_eq_off, mj_F_if_icmp_eq_off, mj_F_if_icmp_ge_off, mj_F_if_icmp_gt_off, mj_F_iinc_k_n, mj_F_iload_k, mj_F_iload_n_k, mj_F_imul, mj_F_invokestatic_i, mj_F_invokevirtual_i, mj_F_istore_k, mj_F_istore_n_k, mj_F_return_, mj_set, mj_set0, mj_unk, mj_c2, mj_kc, FT_X12, FT_X12_1, L_X12_gather, List.take_succ_cons, List.take_zero, List.drop_succ_cons, List.drop_zero, List.reverse_cons, List.reverse_nil, List.length_cons, List.length_nil, gS_M0, gMf_23, gMf_46, gS_M34, sS_Ma_34, gMf_12, gMf_47, gS_M35, sS_Ma_35, gMf_4, gS_M4, sS_Ma_4, gMf_2, gS_M2, sS_Ma_2, gMf_48, gS_M36, sS_Ma_36, gMf_14, gS_M12, sS_Ma_12, gMf_49, gS_M37, sS_Ma_37, c_yearOf_eq, J_X12_gather]
  refine ⟨fun c => ?_, fun c => ?_⟩
  · replace hw := ok_t hw c
    exact hG.2 _ _ _ _ _ _ _ _ _ (by exact trivial) (Nat.zero_le _) (Nat.zero_le _) (hK0 _ (ok_some hw :) :)
  · replace hw := ok_f hw c
    refine c_X12_children_in (ok_imp (ok_bind hw) ?_)
    intro p hw
    simp only [Option.toList, List.nil_append, List.cons_append, Nat.reduceSub]
    refine mj_run hG.1 (fun pc => pc == 2 || pc == 22 || pc == 29 || pc == 31 || pc == 54 || pc == 79 || pc == 86 || pc == 91 || pc == 126 || pc == 165 || pc == 180 || pc == 186) 4000 ?_
    simp only [mj_step, mj_W_s, mj_fin, List.getElem?_cons_zero, List.getElem?_cons_succ, mj_go, Nat.reduceAdd, Nat.reduceSub, Nat.reduceLT, Nat.reduceLeDiff, Nat.zero_add, Nat.reduceEqDiff, Nat.reduceBEq, ↓reduceIte, Bool.false_eq_true, List.append_nil, List.nil_append, List.cons_append, Option.toList, and_true, true_and, true_or, or_true, reduceCtorEq, List.map_nil, bI_eq0, bI_eq1, bool_ft, pk_us, vnar0, vnar1, Bool.or_false, Bool.or_true, Bool.false_or, Bool.true_or, mj_kne, eq_self, Int32.reduceLT, Int32.reduceLE, Int32.reduceAdd, Int32.reduceSub, Int32.reduceMul, not_true_eq_false, not_false_eq_true, false_implies, true_implies, D_X12_gather_0, D_X12_gather_1, D_X12_gather_2, mj_F_aload_n_k, mj_F_baload, mj_F_bastore, mj_F_bipush_n, mj_F_getfield_i, mj_F_goto_off, mj_F_iadd, mj_F_iaload, mj_F_iastore, mj_F_iconst_n, mj_F_ifCond_eq_off, mj_F_if_icmp_eq_off, mj_F_if_icmp_ge_off, mj_F_if_icmp_gt_off, mj_F_iinc_k_n, mj_F_iload_k, mj_F_iload_n_k, mj_F_imul, mj_F_invokestatic_i, mj_F_invokevirtual_i, mj_F_istore_k, mj_F_istore_n_k, mj_F_return_, mj_set, mj_set0, mj_unk, mj_c2, mj_kc, FT_X12, FT_X12_1, L_X12_gather, List.take_succ_cons, List.take_zero, List.drop_succ_cons, List.drop_zero, List.reverse_cons, List.reverse_nil, List.length_cons, List.length_nil, gS_M0, gMf_23, gMf_46, gS_M34, sS_Ma_34, gMf_12, gMf_47, gS_M35, sS_Ma_35, gMf_4, gS_M4, sS_Ma_4, gMf_2, gS_M2, sS_Ma_2, gMf_48, gS_M36, sS_Ma_36, gMf_14, gS_M12, sS_Ma_12, gMf_49, gS_M37, sS_Ma_37, c_yearOf_eq, J_X12_gather]
    refine ⟨(ok_wr hw).1, ?_⟩
    replace hw := (ok_wr hw).2
    refine ⟨(ok_rd hw).1, ?_⟩
    replace hw := (ok_rd hw).2
    refine ⟨(ok_rd hw).1, ?_⟩
    replace hw := (ok_rd hw).2
    refine ⟨fun c => ?_, fun c => ?_⟩
    · replace hw := ok_t hw c
      refine c_X12_spread_in (ok_imp (ok_bind hw) ?_)
      intro p hw
      simp only [Option.toList, List.nil_append, List.cons_append, Nat.reduceSub]
      refine mj_run hG.1 (fun pc => pc == 2 || pc == 22 || pc == 29 || pc == 31 || pc == 54 || pc == 79 || pc == 86 || pc == 91 || pc == 126 || pc == 165 || pc == 180 || pc == 186) 4000 ?_
      simp only [mj_step, mj_W_s, mj_fin, List.getElem?_cons_zero, List.getElem?_cons_succ, mj_go, Nat.reduceAdd, Nat.reduceSub, Nat.reduceLT, Nat.reduceLeDiff, Nat.zero_add, Nat.reduceEqDiff, Nat.reduceBEq, ↓reduceIte, Bool.false_eq_true, List.append_nil, List.nil_append, List.cons_append, Option.toList, and_true, true_and, true_or, or_true, reduceCtorEq, List.map_nil, bI_eq0, bI_eq1, bool_ft, pk_us, vnar0, vnar1, Bool.or_false, Bool.or_true, Bool.false_or, Bool.true_or, mj_kne, eq_self, Int32.reduceLT, Int32.reduceLE, Int32.reduceAdd, Int32.reduceSub, Int32.reduceMul, not_true_eq_false, not_false_eq_true, false_implies, true_implies, D_X12_gather_0, D_X12_gather_1, D_X12_gather_2, mj_F_aload_n_k, mj_F_baload, mj_F_bastore, mj_F_bipush_n, mj_F_getfield_i, mj_F_goto_off, mj_F_iadd, mj_F_iaload, mj_F_iastore, mj_F_iconst_n, mj_F_ifCond_eq_off, mj_F_if_icmp_eq_off, mj_F_if_icmp_ge_off, mj_F_if_icmp_gt_off, mj_F_iinc_k_n, mj_F_iload_k, mj_F_iload_n_k, mj_F_imul, mj_F_invokestatic_i, mj_F_invokevirtual_i, mj_F_istore_k, mj_F_istore_n_k, mj_F_return_, mj_set, mj_set0, mj_unk, mj_c2, mj_kc, FT_X12, FT_X12_1, L_X12_gather, List.take_succ_cons, List.take_zero, List.drop_succ_cons, List.drop_zero, List.reverse_cons, List.reverse_nil, List.length_cons, List.length_nil, gS_M0, gMf_23, gMf_46, gS_M34, sS_Ma_34, gMf_12, gMf_47, gS_M35, sS_Ma_35, gMf_4, gS_M4, sS_Ma_4, gMf_2, gS_M2, sS_Ma_2, gMf_48, gS_M36, sS_Ma_36, gMf_14, gS_M12, sS_Ma_12, gMf_49, gS_M37, sS_Ma_37, c_yearOf_eq, J_X12_gather]
      refine c_X12_mayWalk_in (ok_imp (ok_bind hw) ?_)
      intro p hw
      simp only [Option.toList, List.nil_append, List.cons_append, Nat.reduceSub]
      refine mj_run hG.1 (fun pc => pc == 2 || pc == 22 || pc == 29 || pc == 31 || pc == 54 || pc == 79 || pc == 86 || pc == 91 || pc == 126 || pc == 165 || pc == 180 || pc == 186) 4000 ?_
      simp only [mj_step, mj_W_s, mj_fin, List.getElem?_cons_zero, List.getElem?_cons_succ, mj_go, Nat.reduceAdd, Nat.reduceSub, Nat.reduceLT, Nat.reduceLeDiff, Nat.zero_add, Nat.reduceEqDiff, Nat.reduceBEq, ↓reduceIte, Bool.false_eq_true, List.append_nil, List.nil_append, List.cons_append, Option.toList, and_true, true_and, true_or, or_true, reduceCtorEq, List.map_nil, bI_eq0, bI_eq1, bool_ft, pk_us, vnar0, vnar1, Bool.or_false, Bool.or_true, Bool.false_or, Bool.true_or, mj_kne, eq_self, Int32.reduceLT, Int32.reduceLE, Int32.reduceAdd, Int32.reduceSub, Int32.reduceMul, not_true_eq_false, not_false_eq_true, false_implies, true_implies, D_X12_gather_0, D_X12_gather_1, D_X12_gather_2, mj_F_aload_n_k, mj_F_baload, mj_F_bastore, mj_F_bipush_n, mj_F_getfield_i, mj_F_goto_off, mj_F_iadd, mj_F_iaload, mj_F_iastore, mj_F_iconst_n, mj_F_ifCond_eq_off, mj_F_if_icmp_eq_off, mj_F_if_icmp_ge_off, mj_F_if_icmp_gt_off, mj_F_iinc_k_n, mj_F_iload_k, mj_F_iload_n_k, mj_F_imul, mj_F_invokestatic_i, mj_F_invokevirtual_i, mj_F_istore_k, mj_F_istore_n_k, mj_F_return_, mj_set, mj_set0, mj_unk, mj_c2, mj_kc, FT_X12, FT_X12_1, L_X12_gather, List.take_succ_cons, List.take_zero, List.drop_succ_cons, List.drop_zero, List.reverse_cons, List.reverse_nil, List.length_cons, List.length_nil, gS_M0, gMf_23, gMf_46, gS_M34, sS_Ma_34, gMf_12, gMf_47, gS_M35, sS_Ma_35, gMf_4, gS_M4, sS_Ma_4, gMf_2, gS_M2, sS_Ma_2, gMf_48, gS_M36, sS_Ma_36, gMf_14, gS_M12, sS_Ma_12, gMf_49, gS_M37, sS_Ma_37, c_yearOf_eq, J_X12_gather]
      exact hG.2 _ _ _ _ _ _ _ _ _ (by refine ⟨Or.inr rfl, ?_⟩; refine ⟨Or.inr rfl, ?_⟩; refine ⟨Or.inr rfl, ?_⟩; refine ⟨Or.inr rfl, ?_⟩; refine ⟨Or.inr rfl, ?_⟩; refine ⟨Or.inr rfl, ?_⟩; exact trivial) (Nat.zero_le _) (Nat.zero_le _) (g_X12_gather_91 hG hP hK0  hw :)
    · replace hw := ok_f hw c
      refine c_X12_spread_in (ok_imp (ok_bind hw) ?_)
      intro p hw
      simp only [Option.toList, List.nil_append, List.cons_append, Nat.reduceSub]
      refine mj_run hG.1 (fun pc => pc == 2 || pc == 22 || pc == 29 || pc == 31 || pc == 54 || pc == 79 || pc == 86 || pc == 91 || pc == 126 || pc == 165 || pc == 180 || pc == 186) 4000 ?_
      simp only [mj_step, mj_W_s, mj_fin, List.getElem?_cons_zero, List.getElem?_cons_succ, mj_go, Nat.reduceAdd, Nat.reduceSub, Nat.reduceLT, Nat.reduceLeDiff, Nat.zero_add, Nat.reduceEqDiff, Nat.reduceBEq, ↓reduceIte, Bool.false_eq_true, List.append_nil, List.nil_append, List.cons_append, Option.toList, and_true, true_and, true_or, or_true, reduceCtorEq, List.map_nil, bI_eq0, bI_eq1, bool_ft, pk_us, vnar0, vnar1, Bool.or_false, Bool.or_true, Bool.false_or, Bool.true_or, mj_kne, eq_self, Int32.reduceLT, Int32.reduceLE, Int32.reduceAdd, Int32.reduceSub, Int32.reduceMul, not_true_eq_false, not_false_eq_true, false_implies, true_implies, D_X12_gather_0, D_X12_gather_1, D_X12_gather_2, mj_F_aload_n_k, mj_F_baload, mj_F_bastore, mj_F_bipush_n, mj_F_getfield_i, mj_F_goto_off, mj_F_iadd, mj_F_iaload, mj_F_iastore, mj_F_iconst_n, mj_F_ifCond_eq_off, mj_F_if_icmp_eq_off, mj_F_if_icmp_ge_off, mj_F_if_icmp_gt_off, mj_F_iinc_k_n, mj_F_iload_k, mj_F_iload_n_k, mj_F_imul, mj_F_invokestatic_i, mj_F_invokevirtual_i, mj_F_istore_k, mj_F_istore_n_k, mj_F_return_, mj_set, mj_set0, mj_unk, mj_c2, mj_kc, FT_X12, FT_X12_1, L_X12_gather, List.take_succ_cons, List.take_zero, List.drop_succ_cons, List.drop_zero, List.reverse_cons, List.reverse_nil, List.length_cons, List.length_nil, gS_M0, gMf_23, gMf_46, gS_M34, sS_Ma_34, gMf_12, gMf_47, gS_M35, sS_Ma_35, gMf_4, gS_M4, sS_Ma_4, gMf_2, gS_M2, sS_Ma_2, gMf_48, gS_M36, sS_Ma_36, gMf_14, gS_M12, sS_Ma_12, gMf_49, gS_M37, sS_Ma_37, c_yearOf_eq, J_X12_gather]
      refine c_X12_mayWalk_in (ok_imp (ok_bind hw) ?_)
      intro p hw
      simp only [Option.toList, List.nil_append, List.cons_append, Nat.reduceSub]
      refine mj_run hG.1 (fun pc => pc == 2 || pc == 22 || pc == 29 || pc == 31 || pc == 54 || pc == 79 || pc == 86 || pc == 91 || pc == 126 || pc == 165 || pc == 180 || pc == 186) 4000 ?_
      simp only [mj_step, mj_W_s, mj_fin, List.getElem?_cons_zero, List.getElem?_cons_succ, mj_go, Nat.reduceAdd, Nat.reduceSub, Nat.reduceLT, Nat.reduceLeDiff, Nat.zero_add, Nat.reduceEqDiff, Nat.reduceBEq, ↓reduceIte, Bool.false_eq_true, List.append_nil, List.nil_append, List.cons_append, Option.toList, and_true, true_and, true_or, or_true, reduceCtorEq, List.map_nil, bI_eq0, bI_eq1, bool_ft, pk_us, vnar0, vnar1, Bool.or_false, Bool.or_true, Bool.false_or, Bool.true_or, mj_kne, eq_self, Int32.reduceLT, Int32.reduceLE, Int32.reduceAdd, Int32.reduceSub, Int32.reduceMul, not_true_eq_false, not_false_eq_true, false_implies, true_implies, D_X12_gather_0, D_X12_gather_1, D_X12_gather_2, mj_F_aload_n_k, mj_F_baload, mj_F_bastore, mj_F_bipush_n, mj_F_getfield_i, mj_F_goto_off, mj_F_iadd, mj_F_iaload, mj_F_iastore, mj_F_iconst_n, mj_F_ifCond_eq_off, mj_F_if_icmp_eq_off, mj_F_if_icmp_ge_off, mj_F_if_icmp_gt_off, mj_F_iinc_k_n, mj_F_iload_k, mj_F_iload_n_k, mj_F_imul, mj_F_invokestatic_i, mj_F_invokevirtual_i, mj_F_istore_k, mj_F_istore_n_k, mj_F_return_, mj_set, mj_set0, mj_unk, mj_c2, mj_kc, FT_X12, FT_X12_1, L_X12_gather, List.take_succ_cons, List.take_zero, List.drop_succ_cons, List.drop_zero, List.reverse_cons, List.reverse_nil, List.length_cons, List.length_nil, gS_M0, gMf_23, gMf_46, gS_M34, sS_Ma_34, gMf_12, gMf_47, gS_M35, sS_Ma_35, gMf_4, gS_M4, sS_Ma_4, gMf_2, gS_M2, sS_Ma_2, gMf_48, gS_M36, sS_Ma_36, gMf_14, gS_M12, sS_Ma_12, gMf_49, gS_M37, sS_Ma_37, c_yearOf_eq, J_X12_gather]
      exact hG.2 _ _ _ _ _ _ _ _ _ (by refine ⟨Or.inr rfl, ?_⟩; refine ⟨Or.inr rfl, ?_⟩; refine ⟨Or.inr rfl, ?_⟩; refine ⟨Or.inr rfl, ?_⟩; refine ⟨Or.inr rfl, ?_⟩; refine ⟨Or.inr rfl, ?_⟩; exact trivial) (Nat.zero_le _) (Nat.zero_le _) (g_X12_gather_91 hG hP hK0  hw :)

set_option maxHeartbeats 4000000 in
set_option maxRecDepth 20000 in
theorem g_X12_gather_186 {k : Option Value → mj_H → Prop} {G : mj_K} (hG : mj_cl2 cX12_gather (TbX12 7 (none) ct_X12_gather) k G)   {s : St} (hw : ok (F_X12_gather_186 s) (fun p => k none (mkMs p))) : G 186 [] [] (mkMs s) 0 0 := by
  unfold F_X12_gather_186 at hw
  refine mj_run hG.1 (fun pc => pc == 2 || pc == 22 || pc == 29 || pc == 31 || pc == 54 || pc == 79 || pc == 86 || pc == 91 || pc == 126 || pc == 165 || pc == 180 || pc == 186) 4000 ?_
  simp only [mj_step, mj_W_s, mj_fin, List.getElem?_cons_zero, List.getElem?_cons_succ, mj_go, Nat.reduceAdd, Nat.reduceSub, Nat.reduceLT, Nat.reduceLeDiff, Nat.zero_add, Nat.reduceEqDiff, Nat.reduceBEq, ↓reduceIte, Bool.false_eq_true, List.append_nil, List.nil_append, List.cons_append, Option.toList, and_true, true_and, true_or, or_true, reduceCtorEq, List.map_nil, bI_eq0, bI_eq1, bool_ft, pk_us, vnar0, vnar1, Bool.or_false, Bool.or_true, Bool.false_or, Bool.true_or, mj_kne, eq_self, Int32.reduceLT, Int32.reduceLE, Int32.reduceAdd, Int32.reduceSub, Int32.reduceMul, not_true_eq_false, not_false_eq_true, false_implies, true_implies, D_X12_gather_0, D_X12_gather_1, D_X12_gather_2, mj_F_aload_n_k, mj_F_baload, mj_F_bastore, mj_F_bipush_n, mj_F_getfield_i, mj_F_goto_off, mj_F_iadd, mj_F_iaload, mj_F_iastore, mj_F_iconst_n, mj_F_ifCond_eq_off, mj_F_if_icmp_eq_off, mj_F_if_icmp_ge_off, mj_F_if_icmp_gt_off, mj_F_iinc_k_n, mj_F_iload_k, mj_F_iload_n_k, mj_F_imul, mj_F_invokestatic_i, mj_F_invokevirtual_i, mj_F_istore_k, mj_F_istore_n_k, mj_F_return_, mj_set, mj_set0, mj_unk, mj_c2, mj_kc, FT_X12, FT_X12_1, L_X12_gather, List.take_succ_cons, List.take_zero, List.drop_succ_cons, List.drop_zero, List.reverse_cons, List.reverse_nil, List.length_cons, List.length_nil, gS_M0, gMf_23, gMf_46, gS_M34, sS_Ma_34, gMf_12, gMf_47, gS_M35, sS_Ma_35, gMf_4, gS_M4, sS_Ma_4, gMf_2, gS_M2, sS_Ma_2, gMf_48, gS_M36, sS_Ma_36, gMf_14, gS_M12, sS_Ma_12, gMf_49, gS_M37, sS_Ma_37, c_yearOf_eq, J_X12_gather]
  exact (ok_some hw :)

set_option maxHeartbeats 4000000 in
theorem g_X12_gather_31 {k : Option Value → mj_H → Prop} {G : mj_K} (hG : mj_cl2 cX12_gather (TbX12 7 (none) ct_X12_gather) k G)   {v1 : Int32} {v2 : Int32} {v3 : Int32} {s : St} (hw : ok (F_X12_gather_31 v1 v2 v3 s) (fun p => k none (mkMs p))) : G 31 [.ref 0, .int v1, .int v2, .int v3] [] (mkMs s) 0 0 := by
  unfold F_X12_gather_31 at hw
  refine lp_ok (B_X12_gather_31 v1 v2) (fun x => G 31 [.ref 0, .int v1, .int v2, .int x.1] [] (mkMs x.2) 0 0) _ ?_ _ _ (ok_bind hw)
  rintro ⟨v3, s⟩ hb
  exact b_X12_gather_31 hG (fun _ z => z) (fun y hw => by exact hG.2 _ _ _ _ _ _ _ _ _ (by exact trivial) (Nat.zero_le _) (Nat.zero_le _) (g_X12_gather_186 hG  hw :)) hb

set_option maxHeartbeats 4000000 in
set_option maxRecDepth 20000 in
theorem g_X12_gather_29 {k : Option Value → mj_H → Prop} {G : mj_K} (hG : mj_cl2 cX12_gather (TbX12 7 (none) ct_X12_gather) k G)   {v1 : Int32} {v2 : Int32} {s : St} (hw : ok (F_X12_gather_29 v1 v2 s) (fun p => k none (mkMs p))) : G 29 [.ref 0, .int v1, .int v2] [] (mkMs s) 0 0 := by
  unfold F_X12_gather_29 at hw
  refine mj_run hG.1 (fun pc => pc == 2 || pc == 22 || pc == 29 || pc == 31 || pc == 54 || pc == 79 || pc == 86 || pc == 91 || pc == 126 || pc == 165 || pc == 180 || pc == 186) 4000 ?_
  simp only [mj_step, mj_W_s, mj_fin, List.getElem?_cons_zero, List.getElem?_cons_succ, mj_go, Nat.reduceAdd, Nat.reduceSub, Nat.reduceLT, Nat.reduceLeDiff, Nat.zero_add, Nat.reduceEqDiff, Nat.reduceBEq, ↓reduceIte, Bool.false_eq_true, List.append_nil, List.nil_append, List.cons_append, Option.toList, and_true, true_and, true_or, or_true, reduceCtorEq, List.map_nil, bI_eq0, bI_eq1, bool_ft, pk_us, vnar0, vnar1, Bool.or_false, Bool.or_true, Bool.false_or, Bool.true_or, mj_kne, eq_self, Int32.reduceLT, Int32.reduceLE, Int32.reduceAdd, Int32.reduceSub, Int32.reduceMul, not_true_eq_false, not_false_eq_true, false_implies, true_implies, D_X12_gather_0, D_X12_gather_1, D_X12_gather_2, mj_F_aload_n_k, mj_F_baload, mj_F_bastore, mj_F_bipush_n, mj_F_getfield_i, mj_F_goto_off, mj_F_iadd, mj_F_iaload, mj_F_iastore, mj_F_iconst_n, mj_F_ifCond_eq_off, mj_F_if_icmp_eq_off, mj_F_if_icmp_ge_off, mj_F_if_icmp_gt_off, mj_F_iinc_k_n, mj_F_iload_k, mj_F_iload_n_k, mj_F_imul, mj_F_invokestatic_i, mj_F_invokevirtual_i, mj_F_istore_k, mj_F_istore_n_k, mj_F_return_, mj_set, mj_set0, mj_unk, mj_c2, mj_kc, FT_X12, FT_X12_1, L_X12_gather, List.take_succ_cons, List.take_zero, List.drop_succ_cons, List.drop_zero, List.reverse_cons, List.reverse_nil, List.length_cons, List.length_nil, gS_M0, gMf_23, gMf_46, gS_M34, sS_Ma_34, gMf_12, gMf_47, gS_M35, sS_Ma_35, gMf_4, gS_M4, sS_Ma_4, gMf_2, gS_M2, sS_Ma_2, gMf_48, gS_M36, sS_Ma_36, gMf_14, gS_M12, sS_Ma_12, gMf_49, gS_M37, sS_Ma_37, c_yearOf_eq, J_X12_gather]
  exact hG.2 _ _ _ _ _ _ _ _ _ (by refine ⟨Or.inr rfl, ?_⟩; refine ⟨Or.inr rfl, ?_⟩; refine ⟨Or.inr rfl, ?_⟩; refine ⟨Or.inr rfl, ?_⟩; exact trivial) (Nat.zero_le _) (Nat.zero_le _) (g_X12_gather_31 hG  hw :)

set_option maxHeartbeats 4000000 in
theorem g_X12_gather_2 {k : Option Value → mj_H → Prop} {G : mj_K} (hG : mj_cl2 cX12_gather (TbX12 7 (none) ct_X12_gather) k G)   {v1 : Int32} {v2 : Int32} {v3 : Int32} {s : St} (hw : ok (F_X12_gather_2 v1 v2 v3 s) (fun p => k none (mkMs p))) : G 2 [.ref 0, .int v1, .int v2, .int v3] [] (mkMs s) 0 0 := by
  unfold F_X12_gather_2 at hw
  refine lp_ok (B_X12_gather_2 v1 v2) (fun x => G 2 [.ref 0, .int v1, .int v2, .int x.1] [] (mkMs x.2) 0 0) _ ?_ _ _ (ok_bind hw)
  rintro ⟨v3, s⟩ hb
  exact b_X12_gather_2 hG (fun _ z => z) (fun y hw => by exact hG.2 _ _ _ _ _ _ _ _ _ (by refine ⟨Or.inr rfl, ?_⟩; refine ⟨Or.inr rfl, ?_⟩; refine ⟨Or.inr rfl, ?_⟩; exact trivial) (Nat.zero_le _) (Nat.zero_le _) (g_X12_gather_29 hG  hw :)) hb

set_option maxHeartbeats 4000000 in
set_option maxRecDepth 20000 in
theorem g_X12_gather {k : Option Value → mj_H → Prop} {G : mj_K} (hG : mj_cl2 cX12_gather (TbX12 7 (none) ct_X12_gather) k G) {v1 : Int32} {v2 : Int32} {s : St} (hw : ok (F_X12_gather v1 v2 s) (fun p => k none (mkMs p))) : G 0 [.ref 0, .int v1, .int v2] [] (mkMs s) 0 0 := by
  unfold F_X12_gather at hw
  refine mj_run hG.1 (fun pc => pc == 2 || pc == 22 || pc == 29 || pc == 31 || pc == 54 || pc == 79 || pc == 86 || pc == 91 || pc == 126 || pc == 165 || pc == 180 || pc == 186) 4000 ?_
  simp only [mj_step, mj_W_s, mj_fin, List.getElem?_cons_zero, List.getElem?_cons_succ, mj_go, Nat.reduceAdd, Nat.reduceSub, Nat.reduceLT, Nat.reduceLeDiff, Nat.zero_add, Nat.reduceEqDiff, Nat.reduceBEq, ↓reduceIte, Bool.false_eq_true, List.append_nil, List.nil_append, List.cons_append, Option.toList, and_true, true_and, true_or, or_true, reduceCtorEq, List.map_nil, bI_eq0, bI_eq1, bool_ft, pk_us, vnar0, vnar1, Bool.or_false, Bool.or_true, Bool.false_or, Bool.true_or, mj_kne, eq_self, Int32.reduceLT, Int32.reduceLE, Int32.reduceAdd, Int32.reduceSub, Int32.reduceMul, not_true_eq_false, not_false_eq_true, false_implies, true_implies, D_X12_gather_0, D_X12_gather_1, D_X12_gather_2, mj_F_aload_n_k, mj_F_baload, mj_F_bastore, mj_F_bipush_n, mj_F_getfield_i, mj_F_goto_off, mj_F_iadd, mj_F_iaload, mj_F_iastore, mj_F_iconst_n, mj_F_ifCond_eq_off, mj_F_if_icmp_eq_off, mj_F_if_icmp_ge_off, mj_F_if_icmp_gt_off, mj_F_iinc_k_n, mj_F_iload_k, mj_F_iload_n_k, mj_F_imul, mj_F_invokestatic_i, mj_F_invokevirtual_i, mj_F_istore_k, mj_F_istore_n_k, mj_F_return_, mj_set, mj_set0, mj_unk, mj_c2, mj_kc, FT_X12, FT_X12_1, L_X12_gather, List.take_succ_cons, List.take_zero, List.drop_succ_cons, List.drop_zero, List.reverse_cons, List.reverse_nil, List.length_cons, List.length_nil, gS_M0, gMf_23, gMf_46, gS_M34, sS_Ma_34, gMf_12, gMf_47, gS_M35, sS_Ma_35, gMf_4, gS_M4, sS_Ma_4, gMf_2, gS_M2, sS_Ma_2, gMf_48, gS_M36, sS_Ma_36, gMf_14, gS_M12, sS_Ma_12, gMf_49, gS_M37, sS_Ma_37, c_yearOf_eq, J_X12_gather]
  exact hG.2 _ _ _ _ _ _ _ _ _ (by refine ⟨Or.inr rfl, ?_⟩; refine ⟨Or.inr rfl, ?_⟩; refine ⟨Or.inr rfl, ?_⟩; refine ⟨Or.inr rfl, ?_⟩; exact trivial) (Nat.zero_le _) (Nat.zero_le _) (g_X12_gather_2 hG  hw :)

def c_X12_gather : mj_S := fun as h k => ∃ (v1 : Int32) (v2 : Int32) (s : St), as = [.ref 0, .int v1, .int v2] ∧ h = mkMs s ∧ ok (F_X12_gather v1 v2 s) (fun p => k none (mkMs p))
theorem c_X12_gather_in {v1 : Int32} {v2 : Int32} {s : St} {k : Option Value → mj_H → Prop} (hw : ok (F_X12_gather v1 v2 s) (fun p => k none (mkMs p))) : c_X12_gather [.ref 0, .int v1, .int v2] (mkMs s) k := ⟨v1, v2, s, rfl, rfl, hw⟩
theorem m_X12_gather (l : Launch) : mj_Met l yX12_gather cX12_gather 7 (none) 9 0 0 c_X12_gather := by
  refine mj_body2 false (TbX12 7 (none) ct_X12_gather) (by decide) rfl rfl (fun h => nomatch h) (tfX12 _ (List.forall_mem_cons.mpr ⟨cfX12_247 (m_X12_spread l) (by decide), List.forall_mem_cons.mpr ⟨cfX12_251 (m_X12_walkedTo l) (by decide), List.forall_mem_cons.mpr ⟨cfX12_444 (m_X12_yearOf l) (by decide), List.forall_mem_cons.mpr ⟨cfX12_460 (m_X12_placesOf l) (by decide), List.forall_mem_cons.mpr ⟨cfX12_463 (m_X12_children l) (by decide), List.forall_mem_cons.mpr ⟨cfX12_469 (m_X12_mayWalk l) (by decide), List.forall_mem_cons.mpr ⟨cfX12_472 (m_X12_isTongueRight l) (by decide), fun _ h => nomatch h⟩⟩⟩⟩⟩⟩⟩)) ?_
  rintro as h k ⟨v1, v2, s, rfl, rfl, hw⟩
  exact ⟨rfl, fun G hG => g_X12_gather hG hw⟩
def B_X12_seatAll_19 (v3 : Int32) : Int32 × St → Option ((Int32 × St) ⊕ ((St)))
  | (v4, s) =>
  if (s.1 1223) ≤ v4 then
    some (.inr s)
  else
    (wr s 1245 480 ((20 * v3) + v4) 0).bind fun s2 =>
    some (.inl ((v4 + 1), s2))
def B_X12_seatAll_73 (v3 : Int32) (s : St) : Int32 × Int32 × Int32 → Option ((Int32 × Int32 × Int32) ⊕ ((Int32)))
  | (v5, v6, v7) =>
  if (s.1 1223) ≤ v7 then
    some (.inr v5)
  else
    (rd s 1248 480 ((20 * v3) + v7)).bind fun x4 =>
    (rd s 1246 20 v7).bind fun x5 =>
    if x5 ≤ 0 then
      some (.inl (v5, v6, (v7 + 1)))
    else
      (rd s 1249 480 ((20 * v3) + v7)).bind fun x6 =>
      if x6 = 0 then
        some (.inl (v5, v6, (v7 + 1)))
      else
        if v5 = (-1) then
          some (.inl (v7, x4, (v7 + 1)))
        else
          if v6 ≤ x4 then
            some (.inl (v5, v6, (v7 + 1)))
          else
            some (.inl (v7, x4, (v7 + 1)))
def F_X12_seatAll_148 (v3 : Int32) (v5 : Int32) (s : St) : Option ((Int32 × St) ⊕ ((St))) :=
  if v5 = (-1) then
    some (.inl (0, s))
  else
    (rd s 1246 20 v5).bind fun x7 =>
    (rd s 1247 24 v3).bind fun x8 =>
    (rd s 1245 480 ((20 * v3) + v5)).bind fun x9 =>
    (wr s 1245 480 ((20 * v3) + v5) (x9 + (zmn x7 x8))).bind fun s10 =>
    (rd s10 1246 20 v5).bind fun x11 =>
    (wr s10 1246 20 v5 (x11 - (zmn x7 x8))).bind fun s12 =>
    (rd s12 1247 24 v3).bind fun x13 =>
    (wr s12 1247 24 v3 (x13 - (zmn x7 x8))).bind fun s14 =>
    some (.inl (1, s14))
def F_X12_seatAll_73 (v3 : Int32) (v5 : Int32) (v6 : Int32) (v7 : Int32) (s : St) : Option ((Int32 × St) ⊕ ((St))) :=
  (lp (B_X12_seatAll_73 v3 s) FU (v5, v6, v7)).bind (fun y => F_X12_seatAll_148 v3 y s)
def B_X12_seatAll_50 (v3 : Int32) : Int32 × St → Option ((Int32 × St) ⊕ ((St)))
  | (v4, s) =>
  if v4 = 0 then
    some (.inr s)
  else
    (rd s 1247 24 v3).bind fun x3 =>
    if x3 ≤ 0 then
      some (.inr s)
    else
      F_X12_seatAll_73 v3 (-1) 0 0 s
def F_X12_seatAll_227 (v3 : Int32) (s : St) : Option ((Int32 × St) ⊕ ((St))) :=
  some (.inl ((v3 + 1), s))
def F_X12_seatAll_50 (v3 : Int32) (v4 : Int32) (s : St) : Option ((Int32 × St) ⊕ ((St))) :=
  (lp (B_X12_seatAll_50 v3) FU (v4, s)).bind (fun y => F_X12_seatAll_227 v3 y)
def F_X12_seatAll_47 (v3 : Int32) (s : St) : Option ((Int32 × St) ⊕ ((St))) :=
  F_X12_seatAll_50 v3 1 s
def F_X12_seatAll_19 (v3 : Int32) (v4 : Int32) (s : St) : Option ((Int32 × St) ⊕ ((St))) :=
  (lp (B_X12_seatAll_19 v3) FU (v4, s)).bind (fun y => F_X12_seatAll_47 v3 y)
def B_X12_seatAll_8  : Int32 × St → Option ((Int32 × St) ⊕ ((St)))
  | (v3, s) =>
  if (s.1 1212) ≤ v3 then
    some (.inr s)
  else
    F_X12_seatAll_19 v3 0 s
def F_X12_seatAll_233 (s : St) : Option (St) :=
  some s
def F_X12_seatAll_8 (v3 : Int32) (s : St) : Option (St) :=
  (lp (B_X12_seatAll_8 ) FU (v3, s)).bind (fun y => F_X12_seatAll_233 y)
def F_X12_seatAll (v1 : Int32) (v2 : Int32) (s : St) : Option (St) :=
  (F_X12_gather v1 v2 s).bind fun s1 =>
  F_X12_seatAll_8 0 s1
theorem J_X12_seatAll : mj_t 13 220 = 233 ∧ mj_t 25 22 = 47 ∧ mj_t 44 (-25) = 19 ∧ mj_t 52 175 = 227 ∧ mj_t 61 166 = 227 ∧ mj_t 79 69 = 148 ∧ mj_t 103 39 = 142 ∧ mj_t 118 24 = 142 ∧ mj_t 124 10 = 134 ∧ mj_t 131 11 = 142 ∧ mj_t 145 (-72) = 73 ∧ mj_t 151 7 = 158 ∧ mj_t 155 4 = 159 ∧ mj_t 163 61 = 224 ∧ mj_t 224 (-174) = 50 ∧ mj_t 230 (-222) = 8 ∧ (0 ≤ ((13 : Nat) : Int) + 220) = True ∧ (0 ≤ ((25 : Nat) : Int) + 22) = True ∧ (0 ≤ ((44 : Nat) : Int) + (-25)) = True ∧ (0 ≤ ((52 : Nat) : Int) + 175) = True ∧ (0 ≤ ((61 : Nat) : Int) + 166) = True ∧ (0 ≤ ((79 : Nat) : Int) + 69) = True ∧ (0 ≤ ((103 : Nat) : Int) + 39) = True ∧ (0 ≤ ((118 : Nat) : Int) + 24) = True ∧ (0 ≤ ((124 : Nat) : Int) + 10) = True ∧ (0 ≤ ((131 : Nat) : Int) + 11) = True ∧ (0 ≤ ((145 : Nat) : Int) + (-72)) = True ∧ (0 ≤ ((151 : Nat) : Int) + 7) = True ∧ (0 ≤ ((155 : Nat) : Int) + 4) = True ∧ (0 ≤ ((163 : Nat) : Int) + 61) = True ∧ (0 ≤ ((224 : Nat) : Int) + (-174)) = True ∧ (0 ≤ ((230 : Nat) : Int) + (-222)) = True := by and_intros <;> first | rfl | exact eq_true (by decide)
def ct_X12_seatAll : List (Nat × mj_Cs) := [(479, 0, 3, 12, 0, 0, c_X12_gather)]
theorem L_X12_seatAll : mj_lk ct_X12_seatAll 479 = some (0, 3, 12, 0, 0, c_X12_gather) := rfl
set_option maxHeartbeats 4000000 in
set_option maxRecDepth 20000 in
theorem b_X12_seatAll_19 {k : Option Value → mj_H → Prop} {G : mj_K} (hG : mj_cl2 cX12_seatAll (TbX12 9 (none) ct_X12_seatAll) k G) (hM : mj_ml cX12_seatAll yX12_seatAll.cls G) {v3 : Int32} {P : Int32 × St → Prop} {K : (St) → Prop} (hP : ∀ x, P x → G 19 [.ref 0, mj_unk, mj_unk, .int v3, .int x.1] [] (mkMs x.2) 0 0) (hK0 : ∀ y, K y → G 47 [.ref 0, mj_unk, mj_unk, .int v3] [] (mkMs y) 0 0) {v4 : Int32} {s : St} (hw : ok (B_X12_seatAll_19 v3 (v4, s)) (Sum.elim P K)) : G 19 [.ref 0, mj_unk, mj_unk, .int v3, .int v4] [] (mkMs s) 0 0 := by
  unfold B_X12_seatAll_19 at hw
  refine mj_run hG.1 (fun pc => pc == 6 || pc == 8 || pc == 19 || pc == 47 || pc == 50 || pc == 73 || pc == 148 || pc == 179 || pc == 227 || pc == 233) 4000 ?_
  simp only [mj_step, mj_W_s, mj_fin, List.getElem?_cons_zero, List.getElem?_cons_succ, mj_go, Nat.reduceAdd, Nat.reduceSub, Nat.reduceLT, Nat.reduceLeDiff, Nat.zero_add, Nat.reduceEqDiff, Nat.reduceBEq, ↓reduceIte, Bool.false_eq_true, List.append_nil, List.nil_append, List.cons_append, Option.toList, and_true, true_and, true_or, or_true, reduceCtorEq, List.map_nil, bI_eq0, bI_eq1, bool_ft, pk_us, vnar0, vnar1, Bool.or_false, Bool.or_true, Bool.false_or, Bool.true_or, mj_kne, eq_self, Int32.reduceLT, Int32.reduceLE, Int32.reduceAdd, Int32.reduceSub, Int32.reduceMul, not_true_eq_false, not_false_eq_true, false_implies, true_implies, D_X12_seatAll_0, D_X12_seatAll_1, D_X12_seatAll_2, mj_F_aload_n_k, mj_F_baload, mj_F_bipush_n, mj_F_dup2, mj_F_getfield_i, mj_F_goto_off, mj_F_iadd, mj_F_iaload, mj_F_iastore, mj_F_iconst_n, mj_F_ifCond_eq_off, mj_F_ifCond_le_off, mj_F_if_icmp_eq_off, mj_F_if_icmp_ge_off, mj_F_iinc_k_n, mj_F_iload_k, mj_F_iload_n_k, mj_F_imul, mj_F_invokestatic_i, mj_F_invokevirtual_i, mj_F_istore_k, mj_F_istore_n_k, mj_F_isub, mj_F_return_, mj_set, mj_set0, mj_unk, mj_c2, mj_kc, FT_X12, FT_X12_1, L_X12_seatAll, List.take_succ_cons, List.take_zero, List.drop_succ_cons, List.drop_zero, List.reverse_cons, List.reverse_nil, List.length_cons, List.length_nil, gS_M0, gMf_12, gMf_23, gMf_45, gS_M33, sS_Ma_33, gMf_47, gS_M35, sS_Ma_35, gMf_48, gS_M36, sS_Ma_36, gMf_46, gS_M34, sS_Ma_34, gMf_49, gS_M37, sS_Ma_37, J_X12_seatAll]
  refine ⟨fun c => ?_, fun c => ?_⟩
  · replace hw := ok_t hw c
    exact hG.2 _ _ _ _ _ _ _ _ _ (by refine ⟨Or.inr rfl, ?_⟩; refine ⟨Or.inl rfl, ?_⟩; refine ⟨Or.inl rfl, ?_⟩; refine ⟨Or.inr rfl, ?_⟩; exact trivial) (Nat.zero_le _) (Nat.zero_le _) (hK0 _ (ok_some hw :) :)
  · replace hw := ok_f hw c
    refine ⟨(ok_wr hw).1, ?_⟩
    replace hw := (ok_wr hw).2
    exact hG.2 _ _ _ _ _ _ _ _ _ (by refine ⟨Or.inr rfl, ?_⟩; refine ⟨Or.inl rfl, ?_⟩; refine ⟨Or.inl rfl, ?_⟩; refine ⟨Or.inr rfl, ?_⟩; refine ⟨Or.inr rfl, ?_⟩; exact trivial) (Nat.zero_le _) (Nat.zero_le _) (hP _ (ok_some hw :) :)

set_option maxHeartbeats 4000000 in
set_option maxRecDepth 20000 in
theorem b_X12_seatAll_73 {k : Option Value → mj_H → Prop} {G : mj_K} (hG : mj_cl2 cX12_seatAll (TbX12 9 (none) ct_X12_seatAll) k G) (hM : mj_ml cX12_seatAll yX12_seatAll.cls G) {v3 : Int32} {s : St} {P : Int32 × Int32 × Int32 → Prop} {K : (Int32) → Prop} (hP : ∀ x, P x → G 73 [.ref 0, mj_unk, mj_unk, .int v3, mj_unk, .int x.1, .int x.2.1, .int x.2.2] [] (mkMs s) 0 0) (hK0 : ∀ y, K y → G 148 [.ref 0, mj_unk, mj_unk, .int v3, mj_unk, .int y] [] (mkMs s) 0 0) {v5 : Int32} {v6 : Int32} {v7 : Int32} (hw : ok (B_X12_seatAll_73 v3 s (v5, v6, v7)) (Sum.elim P K)) : G 73 [.ref 0, mj_unk, mj_unk, .int v3, mj_unk, .int v5, .int v6, .int v7] [] (mkMs s) 0 0 := by
  unfold B_X12_seatAll_73 at hw
  refine mj_run hG.1 (fun pc => pc == 6 || pc == 8 || pc == 19 || pc == 47 || pc == 50 || pc == 73 || pc == 148 || pc == 179 || pc == 227 || pc == 233) 4000 ?_
  simp only [mj_step, mj_W_s, mj_fin, List.getElem?_cons_zero, List.getElem?_cons_succ, mj_go, Nat.reduceAdd, Nat.reduceSub, Nat.reduceLT, Nat.reduceLeDiff, Nat.zero_add, Nat.reduceEqDiff, Nat.reduceBEq, ↓reduceIte, Bool.false_eq_true, List.append_nil, List.nil_append, List.cons_append, Option.toList, and_true, true_and, true_or, or_true, reduceCtorEq, List.map_nil, bI_eq0, bI_eq1, bool_ft, pk_us, vnar0, vnar1, Bool.or_false, Bool.or_true, Bool.false_or, Bool.true_or, mj_kne, eq_self, Int32.reduceLT, Int32.reduceLE, Int32.reduceAdd, Int32.reduceSub, Int32.reduceMul, not_true_eq_false, not_false_eq_true, false_implies, true_implies, D_X12_seatAll_0, D_X12_seatAll_1, D_X12_seatAll_2, mj_F_aload_n_k, mj_F_baload, mj_F_bipush_n, mj_F_dup2, mj_F_getfield_i, mj_F_goto_off, mj_F_iadd, mj_F_iaload, mj_F_iastore, mj_F_iconst_n, mj_F_ifCond_eq_off, mj_F_ifCond_le_off, mj_F_if_icmp_eq_off, mj_F_if_icmp_ge_off, mj_F_iinc_k_n, mj_F_iload_k, mj_F_iload_n_k, mj_F_imul, mj_F_invokestatic_i, mj_F_invokevirtual_i, mj_F_istore_k, mj_F_istore_n_k, mj_F_isub, mj_F_return_, mj_set, mj_set0, mj_unk, mj_c2, mj_kc, FT_X12, FT_X12_1, L_X12_seatAll, List.take_succ_cons, List.take_zero, List.drop_succ_cons, List.drop_zero, List.reverse_cons, List.reverse_nil, List.length_cons, List.length_nil, gS_M0, gMf_12, gMf_23, gMf_45, gS_M33, sS_Ma_33, gMf_47, gS_M35, sS_Ma_35, gMf_48, gS_M36, sS_Ma_36, gMf_46, gS_M34, sS_Ma_34, gMf_49, gS_M37, sS_Ma_37, J_X12_seatAll]
  refine ⟨fun c => ?_, fun c => ?_⟩
  · replace hw := ok_t hw c
    exact hG.2 _ _ _ _ _ _ _ _ _ (by refine ⟨Or.inr rfl, ?_⟩; refine ⟨Or.inl rfl, ?_⟩; refine ⟨Or.inl rfl, ?_⟩; refine ⟨Or.inr rfl, ?_⟩; refine ⟨Or.inl rfl, ?_⟩; refine ⟨Or.inr rfl, ?_⟩; exact trivial) (Nat.zero_le _) (Nat.zero_le _) (hK0 _ (ok_some hw :) :)
  · replace hw := ok_f hw c
    refine ⟨(ok_rd hw).1, ?_⟩
    replace hw := (ok_rd hw).2
    refine ⟨(ok_rd hw).1, ?_⟩
    replace hw := (ok_rd hw).2
    refine ⟨fun c => ?_, fun c => ?_⟩
    · replace hw := ok_t hw c
      exact hG.2 _ _ _ _ _ _ _ _ _ (by refine ⟨Or.inr rfl, ?_⟩; refine ⟨Or.inl rfl, ?_⟩; refine ⟨Or.inl rfl, ?_⟩; refine ⟨Or.inr rfl, ?_⟩; refine ⟨Or.inl rfl, ?_⟩; refine ⟨Or.inr rfl, ?_⟩; refine ⟨Or.inr rfl, ?_⟩; refine ⟨Or.inr rfl, ?_⟩; exact trivial) (Nat.zero_le _) (Nat.zero_le _) (hP _ (ok_some hw :) :)
    · replace hw := ok_f hw c
      refine ⟨(ok_rd hw).1, ?_⟩
      replace hw := (ok_rd hw).2
      refine ⟨fun c => ?_, fun c => ?_⟩
      · replace hw := ok_t hw c
        exact hG.2 _ _ _ _ _ _ _ _ _ (by refine ⟨Or.inr rfl, ?_⟩; refine ⟨Or.inl rfl, ?_⟩; refine ⟨Or.inl rfl, ?_⟩; refine ⟨Or.inr rfl, ?_⟩; refine ⟨Or.inl rfl, ?_⟩; refine ⟨Or.inr rfl, ?_⟩; refine ⟨Or.inr rfl, ?_⟩; refine ⟨Or.inr rfl, ?_⟩; exact trivial) (Nat.zero_le _) (Nat.zero_le _) (hP _ (ok_some hw :) :)
      · replace hw := ok_f hw c
        refine ⟨fun c => ?_, fun c => ?_⟩
        · replace hw := ok_t hw c
          exact hG.2 _ _ _ _ _ _ _ _ _ (by refine ⟨Or.inr rfl, ?_⟩; refine ⟨Or.inl rfl, ?_⟩; refine ⟨Or.inl rfl, ?_⟩; refine ⟨Or.inr rfl, ?_⟩; refine ⟨Or.inl rfl, ?_⟩; refine ⟨Or.inr rfl, ?_⟩; refine ⟨Or.inr rfl, ?_⟩; refine ⟨Or.inr rfl, ?_⟩; exact trivial) (Nat.zero_le _) (Nat.zero_le _) (hP _ (ok_some hw :) :)
        · replace hw := ok_f hw c
          refine ⟨fun c => ?_, fun c => ?_⟩
          · replace hw := ok_t hw c
            exact hG.2 _ _ _ _ _ _ _ _ _ (by refine ⟨Or.inr rfl, ?_⟩; refine ⟨Or.inl rfl, ?_⟩; refine ⟨Or.inl rfl, ?_⟩; refine ⟨Or.inr rfl, ?_⟩; refine ⟨Or.inl rfl, ?_⟩; refine ⟨Or.inr rfl, ?_⟩; refine ⟨Or.inr rfl, ?_⟩; refine ⟨Or.inr rfl, ?_⟩; exact trivial) (Nat.zero_le _) (Nat.zero_le _) (hP _ (ok_some hw :) :)
          · replace hw := ok_f hw c
            exact hG.2 _ _ _ _ _ _ _ _ _ (by refine ⟨Or.inr rfl, ?_⟩; refine ⟨Or.inl rfl, ?_⟩; refine ⟨Or.inl rfl, ?_⟩; refine ⟨Or.inr rfl, ?_⟩; refine ⟨Or.inl rfl, ?_⟩; refine ⟨Or.inr rfl, ?_⟩; refine ⟨Or.inr rfl, ?_⟩; refine ⟨Or.inr rfl, ?_⟩; exact trivial) (Nat.zero_le _) (Nat.zero_le _) (hP _ (ok_some hw :) :)

set_option maxHeartbeats 4000000 in
set_option maxRecDepth 20000 in
theorem g_X12_seatAll_148 {k : Option Value → mj_H → Prop} {G : mj_K} (hG : mj_cl2 cX12_seatAll (TbX12 9 (none) ct_X12_seatAll) k G) (hM : mj_ml cX12_seatAll yX12_seatAll.cls G) {v3 : Int32} {P : Int32 × St → Prop} {K : (St) → Prop} (hP : ∀ x, P x → G 50 [.ref 0, mj_unk, mj_unk, .int v3, .int x.1] [] (mkMs x.2) 0 0) (hK0 : ∀ y, K y → G 227 [.ref 0, mj_unk, mj_unk, .int v3] [] (mkMs y) 0 0) {v5 : Int32} {s : St} (hw : ok (F_X12_seatAll_148 v3 v5 s) (Sum.elim P K)) : G 148 [.ref 0, mj_unk, mj_unk, .int v3, mj_unk, .int v5] [] (mkMs s) 0 0 := by
  unfold F_X12_seatAll_148 at hw
  refine mj_run hG.1 (fun pc => pc == 6 || pc == 8 || pc == 19 || pc == 47 || pc == 50 || pc == 73 || pc == 148 || pc == 179 || pc == 227 || pc == 233) 4000 ?_
  simp only [mj_step, mj_W_s, mj_fin, List.getElem?_cons_zero, List.getElem?_cons_succ, mj_go, Nat.reduceAdd, Nat.reduceSub, Nat.reduceLT, Nat.reduceLeDiff, Nat.zero_add, Nat.reduceEqDiff, Nat.reduceBEq, ↓reduceIte, Bool.false_eq_true, List.append_nil, List.nil_append, List.cons_append, Option.toList, and_true, true_and, true_or, or_true, reduceCtorEq, List.map_nil, bI_eq0, bI_eq1, bool_ft, pk_us, vnar0, vnar1, Bool.or_false, Bool.or_true, Bool.false_or, Bool.true_or, mj_kne, eq_self, Int32.reduceLT, Int32.reduceLE, Int32.reduceAdd, Int32.reduceSub, Int32.reduceMul, not_true_eq_false, not_false_eq_true, false_implies, true_implies, D_X12_seatAll_0, D_X12_seatAll_1, D_X12_seatAll_2, mj_F_aload_n_k, mj_F_baload, mj_F_bipush_n, mj_F_dup2, mj_F_getfield_i, mj_F_goto_off, mj_F_iadd, mj_F_iaload, mj_F_iastore, mj_F_iconst_n, mj_F_ifCond_eq_off, mj_F_ifCond_le_off, mj_F_if_icmp_eq_off, mj_F_if_icmp_ge_off, mj_F_iinc_k_n, mj_F_iload_k, mj_F_iload_n_k, mj_F_imul, mj_F_invokestatic_i, mj_F_invokevirtual_i, mj_F_istore_k, mj_F_istore_n_k, mj_F_isub, mj_F_return_, mj_set, mj_set0, mj_unk, mj_c2, mj_kc, FT_X12, FT_X12_1, L_X12_seatAll, List.take_succ_cons, List.take_zero, List.drop_succ_cons, List.drop_zero, List.reverse_cons, List.reverse_nil, List.length_cons, List.length_nil, gS_M0, gMf_12, gMf_23, gMf_45, gS_M33, sS_Ma_33, gMf_47, gS_M35, sS_Ma_35, gMf_48, gS_M36, sS_Ma_36, gMf_46, gS_M34, sS_Ma_34, gMf_49, gS_M37, sS_Ma_37, J_X12_seatAll]
  refine ⟨fun c => ?_, fun c => ?_⟩
  · replace hw := ok_t hw c
    exact hG.2 _ _ _ _ _ _ _ _ _ (by refine ⟨Or.inr rfl, ?_⟩; refine ⟨Or.inl rfl, ?_⟩; refine ⟨Or.inl rfl, ?_⟩; refine ⟨Or.inr rfl, ?_⟩; refine ⟨Or.inr rfl, ?_⟩; exact trivial) (Nat.zero_le _) (Nat.zero_le _) (hP _ (ok_some hw :) :)
  · replace hw := ok_f hw c
    refine ⟨(ok_rd hw).1, ?_⟩
    replace hw := (ok_rd hw).2
    refine ⟨(ok_rd hw).1, ?_⟩
    replace hw := (ok_rd hw).2
    refine hM 179 449 0 _ _ _ _ _ _ _ _ (by simp only [D_X12_seatAll_0, D_X12_seatAll_1, D_X12_seatAll_2]) (lkX12_449) rfl (Nat.le_of_ble_eq_true rfl) ?_
    refine mj_run hG.1 (fun pc => pc == 6 || pc == 8 || pc == 19 || pc == 47 || pc == 50 || pc == 73 || pc == 148 || pc == 179 || pc == 227 || pc == 233) 4000 ?_
    simp only [mj_step, mj_W_s, mj_fin, List.getElem?_cons_zero, List.getElem?_cons_succ, mj_go, Nat.reduceAdd, Nat.reduceSub, Nat.reduceLT, Nat.reduceLeDiff, Nat.zero_add, Nat.reduceEqDiff, Nat.reduceBEq, ↓reduceIte, Bool.false_eq_true, List.append_nil, List.nil_append, List.cons_append, Option.toList, and_true, true_and, true_or, or_true, reduceCtorEq, List.map_nil, bI_eq0, bI_eq1, bool_ft, pk_us, vnar0, vnar1, Bool.or_false, Bool.or_true, Bool.false_or, Bool.true_or, mj_kne, eq_self, Int32.reduceLT, Int32.reduceLE, Int32.reduceAdd, Int32.reduceSub, Int32.reduceMul, not_true_eq_false, not_false_eq_true, false_implies, true_implies, D_X12_seatAll_0, D_X12_seatAll_1, D_X12_seatAll_2, mj_F_aload_n_k, mj_F_baload, mj_F_bipush_n, mj_F_dup2, mj_F_getfield_i, mj_F_goto_off, mj_F_iadd, mj_F_iaload, mj_F_iastore, mj_F_iconst_n, mj_F_ifCond_eq_off, mj_F_ifCond_le_off, mj_F_if_icmp_eq_off, mj_F_if_icmp_ge_off, mj_F_iinc_k_n, mj_F_iload_k, mj_F_iload_n_k, mj_F_imul, mj_F_invokestatic_i, mj_F_invokevirtual_i, mj_F_istore_k, mj_F_istore_n_k, mj_F_isub, mj_F_return_, mj_set, mj_set0, mj_unk, mj_c2, mj_kc, FT_X12, FT_X12_1, L_X12_seatAll, List.take_succ_cons, List.take_zero, List.drop_succ_cons, List.drop_zero, List.reverse_cons, List.reverse_nil, List.length_cons, List.length_nil, gS_M0, gMf_12, gMf_23, gMf_45, gS_M33, sS_Ma_33, gMf_47, gS_M35, sS_Ma_35, gMf_48, gS_M36, sS_Ma_36, gMf_46, gS_M34, sS_Ma_34, gMf_49, gS_M37, sS_Ma_37, J_X12_seatAll]
    refine ⟨(ok_rd hw).1, ?_⟩
    replace hw := (ok_rd hw).2
    refine ⟨(ok_wr hw).1, ?_⟩
    replace hw := (ok_wr hw).2
    refine ⟨(ok_rd hw).1, ?_⟩
    replace hw := (ok_rd hw).2
    refine ⟨(ok_wr hw).1, ?_⟩
    replace hw := (ok_wr hw).2
    refine ⟨(ok_rd hw).1, ?_⟩
    replace hw := (ok_rd hw).2
    refine ⟨(ok_wr hw).1, ?_⟩
    replace hw := (ok_wr hw).2
    exact hG.2 _ _ _ _ _ _ _ _ _ (by refine ⟨Or.inr rfl, ?_⟩; refine ⟨Or.inl rfl, ?_⟩; refine ⟨Or.inl rfl, ?_⟩; refine ⟨Or.inr rfl, ?_⟩; refine ⟨Or.inr rfl, ?_⟩; exact trivial) (Nat.zero_le _) (Nat.zero_le _) (hP _ (ok_some hw :) :)

set_option maxHeartbeats 4000000 in
theorem g_X12_seatAll_73 {k : Option Value → mj_H → Prop} {G : mj_K} (hG : mj_cl2 cX12_seatAll (TbX12 9 (none) ct_X12_seatAll) k G) (hM : mj_ml cX12_seatAll yX12_seatAll.cls G) {v3 : Int32} {P : Int32 × St → Prop} {K : (St) → Prop} (hP : ∀ x, P x → G 50 [.ref 0, mj_unk, mj_unk, .int v3, .int x.1] [] (mkMs x.2) 0 0) (hK0 : ∀ y, K y → G 227 [.ref 0, mj_unk, mj_unk, .int v3] [] (mkMs y) 0 0) {v5 : Int32} {v6 : Int32} {v7 : Int32} {s : St} (hw : ok (F_X12_seatAll_73 v3 v5 v6 v7 s) (Sum.elim P K)) : G 73 [.ref 0, mj_unk, mj_unk, .int v3, mj_unk, .int v5, .int v6, .int v7] [] (mkMs s) 0 0 := by
  unfold F_X12_seatAll_73 at hw
  refine lp_ok (B_X12_seatAll_73 v3 s) (fun x => G 73 [.ref 0, mj_unk, mj_unk, .int v3, mj_unk, .int x.1, .int x.2.1, .int x.2.2] [] (mkMs s) 0 0) _ ?_ _ _ (ok_bind hw)
  rintro ⟨v5, v6, v7⟩ hb
  exact b_X12_seatAll_73 hG hM (fun _ z => z) (fun y hw => by exact hG.2 _ _ _ _ _ _ _ _ _ (by refine ⟨Or.inr rfl, ?_⟩; refine ⟨Or.inl rfl, ?_⟩; refine ⟨Or.inl rfl, ?_⟩; refine ⟨Or.inr rfl, ?_⟩; refine ⟨Or.inl rfl, ?_⟩; refine ⟨Or.inr rfl, ?_⟩; exact trivial) (Nat.zero_le _) (Nat.zero_le _) (g_X12_seatAll_148 hG hM hP hK0  hw :)) hb

set_option maxHeartbeats 4000000 in
set_option maxRecDepth 20000 in
theorem b_X12_seatAll_50 {k : Option Value → mj_H → Prop} {G : mj_K} (hG : mj_cl2 cX12_seatAll (TbX12 9 (none) ct_X12_seatAll) k G) (hM : mj_ml cX12_seatAll yX12_seatAll.cls G) {v3 : Int32} {P : Int32 × St → Prop} {K : (St) → Prop} (hP : ∀ x, P x → G 50 [.ref 0, mj_unk, mj_unk, .int v3, .int x.1] [] (mkMs x.2) 0 0) (hK0 : ∀ y, K y → G 227 [.ref 0, mj_unk, mj_unk, .int v3] [] (mkMs y) 0 0) {v4 : Int32} {s : St} (hw : ok (B_X12_seatAll_50 v3 (v4, s)) (Sum.elim P K)) : G 50 [.ref 0, mj_unk, mj_unk, .int v3, .int v4] [] (mkMs s) 0 0 := by
  unfold B_X12_seatAll_50 at hw
  refine mj_run hG.1 (fun pc => pc == 6 || pc == 8 || pc == 19 || pc == 47 || pc == 50 || pc == 73 || pc == 148 || pc == 179 || pc == 227 || pc == 233) 4000 ?_
  simp only [mj_step, mj_W_s, mj_fin, List.getElem?_cons_zero, List.getElem?_cons_succ, mj_go, Nat.reduceAdd, Nat.reduceSub, Nat.reduceLT, Nat.reduceLeDiff, Nat.zero_add, Nat.reduceEqDiff, Nat.reduceBEq, ↓reduceIte, Bool.false_eq_true, List.append_nil, List.nil_append, List.cons_append, Option.toList, and_true, true_and, true_or, or_true, reduceCtorEq, List.map_nil, bI_eq0, bI_eq1, bool_ft, pk_us, vnar0, vnar1, Bool.or_false, Bool.or_true, Bool.false_or, Bool.true_or, mj_kne, eq_self, Int32.reduceLT, Int32.reduceLE, Int32.reduceAdd, Int32.reduceSub, Int32.reduceMul, not_true_eq_false, not_false_eq_true, false_implies, true_implies, D_X12_seatAll_0, D_X12_seatAll_1, D_X12_seatAll_2, mj_F_aload_n_k, mj_F_baload, mj_F_bipush_n, mj_F_dup2, mj_F_getfield_i, mj_F_goto_off, mj_F_iadd, mj_F_iaload, mj_F_iastore, mj_F_iconst_n, mj_F_ifCond_eq_off, mj_F_ifCond_le_off, mj_F_if_icmp_eq_off, mj_F_if_icmp_ge_off, mj_F_iinc_k_n, mj_F_iload_k, mj_F_iload_n_k, mj_F_imul, mj_F_invokestatic_i, mj_F_invokevirtual_i, mj_F_istore_k, mj_F_istore_n_k, mj_F_isub, mj_F_return_, mj_set, mj_set0, mj_unk, mj_c2, mj_kc, FT_X12, FT_X12_1, L_X12_seatAll, List.take_succ_cons, List.take_zero, List.drop_succ_cons, List.drop_zero, List.reverse_cons, List.reverse_nil, List.length_cons, List.length_nil, gS_M0, gMf_12, gMf_23, gMf_45, gS_M33, sS_Ma_33, gMf_47, gS_M35, sS_Ma_35, gMf_48, gS_M36, sS_Ma_36, gMf_46, gS_M34, sS_Ma_34, gMf_49, gS_M37, sS_Ma_37, J_X12_seatAll]
  refine ⟨fun c => ?_, fun c => ?_⟩
  · replace hw := ok_t hw c
    exact hG.2 _ _ _ _ _ _ _ _ _ (by refine ⟨Or.inr rfl, ?_⟩; refine ⟨Or.inl rfl, ?_⟩; refine ⟨Or.inl rfl, ?_⟩; refine ⟨Or.inr rfl, ?_⟩; exact trivial) (Nat.zero_le _) (Nat.zero_le _) (hK0 _ (ok_some hw :) :)
  · replace hw := ok_f hw c
    refine ⟨(ok_rd hw).1, ?_⟩
    replace hw := (ok_rd hw).2
    refine ⟨fun c => ?_, fun c => ?_⟩
    · replace hw := ok_t hw c
      exact hG.2 _ _ _ _ _ _ _ _ _ (by refine ⟨Or.inr rfl, ?_⟩; refine ⟨Or.inl rfl, ?_⟩; refine ⟨Or.inl rfl, ?_⟩; refine ⟨Or.inr rfl, ?_⟩; exact trivial) (Nat.zero_le _) (Nat.zero_le _) (hK0 _ (ok_some hw :) :)
    · replace hw := ok_f hw c
      exact hG.2 _ _ _ _ _ _ _ _ _ (by refine ⟨Or.inr rfl, ?_⟩; refine ⟨Or.inl rfl, ?_⟩; refine ⟨Or.inl rfl, ?_⟩; refine ⟨Or.inr rfl, ?_⟩; refine ⟨Or.inl rfl, ?_⟩; refine ⟨Or.inr rfl, ?_⟩; refine ⟨Or.inr rfl, ?_⟩; refine ⟨Or.inr rfl, ?_⟩; exact trivial) (Nat.zero_le _) (Nat.zero_le _) (g_X12_seatAll_73 hG hM hP hK0  hw :)

set_option maxHeartbeats 4000000 in
set_option maxRecDepth 20000 in
theorem g_X12_seatAll_227 {k : Option Value → mj_H → Prop} {G : mj_K} (hG : mj_cl2 cX12_seatAll (TbX12 9 (none) ct_X12_seatAll) k G) (hM : mj_ml cX12_seatAll yX12_seatAll.cls G)  {P : Int32 × St → Prop} {K : (St) → Prop} (hP : ∀ x, P x → G 8 [.ref 0, mj_unk, mj_unk, .int x.1] [] (mkMs x.2) 0 0) (hK0 : ∀ y, K y → G 233 [] [] (mkMs y) 0 0) {v3 : Int32} {s : St} (hw : ok (F_X12_seatAll_227 v3 s) (Sum.elim P K)) : G 227 [.ref 0, mj_unk, mj_unk, .int v3] [] (mkMs s) 0 0 := by
  unfold F_X12_seatAll_227 at hw
  refine mj_run hG.1 (fun pc => pc == 6 || pc == 8 || pc == 19 || pc == 47 || pc == 50 || pc == 73 || pc == 148 || pc == 179 || pc == 227 || pc == 233) 4000 ?_
  simp only [mj_step, mj_W_s, mj_fin, List.getElem?_cons_zero, List.getElem?_cons_succ, mj_go, Nat.reduceAdd, Nat.reduceSub, Nat.reduceLT, Nat.reduceLeDiff, Nat.zero_add, Nat.reduceEqDiff, Nat.reduceBEq, ↓reduceIte, Bool.false_eq_true, List.append_nil, List.nil_append, List.cons_append, Option.toList, and_true, true_and, true_or, or_true, reduceCtorEq, List.map_nil, bI_eq0, bI_eq1, bool_ft, pk_us, vnar0, vnar1, Bool.or_false, Bool.or_true, Bool.false_or, Bool.true_or, mj_kne, eq_self, Int32.reduceLT, Int32.reduceLE, Int32.reduceAdd, Int32.reduceSub, Int32.reduceMul, not_true_eq_false, not_false_eq_true, false_implies, true_implies, D_X12_seatAll_0, D_X12_seatAll_1, D_X12_seatAll_2, mj_F_aload_n_k, mj_F_baload, mj_F_bipush_n, mj_F_dup2, mj_F_getfield_i, mj_F_goto_off, mj_F_iadd, mj_F_iaload, mj_F_iastore, mj_F_iconst_n, mj_F_ifCond_eq_off, mj_F_ifCond_le_off, mj_F_if_icmp_eq_off, mj_F_if_icmp_ge_off, mj_F_iinc_k_n, mj_F_iload_k, mj_F_iload_n_k, mj_F_imul, mj_F_invokestatic_i, mj_F_invokevirtual_i, mj_F_istore_k, mj_F_istore_n_k, mj_F_isub, mj_F_return_, mj_set, mj_set0, mj_unk, mj_c2, mj_kc, FT_X12, FT_X12_1, L_X12_seatAll, List.take_succ_cons, List.take_zero, List.drop_succ_cons, List.drop_zero, List.reverse_cons, List.reverse_nil, List.length_cons, List.length_nil, gS_M0, gMf_12, gMf_23, gMf_45, gS_M33, sS_Ma_33, gMf_47, gS_M35, sS_Ma_35, gMf_48, gS_M36, sS_Ma_36, gMf_46, gS_M34, sS_Ma_34, gMf_49, gS_M37, sS_Ma_37, J_X12_seatAll]
  exact hG.2 _ _ _ _ _ _ _ _ _ (by refine ⟨Or.inr rfl, ?_⟩; refine ⟨Or.inl rfl, ?_⟩; refine ⟨Or.inl rfl, ?_⟩; refine ⟨Or.inr rfl, ?_⟩; exact trivial) (Nat.zero_le _) (Nat.zero_le _) (hP _ (ok_some hw :) :)

set_option maxHeartbeats 4000000 in
theorem g_X12_seatAll_50 {k : Option Value → mj_H → Prop} {G : mj_K} (hG : mj_cl2 cX12_seatAll (TbX12 9 (none) ct_X12_seatAll) k G) (hM : mj_ml cX12_seatAll yX12_seatAll.cls G)  {P : Int32 × St → Prop} {K : (St) → Prop} (hP : ∀ x, P x → G 8 [.ref 0, mj_unk, mj_unk, .int x.1] [] (mkMs x.2) 0 0) (hK0 : ∀ y, K y → G 233 [] [] (mkMs y) 0 0) {v3 : Int32} {v4 : Int32} {s : St} (hw : ok (F_X12_seatAll_50 v3 v4 s) (Sum.elim P K)) : G 50 [.ref 0, mj_unk, mj_unk, .int v3, .int v4] [] (mkMs s) 0 0 := by
  unfold F_X12_seatAll_50 at hw
  refine lp_ok (B_X12_seatAll_50 v3) (fun x => G 50 [.ref 0, mj_unk, mj_unk, .int v3, .int x.1] [] (mkMs x.2) 0 0) _ ?_ _ _ (ok_bind hw)
  rintro ⟨v4, s⟩ hb
  exact b_X12_seatAll_50 hG hM (fun _ z => z) (fun y hw => by exact hG.2 _ _ _ _ _ _ _ _ _ (by refine ⟨Or.inr rfl, ?_⟩; refine ⟨Or.inl rfl, ?_⟩; refine ⟨Or.inl rfl, ?_⟩; refine ⟨Or.inr rfl, ?_⟩; exact trivial) (Nat.zero_le _) (Nat.zero_le _) (g_X12_seatAll_227 hG hM hP hK0  hw :)) hb

set_option maxHeartbeats 4000000 in
set_option maxRecDepth 20000 in
theorem g_X12_seatAll_47 {k : Option Value → mj_H → Prop} {G : mj_K} (hG : mj_cl2 cX12_seatAll (TbX12 9 (none) ct_X12_seatAll) k G) (hM : mj_ml cX12_seatAll yX12_seatAll.cls G)  {P : Int32 × St → Prop} {K : (St) → Prop} (hP : ∀ x, P x → G 8 [.ref 0, mj_unk, mj_unk, .int x.1] [] (mkMs x.2) 0 0) (hK0 : ∀ y, K y → G 233 [] [] (mkMs y) 0 0) {v3 : Int32} {s : St} (hw : ok (F_X12_seatAll_47 v3 s) (Sum.elim P K)) : G 47 [.ref 0, mj_unk, mj_unk, .int v3] [] (mkMs s) 0 0 := by
  unfold F_X12_seatAll_47 at hw
  refine mj_run hG.1 (fun pc => pc == 6 || pc == 8 || pc == 19 || pc == 47 || pc == 50 || pc == 73 || pc == 148 || pc == 179 || pc == 227 || pc == 233) 4000 ?_
  simp only [mj_step, mj_W_s, mj_fin, List.getElem?_cons_zero, List.getElem?_cons_succ, mj_go, Nat.reduceAdd, Nat.reduceSub, Nat.reduceLT, Nat.reduceLeDiff, Nat.zero_add, Nat.reduceEqDiff, Nat.reduceBEq, ↓reduceIte, Bool.false_eq_true, List.append_nil, List.nil_append, List.cons_append, Option.toList, and_true, true_and, true_or, or_true, reduceCtorEq, List.map_nil, bI_eq0, bI_eq1, bool_ft, pk_us, vnar0, vnar1, Bool.or_false, Bool.or_true, Bool.false_or, Bool.true_or, mj_kne, eq_self, Int32.reduceLT, Int32.reduceLE, Int32.reduceAdd, Int32.reduceSub, Int32.reduceMul, not_true_eq_false, not_false_eq_true, false_implies, true_implies, D_X12_seatAll_0, D_X12_seatAll_1, D_X12_seatAll_2, mj_F_aload_n_k, mj_F_baload, mj_F_bipush_n, mj_F_dup2, mj_F_getfield_i, mj_F_goto_off, mj_F_iadd, mj_F_iaload, mj_F_iastore, mj_F_iconst_n, mj_F_ifCond_eq_off, mj_F_ifCond_le_off, mj_F_if_icmp_eq_off, mj_F_if_icmp_ge_off, mj_F_iinc_k_n, mj_F_iload_k, mj_F_iload_n_k, mj_F_imul, mj_F_invokestatic_i, mj_F_invokevirtual_i, mj_F_istore_k, mj_F_istore_n_k, mj_F_isub, mj_F_return_, mj_set, mj_set0, mj_unk, mj_c2, mj_kc, FT_X12, FT_X12_1, L_X12_seatAll, List.take_succ_cons, List.take_zero, List.drop_succ_cons, List.drop_zero, List.reverse_cons, List.reverse_nil, List.length_cons, List.length_nil, gS_M0, gMf_12, gMf_23, gMf_45, gS_M33, sS_Ma_33, gMf_47, gS_M35, sS_Ma_35, gMf_48, gS_M36, sS_Ma_36, gMf_46, gS_M34, sS_Ma_34, gMf_49, gS_M37, sS_Ma_37, J_X12_seatAll]
  exact hG.2 _ _ _ _ _ _ _ _ _ (by refine ⟨Or.inr rfl, ?_⟩; refine ⟨Or.inl rfl, ?_⟩; refine ⟨Or.inl rfl, ?_⟩; refine ⟨Or.inr rfl, ?_⟩; refine ⟨Or.inr rfl, ?_⟩; exact trivial) (Nat.zero_le _) (Nat.zero_le _) (g_X12_seatAll_50 hG hM hP hK0  hw :)

set_option maxHeartbeats 4000000 in
theorem g_X12_seatAll_19 {k : Option Value → mj_H → Prop} {G : mj_K} (hG : mj_cl2 cX12_seatAll (TbX12 9 (none) ct_X12_seatAll) k G) (hM : mj_ml cX12_seatAll yX12_seatAll.cls G)  {P : Int32 × St → Prop} {K : (St) → Prop} (hP : ∀ x, P x → G 8 [.ref 0, mj_unk, mj_unk, .int x.1] [] (mkMs x.2) 0 0) (hK0 : ∀ y, K y → G 233 [] [] (mkMs y) 0 0) {v3 : Int32} {v4 : Int32} {s : St} (hw : ok (F_X12_seatAll_19 v3 v4 s) (Sum.elim P K)) : G 19 [.ref 0, mj_unk, mj_unk, .int v3, .int v4] [] (mkMs s) 0 0 := by
  unfold F_X12_seatAll_19 at hw
  refine lp_ok (B_X12_seatAll_19 v3) (fun x => G 19 [.ref 0, mj_unk, mj_unk, .int v3, .int x.1] [] (mkMs x.2) 0 0) _ ?_ _ _ (ok_bind hw)
  rintro ⟨v4, s⟩ hb
  exact b_X12_seatAll_19 hG hM (fun _ z => z) (fun y hw => by exact hG.2 _ _ _ _ _ _ _ _ _ (by refine ⟨Or.inr rfl, ?_⟩; refine ⟨Or.inl rfl, ?_⟩; refine ⟨Or.inl rfl, ?_⟩; refine ⟨Or.inr rfl, ?_⟩; exact trivial) (Nat.zero_le _) (Nat.zero_le _) (g_X12_seatAll_47 hG hM hP hK0  hw :)) hb

set_option maxHeartbeats 4000000 in
set_option maxRecDepth 20000 in
theorem b_X12_seatAll_8 {k : Option Value → mj_H → Prop} {G : mj_K} (hG : mj_cl2 cX12_seatAll (TbX12 9 (none) ct_X12_seatAll) k G) (hM : mj_ml cX12_seatAll yX12_seatAll.cls G)  {P : Int32 × St → Prop} {K : (St) → Prop} (hP : ∀ x, P x → G 8 [.ref 0, mj_unk, mj_unk, .int x.1] [] (mkMs x.2) 0 0) (hK0 : ∀ y, K y → G 233 [] [] (mkMs y) 0 0) {v3 : Int32} {s : St} (hw : ok (B_X12_seatAll_8  (v3, s)) (Sum.elim P K)) : G 8 [.ref 0, mj_unk, mj_unk, .int v3] [] (mkMs s) 0 0 := by
  unfold B_X12_seatAll_8 at hw
  refine mj_run hG.1 (fun pc => pc == 6 || pc == 8 || pc == 19 || pc == 47 || pc == 50 || pc == 73 || pc == 148 || pc == 179 || pc == 227 || pc == 233) 4000 ?_
  simp only [mj_step, mj_W_s, mj_fin, List.getElem?_cons_zero, List.getElem?_cons_succ, mj_go, Nat.reduceAdd, Nat.reduceSub, Nat.reduceLT, Nat.reduceLeDiff, Nat.zero_add, Nat.reduceEqDiff, Nat.reduceBEq, ↓reduceIte, Bool.false_eq_true, List.append_nil, List.nil_append, List.cons_append, Option.toList, and_true, true_and, true_or, or_true, reduceCtorEq, List.map_nil, bI_eq0, bI_eq1, bool_ft, pk_us, vnar0, vnar1, Bool.or_false, Bool.or_true, Bool.false_or, Bool.true_or, mj_kne, eq_self, Int32.reduceLT, Int32.reduceLE, Int32.reduceAdd, Int32.reduceSub, Int32.reduceMul, not_true_eq_false, not_false_eq_true, false_implies, true_implies, D_X12_seatAll_0, D_X12_seatAll_1, D_X12_seatAll_2, mj_F_aload_n_k, mj_F_baload, mj_F_bipush_n, mj_F_dup2, mj_F_getfield_i, mj_F_goto_off, mj_F_iadd, mj_F_iaload, mj_F_iastore, mj_F_iconst_n, mj_F_ifCond_eq_off, mj_F_ifCond_le_off, mj_F_if_icmp_eq_off, mj_F_if_icmp_ge_off, mj_F_iinc_k_n, mj_F_iload_k, mj_F_iload_n_k, mj_F_imul, mj_F_invokestatic_i, mj_F_invokevirtual_i, mj_F_istore_k, mj_F_istore_n_k, mj_F_isub, mj_F_return_, mj_set, mj_set0, mj_unk, mj_c2, mj_kc, FT_X12, FT_X12_1, L_X12_seatAll, List.take_succ_cons, List.take_zero, List.drop_succ_cons, List.drop_zero, List.reverse_cons, List.reverse_nil, List.length_cons, List.length_nil, gS_M0, gMf_12, gMf_23, gMf_45, gS_M33, sS_Ma_33, gMf_47, gS_M35, sS_Ma_35, gMf_48, gS_M36, sS_Ma_36, gMf_46, gS_M34, sS_Ma_34, gMf_49, gS_M37, sS_Ma_37, J_X12_seatAll]
  refine ⟨fun c => ?_, fun c => ?_⟩
  · replace hw := ok_t hw c
    exact hG.2 _ _ _ _ _ _ _ _ _ (by exact trivial) (Nat.zero_le _) (Nat.zero_le _) (hK0 _ (ok_some hw :) :)
  · replace hw := ok_f hw c
    exact hG.2 _ _ _ _ _ _ _ _ _ (by refine ⟨Or.inr rfl, ?_⟩; refine ⟨Or.inl rfl, ?_⟩; refine ⟨Or.inl rfl, ?_⟩; refine ⟨Or.inr rfl, ?_⟩; refine ⟨Or.inr rfl, ?_⟩; exact trivial) (Nat.zero_le _) (Nat.zero_le _) (g_X12_seatAll_19 hG hM hP hK0  hw :)

set_option maxHeartbeats 4000000 in
set_option maxRecDepth 20000 in
theorem g_X12_seatAll_233 {k : Option Value → mj_H → Prop} {G : mj_K} (hG : mj_cl2 cX12_seatAll (TbX12 9 (none) ct_X12_seatAll) k G) (hM : mj_ml cX12_seatAll yX12_seatAll.cls G)   {s : St} (hw : ok (F_X12_seatAll_233 s) (fun p => k none (mkMs p))) : G 233 [] [] (mkMs s) 0 0 := by
  unfold F_X12_seatAll_233 at hw
  refine mj_run hG.1 (fun pc => pc == 6 || pc == 8 || pc == 19 || pc == 47 || pc == 50 || pc == 73 || pc == 148 || pc == 179 || pc == 227 || pc == 233) 4000 ?_
  simp only [mj_step, mj_W_s, mj_fin, List.getElem?_cons_zero, List.getElem?_cons_succ, mj_go, Nat.reduceAdd, Nat.reduceSub, Nat.reduceLT, Nat.reduceLeDiff, Nat.zero_add, Nat.reduceEqDiff, Nat.reduceBEq, ↓reduceIte, Bool.false_eq_true, List.append_nil, List.nil_append, List.cons_append, Option.toList, and_true, true_and, true_or, or_true, reduceCtorEq, List.map_nil, bI_eq0, bI_eq1, bool_ft, pk_us, vnar0, vnar1, Bool.or_false, Bool.or_true, Bool.false_or, Bool.true_or, mj_kne, eq_self, Int32.reduceLT, Int32.reduceLE, Int32.reduceAdd, Int32.reduceSub, Int32.reduceMul, not_true_eq_false, not_false_eq_true, false_implies, true_implies, D_X12_seatAll_0, D_X12_seatAll_1, D_X12_seatAll_2, mj_F_aload_n_k, mj_F_baload, mj_F_bipush_n, mj_F_dup2, mj_F_getfield_i, mj_F_goto_off, mj_F_iadd, mj_F_iaload, mj_F_iastore, mj_F_iconst_n, mj_F_ifCond_eq_off, mj_F_ifCond_le_off, mj_F_if_icmp_eq_off, mj_F_if_icmp_ge_off, mj_F_iinc_k_n, mj_F_iload_k, mj_F_iload_n_k, mj_F_imul, mj_F_invokestatic_i, mj_F_invokevirtual_i, mj_F_istore_k, mj_F_istore_n_k, mj_F_isub, mj_F_return_, mj_set, mj_set0, mj_unk, mj_c2, mj_kc, FT_X12, FT_X12_1, L_X12_seatAll, List.take_succ_cons, List.take_zero, List.drop_succ_cons, List.drop_zero, List.reverse_cons, List.reverse_nil, List.length_cons, List.length_nil, gS_M0, gMf_12, gMf_23, gMf_45, gS_M33, sS_Ma_33, gMf_47, gS_M35, sS_Ma_35, gMf_48, gS_M36, sS_Ma_36, gMf_46, gS_M34, sS_Ma_34, gMf_49, gS_M37, sS_Ma_37, J_X12_seatAll]
  exact (ok_some hw :)

set_option maxHeartbeats 4000000 in
theorem g_X12_seatAll_8 {k : Option Value → mj_H → Prop} {G : mj_K} (hG : mj_cl2 cX12_seatAll (TbX12 9 (none) ct_X12_seatAll) k G) (hM : mj_ml cX12_seatAll yX12_seatAll.cls G)   {v3 : Int32} {s : St} (hw : ok (F_X12_seatAll_8 v3 s) (fun p => k none (mkMs p))) : G 8 [.ref 0, mj_unk, mj_unk, .int v3] [] (mkMs s) 0 0 := by
  unfold F_X12_seatAll_8 at hw
  refine lp_ok (B_X12_seatAll_8 ) (fun x => G 8 [.ref 0, mj_unk, mj_unk, .int x.1] [] (mkMs x.2) 0 0) _ ?_ _ _ (ok_bind hw)
  rintro ⟨v3, s⟩ hb
  exact b_X12_seatAll_8 hG hM (fun _ z => z) (fun y hw => by exact hG.2 _ _ _ _ _ _ _ _ _ (by exact trivial) (Nat.zero_le _) (Nat.zero_le _) (g_X12_seatAll_233 hG hM  hw :)) hb

set_option maxHeartbeats 4000000 in
set_option maxRecDepth 20000 in
theorem g_X12_seatAll {k : Option Value → mj_H → Prop} {G : mj_K} (hG : mj_cl2 cX12_seatAll (TbX12 9 (none) ct_X12_seatAll) k G) (hM : mj_ml cX12_seatAll yX12_seatAll.cls G) {v1 : Int32} {v2 : Int32} {s : St} (hw : ok (F_X12_seatAll v1 v2 s) (fun p => k none (mkMs p))) : G 0 [.ref 0, .int v1, .int v2] [] (mkMs s) 0 0 := by
  unfold F_X12_seatAll at hw
  refine mj_run hG.1 (fun pc => pc == 6 || pc == 8 || pc == 19 || pc == 47 || pc == 50 || pc == 73 || pc == 148 || pc == 179 || pc == 227 || pc == 233) 4000 ?_
  simp only [mj_step, mj_W_s, mj_fin, List.getElem?_cons_zero, List.getElem?_cons_succ, mj_go, Nat.reduceAdd, Nat.reduceSub, Nat.reduceLT, Nat.reduceLeDiff, Nat.zero_add, Nat.reduceEqDiff, Nat.reduceBEq, ↓reduceIte, Bool.false_eq_true, List.append_nil, List.nil_append, List.cons_append, Option.toList, and_true, true_and, true_or, or_true, reduceCtorEq, List.map_nil, bI_eq0, bI_eq1, bool_ft, pk_us, vnar0, vnar1, Bool.or_false, Bool.or_true, Bool.false_or, Bool.true_or, mj_kne, eq_self, Int32.reduceLT, Int32.reduceLE, Int32.reduceAdd, Int32.reduceSub, Int32.reduceMul, not_true_eq_false, not_false_eq_true, false_implies, true_implies, D_X12_seatAll_0, D_X12_seatAll_1, D_X12_seatAll_2, mj_F_aload_n_k, mj_F_baload, mj_F_bipush_n, mj_F_dup2, mj_F_getfield_i, mj_F_goto_off, mj_F_iadd, mj_F_iaload, mj_F_iastore, mj_F_iconst_n, mj_F_ifCond_eq_off, mj_F_ifCond_le_off, mj_F_if_icmp_eq_off, mj_F_if_icmp_ge_off, mj_F_iinc_k_n, mj_F_iload_k, mj_F_iload_n_k, mj_F_imul, mj_F_invokestatic_i, mj_F_invokevirtual_i, mj_F_istore_k, mj_F_istore_n_k, mj_F_isub, mj_F_return_, mj_set, mj_set0, mj_unk, mj_c2, mj_kc, FT_X12, FT_X12_1, L_X12_seatAll, List.take_succ_cons, List.take_zero, List.drop_succ_cons, List.drop_zero, List.reverse_cons, List.reverse_nil, List.length_cons, List.length_nil, gS_M0, gMf_12, gMf_23, gMf_45, gS_M33, sS_Ma_33, gMf_47, gS_M35, sS_Ma_35, gMf_48, gS_M36, sS_Ma_36, gMf_46, gS_M34, sS_Ma_34, gMf_49, gS_M37, sS_Ma_37, J_X12_seatAll]
  refine c_X12_gather_in (ok_imp (ok_bind hw) ?_)
  intro p hw
  simp only [Option.toList, List.nil_append, List.cons_append, Nat.reduceSub]
  refine mj_run hG.1 (fun pc => pc == 6 || pc == 8 || pc == 19 || pc == 47 || pc == 50 || pc == 73 || pc == 148 || pc == 179 || pc == 227 || pc == 233) 4000 ?_
  simp only [mj_step, mj_W_s, mj_fin, List.getElem?_cons_zero, List.getElem?_cons_succ, mj_go, Nat.reduceAdd, Nat.reduceSub, Nat.reduceLT, Nat.reduceLeDiff, Nat.zero_add, Nat.reduceEqDiff, Nat.reduceBEq, ↓reduceIte, Bool.false_eq_true, List.append_nil, List.nil_append, List.cons_append, Option.toList, and_true, true_and, true_or, or_true, reduceCtorEq, List.map_nil, bI_eq0, bI_eq1, bool_ft, pk_us, vnar0, vnar1, Bool.or_false, Bool.or_true, Bool.false_or, Bool.true_or, mj_kne, eq_self, Int32.reduceLT, Int32.reduceLE, Int32.reduceAdd, Int32.reduceSub, Int32.reduceMul, not_true_eq_false, not_false_eq_true, false_implies, true_implies, D_X12_seatAll_0, D_X12_seatAll_1, D_X12_seatAll_2, mj_F_aload_n_k, mj_F_baload, mj_F_bipush_n, mj_F_dup2, mj_F_getfield_i, mj_F_goto_off, mj_F_iadd, mj_F_iaload, mj_F_iastore, mj_F_iconst_n, mj_F_ifCond_eq_off, mj_F_ifCond_le_off, mj_F_if_icmp_eq_off, mj_F_if_icmp_ge_off, mj_F_iinc_k_n, mj_F_iload_k, mj_F_iload_n_k, mj_F_imul, mj_F_invokestatic_i, mj_F_invokevirtual_i, mj_F_istore_k, mj_F_istore_n_k, mj_F_isub, mj_F_return_, mj_set, mj_set0, mj_unk, mj_c2, mj_kc, FT_X12, FT_X12_1, L_X12_seatAll, List.take_succ_cons, List.take_zero, List.drop_succ_cons, List.drop_zero, List.reverse_cons, List.reverse_nil, List.length_cons, List.length_nil, gS_M0, gMf_12, gMf_23, gMf_45, gS_M33, sS_Ma_33, gMf_47, gS_M35, sS_Ma_35, gMf_48, gS_M36, sS_Ma_36, gMf_46, gS_M34, sS_Ma_34, gMf_49, gS_M37, sS_Ma_37, J_X12_seatAll]
  exact hG.2 _ _ _ _ _ _ _ _ _ (by refine ⟨Or.inr rfl, ?_⟩; refine ⟨Or.inl rfl, ?_⟩; refine ⟨Or.inl rfl, ?_⟩; refine ⟨Or.inr rfl, ?_⟩; exact trivial) (Nat.zero_le _) (Nat.zero_le _) (g_X12_seatAll_8 hG hM  hw :)

def c_X12_seatAll : mj_S := fun as h k => ∃ (v1 : Int32) (v2 : Int32) (s : St), as = [.ref 0, .int v1, .int v2] ∧ h = mkMs s ∧ ok (F_X12_seatAll v1 v2 s) (fun p => k none (mkMs p))
theorem c_X12_seatAll_in {v1 : Int32} {v2 : Int32} {s : St} {k : Option Value → mj_H → Prop} (hw : ok (F_X12_seatAll v1 v2 s) (fun p => k none (mkMs p))) : c_X12_seatAll [.ref 0, .int v1, .int v2] (mkMs s) k := ⟨v1, v2, s, rfl, rfl, hw⟩
theorem m_X12_seatAll (l : Launch) : mj_Met l yX12_seatAll cX12_seatAll 9 (none) 10 0 0 c_X12_seatAll := by
  refine mj_body3 false (TbX12 9 (none) ct_X12_seatAll) (by decide) (by decide) rfl rfl (fun h => nomatch h) (tfX12 _ (List.forall_mem_cons.mpr ⟨cfX12_479 (m_X12_gather l) (by decide), fun _ h => nomatch h⟩)) ?_
  rintro as h k ⟨v1, v2, s, rfl, rfl, hw⟩
  exact ⟨rfl, fun G hG hM => g_X12_seatAll hG hM hw⟩
def B_X12_seated_53 (v1 : Int32) (v2 : Int32) (s : St) : Int32 × Int32 → Option ((Int32 × Int32) ⊕ ((Int32)))
  | (v5, v6) =>
  if (s.1 1223) ≤ v6 then
    some (.inr v5)
  else
    if v2 = (-1) then
      (rd s 1245 480 ((20 * v1) + v6)).bind fun x9 =>
      some (.inl ((v5 + x9), (v6 + 1)))
    else
      if v2 = v6 then
        (rd s 1245 480 ((20 * v1) + v6)).bind fun x10 =>
        some (.inl ((v5 + x10), (v6 + 1)))
      else
        some (.inl ((v5 + 0), (v6 + 1)))
def F_X12_seated_100 (v5 : Int32) (s : St) : Option (Int32 × St) :=
  some (v5, s)
def F_X12_seated_53 (v1 : Int32) (v2 : Int32) (v5 : Int32) (v6 : Int32) (s : St) : Option (Int32 × St) :=
  (lp (B_X12_seated_53 v1 v2 s) FU (v5, v6)).bind (fun y => F_X12_seated_100 y s)
def F_X12_seated (v1 : Int32) (v2 : Int32) (v3 : Int32) (v4 : Int32) (s : St) : Option (Int32 × St) :=
  (F_X12_isVillage v1 s).bind fun r1 =>
  if r1 = 0 then
    some ((-1), s)
  else
    if v2 = (-1) then
      (F_X12_isWeek v3 s).bind fun r2 =>
      if r2 = 0 then
        some ((-1), s)
      else
        (F_X12_isKnowing v4 s).bind fun r3 =>
        if r3 = 0 then
          some ((-1), s)
        else
          (F_X12_seatAll v3 v4 s).bind fun s4 =>
          F_X12_seated_53 v1 v2 0 0 s4
    else
      (F_X12_isSchool v2 s).bind fun r5 =>
      if r5 = 0 then
        some ((-1), s)
      else
        (F_X12_isWeek v3 s).bind fun r6 =>
        if r6 = 0 then
          some ((-1), s)
        else
          (F_X12_isKnowing v4 s).bind fun r7 =>
          if r7 = 0 then
            some ((-1), s)
          else
            (F_X12_seatAll v3 v4 s).bind fun s8 =>
            F_X12_seated_53 v1 v2 0 0 s8
theorem J_X12_seated : mj_t 5 33 = 38 ∧ mj_t 10 11 = 21 ∧ mj_t 18 20 = 38 ∧ mj_t 26 12 = 38 ∧ mj_t 35 5 = 40 ∧ mj_t 59 41 = 100 ∧ mj_t 66 9 = 75 ∧ mj_t 72 18 = 90 ∧ mj_t 87 4 = 91 ∧ mj_t 97 (-44) = 53 ∧ (0 ≤ ((5 : Nat) : Int) + 33) = True ∧ (0 ≤ ((10 : Nat) : Int) + 11) = True ∧ (0 ≤ ((18 : Nat) : Int) + 20) = True ∧ (0 ≤ ((26 : Nat) : Int) + 12) = True ∧ (0 ≤ ((35 : Nat) : Int) + 5) = True ∧ (0 ≤ ((59 : Nat) : Int) + 41) = True ∧ (0 ≤ ((66 : Nat) : Int) + 9) = True ∧ (0 ≤ ((72 : Nat) : Int) + 18) = True ∧ (0 ≤ ((87 : Nat) : Int) + 4) = True ∧ (0 ≤ ((97 : Nat) : Int) + (-44)) = True := by and_intros <;> first | rfl | exact eq_true (by decide)
def ct_X12_seated : List (Nat × mj_Cs) := [(274, 0, 2, 12, 0, 0, c_X12_isVillage), (287, 0, 2, 12, 0, 0, c_X12_isKnowing), (293, 0, 2, 12, 0, 0, c_X12_isSchool), (457, 0, 2, 12, 0, 0, c_X12_isWeek), (482, 0, 3, 12, 0, 0, c_X12_seatAll)]
theorem L_X12_seated : mj_lk ct_X12_seated 274 = some (0, 2, 12, 0, 0, c_X12_isVillage) ∧ mj_lk ct_X12_seated 287 = some (0, 2, 12, 0, 0, c_X12_isKnowing) ∧ mj_lk ct_X12_seated 293 = some (0, 2, 12, 0, 0, c_X12_isSchool) ∧ mj_lk ct_X12_seated 457 = some (0, 2, 12, 0, 0, c_X12_isWeek) ∧ mj_lk ct_X12_seated 482 = some (0, 3, 12, 0, 0, c_X12_seatAll) := ⟨rfl, rfl, rfl, rfl, rfl⟩
set_option maxHeartbeats 4000000 in
set_option maxRecDepth 20000 in
theorem b_X12_seated_53 {k : Option Value → mj_H → Prop} {G : mj_K} (hG : mj_cl2 cX12_seated (TbX12 7 ((some FieldType.int)) ct_X12_seated) k G) {v1 : Int32} {v2 : Int32} {s : St} {P : Int32 × Int32 → Prop} {K : (Int32) → Prop} (hP : ∀ x, P x → G 53 [.ref 0, .int v1, .int v2, mj_unk, mj_unk, .int x.1, .int x.2] [] (mkMs s) 0 0) (hK0 : ∀ y, K y → G 100 [mj_unk, mj_unk, mj_unk, mj_unk, mj_unk, .int y] [] (mkMs s) 0 0) {v5 : Int32} {v6 : Int32} (hw : ok (B_X12_seated_53 v1 v2 s (v5, v6)) (Sum.elim P K)) : G 53 [.ref 0, .int v1, .int v2, mj_unk, mj_unk, .int v5, .int v6] [] (mkMs s) 0 0 := by
  unfold B_X12_seated_53 at hw
  refine mj_run hG.1 (fun pc => pc == 5 || pc == 18 || pc == 26 || pc == 35 || pc == 47 || pc == 53 || pc == 100) 4000 ?_
  simp only [mj_step, mj_W_s, mj_fin, List.getElem?_cons_zero, List.getElem?_cons_succ, mj_go, Nat.reduceAdd, Nat.reduceSub, Nat.reduceLT, Nat.reduceLeDiff, Nat.zero_add, Nat.reduceEqDiff, Nat.reduceBEq, ↓reduceIte, Bool.false_eq_true, List.append_nil, List.nil_append, List.cons_append, Option.toList, and_true, true_and, true_or, or_true, reduceCtorEq, List.map_nil, bI_eq0, bI_eq1, bool_ft, pk_us, vnar0, vnar1, Bool.or_false, Bool.or_true, Bool.false_or, Bool.true_or, mj_kne, eq_self, Int32.reduceLT, Int32.reduceLE, Int32.reduceAdd, Int32.reduceSub, Int32.reduceMul, not_true_eq_false, not_false_eq_true, false_implies, true_implies, D_X12_seated_0, D_X12_seated_1, mj_F_aload_n_k, mj_F_bipush_n, mj_F_getfield_i, mj_F_goto_off, mj_F_iadd, mj_F_iaload, mj_F_iconst_n, mj_F_ifCond_eq_off, mj_F_ifCond_ne_off, mj_F_if_icmp_eq_off, mj_F_if_icmp_ge_off, mj_F_if_icmp_ne_off, mj_F_iinc_k_n, mj_F_iload_k, mj_F_iload_n_k, mj_F_imul, mj_F_invokevirtual_i, mj_F_ireturn, mj_F_istore_k, mj_set, mj_set0, mj_unk, mj_c2, mj_kc, FT_X12, FT_X12_1, L_X12_seated, List.take_succ_cons, List.take_zero, List.drop_succ_cons, List.drop_zero, List.reverse_cons, List.reverse_nil, List.length_cons, List.length_nil, gS_M0, gMf_23, gMf_45, gS_M33, sS_Ma_33, J_X12_seated]
  refine ⟨fun c => ?_, fun c => ?_⟩
  · replace hw := ok_t hw c
    exact hG.2 _ _ _ _ _ _ _ _ _ (by refine ⟨Or.inl rfl, ?_⟩; refine ⟨Or.inl rfl, ?_⟩; refine ⟨Or.inl rfl, ?_⟩; refine ⟨Or.inl rfl, ?_⟩; refine ⟨Or.inl rfl, ?_⟩; refine ⟨Or.inr rfl, ?_⟩; exact trivial) (Nat.zero_le _) (Nat.zero_le _) (hK0 _ (ok_some hw :) :)
  · replace hw := ok_f hw c
    refine ⟨fun c => ?_, fun c => ?_⟩
    · replace hw := ok_t hw c
      refine ⟨(ok_rd hw).1, ?_⟩
      replace hw := (ok_rd hw).2
      exact hG.2 _ _ _ _ _ _ _ _ _ (by refine ⟨Or.inr rfl, ?_⟩; refine ⟨Or.inr rfl, ?_⟩; refine ⟨Or.inr rfl, ?_⟩; refine ⟨Or.inl rfl, ?_⟩; refine ⟨Or.inl rfl, ?_⟩; refine ⟨Or.inr rfl, ?_⟩; refine ⟨Or.inr rfl, ?_⟩; exact trivial) (Nat.zero_le _) (Nat.zero_le _) (hP _ (ok_some hw :) :)
    · replace hw := ok_f hw c
      refine ⟨fun c => ?_, fun c => ?_⟩
      · replace hw := ok_f hw c
        exact hG.2 _ _ _ _ _ _ _ _ _ (by refine ⟨Or.inr rfl, ?_⟩; refine ⟨Or.inr rfl, ?_⟩; refine ⟨Or.inr rfl, ?_⟩; refine ⟨Or.inl rfl, ?_⟩; refine ⟨Or.inl rfl, ?_⟩; refine ⟨Or.inr rfl, ?_⟩; refine ⟨Or.inr rfl, ?_⟩; exact trivial) (Nat.zero_le _) (Nat.zero_le _) (hP _ (ok_some hw :) :)
      · replace hw := ok_t hw c
        refine ⟨(ok_rd hw).1, ?_⟩
        replace hw := (ok_rd hw).2
        exact hG.2 _ _ _ _ _ _ _ _ _ (by refine ⟨Or.inr rfl, ?_⟩; refine ⟨Or.inr rfl, ?_⟩; refine ⟨Or.inr rfl, ?_⟩; refine ⟨Or.inl rfl, ?_⟩; refine ⟨Or.inl rfl, ?_⟩; refine ⟨Or.inr rfl, ?_⟩; refine ⟨Or.inr rfl, ?_⟩; exact trivial) (Nat.zero_le _) (Nat.zero_le _) (hP _ (ok_some hw :) :)

set_option maxHeartbeats 4000000 in
set_option maxRecDepth 20000 in
theorem g_X12_seated_100 {k : Option Value → mj_H → Prop} {G : mj_K} (hG : mj_cl2 cX12_seated (TbX12 7 ((some FieldType.int)) ct_X12_seated) k G)   {v5 : Int32} {s : St} (hw : ok (F_X12_seated_100 v5 s) (fun p => k (some (.int p.1)) (mkMs p.2))) : G 100 [mj_unk, mj_unk, mj_unk, mj_unk, mj_unk, .int v5] [] (mkMs s) 0 0 := by
  unfold F_X12_seated_100 at hw
  refine mj_run hG.1 (fun pc => pc == 5 || pc == 18 || pc == 26 || pc == 35 || pc == 47 || pc == 53 || pc == 100) 4000 ?_
  simp only [mj_step, mj_W_s, mj_fin, List.getElem?_cons_zero, List.getElem?_cons_succ, mj_go, Nat.reduceAdd, Nat.reduceSub, Nat.reduceLT, Nat.reduceLeDiff, Nat.zero_add, Nat.reduceEqDiff, Nat.reduceBEq, ↓reduceIte, Bool.false_eq_true, List.append_nil, List.nil_append, List.cons_append, Option.toList, and_true, true_and, true_or, or_true, reduceCtorEq, List.map_nil, bI_eq0, bI_eq1, bool_ft, pk_us, vnar0, vnar1, Bool.or_false, Bool.or_true, Bool.false_or, Bool.true_or, mj_kne, eq_self, Int32.reduceLT, Int32.reduceLE, Int32.reduceAdd, Int32.reduceSub, Int32.reduceMul, not_true_eq_false, not_false_eq_true, false_implies, true_implies, D_X12_seated_0, D_X12_seated_1, mj_F_aload_n_k, mj_F_bipush_n, mj_F_getfield_i, mj_F_goto_off, mj_F_iadd, mj_F_iaload, mj_F_iconst_n, mj_F_ifCond_eq_off, mj_F_ifCond_ne_off, mj_F_if_icmp_eq_off, mj_F_if_icmp_ge_off, mj_F_if_icmp_ne_off, mj_F_iinc_k_n, mj_F_iload_k, mj_F_iload_n_k, mj_F_imul, mj_F_invokevirtual_i, mj_F_ireturn, mj_F_istore_k, mj_set, mj_set0, mj_unk, mj_c2, mj_kc, FT_X12, FT_X12_1, L_X12_seated, List.take_succ_cons, List.take_zero, List.drop_succ_cons, List.drop_zero, List.reverse_cons, List.reverse_nil, List.length_cons, List.length_nil, gS_M0, gMf_23, gMf_45, gS_M33, sS_Ma_33, J_X12_seated]
  exact (ok_some hw :)

set_option maxHeartbeats 4000000 in
theorem g_X12_seated_53 {k : Option Value → mj_H → Prop} {G : mj_K} (hG : mj_cl2 cX12_seated (TbX12 7 ((some FieldType.int)) ct_X12_seated) k G)   {v1 : Int32} {v2 : Int32} {v5 : Int32} {v6 : Int32} {s : St} (hw : ok (F_X12_seated_53 v1 v2 v5 v6 s) (fun p => k (some (.int p.1)) (mkMs p.2))) : G 53 [.ref 0, .int v1, .int v2, mj_unk, mj_unk, .int v5, .int v6] [] (mkMs s) 0 0 := by
  unfold F_X12_seated_53 at hw
  refine lp_ok (B_X12_seated_53 v1 v2 s) (fun x => G 53 [.ref 0, .int v1, .int v2, mj_unk, mj_unk, .int x.1, .int x.2] [] (mkMs s) 0 0) _ ?_ _ _ (ok_bind hw)
  rintro ⟨v5, v6⟩ hb
  exact b_X12_seated_53 hG (fun _ z => z) (fun y hw => by exact hG.2 _ _ _ _ _ _ _ _ _ (by refine ⟨Or.inl rfl, ?_⟩; refine ⟨Or.inl rfl, ?_⟩; refine ⟨Or.inl rfl, ?_⟩; refine ⟨Or.inl rfl, ?_⟩; refine ⟨Or.inl rfl, ?_⟩; refine ⟨Or.inr rfl, ?_⟩; exact trivial) (Nat.zero_le _) (Nat.zero_le _) (g_X12_seated_100 hG  hw :)) hb

set_option maxHeartbeats 4000000 in
set_option maxRecDepth 20000 in
theorem g_X12_seated {k : Option Value → mj_H → Prop} {G : mj_K} (hG : mj_cl2 cX12_seated (TbX12 7 ((some FieldType.int)) ct_X12_seated) k G) {v1 : Int32} {v2 : Int32} {v3 : Int32} {v4 : Int32} {s : St} (hw : ok (F_X12_seated v1 v2 v3 v4 s) (fun p => k (some (.int p.1)) (mkMs p.2))) : G 0 [.ref 0, .int v1, .int v2, .int v3, .int v4] [] (mkMs s) 0 0 := by
  unfold F_X12_seated at hw
  refine mj_run hG.1 (fun pc => pc == 5 || pc == 18 || pc == 26 || pc == 35 || pc == 47 || pc == 53 || pc == 100) 4000 ?_
  simp only [mj_step, mj_W_s, mj_fin, List.getElem?_cons_zero, List.getElem?_cons_succ, mj_go, Nat.reduceAdd, Nat.reduceSub, Nat.reduceLT, Nat.reduceLeDiff, Nat.zero_add, Nat.reduceEqDiff, Nat.reduceBEq, ↓reduceIte, Bool.false_eq_true, List.append_nil, List.nil_append, List.cons_append, Option.toList, and_true, true_and, true_or, or_true, reduceCtorEq, List.map_nil, bI_eq0, bI_eq1, bool_ft, pk_us, vnar0, vnar1, Bool.or_false, Bool.or_true, Bool.false_or, Bool.true_or, mj_kne, eq_self, Int32.reduceLT, Int32.reduceLE, Int32.reduceAdd, Int32.reduceSub, Int32.reduceMul, not_true_eq_false, not_false_eq_true, false_implies, true_implies, D_X12_seated_0, D_X12_seated_1, mj_F_aload_n_k, mj_F_bipush_n, mj_F_getfield_i, mj_F_goto_off, mj_F_iadd, mj_F_iaload, mj_F_iconst_n, mj_F_ifCond_eq_off, mj_F_ifCond_ne_off, mj_F_if_icmp_eq_off, mj_F_if_icmp_ge_off, mj_F_if_icmp_ne_off, mj_F_iinc_k_n, mj_F_iload_k, mj_F_iload_n_k, mj_F_imul, mj_F_invokevirtual_i, mj_F_ireturn, mj_F_istore_k, mj_set, mj_set0, mj_unk, mj_c2, mj_kc, FT_X12, FT_X12_1, L_X12_seated, List.take_succ_cons, List.take_zero, List.drop_succ_cons, List.drop_zero, List.reverse_cons, List.reverse_nil, List.length_cons, List.length_nil, gS_M0, gMf_23, gMf_45, gS_M33, sS_Ma_33, J_X12_seated]
  refine c_X12_isVillage_in (ok_imp (ok_bind hw) ?_)
  intro p hw
  simp only [Option.toList, List.nil_append, List.cons_append, Nat.reduceSub]
  refine mj_run hG.1 (fun pc => pc == 5 || pc == 18 || pc == 26 || pc == 35 || pc == 47 || pc == 53 || pc == 100) 4000 ?_
  simp only [mj_step, mj_W_s, mj_fin, List.getElem?_cons_zero, List.getElem?_cons_succ, mj_go, Nat.reduceAdd, Nat.reduceSub, Nat.reduceLT, Nat.reduceLeDiff, Nat.zero_add, Nat.reduceEqDiff, Nat.reduceBEq, ↓reduceIte, Bool.false_eq_true, List.append_nil, List.nil_append, List.cons_append, Option.toList, and_true, true_and, true_or, or_true, reduceCtorEq, List.map_nil, bI_eq0, bI_eq1, bool_ft, pk_us, vnar0, vnar1, Bool.or_false, Bool.or_true, Bool.false_or, Bool.true_or, mj_kne, eq_self, Int32.reduceLT, Int32.reduceLE, Int32.reduceAdd, Int32.reduceSub, Int32.reduceMul, not_true_eq_false, not_false_eq_true, false_implies, true_implies, D_X12_seated_0, D_X12_seated_1, mj_F_aload_n_k, mj_F_bipush_n, mj_F_getfield_i, mj_F_goto_off, mj_F_iadd, mj_F_iaload, mj_F_iconst_n, mj_F_ifCond_eq_off, mj_F_ifCond_ne_off, mj_F_if_icmp_eq_off, mj_F_if_icmp_ge_off, mj_F_if_icmp_ne_off, mj_F_iinc_k_n, mj_F_iload_k, mj_F_iload_n_k, mj_F_imul, mj_F_invokevirtual_i, mj_F_ireturn, mj_F_istore_k, mj_set, mj_set0, mj_unk, mj_c2, mj_kc, FT_X12, FT_X12_1, L_X12_seated, List.take_succ_cons, List.take_zero, List.drop_succ_cons, List.drop_zero, List.reverse_cons, List.reverse_nil, List.length_cons, List.length_nil, gS_M0, gMf_23, gMf_45, gS_M33, sS_Ma_33, J_X12_seated]
  refine ⟨fun c => ?_, fun c => ?_⟩
  · replace hw := ok_t hw c
    exact (ok_some hw :)
  · replace hw := ok_f hw c
    refine ⟨fun c => ?_, fun c => ?_⟩
    · replace hw := ok_t hw c
      refine c_X12_isWeek_in (ok_imp (ok_bind hw) ?_)
      intro p hw
      simp only [Option.toList, List.nil_append, List.cons_append, Nat.reduceSub]
      refine mj_run hG.1 (fun pc => pc == 5 || pc == 18 || pc == 26 || pc == 35 || pc == 47 || pc == 53 || pc == 100) 4000 ?_
      simp only [mj_step, mj_W_s, mj_fin, List.getElem?_cons_zero, List.getElem?_cons_succ, mj_go, Nat.reduceAdd, Nat.reduceSub, Nat.reduceLT, Nat.reduceLeDiff, Nat.zero_add, Nat.reduceEqDiff, Nat.reduceBEq, ↓reduceIte, Bool.false_eq_true, List.append_nil, List.nil_append, List.cons_append, Option.toList, and_true, true_and, true_or, or_true, reduceCtorEq, List.map_nil, bI_eq0, bI_eq1, bool_ft, pk_us, vnar0, vnar1, Bool.or_false, Bool.or_true, Bool.false_or, Bool.true_or, mj_kne, eq_self, Int32.reduceLT, Int32.reduceLE, Int32.reduceAdd, Int32.reduceSub, Int32.reduceMul, not_true_eq_false, not_false_eq_true, false_implies, true_implies, D_X12_seated_0, D_X12_seated_1, mj_F_aload_n_k, mj_F_bipush_n, mj_F_getfield_i, mj_F_goto_off, mj_F_iadd, mj_F_iaload, mj_F_iconst_n, mj_F_ifCond_eq_off, mj_F_ifCond_ne_off, mj_F_if_icmp_eq_off, mj_F_if_icmp_ge_off, mj_F_if_icmp_ne_off, mj_F_iinc_k_n, mj_F_iload_k, mj_F_iload_n_k, mj_F_imul, mj_F_invokevirtual_i, mj_F_ireturn, mj_F_istore_k, mj_set, mj_set0, mj_unk, mj_c2, mj_kc, FT_X12, FT_X12_1, L_X12_seated, List.take_succ_cons, List.take_zero, List.drop_succ_cons, List.drop_zero, List.reverse_cons, List.reverse_nil, List.length_cons, List.length_nil, gS_M0, gMf_23, gMf_45, gS_M33, sS_Ma_33, J_X12_seated]
      refine ⟨fun c => ?_, fun c => ?_⟩
      · replace hw := ok_t hw c
        exact (ok_some hw :)
      · replace hw := ok_f hw c
        refine c_X12_isKnowing_in (ok_imp (ok_bind hw) ?_)
        intro p hw
        simp only [Option.toList, List.nil_append, List.cons_append, Nat.reduceSub]
        refine mj_run hG.1 (fun pc => pc == 5 || pc == 18 || pc == 26 || pc == 35 || pc == 47 || pc == 53 || pc == 100) 4000 ?_
        simp only [mj_step, mj_W_s, mj_fin, List.getElem?_cons_zero, List.getElem?_cons_succ, mj_go, Nat.reduceAdd, Nat.reduceSub, Nat.reduceLT, Nat.reduceLeDiff, Nat.zero_add, Nat.reduceEqDiff, Nat.reduceBEq, ↓reduceIte, Bool.false_eq_true, List.append_nil, List.nil_append, List.cons_append, Option.toList, and_true, true_and, true_or, or_true, reduceCtorEq, List.map_nil, bI_eq0, bI_eq1, bool_ft, pk_us, vnar0, vnar1, Bool.or_false, Bool.or_true, Bool.false_or, Bool.true_or, mj_kne, eq_self, Int32.reduceLT, Int32.reduceLE, Int32.reduceAdd, Int32.reduceSub, Int32.reduceMul, not_true_eq_false, not_false_eq_true, false_implies, true_implies, D_X12_seated_0, D_X12_seated_1, mj_F_aload_n_k, mj_F_bipush_n, mj_F_getfield_i, mj_F_goto_off, mj_F_iadd, mj_F_iaload, mj_F_iconst_n, mj_F_ifCond_eq_off, mj_F_ifCond_ne_off, mj_F_if_icmp_eq_off, mj_F_if_icmp_ge_off, mj_F_if_icmp_ne_off, mj_F_iinc_k_n, mj_F_iload_k, mj_F_iload_n_k, mj_F_imul, mj_F_invokevirtual_i, mj_F_ireturn, mj_F_istore_k, mj_set, mj_set0, mj_unk, mj_c2, mj_kc, FT_X12, FT_X12_1, L_X12_seated, List.take_succ_cons, List.take_zero, List.drop_succ_cons, List.drop_zero, List.reverse_cons, List.reverse_nil, List.length_cons, List.length_nil, gS_M0, gMf_23, gMf_45, gS_M33, sS_Ma_33, J_X12_seated]
        refine ⟨fun c => ?_, fun c => ?_⟩
        · replace hw := ok_f hw c
          refine c_X12_seatAll_in (ok_imp (ok_bind hw) ?_)
          intro p hw
          simp only [Option.toList, List.nil_append, List.cons_append, Nat.reduceSub]
          refine mj_run hG.1 (fun pc => pc == 5 || pc == 18 || pc == 26 || pc == 35 || pc == 47 || pc == 53 || pc == 100) 4000 ?_
          simp only [mj_step, mj_W_s, mj_fin, List.getElem?_cons_zero, List.getElem?_cons_succ, mj_go, Nat.reduceAdd, Nat.reduceSub, Nat.reduceLT, Nat.reduceLeDiff, Nat.zero_add, Nat.reduceEqDiff, Nat.reduceBEq, ↓reduceIte, Bool.false_eq_true, List.append_nil, List.nil_append, List.cons_append, Option.toList, and_true, true_and, true_or, or_true, reduceCtorEq, List.map_nil, bI_eq0, bI_eq1, bool_ft, pk_us, vnar0, vnar1, Bool.or_false, Bool.or_true, Bool.false_or, Bool.true_or, mj_kne, eq_self, Int32.reduceLT, Int32.reduceLE, Int32.reduceAdd, Int32.reduceSub, Int32.reduceMul, not_true_eq_false, not_false_eq_true, false_implies, true_implies, D_X12_seated_0, D_X12_seated_1, mj_F_aload_n_k, mj_F_bipush_n, mj_F_getfield_i, mj_F_goto_off, mj_F_iadd, mj_F_iaload, mj_F_iconst_n, mj_F_ifCond_eq_off, mj_F_ifCond_ne_off, mj_F_if_icmp_eq_off, mj_F_if_icmp_ge_off, mj_F_if_icmp_ne_off, mj_F_iinc_k_n, mj_F_iload_k, mj_F_iload_n_k, mj_F_imul, mj_F_invokevirtual_i, mj_F_ireturn, mj_F_istore_k, mj_set, mj_set0, mj_unk, mj_c2, mj_kc, FT_X12, FT_X12_1, L_X12_seated, List.take_succ_cons, List.take_zero, List.drop_succ_cons, List.drop_zero, List.reverse_cons, List.reverse_nil, List.length_cons, List.length_nil, gS_M0, gMf_23, gMf_45, gS_M33, sS_Ma_33, J_X12_seated]
          exact hG.2 _ _ _ _ _ _ _ _ _ (by refine ⟨Or.inr rfl, ?_⟩; refine ⟨Or.inr rfl, ?_⟩; refine ⟨Or.inr rfl, ?_⟩; refine ⟨Or.inl rfl, ?_⟩; refine ⟨Or.inl rfl, ?_⟩; refine ⟨Or.inr rfl, ?_⟩; refine ⟨Or.inr rfl, ?_⟩; exact trivial) (Nat.zero_le _) (Nat.zero_le _) (g_X12_seated_53 hG  hw :)
        · replace hw := ok_t hw c
          exact (ok_some hw :)
    · replace hw := ok_f hw c
      refine c_X12_isSchool_in (ok_imp (ok_bind hw) ?_)
      intro p hw
      simp only [Option.toList, List.nil_append, List.cons_append, Nat.reduceSub]
      refine mj_run hG.1 (fun pc => pc == 5 || pc == 18 || pc == 26 || pc == 35 || pc == 47 || pc == 53 || pc == 100) 4000 ?_
      simp only [mj_step, mj_W_s, mj_fin, List.getElem?_cons_zero, List.getElem?_cons_succ, mj_go, Nat.reduceAdd, Nat.reduceSub, Nat.reduceLT, Nat.reduceLeDiff, Nat.zero_add, Nat.reduceEqDiff, Nat.reduceBEq, ↓reduceIte, Bool.false_eq_true, List.append_nil, List.nil_append, List.cons_append, Option.toList, and_true, true_and, true_or, or_true, reduceCtorEq, List.map_nil, bI_eq0, bI_eq1, bool_ft, pk_us, vnar0, vnar1, Bool.or_false, Bool.or_true, Bool.false_or, Bool.true_or, mj_kne, eq_self, Int32.reduceLT, Int32.reduceLE, Int32.reduceAdd, Int32.reduceSub, Int32.reduceMul, not_true_eq_false, not_false_eq_true, false_implies, true_implies, D_X12_seated_0, D_X12_seated_1, mj_F_aload_n_k, mj_F_bipush_n, mj_F_getfield_i, mj_F_goto_off, mj_F_iadd, mj_F_iaload, mj_F_iconst_n, mj_F_ifCond_eq_off, mj_F_ifCond_ne_off, mj_F_if_icmp_eq_off, mj_F_if_icmp_ge_off, mj_F_if_icmp_ne_off, mj_F_iinc_k_n, mj_F_iload_k, mj_F_iload_n_k, mj_F_imul, mj_F_invokevirtual_i, mj_F_ireturn, mj_F_istore_k, mj_set, mj_set0, mj_unk, mj_c2, mj_kc, FT_X12, FT_X12_1, L_X12_seated, List.take_succ_cons, List.take_zero, List.drop_succ_cons, List.drop_zero, List.reverse_cons, List.reverse_nil, List.length_cons, List.length_nil, gS_M0, gMf_23, gMf_45, gS_M33, sS_Ma_33, J_X12_seated]
      refine ⟨fun c => ?_, fun c => ?_⟩
      · replace hw := ok_t hw c
        exact (ok_some hw :)
      · replace hw := ok_f hw c
        refine c_X12_isWeek_in (ok_imp (ok_bind hw) ?_)
        intro p hw
        simp only [Option.toList, List.nil_append, List.cons_append, Nat.reduceSub]
        refine mj_run hG.1 (fun pc => pc == 5 || pc == 18 || pc == 26 || pc == 35 || pc == 47 || pc == 53 || pc == 100) 4000 ?_
        simp only [mj_step, mj_W_s, mj_fin, List.getElem?_cons_zero, List.getElem?_cons_succ, mj_go, Nat.reduceAdd, Nat.reduceSub, Nat.reduceLT, Nat.reduceLeDiff, Nat.zero_add, Nat.reduceEqDiff, Nat.reduceBEq, ↓reduceIte, Bool.false_eq_true, List.append_nil, List.nil_append, List.cons_append, Option.toList, and_true, true_and, true_or, or_true, reduceCtorEq, List.map_nil, bI_eq0, bI_eq1, bool_ft, pk_us, vnar0, vnar1, Bool.or_false, Bool.or_true, Bool.false_or, Bool.true_or, mj_kne, eq_self, Int32.reduceLT, Int32.reduceLE, Int32.reduceAdd, Int32.reduceSub, Int32.reduceMul, not_true_eq_false, not_false_eq_true, false_implies, true_implies, D_X12_seated_0, D_X12_seated_1, mj_F_aload_n_k, mj_F_bipush_n, mj_F_getfield_i, mj_F_goto_off, mj_F_iadd, mj_F_iaload, mj_F_iconst_n, mj_F_ifCond_eq_off, mj_F_ifCond_ne_off, mj_F_if_icmp_eq_off, mj_F_if_icmp_ge_off, mj_F_if_icmp_ne_off, mj_F_iinc_k_n, mj_F_iload_k, mj_F_iload_n_k, mj_F_imul, mj_F_invokevirtual_i, mj_F_ireturn, mj_F_istore_k, mj_set, mj_set0, mj_unk, mj_c2, mj_kc, FT_X12, FT_X12_1, L_X12_seated, List.take_succ_cons, List.take_zero, List.drop_succ_cons, List.drop_zero, List.reverse_cons, List.reverse_nil, List.length_cons, List.length_nil, gS_M0, gMf_23, gMf_45, gS_M33, sS_Ma_33, J_X12_seated]
        refine ⟨fun c => ?_, fun c => ?_⟩
        · replace hw := ok_t hw c
          exact (ok_some hw :)
        · replace hw := ok_f hw c
          refine c_X12_isKnowing_in (ok_imp (ok_bind hw) ?_)
          intro p hw
          simp only [Option.toList, List.nil_append, List.cons_append, Nat.reduceSub]
          refine mj_run hG.1 (fun pc => pc == 5 || pc == 18 || pc == 26 || pc == 35 || pc == 47 || pc == 53 || pc == 100) 4000 ?_
          simp only [mj_step, mj_W_s, mj_fin, List.getElem?_cons_zero, List.getElem?_cons_succ, mj_go, Nat.reduceAdd, Nat.reduceSub, Nat.reduceLT, Nat.reduceLeDiff, Nat.zero_add, Nat.reduceEqDiff, Nat.reduceBEq, ↓reduceIte, Bool.false_eq_true, List.append_nil, List.nil_append, List.cons_append, Option.toList, and_true, true_and, true_or, or_true, reduceCtorEq, List.map_nil, bI_eq0, bI_eq1, bool_ft, pk_us, vnar0, vnar1, Bool.or_false, Bool.or_true, Bool.false_or, Bool.true_or, mj_kne, eq_self, Int32.reduceLT, Int32.reduceLE, Int32.reduceAdd, Int32.reduceSub, Int32.reduceMul, not_true_eq_false, not_false_eq_true, false_implies, true_implies, D_X12_seated_0, D_X12_seated_1, mj_F_aload_n_k, mj_F_bipush_n, mj_F_getfield_i, mj_F_goto_off, mj_F_iadd, mj_F_iaload, mj_F_iconst_n, mj_F_ifCond_eq_off, mj_F_ifCond_ne_off, mj_F_if_icmp_eq_off, mj_F_if_icmp_ge_off, mj_F_if_icmp_ne_off, mj_F_iinc_k_n, mj_F_iload_k, mj_F_iload_n_k, mj_F_imul, mj_F_invokevirtual_i, mj_F_ireturn, mj_F_istore_k, mj_set, mj_set0, mj_unk, mj_c2, mj_kc, FT_X12, FT_X12_1, L_X12_seated, List.take_succ_cons, List.take_zero, List.drop_succ_cons, List.drop_zero, List.reverse_cons, List.reverse_nil, List.length_cons, List.length_nil, gS_M0, gMf_23, gMf_45, gS_M33, sS_Ma_33, J_X12_seated]
          refine ⟨fun c => ?_, fun c => ?_⟩
          · replace hw := ok_f hw c
            refine c_X12_seatAll_in (ok_imp (ok_bind hw) ?_)
            intro p hw
            simp only [Option.toList, List.nil_append, List.cons_append, Nat.reduceSub]
            refine mj_run hG.1 (fun pc => pc == 5 || pc == 18 || pc == 26 || pc == 35 || pc == 47 || pc == 53 || pc == 100) 4000 ?_
            simp only [mj_step, mj_W_s, mj_fin, List.getElem?_cons_zero, List.getElem?_cons_succ, mj_go, Nat.reduceAdd, Nat.reduceSub, Nat.reduceLT, Nat.reduceLeDiff, Nat.zero_add, Nat.reduceEqDiff, Nat.reduceBEq, ↓reduceIte, Bool.false_eq_true, List.append_nil, List.nil_append, List.cons_append, Option.toList, and_true, true_and, true_or, or_true, reduceCtorEq, List.map_nil, bI_eq0, bI_eq1, bool_ft, pk_us, vnar0, vnar1, Bool.or_false, Bool.or_true, Bool.false_or, Bool.true_or, mj_kne, eq_self, Int32.reduceLT, Int32.reduceLE, Int32.reduceAdd, Int32.reduceSub, Int32.reduceMul, not_true_eq_false, not_false_eq_true, false_implies, true_implies, D_X12_seated_0, D_X12_seated_1, mj_F_aload_n_k, mj_F_bipush_n, mj_F_getfield_i, mj_F_goto_off, mj_F_iadd, mj_F_iaload, mj_F_iconst_n, mj_F_ifCond_eq_off, mj_F_ifCond_ne_off, mj_F_if_icmp_eq_off, mj_F_if_icmp_ge_off, mj_F_if_icmp_ne_off, mj_F_iinc_k_n, mj_F_iload_k, mj_F_iload_n_k, mj_F_imul, mj_F_invokevirtual_i, mj_F_ireturn, mj_F_istore_k, mj_set, mj_set0, mj_unk, mj_c2, mj_kc, FT_X12, FT_X12_1, L_X12_seated, List.take_succ_cons, List.take_zero, List.drop_succ_cons, List.drop_zero, List.reverse_cons, List.reverse_nil, List.length_cons, List.length_nil, gS_M0, gMf_23, gMf_45, gS_M33, sS_Ma_33, J_X12_seated]
            exact hG.2 _ _ _ _ _ _ _ _ _ (by refine ⟨Or.inr rfl, ?_⟩; refine ⟨Or.inr rfl, ?_⟩; refine ⟨Or.inr rfl, ?_⟩; refine ⟨Or.inl rfl, ?_⟩; refine ⟨Or.inl rfl, ?_⟩; refine ⟨Or.inr rfl, ?_⟩; refine ⟨Or.inr rfl, ?_⟩; exact trivial) (Nat.zero_le _) (Nat.zero_le _) (g_X12_seated_53 hG  hw :)
          · replace hw := ok_t hw c
            exact (ok_some hw :)

def c_X12_seated : mj_S := fun as h k => ∃ (v1 : Int32) (v2 : Int32) (v3 : Int32) (v4 : Int32) (s : St), as = [.ref 0, .int v1, .int v2, .int v3, .int v4] ∧ h = mkMs s ∧ ok (F_X12_seated v1 v2 v3 v4 s) (fun p => k (some (.int p.1)) (mkMs p.2))
theorem c_X12_seated_in {v1 : Int32} {v2 : Int32} {v3 : Int32} {v4 : Int32} {s : St} {k : Option Value → mj_H → Prop} (hw : ok (F_X12_seated v1 v2 v3 v4 s) (fun p => k (some (.int p.1)) (mkMs p.2))) : c_X12_seated [.ref 0, .int v1, .int v2, .int v3, .int v4] (mkMs s) k := ⟨v1, v2, v3, v4, s, rfl, rfl, hw⟩
theorem m_X12_seated (l : Launch) : mj_Met l yX12_seated cX12_seated 7 ((some FieldType.int)) 11 0 0 c_X12_seated := by
  refine mj_body2 false (TbX12 7 ((some FieldType.int)) ct_X12_seated) (by decide) rfl rfl (fun h => nomatch h) (tfX12 _ (List.forall_mem_cons.mpr ⟨cfX12_274 (m_X12_isVillage l) (by decide), List.forall_mem_cons.mpr ⟨cfX12_287 (m_X12_isKnowing l) (by decide), List.forall_mem_cons.mpr ⟨cfX12_293 (m_X12_isSchool l) (by decide), List.forall_mem_cons.mpr ⟨cfX12_457 (m_X12_isWeek l) (by decide), List.forall_mem_cons.mpr ⟨cfX12_482 (m_X12_seatAll l) (by decide), fun _ h => nomatch h⟩⟩⟩⟩⟩)) ?_
  rintro as h k ⟨v1, v2, v3, v4, s, rfl, rfl, hw⟩
  exact ⟨rfl, fun G hG => g_X12_seated hG hw⟩
def B_X12_unseated_43 (v1 : Int32) (s : St) : Int32 × Int32 → Option ((Int32 × Int32) ⊕ ((Int32)))
  | (v4, v5) =>
  if (s.1 1212) ≤ v5 then
    some (.inr v4)
  else
    if v1 = (-1) then
      (rd s 1247 24 v5).bind fun x8 =>
      some (.inl ((v4 + x8), (v5 + 1)))
    else
      if v1 = v5 then
        (rd s 1247 24 v5).bind fun x9 =>
        some (.inl ((v4 + x9), (v5 + 1)))
      else
        some (.inl ((v4 + 0), (v5 + 1)))
def F_X12_unseated_85 (v4 : Int32) (s : St) : Option (Int32 × St) :=
  some (v4, s)
def F_X12_unseated_43 (v1 : Int32) (v4 : Int32) (v5 : Int32) (s : St) : Option (Int32 × St) :=
  (lp (B_X12_unseated_43 v1 s) FU (v4, v5)).bind (fun y => F_X12_unseated_85 y s)
def F_X12_unseated (v1 : Int32) (v2 : Int32) (v3 : Int32) (s : St) : Option (Int32 × St) :=
  if v1 = (-1) then
    (F_X12_isWeek v2 s).bind fun r1 =>
    if r1 = 0 then
      some ((-1), s)
    else
      (F_X12_isKnowing v3 s).bind fun r2 =>
      if r2 = 0 then
        some ((-1), s)
      else
        (F_X12_seatAll v2 v3 s).bind fun s3 =>
        F_X12_unseated_43 v1 0 0 s3
  else
    (F_X12_isVillage v1 s).bind fun r4 =>
    if r4 = 0 then
      some ((-1), s)
    else
      (F_X12_isWeek v2 s).bind fun r5 =>
      if r5 = 0 then
        some ((-1), s)
      else
        (F_X12_isKnowing v3 s).bind fun r6 =>
        if r6 = 0 then
          some ((-1), s)
        else
          (F_X12_seatAll v2 v3 s).bind fun s7 =>
          F_X12_unseated_43 v1 0 0 s7
theorem J_X12_unseated : mj_t 2 11 = 13 ∧ mj_t 10 19 = 29 ∧ mj_t 18 11 = 29 ∧ mj_t 26 5 = 31 ∧ mj_t 49 36 = 85 ∧ mj_t 56 9 = 65 ∧ mj_t 62 13 = 75 ∧ mj_t 72 4 = 76 ∧ mj_t 82 (-39) = 43 ∧ (0 ≤ ((2 : Nat) : Int) + 11) = True ∧ (0 ≤ ((10 : Nat) : Int) + 19) = True ∧ (0 ≤ ((18 : Nat) : Int) + 11) = True ∧ (0 ≤ ((26 : Nat) : Int) + 5) = True ∧ (0 ≤ ((49 : Nat) : Int) + 36) = True ∧ (0 ≤ ((56 : Nat) : Int) + 9) = True ∧ (0 ≤ ((62 : Nat) : Int) + 13) = True ∧ (0 ≤ ((72 : Nat) : Int) + 4) = True ∧ (0 ≤ ((82 : Nat) : Int) + (-39)) = True := by and_intros <;> first | rfl | exact eq_true (by decide)
def ct_X12_unseated : List (Nat × mj_Cs) := [(274, 0, 2, 12, 0, 0, c_X12_isVillage), (287, 0, 2, 12, 0, 0, c_X12_isKnowing), (457, 0, 2, 12, 0, 0, c_X12_isWeek), (482, 0, 3, 12, 0, 0, c_X12_seatAll)]
theorem L_X12_unseated : mj_lk ct_X12_unseated 274 = some (0, 2, 12, 0, 0, c_X12_isVillage) ∧ mj_lk ct_X12_unseated 287 = some (0, 2, 12, 0, 0, c_X12_isKnowing) ∧ mj_lk ct_X12_unseated 457 = some (0, 2, 12, 0, 0, c_X12_isWeek) ∧ mj_lk ct_X12_unseated 482 = some (0, 3, 12, 0, 0, c_X12_seatAll) := ⟨rfl, rfl, rfl, rfl⟩
set_option maxHeartbeats 4000000 in
set_option maxRecDepth 20000 in
theorem b_X12_unseated_43 {k : Option Value → mj_H → Prop} {G : mj_K} (hG : mj_cl2 cX12_unseated (TbX12 6 ((some FieldType.int)) ct_X12_unseated) k G) {v1 : Int32} {s : St} {P : Int32 × Int32 → Prop} {K : (Int32) → Prop} (hP : ∀ x, P x → G 43 [.ref 0, .int v1, mj_unk, mj_unk, .int x.1, .int x.2] [] (mkMs s) 0 0) (hK0 : ∀ y, K y → G 85 [mj_unk, mj_unk, mj_unk, mj_unk, .int y] [] (mkMs s) 0 0) {v4 : Int32} {v5 : Int32} (hw : ok (B_X12_unseated_43 v1 s (v4, v5)) (Sum.elim P K)) : G 43 [.ref 0, .int v1, mj_unk, mj_unk, .int v4, .int v5] [] (mkMs s) 0 0 := by
  unfold B_X12_unseated_43 at hw
  refine mj_run hG.1 (fun pc => pc == 10 || pc == 18 || pc == 26 || pc == 37 || pc == 43 || pc == 85) 4000 ?_
  simp only [mj_step, mj_W_s, mj_fin, List.getElem?_cons_zero, List.getElem?_cons_succ, mj_go, Nat.reduceAdd, Nat.reduceSub, Nat.reduceLT, Nat.reduceLeDiff, Nat.zero_add, Nat.reduceEqDiff, Nat.reduceBEq, ↓reduceIte, Bool.false_eq_true, List.append_nil, List.nil_append, List.cons_append, Option.toList, and_true, true_and, true_or, or_true, reduceCtorEq, List.map_nil, bI_eq0, bI_eq1, bool_ft, pk_us, vnar0, vnar1, Bool.or_false, Bool.or_true, Bool.false_or, Bool.true_or, mj_kne, eq_self, Int32.reduceLT, Int32.reduceLE, Int32.reduceAdd, Int32.reduceSub, Int32.reduceMul, not_true_eq_false, not_false_eq_true, false_implies, true_implies, D_X12_unseated, mj_F_aload_n_k, mj_F_getfield_i, mj_F_goto_off, mj_F_iadd, mj_F_iaload, mj_F_iconst_n, mj_F_ifCond_eq_off, mj_F_ifCond_ne_off, mj_F_if_icmp_eq_off, mj_F_if_icmp_ge_off, mj_F_if_icmp_ne_off, mj_F_iinc_k_n, mj_F_iload_k, mj_F_iload_n_k, mj_F_invokevirtual_i, mj_F_ireturn, mj_F_istore_k, mj_set, mj_set0, mj_unk, mj_c2, mj_kc, FT_X12, FT_X12_1, L_X12_unseated, List.take_succ_cons, List.take_zero, List.drop_succ_cons, List.drop_zero, List.reverse_cons, List.reverse_nil, List.length_cons, List.length_nil, gS_M0, gMf_12, gMf_47, gS_M35, sS_Ma_35, J_X12_unseated]
  refine ⟨fun c => ?_, fun c => ?_⟩
  · replace hw := ok_t hw c
    exact hG.2 _ _ _ _ _ _ _ _ _ (by refine ⟨Or.inl rfl, ?_⟩; refine ⟨Or.inl rfl, ?_⟩; refine ⟨Or.inl rfl, ?_⟩; refine ⟨Or.inl rfl, ?_⟩; refine ⟨Or.inr rfl, ?_⟩; exact trivial) (Nat.zero_le _) (Nat.zero_le _) (hK0 _ (ok_some hw :) :)
  · replace hw := ok_f hw c
    refine ⟨fun c => ?_, fun c => ?_⟩
    · replace hw := ok_t hw c
      refine ⟨(ok_rd hw).1, ?_⟩
      replace hw := (ok_rd hw).2
      exact hG.2 _ _ _ _ _ _ _ _ _ (by refine ⟨Or.inr rfl, ?_⟩; refine ⟨Or.inr rfl, ?_⟩; refine ⟨Or.inl rfl, ?_⟩; refine ⟨Or.inl rfl, ?_⟩; refine ⟨Or.inr rfl, ?_⟩; refine ⟨Or.inr rfl, ?_⟩; exact trivial) (Nat.zero_le _) (Nat.zero_le _) (hP _ (ok_some hw :) :)
    · replace hw := ok_f hw c
      refine ⟨fun c => ?_, fun c => ?_⟩
      · replace hw := ok_f hw c
        exact hG.2 _ _ _ _ _ _ _ _ _ (by refine ⟨Or.inr rfl, ?_⟩; refine ⟨Or.inr rfl, ?_⟩; refine ⟨Or.inl rfl, ?_⟩; refine ⟨Or.inl rfl, ?_⟩; refine ⟨Or.inr rfl, ?_⟩; refine ⟨Or.inr rfl, ?_⟩; exact trivial) (Nat.zero_le _) (Nat.zero_le _) (hP _ (ok_some hw :) :)
      · replace hw := ok_t hw c
        refine ⟨(ok_rd hw).1, ?_⟩
        replace hw := (ok_rd hw).2
        exact hG.2 _ _ _ _ _ _ _ _ _ (by refine ⟨Or.inr rfl, ?_⟩; refine ⟨Or.inr rfl, ?_⟩; refine ⟨Or.inl rfl, ?_⟩; refine ⟨Or.inl rfl, ?_⟩; refine ⟨Or.inr rfl, ?_⟩; refine ⟨Or.inr rfl, ?_⟩; exact trivial) (Nat.zero_le _) (Nat.zero_le _) (hP _ (ok_some hw :) :)

set_option maxHeartbeats 4000000 in
set_option maxRecDepth 20000 in
theorem g_X12_unseated_85 {k : Option Value → mj_H → Prop} {G : mj_K} (hG : mj_cl2 cX12_unseated (TbX12 6 ((some FieldType.int)) ct_X12_unseated) k G)   {v4 : Int32} {s : St} (hw : ok (F_X12_unseated_85 v4 s) (fun p => k (some (.int p.1)) (mkMs p.2))) : G 85 [mj_unk, mj_unk, mj_unk, mj_unk, .int v4] [] (mkMs s) 0 0 := by
  unfold F_X12_unseated_85 at hw
  refine mj_run hG.1 (fun pc => pc == 10 || pc == 18 || pc == 26 || pc == 37 || pc == 43 || pc == 85) 4000 ?_
  simp only [mj_step, mj_W_s, mj_fin, List.getElem?_cons_zero, List.getElem?_cons_succ, mj_go, Nat.reduceAdd, Nat.reduceSub, Nat.reduceLT, Nat.reduceLeDiff, Nat.zero_add, Nat.reduceEqDiff, Nat.reduceBEq, ↓reduceIte, Bool.false_eq_true, List.append_nil, List.nil_append, List.cons_append, Option.toList, and_true, true_and, true_or, or_true, reduceCtorEq, List.map_nil, bI_eq0, bI_eq1, bool_ft, pk_us, vnar0, vnar1, Bool.or_false, Bool.or_true, Bool.false_or, Bool.true_or, mj_kne, eq_self, Int32.reduceLT, Int32.reduceLE, Int32.reduceAdd, Int32.reduceSub, Int32.reduceMul, not_true_eq_false, not_false_eq_true, false_implies, true_implies, D_X12_unseated, mj_F_aload_n_k, mj_F_getfield_i, mj_F_goto_off, mj_F_iadd, mj_F_iaload, mj_F_iconst_n, mj_F_ifCond_eq_off, mj_F_ifCond_ne_off, mj_F_if_icmp_eq_off, mj_F_if_icmp_ge_off, mj_F_if_icmp_ne_off, mj_F_iinc_k_n, mj_F_iload_k, mj_F_iload_n_k, mj_F_invokevirtual_i, mj_F_ireturn, mj_F_istore_k, mj_set, mj_set0, mj_unk, mj_c2, mj_kc, FT_X12, FT_X12_1, L_X12_unseated, List.take_succ_cons, List.take_zero, List.drop_succ_cons, List.drop_zero, List.reverse_cons, List.reverse_nil, List.length_cons, List.length_nil, gS_M0, gMf_12, gMf_47, gS_M35, sS_Ma_35, J_X12_unseated]
  exact (ok_some hw :)

set_option maxHeartbeats 4000000 in
theorem g_X12_unseated_43 {k : Option Value → mj_H → Prop} {G : mj_K} (hG : mj_cl2 cX12_unseated (TbX12 6 ((some FieldType.int)) ct_X12_unseated) k G)   {v1 : Int32} {v4 : Int32} {v5 : Int32} {s : St} (hw : ok (F_X12_unseated_43 v1 v4 v5 s) (fun p => k (some (.int p.1)) (mkMs p.2))) : G 43 [.ref 0, .int v1, mj_unk, mj_unk, .int v4, .int v5] [] (mkMs s) 0 0 := by
  unfold F_X12_unseated_43 at hw
  refine lp_ok (B_X12_unseated_43 v1 s) (fun x => G 43 [.ref 0, .int v1, mj_unk, mj_unk, .int x.1, .int x.2] [] (mkMs s) 0 0) _ ?_ _ _ (ok_bind hw)
  rintro ⟨v4, v5⟩ hb
  exact b_X12_unseated_43 hG (fun _ z => z) (fun y hw => by exact hG.2 _ _ _ _ _ _ _ _ _ (by refine ⟨Or.inl rfl, ?_⟩; refine ⟨Or.inl rfl, ?_⟩; refine ⟨Or.inl rfl, ?_⟩; refine ⟨Or.inl rfl, ?_⟩; refine ⟨Or.inr rfl, ?_⟩; exact trivial) (Nat.zero_le _) (Nat.zero_le _) (g_X12_unseated_85 hG  hw :)) hb

set_option maxHeartbeats 4000000 in
set_option maxRecDepth 20000 in
theorem g_X12_unseated {k : Option Value → mj_H → Prop} {G : mj_K} (hG : mj_cl2 cX12_unseated (TbX12 6 ((some FieldType.int)) ct_X12_unseated) k G) {v1 : Int32} {v2 : Int32} {v3 : Int32} {s : St} (hw : ok (F_X12_unseated v1 v2 v3 s) (fun p => k (some (.int p.1)) (mkMs p.2))) : G 0 [.ref 0, .int v1, .int v2, .int v3] [] (mkMs s) 0 0 := by
  unfold F_X12_unseated at hw
  refine mj_run hG.1 (fun pc => pc == 10 || pc == 18 || pc == 26 || pc == 37 || pc == 43 || pc == 85) 4000 ?_
  simp only [mj_step, mj_W_s, mj_fin, List.getElem?_cons_zero, List.getElem?_cons_succ, mj_go, Nat.reduceAdd, Nat.reduceSub, Nat.reduceLT, Nat.reduceLeDiff, Nat.zero_add, Nat.reduceEqDiff, Nat.reduceBEq, ↓reduceIte, Bool.false_eq_true, List.append_nil, List.nil_append, List.cons_append, Option.toList, and_true, true_and, true_or, or_true, reduceCtorEq, List.map_nil, bI_eq0, bI_eq1, bool_ft, pk_us, vnar0, vnar1, Bool.or_false, Bool.or_true, Bool.false_or, Bool.true_or, mj_kne, eq_self, Int32.reduceLT, Int32.reduceLE, Int32.reduceAdd, Int32.reduceSub, Int32.reduceMul, not_true_eq_false, not_false_eq_true, false_implies, true_implies, D_X12_unseated, mj_F_aload_n_k, mj_F_getfield_i, mj_F_goto_off, mj_F_iadd, mj_F_iaload, mj_F_iconst_n, mj_F_ifCond_eq_off, mj_F_ifCond_ne_off, mj_F_if_icmp_eq_off, mj_F_if_icmp_ge_off, mj_F_if_icmp_ne_off, mj_F_iinc_k_n, mj_F_iload_k, mj_F_iload_n_k, mj_F_invokevirtual_i, mj_F_ireturn, mj_F_istore_k, mj_set, mj_set0, mj_unk, mj_c2, mj_kc, FT_X12, FT_X12_1, L_X12_unseated, List.take_succ_cons, List.take_zero, List.drop_succ_cons, List.drop_zero, List.reverse_cons, List.reverse_nil, List.length_cons, List.length_nil, gS_M0, gMf_12, gMf_47, gS_M35, sS_Ma_35, J_X12_unseated]
  refine ⟨fun c => ?_, fun c => ?_⟩
  · replace hw := ok_t hw c
    refine c_X12_isWeek_in (ok_imp (ok_bind hw) ?_)
    intro p hw
    simp only [Option.toList, List.nil_append, List.cons_append, Nat.reduceSub]
    refine mj_run hG.1 (fun pc => pc == 10 || pc == 18 || pc == 26 || pc == 37 || pc == 43 || pc == 85) 4000 ?_
    simp only [mj_step, mj_W_s, mj_fin, List.getElem?_cons_zero, List.getElem?_cons_succ, mj_go, Nat.reduceAdd, Nat.reduceSub, Nat.reduceLT, Nat.reduceLeDiff, Nat.zero_add, Nat.reduceEqDiff, Nat.reduceBEq, ↓reduceIte, Bool.false_eq_true, List.append_nil, List.nil_append, List.cons_append, Option.toList, and_true, true_and, true_or, or_true, reduceCtorEq, List.map_nil, bI_eq0, bI_eq1, bool_ft, pk_us, vnar0, vnar1, Bool.or_false, Bool.or_true, Bool.false_or, Bool.true_or, mj_kne, eq_self, Int32.reduceLT, Int32.reduceLE, Int32.reduceAdd, Int32.reduceSub, Int32.reduceMul, not_true_eq_false, not_false_eq_true, false_implies, true_implies, D_X12_unseated, mj_F_aload_n_k, mj_F_getfield_i, mj_F_goto_off, mj_F_iadd, mj_F_iaload, mj_F_iconst_n, mj_F_ifCond_eq_off, mj_F_ifCond_ne_off, mj_F_if_icmp_eq_off, mj_F_if_icmp_ge_off, mj_F_if_icmp_ne_off, mj_F_iinc_k_n, mj_F_iload_k, mj_F_iload_n_k, mj_F_invokevirtual_i, mj_F_ireturn, mj_F_istore_k, mj_set, mj_set0, mj_unk, mj_c2, mj_kc, FT_X12, FT_X12_1, L_X12_unseated, List.take_succ_cons, List.take_zero, List.drop_succ_cons, List.drop_zero, List.reverse_cons, List.reverse_nil, List.length_cons, List.length_nil, gS_M0, gMf_12, gMf_47, gS_M35, sS_Ma_35, J_X12_unseated]
    refine ⟨fun c => ?_, fun c => ?_⟩
    · replace hw := ok_t hw c
      exact (ok_some hw :)
    · replace hw := ok_f hw c
      refine c_X12_isKnowing_in (ok_imp (ok_bind hw) ?_)
      intro p hw
      simp only [Option.toList, List.nil_append, List.cons_append, Nat.reduceSub]
      refine mj_run hG.1 (fun pc => pc == 10 || pc == 18 || pc == 26 || pc == 37 || pc == 43 || pc == 85) 4000 ?_
      simp only [mj_step, mj_W_s, mj_fin, List.getElem?_cons_zero, List.getElem?_cons_succ, mj_go, Nat.reduceAdd, Nat.reduceSub, Nat.reduceLT, Nat.reduceLeDiff, Nat.zero_add, Nat.reduceEqDiff, Nat.reduceBEq, ↓reduceIte, Bool.false_eq_true, List.append_nil, List.nil_append, List.cons_append, Option.toList, and_true, true_and, true_or, or_true, reduceCtorEq, List.map_nil, bI_eq0, bI_eq1, bool_ft, pk_us, vnar0, vnar1, Bool.or_false, Bool.or_true, Bool.false_or, Bool.true_or, mj_kne, eq_self, Int32.reduceLT, Int32.reduceLE, Int32.reduceAdd, Int32.reduceSub, Int32.reduceMul, not_true_eq_false, not_false_eq_true, false_implies, true_implies, D_X12_unseated, mj_F_aload_n_k, mj_F_getfield_i, mj_F_goto_off, mj_F_iadd, mj_F_iaload, mj_F_iconst_n, mj_F_ifCond_eq_off, mj_F_ifCond_ne_off, mj_F_if_icmp_eq_off, mj_F_if_icmp_ge_off, mj_F_if_icmp_ne_off, mj_F_iinc_k_n, mj_F_iload_k, mj_F_iload_n_k, mj_F_invokevirtual_i, mj_F_ireturn, mj_F_istore_k, mj_set, mj_set0, mj_unk, mj_c2, mj_kc, FT_X12, FT_X12_1, L_X12_unseated, List.take_succ_cons, List.take_zero, List.drop_succ_cons, List.drop_zero, List.reverse_cons, List.reverse_nil, List.length_cons, List.length_nil, gS_M0, gMf_12, gMf_47, gS_M35, sS_Ma_35, J_X12_unseated]
      refine ⟨fun c => ?_, fun c => ?_⟩
      · replace hw := ok_f hw c
        refine c_X12_seatAll_in (ok_imp (ok_bind hw) ?_)
        intro p hw
        simp only [Option.toList, List.nil_append, List.cons_append, Nat.reduceSub]
        refine mj_run hG.1 (fun pc => pc == 10 || pc == 18 || pc == 26 || pc == 37 || pc == 43 || pc == 85) 4000 ?_
        simp only [mj_step, mj_W_s, mj_fin, List.getElem?_cons_zero, List.getElem?_cons_succ, mj_go, Nat.reduceAdd, Nat.reduceSub, Nat.reduceLT, Nat.reduceLeDiff, Nat.zero_add, Nat.reduceEqDiff, Nat.reduceBEq, ↓reduceIte, Bool.false_eq_true, List.append_nil, List.nil_append, List.cons_append, Option.toList, and_true, true_and, true_or, or_true, reduceCtorEq, List.map_nil, bI_eq0, bI_eq1, bool_ft, pk_us, vnar0, vnar1, Bool.or_false, Bool.or_true, Bool.false_or, Bool.true_or, mj_kne, eq_self, Int32.reduceLT, Int32.reduceLE, Int32.reduceAdd, Int32.reduceSub, Int32.reduceMul, not_true_eq_false, not_false_eq_true, false_implies, true_implies, D_X12_unseated, mj_F_aload_n_k, mj_F_getfield_i, mj_F_goto_off, mj_F_iadd, mj_F_iaload, mj_F_iconst_n, mj_F_ifCond_eq_off, mj_F_ifCond_ne_off, mj_F_if_icmp_eq_off, mj_F_if_icmp_ge_off, mj_F_if_icmp_ne_off, mj_F_iinc_k_n, mj_F_iload_k, mj_F_iload_n_k, mj_F_invokevirtual_i, mj_F_ireturn, mj_F_istore_k, mj_set, mj_set0, mj_unk, mj_c2, mj_kc, FT_X12, FT_X12_1, L_X12_unseated, List.take_succ_cons, List.take_zero, List.drop_succ_cons, List.drop_zero, List.reverse_cons, List.reverse_nil, List.length_cons, List.length_nil, gS_M0, gMf_12, gMf_47, gS_M35, sS_Ma_35, J_X12_unseated]
        exact hG.2 _ _ _ _ _ _ _ _ _ (by refine ⟨Or.inr rfl, ?_⟩; refine ⟨Or.inr rfl, ?_⟩; refine ⟨Or.inl rfl, ?_⟩; refine ⟨Or.inl rfl, ?_⟩; refine ⟨Or.inr rfl, ?_⟩; refine ⟨Or.inr rfl, ?_⟩; exact trivial) (Nat.zero_le _) (Nat.zero_le _) (g_X12_unseated_43 hG  hw :)
      · replace hw := ok_t hw c
        exact (ok_some hw :)
  · replace hw := ok_f hw c
    refine c_X12_isVillage_in (ok_imp (ok_bind hw) ?_)
    intro p hw
    simp only [Option.toList, List.nil_append, List.cons_append, Nat.reduceSub]
    refine mj_run hG.1 (fun pc => pc == 10 || pc == 18 || pc == 26 || pc == 37 || pc == 43 || pc == 85) 4000 ?_
    simp only [mj_step, mj_W_s, mj_fin, List.getElem?_cons_zero, List.getElem?_cons_succ, mj_go, Nat.reduceAdd, Nat.reduceSub, Nat.reduceLT, Nat.reduceLeDiff, Nat.zero_add, Nat.reduceEqDiff, Nat.reduceBEq, ↓reduceIte, Bool.false_eq_true, List.append_nil, List.nil_append, List.cons_append, Option.toList, and_true, true_and, true_or, or_true, reduceCtorEq, List.map_nil, bI_eq0, bI_eq1, bool_ft, pk_us, vnar0, vnar1, Bool.or_false, Bool.or_true, Bool.false_or, Bool.true_or, mj_kne, eq_self, Int32.reduceLT, Int32.reduceLE, Int32.reduceAdd, Int32.reduceSub, Int32.reduceMul, not_true_eq_false, not_false_eq_true, false_implies, true_implies, D_X12_unseated, mj_F_aload_n_k, mj_F_getfield_i, mj_F_goto_off, mj_F_iadd, mj_F_iaload, mj_F_iconst_n, mj_F_ifCond_eq_off, mj_F_ifCond_ne_off, mj_F_if_icmp_eq_off, mj_F_if_icmp_ge_off, mj_F_if_icmp_ne_off, mj_F_iinc_k_n, mj_F_iload_k, mj_F_iload_n_k, mj_F_invokevirtual_i, mj_F_ireturn, mj_F_istore_k, mj_set, mj_set0, mj_unk, mj_c2, mj_kc, FT_X12, FT_X12_1, L_X12_unseated, List.take_succ_cons, List.take_zero, List.drop_succ_cons, List.drop_zero, List.reverse_cons, List.reverse_nil, List.length_cons, List.length_nil, gS_M0, gMf_12, gMf_47, gS_M35, sS_Ma_35, J_X12_unseated]
    refine ⟨fun c => ?_, fun c => ?_⟩
    · replace hw := ok_t hw c
      exact (ok_some hw :)
    · replace hw := ok_f hw c
      refine c_X12_isWeek_in (ok_imp (ok_bind hw) ?_)
      intro p hw
      simp only [Option.toList, List.nil_append, List.cons_append, Nat.reduceSub]
      refine mj_run hG.1 (fun pc => pc == 10 || pc == 18 || pc == 26 || pc == 37 || pc == 43 || pc == 85) 4000 ?_
      simp only [mj_step, mj_W_s, mj_fin, List.getElem?_cons_zero, List.getElem?_cons_succ, mj_go, Nat.reduceAdd, Nat.reduceSub, Nat.reduceLT, Nat.reduceLeDiff, Nat.zero_add, Nat.reduceEqDiff, Nat.reduceBEq, ↓reduceIte, Bool.false_eq_true, List.append_nil, List.nil_append, List.cons_append, Option.toList, and_true, true_and, true_or, or_true, reduceCtorEq, List.map_nil, bI_eq0, bI_eq1, bool_ft, pk_us, vnar0, vnar1, Bool.or_false, Bool.or_true, Bool.false_or, Bool.true_or, mj_kne, eq_self, Int32.reduceLT, Int32.reduceLE, Int32.reduceAdd, Int32.reduceSub, Int32.reduceMul, not_true_eq_false, not_false_eq_true, false_implies, true_implies, D_X12_unseated, mj_F_aload_n_k, mj_F_getfield_i, mj_F_goto_off, mj_F_iadd, mj_F_iaload, mj_F_iconst_n, mj_F_ifCond_eq_off, mj_F_ifCond_ne_off, mj_F_if_icmp_eq_off, mj_F_if_icmp_ge_off, mj_F_if_icmp_ne_off, mj_F_iinc_k_n, mj_F_iload_k, mj_F_iload_n_k, mj_F_invokevirtual_i, mj_F_ireturn, mj_F_istore_k, mj_set, mj_set0, mj_unk, mj_c2, mj_kc, FT_X12, FT_X12_1, L_X12_unseated, List.take_succ_cons, List.take_zero, List.drop_succ_cons, List.drop_zero, List.reverse_cons, List.reverse_nil, List.length_cons, List.length_nil, gS_M0, gMf_12, gMf_47, gS_M35, sS_Ma_35, J_X12_unseated]
      refine ⟨fun c => ?_, fun c => ?_⟩
      · replace hw := ok_t hw c
        exact (ok_some hw :)
      · replace hw := ok_f hw c
        refine c_X12_isKnowing_in (ok_imp (ok_bind hw) ?_)
        intro p hw
        simp only [Option.toList, List.nil_append, List.cons_append, Nat.reduceSub]
        refine mj_run hG.1 (fun pc => pc == 10 || pc == 18 || pc == 26 || pc == 37 || pc == 43 || pc == 85) 4000 ?_
        simp only [mj_step, mj_W_s, mj_fin, List.getElem?_cons_zero, List.getElem?_cons_succ, mj_go, Nat.reduceAdd, Nat.reduceSub, Nat.reduceLT, Nat.reduceLeDiff, Nat.zero_add, Nat.reduceEqDiff, Nat.reduceBEq, ↓reduceIte, Bool.false_eq_true, List.append_nil, List.nil_append, List.cons_append, Option.toList, and_true, true_and, true_or, or_true, reduceCtorEq, List.map_nil, bI_eq0, bI_eq1, bool_ft, pk_us, vnar0, vnar1, Bool.or_false, Bool.or_true, Bool.false_or, Bool.true_or, mj_kne, eq_self, Int32.reduceLT, Int32.reduceLE, Int32.reduceAdd, Int32.reduceSub, Int32.reduceMul, not_true_eq_false, not_false_eq_true, false_implies, true_implies, D_X12_unseated, mj_F_aload_n_k, mj_F_getfield_i, mj_F_goto_off, mj_F_iadd, mj_F_iaload, mj_F_iconst_n, mj_F_ifCond_eq_off, mj_F_ifCond_ne_off, mj_F_if_icmp_eq_off, mj_F_if_icmp_ge_off, mj_F_if_icmp_ne_off, mj_F_iinc_k_n, mj_F_iload_k, mj_F_iload_n_k, mj_F_invokevirtual_i, mj_F_ireturn, mj_F_istore_k, mj_set, mj_set0, mj_unk, mj_c2, mj_kc, FT_X12, FT_X12_1, L_X12_unseated, List.take_succ_cons, List.take_zero, List.drop_succ_cons, List.drop_zero, List.reverse_cons, List.reverse_nil, List.length_cons, List.length_nil, gS_M0, gMf_12, gMf_47, gS_M35, sS_Ma_35, J_X12_unseated]
        refine ⟨fun c => ?_, fun c => ?_⟩
        · replace hw := ok_f hw c
          refine c_X12_seatAll_in (ok_imp (ok_bind hw) ?_)
          intro p hw
          simp only [Option.toList, List.nil_append, List.cons_append, Nat.reduceSub]
          refine mj_run hG.1 (fun pc => pc == 10 || pc == 18 || pc == 26 || pc == 37 || pc == 43 || pc == 85) 4000 ?_
          simp only [mj_step, mj_W_s, mj_fin, List.getElem?_cons_zero, List.getElem?_cons_succ, mj_go, Nat.reduceAdd, Nat.reduceSub, Nat.reduceLT, Nat.reduceLeDiff, Nat.zero_add, Nat.reduceEqDiff, Nat.reduceBEq, ↓reduceIte, Bool.false_eq_true, List.append_nil, List.nil_append, List.cons_append, Option.toList, and_true, true_and, true_or, or_true, reduceCtorEq, List.map_nil, bI_eq0, bI_eq1, bool_ft, pk_us, vnar0, vnar1, Bool.or_false, Bool.or_true, Bool.false_or, Bool.true_or, mj_kne, eq_self, Int32.reduceLT, Int32.reduceLE, Int32.reduceAdd, Int32.reduceSub, Int32.reduceMul, not_true_eq_false, not_false_eq_true, false_implies, true_implies, D_X12_unseated, mj_F_aload_n_k, mj_F_getfield_i, mj_F_goto_off, mj_F_iadd, mj_F_iaload, mj_F_iconst_n, mj_F_ifCond_eq_off, mj_F_ifCond_ne_off, mj_F_if_icmp_eq_off, mj_F_if_icmp_ge_off, mj_F_if_icmp_ne_off, mj_F_iinc_k_n, mj_F_iload_k, mj_F_iload_n_k, mj_F_invokevirtual_i, mj_F_ireturn, mj_F_istore_k, mj_set, mj_set0, mj_unk, mj_c2, mj_kc, FT_X12, FT_X12_1, L_X12_unseated, List.take_succ_cons, List.take_zero, List.drop_succ_cons, List.drop_zero, List.reverse_cons, List.reverse_nil, List.length_cons, List.length_nil, gS_M0, gMf_12, gMf_47, gS_M35, sS_Ma_35, J_X12_unseated]
          exact hG.2 _ _ _ _ _ _ _ _ _ (by refine ⟨Or.inr rfl, ?_⟩; refine ⟨Or.inr rfl, ?_⟩; refine ⟨Or.inl rfl, ?_⟩; refine ⟨Or.inl rfl, ?_⟩; refine ⟨Or.inr rfl, ?_⟩; refine ⟨Or.inr rfl, ?_⟩; exact trivial) (Nat.zero_le _) (Nat.zero_le _) (g_X12_unseated_43 hG  hw :)
        · replace hw := ok_t hw c
          exact (ok_some hw :)

def c_X12_unseated : mj_S := fun as h k => ∃ (v1 : Int32) (v2 : Int32) (v3 : Int32) (s : St), as = [.ref 0, .int v1, .int v2, .int v3] ∧ h = mkMs s ∧ ok (F_X12_unseated v1 v2 v3 s) (fun p => k (some (.int p.1)) (mkMs p.2))
theorem c_X12_unseated_in {v1 : Int32} {v2 : Int32} {v3 : Int32} {s : St} {k : Option Value → mj_H → Prop} (hw : ok (F_X12_unseated v1 v2 v3 s) (fun p => k (some (.int p.1)) (mkMs p.2))) : c_X12_unseated [.ref 0, .int v1, .int v2, .int v3] (mkMs s) k := ⟨v1, v2, v3, s, rfl, rfl, hw⟩
theorem m_X12_unseated (l : Launch) : mj_Met l yX12_unseated cX12_unseated 6 ((some FieldType.int)) 11 0 0 c_X12_unseated := by
  refine mj_body2 false (TbX12 6 ((some FieldType.int)) ct_X12_unseated) (by decide) rfl rfl (fun h => nomatch h) (tfX12 _ (List.forall_mem_cons.mpr ⟨cfX12_274 (m_X12_isVillage l) (by decide), List.forall_mem_cons.mpr ⟨cfX12_287 (m_X12_isKnowing l) (by decide), List.forall_mem_cons.mpr ⟨cfX12_457 (m_X12_isWeek l) (by decide), List.forall_mem_cons.mpr ⟨cfX12_482 (m_X12_seatAll l) (by decide), fun _ h => nomatch h⟩⟩⟩⟩)) ?_
  rintro as h k ⟨v1, v2, v3, s, rfl, rfl, hw⟩
  exact ⟨rfl, fun G hG => g_X12_unseated hG hw⟩
