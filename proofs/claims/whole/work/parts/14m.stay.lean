/-! functional pictures: the rest -/
def B_X12_stay_22 (v1 : Int32) (v2 : Int32) (v3 : Int32) : Int32 × St → Option ((Int32 × St) ⊕ ((St)))
  | (v4, s) =>
  if 4 ≤ v4 then
    some (.inr s)
  else
    (wr s 1292 4 v4 0).bind fun s2 =>
    some (.inl ((v4 + 1), s2))
def B_X12_stay_45 (v1 : Int32) (v2 : Int32) (v3 : Int32) : Int32 × St → Option ((Int32 × St) ⊕ ((St)))
  | (v4, s) =>
  if (s.1 1212) ≤ v4 then
    some (.inr s)
  else
    (F_X12_children v4 v2 v3 s).bind fun r3 =>
    (F_X12_children v4 (v2 - 1) v3 s).bind fun r4 =>
    (rd s 1205 24 v4).bind fun x5 =>
    if x5 = v1 then
      if r3 = 0 then
        some (.inl ((v4 + 1), s))
      else
        if r4 = 0 then
          some (.inl ((v4 + 1), s))
        else
          (rd s 1291 24 v4).bind fun x6 =>
          if x6 = 0 then
            (rd s 1292 4 2).bind fun x7 =>
            (wr s 1292 4 2 (x7 + 1)).bind fun s8 =>
            (rd s8 1292 4 3).bind fun x9 =>
            (F_X12_childOf v4 v2 v3 0 s8).bind fun r10 =>
            (nz r3).bind fun _ =>
            (F_X12_childOf v4 (v2 - 1) v3 0 s8).bind fun r11 =>
            (nz r4).bind fun _ =>
            (wr s8 1292 4 3 (x9 + (((1000 * r10) / r3) - ((1000 * r11) / r4)))).bind fun s12 =>
            some (.inl ((v4 + 1), s12))
          else
            (rd s 1290 24 v4).bind fun x13 =>
            if v3 < x13 then
              (rd s 1292 4 2).bind fun x14 =>
              (wr s 1292 4 2 (x14 + 1)).bind fun s15 =>
              (rd s15 1292 4 3).bind fun x16 =>
              (F_X12_childOf v4 v2 v3 0 s15).bind fun r17 =>
              (nz r3).bind fun _ =>
              (F_X12_childOf v4 (v2 - 1) v3 0 s15).bind fun r18 =>
              (nz r4).bind fun _ =>
              (wr s15 1292 4 3 (x16 + (((1000 * r17) / r3) - ((1000 * r18) / r4)))).bind fun s19 =>
              some (.inl ((v4 + 1), s19))
            else
              (rd s 1289 24 v4).bind fun x20 =>
              if v2 < x20 then
                (rd s 1292 4 2).bind fun x21 =>
                (wr s 1292 4 2 (x21 + 1)).bind fun s22 =>
                (rd s22 1292 4 3).bind fun x23 =>
                (F_X12_childOf v4 v2 v3 0 s22).bind fun r24 =>
                (nz r3).bind fun _ =>
                (F_X12_childOf v4 (v2 - 1) v3 0 s22).bind fun r25 =>
                (nz r4).bind fun _ =>
                (wr s22 1292 4 3 (x23 + (((1000 * r24) / r3) - ((1000 * r25) / r4)))).bind fun s26 =>
                some (.inl ((v4 + 1), s26))
              else
                (rd s 1292 4 0).bind fun x27 =>
                (wr s 1292 4 0 (x27 + 1)).bind fun s28 =>
                (rd s28 1292 4 1).bind fun x29 =>
                (F_X12_childOf v4 v2 v3 0 s28).bind fun r30 =>
                (nz r3).bind fun _ =>
                (F_X12_childOf v4 (v2 - 1) v3 0 s28).bind fun r31 =>
                (nz r4).bind fun _ =>
                (wr s28 1292 4 1 (x29 + (((1000 * r30) / r3) - ((1000 * r31) / r4)))).bind fun s32 =>
                some (.inl ((v4 + 1), s32))
    else
      some (.inl ((v4 + 1), s))
def F_X12_stay_203 (s : St) : Option (Int32 × St) :=
  (rd s 1292 4 0).bind fun x33 =>
  if x33 < 2 then
    some ((-2000000), s)
  else
    (rd s 1292 4 2).bind fun x34 =>
    if 2 ≤ x34 then
      (rd s 1292 4 1).bind fun x35 =>
      (rd s 1292 4 0).bind fun x36 =>
      (nz x36).bind fun _ =>
      (rd s 1292 4 3).bind fun x37 =>
      (rd s 1292 4 2).bind fun x38 =>
      (nz x38).bind fun _ =>
      some (((x35 / x36) - (x37 / x38)), s)
    else
      some ((-2000000), s)
def F_X12_stay_45 (v1 : Int32) (v2 : Int32) (v3 : Int32) (v4 : Int32) (s : St) : Option (Int32 × St) :=
  (lp (B_X12_stay_45 v1 v2 v3) FU (v4, s)).bind (fun y => F_X12_stay_203 y)
def F_X12_stay_42 (v1 : Int32) (v2 : Int32) (v3 : Int32) (s : St) : Option (Int32 × St) :=
  F_X12_stay_45 v1 v2 v3 0 s
def F_X12_stay_22 (v1 : Int32) (v2 : Int32) (v3 : Int32) (v4 : Int32) (s : St) : Option (Int32 × St) :=
  (lp (B_X12_stay_22 v1 v2 v3) FU (v4, s)).bind (fun y => F_X12_stay_42 v1 v2 v3 y)
def F_X12_stay (v1 : Int32) (v2 : Int32) (v3 : Int32) (s : St) : Option (Int32 × St) :=
  (F_X12_isAsked v1 v2 v3 s).bind fun r1 =>
  if r1 = 0 then
    some ((-2000000), s)
  else
    if 1 ≤ v2 then
      F_X12_stay_22 v1 v2 v3 0 s
    else
      some ((-2000000), s)
theorem J_X12_stay : mj_t 7 8 = 15 ∧ mj_t 12 7 = 19 ∧ mj_t 25 17 = 42 ∧ mj_t 39 (-17) = 22 ∧ mj_t 51 152 = 203 ∧ mj_t 84 113 = 197 ∧ mj_t 89 108 = 197 ∧ mj_t 94 6 = 100 ∧ mj_t 97 100 = 197 ∧ mj_t 107 29 = 136 ∧ mj_t 118 18 = 136 ∧ mj_t 129 7 = 136 ∧ mj_t 133 4 = 137 ∧ mj_t 200 (-155) = 45 ∧ mj_t 210 13 = 223 ∧ mj_t 220 9 = 229 ∧ mj_t 226 30 = 256 ∧ (0 ≤ ((7 : Nat) : Int) + 8) = True ∧ (0 ≤ ((12 : Nat) : Int) + 7) = True ∧ (0 ≤ ((25 : Nat) : Int) + 17) = True ∧ (0 ≤ ((39 : Nat) : Int) + (-17)) = True ∧ (0 ≤ ((51 : Nat) : Int) + 152) = True ∧ (0 ≤ ((84 : Nat) : Int) + 113) = True ∧ (0 ≤ ((89 : Nat) : Int) + 108) = True ∧ (0 ≤ ((94 : Nat) : Int) + 6) = True ∧ (0 ≤ ((97 : Nat) : Int) + 100) = True ∧ (0 ≤ ((107 : Nat) : Int) + 29) = True ∧ (0 ≤ ((118 : Nat) : Int) + 18) = True ∧ (0 ≤ ((129 : Nat) : Int) + 7) = True ∧ (0 ≤ ((133 : Nat) : Int) + 4) = True ∧ (0 ≤ ((200 : Nat) : Int) + (-155)) = True ∧ (0 ≤ ((210 : Nat) : Int) + 13) = True ∧ (0 ≤ ((220 : Nat) : Int) + 9) = True ∧ (0 ≤ ((226 : Nat) : Int) + 30) = True := by and_intros <;> first | rfl | exact eq_true (by decide)
def ct_X12_stay : List (Nat × mj_Cs) := [(283, 0, 5, 12, 0, 0, c_X12_childOf), (422, 0, 4, 12, 0, 0, c_X12_isAsked), (463, 0, 4, 12, 0, 0, c_X12_children)]
theorem L_X12_stay : mj_lk ct_X12_stay 283 = some (0, 5, 12, 0, 0, c_X12_childOf) ∧ mj_lk ct_X12_stay 422 = some (0, 4, 12, 0, 0, c_X12_isAsked) ∧ mj_lk ct_X12_stay 463 = some (0, 4, 12, 0, 0, c_X12_children) := ⟨rfl, rfl, rfl⟩
set_option maxHeartbeats 4000000 in
set_option maxRecDepth 20000 in
theorem b_X12_stay_22 {k : Option Value → mj_H → Prop} {G : mj_K} (hG : mj_cl2 cX12_stay (TbX12 8 ((some FieldType.int)) ct_X12_stay) k G) (hC : mj_c8 cX12_stay (TbX12 8 ((some FieldType.int)) ct_X12_stay) G) {v1 : Int32} {v2 : Int32} {v3 : Int32} {P : Int32 × St → Prop} {K : (St) → Prop} (hP : ∀ x, P x → G 22 [.ref 0, .int v1, .int v2, .int v3, .int x.1] [] (mkMs x.2) 0 0) (hK0 : ∀ y, K y → G 42 [.ref 0, .int v1, .int v2, .int v3] [] (mkMs y) 0 0) {v4 : Int32} {s : St} (hw : ok (B_X12_stay_22 v1 v2 v3 (v4, s)) (Sum.elim P K)) : G 22 [.ref 0, .int v1, .int v2, .int v3, .int v4] [] (mkMs s) 0 0 := by
  unfold B_X12_stay_22 at hw
  refine mj_run hG.1 (fun pc => pc == 7 || pc == 22 || pc == 42 || pc == 45 || pc == 62 || pc == 74 || pc == 172 || pc == 187 || pc == 190 || pc == 203) 4000 ?_
  simp only [mj_step, mj_W_s, mj_fin, List.getElem?_cons_zero, List.getElem?_cons_succ, mj_go, Nat.reduceAdd, Nat.reduceSub, Nat.reduceLT, Nat.reduceLeDiff, Nat.zero_add, Nat.reduceEqDiff, Nat.reduceBEq, ↓reduceIte, Bool.false_eq_true, List.append_nil, List.nil_append, List.cons_append, Option.toList, and_true, true_and, true_or, or_true, reduceCtorEq, List.map_nil, bI_eq0, bI_eq1, bool_ft, pk_us, vnar0, vnar1, Bool.or_false, Bool.or_true, Bool.false_or, Bool.true_or, mj_kne, eq_self, Int32.reduceLT, Int32.reduceLE, Int32.reduceAdd, Int32.reduceSub, Int32.reduceMul, not_true_eq_false, not_false_eq_true, false_implies, true_implies, D_X12_stay_0, D_X12_stay_1, D_X12_stay_2, D_X12_stay_3, mj_F_aload_n_k, mj_F_baload, mj_F_dup2, mj_F_getfield_i, mj_F_goto_off, mj_F_iadd, mj_F_iaload, mj_F_iastore, mj_F_iconst_n, mj_F_idiv, mj_F_ifCond_eq_off, mj_F_ifCond_ne_off, mj_F_if_icmp_ge_off, mj_F_if_icmp_gt_off, mj_F_if_icmp_lt_off, mj_F_if_icmp_ne_off, mj_F_iinc_k_n, mj_F_iload_k, mj_F_iload_n_k, mj_F_imul, mj_F_invokevirtual_i, mj_F_ireturn, mj_F_istore_k, mj_F_isub, mj_F_ldc_w_i, mj_F_sipush_n, mj_set, mj_set0, mj_unk, mj_c2, mj_kc, FT_X12, FT_X12_1, KT_X12, L_X12_stay, List.take_succ_cons, List.take_zero, List.drop_succ_cons, List.drop_zero, List.reverse_cons, List.reverse_nil, List.length_cons, List.length_nil, gS_M0, gMf_92, gS_M72, sS_Ma_72, gMf_12, gMf_5, gS_M5, sS_Ma_5, gMf_91, gS_M71, sS_Ma_71, gMf_90, gS_M70, sS_Ma_70, gMf_89, gS_M69, sS_Ma_69, J_X12_stay]
  refine ⟨fun c => ?_, fun c => ?_⟩
  · replace hw := ok_t hw c
    exact hG.2 _ _ _ _ _ _ _ _ _ (by refine ⟨Or.inr rfl, ?_⟩; refine ⟨Or.inr rfl, ?_⟩; refine ⟨Or.inr rfl, ?_⟩; refine ⟨Or.inr rfl, ?_⟩; exact trivial) (Nat.zero_le _) (Nat.zero_le _) (hK0 _ (ok_some hw :) :)
  · replace hw := ok_f hw c
    refine ⟨(ok_wr hw).1, ?_⟩
    replace hw := (ok_wr hw).2
    exact hG.2 _ _ _ _ _ _ _ _ _ (by refine ⟨Or.inr rfl, ?_⟩; refine ⟨Or.inr rfl, ?_⟩; refine ⟨Or.inr rfl, ?_⟩; refine ⟨Or.inr rfl, ?_⟩; refine ⟨Or.inr rfl, ?_⟩; exact trivial) (Nat.zero_le _) (Nat.zero_le _) (hP _ (ok_some hw :) :)

set_option maxHeartbeats 4000000 in
set_option maxRecDepth 20000 in
theorem b_X12_stay_45 {k : Option Value → mj_H → Prop} {G : mj_K} (hG : mj_cl2 cX12_stay (TbX12 8 ((some FieldType.int)) ct_X12_stay) k G) (hC : mj_c8 cX12_stay (TbX12 8 ((some FieldType.int)) ct_X12_stay) G) {v1 : Int32} {v2 : Int32} {v3 : Int32} {P : Int32 × St → Prop} {K : (St) → Prop} (hP : ∀ x, P x → G 45 [.ref 0, .int v1, .int v2, .int v3, .int x.1] [] (mkMs x.2) 0 0) (hK0 : ∀ y, K y → G 203 [.ref 0] [] (mkMs y) 0 0) {v4 : Int32} {s : St} (hw : ok (B_X12_stay_45 v1 v2 v3 (v4, s)) (Sum.elim P K)) : G 45 [.ref 0, .int v1, .int v2, .int v3, .int v4] [] (mkMs s) 0 0 := by
  unfold B_X12_stay_45 at hw
  refine mj_run hG.1 (fun pc => pc == 7 || pc == 22 || pc == 42 || pc == 45 || pc == 62 || pc == 74 || pc == 172 || pc == 187 || pc == 190 || pc == 203) 4000 ?_
  simp only [mj_step, mj_W_s, mj_fin, List.getElem?_cons_zero, List.getElem?_cons_succ, mj_go, Nat.reduceAdd, Nat.reduceSub, Nat.reduceLT, Nat.reduceLeDiff, Nat.zero_add, Nat.reduceEqDiff, Nat.reduceBEq, ↓reduceIte, Bool.false_eq_true, List.append_nil, List.nil_append, List.cons_append, Option.toList, and_true, true_and, true_or, or_true, reduceCtorEq, List.map_nil, bI_eq0, bI_eq1, bool_ft, pk_us, vnar0, vnar1, Bool.or_false, Bool.or_true, Bool.false_or, Bool.true_or, mj_kne, eq_self, Int32.reduceLT, Int32.reduceLE, Int32.reduceAdd, Int32.reduceSub, Int32.reduceMul, not_true_eq_false, not_false_eq_true, false_implies, true_implies, D_X12_stay_0, D_X12_stay_1, D_X12_stay_2, D_X12_stay_3, mj_F_aload_n_k, mj_F_baload, mj_F_dup2, mj_F_getfield_i, mj_F_goto_off, mj_F_iadd, mj_F_iaload, mj_F_iastore, mj_F_iconst_n, mj_F_idiv, mj_F_ifCond_eq_off, mj_F_ifCond_ne_off, mj_F_if_icmp_ge_off, mj_F_if_icmp_gt_off, mj_F_if_icmp_lt_off, mj_F_if_icmp_ne_off, mj_F_iinc_k_n, mj_F_iload_k, mj_F_iload_n_k, mj_F_imul, mj_F_invokevirtual_i, mj_F_ireturn, mj_F_istore_k, mj_F_isub, mj_F_ldc_w_i, mj_F_sipush_n, mj_set, mj_set0, mj_unk, mj_c2, mj_kc, FT_X12, FT_X12_1, KT_X12, L_X12_stay, List.take_succ_cons, List.take_zero, List.drop_succ_cons, List.drop_zero, List.reverse_cons, List.reverse_nil, List.length_cons, List.length_nil, gS_M0, gMf_92, gS_M72, sS_Ma_72, gMf_12, gMf_5, gS_M5, sS_Ma_5, gMf_91, gS_M71, sS_Ma_71, gMf_90, gS_M70, sS_Ma_70, gMf_89, gS_M69, sS_Ma_69, J_X12_stay]
  refine ⟨fun c => ?_, fun c => ?_⟩
  · replace hw := ok_t hw c
    exact hG.2 _ _ _ _ _ _ _ _ _ (by refine ⟨Or.inr rfl, ?_⟩; exact trivial) (Nat.zero_le _) (Nat.zero_le _) (hK0 _ (ok_some hw :) :)
  · replace hw := ok_f hw c
    refine c_X12_children_in (ok_imp (ok_bind hw) ?_)
    intro p hw
    simp only [Option.toList, List.nil_append, List.cons_append, Nat.reduceSub]
    refine mj_run hG.1 (fun pc => pc == 7 || pc == 22 || pc == 42 || pc == 45 || pc == 62 || pc == 74 || pc == 172 || pc == 187 || pc == 190 || pc == 203) 4000 ?_
    simp only [mj_step, mj_W_s, mj_fin, List.getElem?_cons_zero, List.getElem?_cons_succ, mj_go, Nat.reduceAdd, Nat.reduceSub, Nat.reduceLT, Nat.reduceLeDiff, Nat.zero_add, Nat.reduceEqDiff, Nat.reduceBEq, ↓reduceIte, Bool.false_eq_true, List.append_nil, List.nil_append, List.cons_append, Option.toList, and_true, true_and, true_or, or_true, reduceCtorEq, List.map_nil, bI_eq0, bI_eq1, bool_ft, pk_us, vnar0, vnar1, Bool.or_false, Bool.or_true, Bool.false_or, Bool.true_or, mj_kne, eq_self, Int32.reduceLT, Int32.reduceLE, Int32.reduceAdd, Int32.reduceSub, Int32.reduceMul, not_true_eq_false, not_false_eq_true, false_implies, true_implies, D_X12_stay_0, D_X12_stay_1, D_X12_stay_2, D_X12_stay_3, mj_F_aload_n_k, mj_F_baload, mj_F_dup2, mj_F_getfield_i, mj_F_goto_off, mj_F_iadd, mj_F_iaload, mj_F_iastore, mj_F_iconst_n, mj_F_idiv, mj_F_ifCond_eq_off, mj_F_ifCond_ne_off, mj_F_if_icmp_ge_off, mj_F_if_icmp_gt_off, mj_F_if_icmp_lt_off, mj_F_if_icmp_ne_off, mj_F_iinc_k_n, mj_F_iload_k, mj_F_iload_n_k, mj_F_imul, mj_F_invokevirtual_i, mj_F_ireturn, mj_F_istore_k, mj_F_isub, mj_F_ldc_w_i, mj_F_sipush_n, mj_set, mj_set0, mj_unk, mj_c2, mj_kc, FT_X12, FT_X12_1, KT_X12, L_X12_stay, List.take_succ_cons, List.take_zero, List.drop_succ_cons, List.drop_zero, List.reverse_cons, List.reverse_nil, List.length_cons, List.length_nil, gS_M0, gMf_92, gS_M72, sS_Ma_72, gMf_12, gMf_5, gS_M5, sS_Ma_5, gMf_91, gS_M71, sS_Ma_71, gMf_90, gS_M70, sS_Ma_70, gMf_89, gS_M69, sS_Ma_69, J_X12_stay]
    refine c_X12_children_in (ok_imp (ok_bind hw) ?_)
    intro p hw
    simp only [Option.toList, List.nil_append, List.cons_append, Nat.reduceSub]
    refine mj_run hG.1 (fun pc => pc == 7 || pc == 22 || pc == 42 || pc == 45 || pc == 62 || pc == 74 || pc == 172 || pc == 187 || pc == 190 || pc == 203) 4000 ?_
    simp only [mj_step, mj_W_s, mj_fin, List.getElem?_cons_zero, List.getElem?_cons_succ, mj_go, Nat.reduceAdd, Nat.reduceSub, Nat.reduceLT, Nat.reduceLeDiff, Nat.zero_add, Nat.reduceEqDiff, Nat.reduceBEq, ↓reduceIte, Bool.false_eq_true, List.append_nil, List.nil_append, List.cons_append, Option.toList, and_true, true_and, true_or, or_true, reduceCtorEq, List.map_nil, bI_eq0, bI_eq1, bool_ft, pk_us, vnar0, vnar1, Bool.or_false, Bool.or_true, Bool.false_or, Bool.true_or, mj_kne, eq_self, Int32.reduceLT, Int32.reduceLE, Int32.reduceAdd, Int32.reduceSub, Int32.reduceMul, not_true_eq_false, not_false_eq_true, false_implies, true_implies, D_X12_stay_0, D_X12_stay_1, D_X12_stay_2, D_X12_stay_3, mj_F_aload_n_k, mj_F_baload, mj_F_dup2, mj_F_getfield_i, mj_F_goto_off, mj_F_iadd, mj_F_iaload, mj_F_iastore, mj_F_iconst_n, mj_F_idiv, mj_F_ifCond_eq_off, mj_F_ifCond_ne_off, mj_F_if_icmp_ge_off, mj_F_if_icmp_gt_off, mj_F_if_icmp_lt_off, mj_F_if_icmp_ne_off, mj_F_iinc_k_n, mj_F_iload_k, mj_F_iload_n_k, mj_F_imul, mj_F_invokevirtual_i, mj_F_ireturn, mj_F_istore_k, mj_F_isub, mj_F_ldc_w_i, mj_F_sipush_n, mj_set, mj_set0, mj_unk, mj_c2, mj_kc, FT_X12, FT_X12_1, KT_X12, L_X12_stay, List.take_succ_cons, List.take_zero, List.drop_succ_cons, List.drop_zero, List.reverse_cons, List.reverse_nil, List.length_cons, List.length_nil, gS_M0, gMf_92, gS_M72, sS_Ma_72, gMf_12, gMf_5, gS_M5, sS_Ma_5, gMf_91, gS_M71, sS_Ma_71, gMf_90, gS_M70, sS_Ma_70, gMf_89, gS_M69, sS_Ma_69, J_X12_stay]
    refine ⟨(ok_rd hw).1, ?_⟩
    replace hw := (ok_rd hw).2
    refine ⟨fun c => ?_, fun c => ?_⟩
    · replace hw := ok_f hw c
      exact hG.2 _ _ _ _ _ _ _ _ _ (by refine ⟨Or.inr rfl, ?_⟩; refine ⟨Or.inr rfl, ?_⟩; refine ⟨Or.inr rfl, ?_⟩; refine ⟨Or.inr rfl, ?_⟩; refine ⟨Or.inr rfl, ?_⟩; exact trivial) (Nat.zero_le _) (Nat.zero_le _) (hP _ (ok_some hw :) :)
    · replace hw := ok_t hw c
      refine ⟨fun c => ?_, fun c => ?_⟩
      · replace hw := ok_t hw c
        exact hG.2 _ _ _ _ _ _ _ _ _ (by refine ⟨Or.inr rfl, ?_⟩; refine ⟨Or.inr rfl, ?_⟩; refine ⟨Or.inr rfl, ?_⟩; refine ⟨Or.inr rfl, ?_⟩; refine ⟨Or.inr rfl, ?_⟩; exact trivial) (Nat.zero_le _) (Nat.zero_le _) (hP _ (ok_some hw :) :)
      · replace hw := ok_f hw c
        refine ⟨fun c => ?_, fun c => ?_⟩
        · replace hw := ok_f hw c
          refine ⟨(ok_rd hw).1, ?_⟩
          replace hw := (ok_rd hw).2
          refine ⟨fun c => ?_, fun c => ?_⟩
          · replace hw := ok_t hw c
            refine ⟨(ok_rd hw).1, ?_⟩
            replace hw := (ok_rd hw).2
            refine ⟨(ok_wr hw).1, ?_⟩
            replace hw := (ok_wr hw).2
            refine ⟨(ok_rd hw).1, ?_⟩
            replace hw := (ok_rd hw).2
            refine c_X12_childOf_in (ok_imp (ok_bind hw) ?_)
            intro p hw
            simp only [Option.toList, List.nil_append, List.cons_append, Nat.reduceSub]
            refine mj_run hG.1 (fun pc => pc == 7 || pc == 22 || pc == 42 || pc == 45 || pc == 62 || pc == 74 || pc == 172 || pc == 187 || pc == 190 || pc == 203) 4000 ?_
            simp only [mj_step, mj_W_s, mj_fin, List.getElem?_cons_zero, List.getElem?_cons_succ, mj_go, Nat.reduceAdd, Nat.reduceSub, Nat.reduceLT, Nat.reduceLeDiff, Nat.zero_add, Nat.reduceEqDiff, Nat.reduceBEq, ↓reduceIte, Bool.false_eq_true, List.append_nil, List.nil_append, List.cons_append, Option.toList, and_true, true_and, true_or, or_true, reduceCtorEq, List.map_nil, bI_eq0, bI_eq1, bool_ft, pk_us, vnar0, vnar1, Bool.or_false, Bool.or_true, Bool.false_or, Bool.true_or, mj_kne, eq_self, Int32.reduceLT, Int32.reduceLE, Int32.reduceAdd, Int32.reduceSub, Int32.reduceMul, not_true_eq_false, not_false_eq_true, false_implies, true_implies, D_X12_stay_0, D_X12_stay_1, D_X12_stay_2, D_X12_stay_3, mj_F_aload_n_k, mj_F_baload, mj_F_dup2, mj_F_getfield_i, mj_F_goto_off, mj_F_iadd, mj_F_iaload, mj_F_iastore, mj_F_iconst_n, mj_F_idiv, mj_F_ifCond_eq_off, mj_F_ifCond_ne_off, mj_F_if_icmp_ge_off, mj_F_if_icmp_gt_off, mj_F_if_icmp_lt_off, mj_F_if_icmp_ne_off, mj_F_iinc_k_n, mj_F_iload_k, mj_F_iload_n_k, mj_F_imul, mj_F_invokevirtual_i, mj_F_ireturn, mj_F_istore_k, mj_F_isub, mj_F_ldc_w_i, mj_F_sipush_n, mj_set, mj_set0, mj_unk, mj_c2, mj_kc, FT_X12, FT_X12_1, KT_X12, L_X12_stay, List.take_succ_cons, List.take_zero, List.drop_succ_cons, List.drop_zero, List.reverse_cons, List.reverse_nil, List.length_cons, List.length_nil, gS_M0, gMf_92, gS_M72, sS_Ma_72, gMf_12, gMf_5, gS_M5, sS_Ma_5, gMf_91, gS_M71, sS_Ma_71, gMf_90, gS_M70, sS_Ma_70, gMf_89, gS_M69, sS_Ma_69, J_X12_stay]
            refine ⟨(ok_nz hw).1, ?_⟩
            replace hw := (ok_nz hw).2
            refine hC 187 283 _ _ _ _ _ (by simp only [D_X12_stay_0, D_X12_stay_1, D_X12_stay_2, D_X12_stay_3]) ?_
            simp only [List.all_cons, List.all_nil, mj_isi, Bool.and_self, mj_fin, List.getElem?_cons_zero, List.getElem?_cons_succ, mj_go, Nat.reduceAdd, Nat.reduceSub, Nat.reduceLT, Nat.reduceLeDiff, Nat.zero_add, Nat.reduceEqDiff, Nat.reduceBEq, ↓reduceIte, Bool.false_eq_true, List.append_nil, List.nil_append, List.cons_append, Option.toList, and_true, true_and, true_or, or_true, reduceCtorEq, List.map_nil, bI_eq0, bI_eq1, bool_ft, pk_us, vnar0, vnar1, Bool.or_false, Bool.or_true, Bool.false_or, Bool.true_or, mj_kne, eq_self, Int32.reduceLT, Int32.reduceLE, Int32.reduceAdd, Int32.reduceSub, Int32.reduceMul, not_true_eq_false, not_false_eq_true, false_implies, true_implies, mj_set, mj_set0, mj_unk, mj_c2, mj_kc, FT_X12, FT_X12_1, KT_X12, L_X12_stay, List.take_succ_cons, List.take_zero, List.drop_succ_cons, List.drop_zero, List.reverse_cons, List.reverse_nil, List.length_cons, List.length_nil, gS_M0, gMf_92, gS_M72, sS_Ma_72, gMf_12, gMf_5, gS_M5, sS_Ma_5, gMf_91, gS_M71, sS_Ma_71, gMf_90, gS_M70, sS_Ma_70, gMf_89, gS_M69, sS_Ma_69, J_X12_stay]
            refine c_X12_childOf_in (ok_imp (ok_bind hw) ?_)
            intro p hw
            simp only [Option.toList, List.nil_append, List.cons_append, Nat.reduceSub]
            refine mj_run hG.1 (fun pc => pc == 7 || pc == 22 || pc == 42 || pc == 45 || pc == 62 || pc == 74 || pc == 172 || pc == 187 || pc == 190 || pc == 203) 4000 ?_
            simp only [mj_step, mj_W_s, mj_fin, List.getElem?_cons_zero, List.getElem?_cons_succ, mj_go, Nat.reduceAdd, Nat.reduceSub, Nat.reduceLT, Nat.reduceLeDiff, Nat.zero_add, Nat.reduceEqDiff, Nat.reduceBEq, ↓reduceIte, Bool.false_eq_true, List.append_nil, List.nil_append, List.cons_append, Option.toList, and_true, true_and, true_or, or_true, reduceCtorEq, List.map_nil, bI_eq0, bI_eq1, bool_ft, pk_us, vnar0, vnar1, Bool.or_false, Bool.or_true, Bool.false_or, Bool.true_or, mj_kne, eq_self, Int32.reduceLT, Int32.reduceLE, Int32.reduceAdd, Int32.reduceSub, Int32.reduceMul, not_true_eq_false, not_false_eq_true, false_implies, true_implies, D_X12_stay_0, D_X12_stay_1, D_X12_stay_2, D_X12_stay_3, mj_F_aload_n_k, mj_F_baload, mj_F_dup2, mj_F_getfield_i, mj_F_goto_off, mj_F_iadd, mj_F_iaload, mj_F_iastore, mj_F_iconst_n, mj_F_idiv, mj_F_ifCond_eq_off, mj_F_ifCond_ne_off, mj_F_if_icmp_ge_off, mj_F_if_icmp_gt_off, mj_F_if_icmp_lt_off, mj_F_if_icmp_ne_off, mj_F_iinc_k_n, mj_F_iload_k, mj_F_iload_n_k, mj_F_imul, mj_F_invokevirtual_i, mj_F_ireturn, mj_F_istore_k, mj_F_isub, mj_F_ldc_w_i, mj_F_sipush_n, mj_set, mj_set0, mj_unk, mj_c2, mj_kc, FT_X12, FT_X12_1, KT_X12, L_X12_stay, List.take_succ_cons, List.take_zero, List.drop_succ_cons, List.drop_zero, List.reverse_cons, List.reverse_nil, List.length_cons, List.length_nil, gS_M0, gMf_92, gS_M72, sS_Ma_72, gMf_12, gMf_5, gS_M5, sS_Ma_5, gMf_91, gS_M71, sS_Ma_71, gMf_90, gS_M70, sS_Ma_70, gMf_89, gS_M69, sS_Ma_69, J_X12_stay]
            refine ⟨(ok_nz hw).1, ?_⟩
            replace hw := (ok_nz hw).2
            refine ⟨(ok_wr hw).1, ?_⟩
            replace hw := (ok_wr hw).2
            exact hG.2 _ _ _ _ _ _ _ _ _ (by refine ⟨Or.inr rfl, ?_⟩; refine ⟨Or.inr rfl, ?_⟩; refine ⟨Or.inr rfl, ?_⟩; refine ⟨Or.inr rfl, ?_⟩; refine ⟨Or.inr rfl, ?_⟩; exact trivial) (Nat.zero_le _) (Nat.zero_le _) (hP _ (ok_some hw :) :)
          · replace hw := ok_f hw c
            refine ⟨(ok_rd hw).1, ?_⟩
            replace hw := (ok_rd hw).2
            refine ⟨fun c => ?_, fun c => ?_⟩
            · replace hw := ok_t hw c
              refine ⟨(ok_rd hw).1, ?_⟩
              replace hw := (ok_rd hw).2
              refine ⟨(ok_wr hw).1, ?_⟩
              replace hw := (ok_wr hw).2
              refine ⟨(ok_rd hw).1, ?_⟩
              replace hw := (ok_rd hw).2
              refine c_X12_childOf_in (ok_imp (ok_bind hw) ?_)
              intro p hw
              simp only [Option.toList, List.nil_append, List.cons_append, Nat.reduceSub]
              refine mj_run hG.1 (fun pc => pc == 7 || pc == 22 || pc == 42 || pc == 45 || pc == 62 || pc == 74 || pc == 172 || pc == 187 || pc == 190 || pc == 203) 4000 ?_
              simp only [mj_step, mj_W_s, mj_fin, List.getElem?_cons_zero, List.getElem?_cons_succ, mj_go, Nat.reduceAdd, Nat.reduceSub, Nat.reduceLT, Nat.reduceLeDiff, Nat.zero_add, Nat.reduceEqDiff, Nat.reduceBEq, ↓reduceIte, Bool.false_eq_true, List.append_nil, List.nil_append, List.cons_append, Option.toList, and_true, true_and, true_or, or_true, reduceCtorEq, List.map_nil, bI_eq0, bI_eq1, bool_ft, pk_us, vnar0, vnar1, Bool.or_false, Bool.or_true, Bool.false_or, Bool.true_or, mj_kne, eq_self, Int32.reduceLT, Int32.reduceLE, Int32.reduceAdd, Int32.reduceSub, Int32.reduceMul, not_true_eq_false, not_false_eq_true, false_implies, true_implies, D_X12_stay_0, D_X12_stay_1, D_X12_stay_2, D_X12_stay_3, mj_F_aload_n_k, mj_F_baload, mj_F_dup2, mj_F_getfield_i, mj_F_goto_off, mj_F_iadd, mj_F_iaload, mj_F_iastore, mj_F_iconst_n, mj_F_idiv, mj_F_ifCond_eq_off, mj_F_ifCond_ne_off, mj_F_if_icmp_ge_off, mj_F_if_icmp_gt_off, mj_F_if_icmp_lt_off, mj_F_if_icmp_ne_off, mj_F_iinc_k_n, mj_F_iload_k, mj_F_iload_n_k, mj_F_imul, mj_F_invokevirtual_i, mj_F_ireturn, mj_F_istore_k, mj_F_isub, mj_F_ldc_w_i, mj_F_sipush_n, mj_set, mj_set0, mj_unk, mj_c2, mj_kc, FT_X12, FT_X12_1, KT_X12, L_X12_stay, List.take_succ_cons, List.take_zero, List.drop_succ_cons, List.drop_zero, List.reverse_cons, List.reverse_nil, List.length_cons, List.length_nil, gS_M0, gMf_92, gS_M72, sS_Ma_72, gMf_12, gMf_5, gS_M5, sS_Ma_5, gMf_91, gS_M71, sS_Ma_71, gMf_90, gS_M70, sS_Ma_70, gMf_89, gS_M69, sS_Ma_69, J_X12_stay]
              refine ⟨(ok_nz hw).1, ?_⟩
              replace hw := (ok_nz hw).2
              refine hC 187 283 _ _ _ _ _ (by simp only [D_X12_stay_0, D_X12_stay_1, D_X12_stay_2, D_X12_stay_3]) ?_
              simp only [List.all_cons, List.all_nil, mj_isi, Bool.and_self, mj_fin, List.getElem?_cons_zero, List.getElem?_cons_succ, mj_go, Nat.reduceAdd, Nat.reduceSub, Nat.reduceLT, Nat.reduceLeDiff, Nat.zero_add, Nat.reduceEqDiff, Nat.reduceBEq, ↓reduceIte, Bool.false_eq_true, List.append_nil, List.nil_append, List.cons_append, Option.toList, and_true, true_and, true_or, or_true, reduceCtorEq, List.map_nil, bI_eq0, bI_eq1, bool_ft, pk_us, vnar0, vnar1, Bool.or_false, Bool.or_true, Bool.false_or, Bool.true_or, mj_kne, eq_self, Int32.reduceLT, Int32.reduceLE, Int32.reduceAdd, Int32.reduceSub, Int32.reduceMul, not_true_eq_false, not_false_eq_true, false_implies, true_implies, mj_set, mj_set0, mj_unk, mj_c2, mj_kc, FT_X12, FT_X12_1, KT_X12, L_X12_stay, List.take_succ_cons, List.take_zero, List.drop_succ_cons, List.drop_zero, List.reverse_cons, List.reverse_nil, List.length_cons, List.length_nil, gS_M0, gMf_92, gS_M72, sS_Ma_72, gMf_12, gMf_5, gS_M5, sS_Ma_5, gMf_91, gS_M71, sS_Ma_71, gMf_90, gS_M70, sS_Ma_70, gMf_89, gS_M69, sS_Ma_69, J_X12_stay]
              refine c_X12_childOf_in (ok_imp (ok_bind hw) ?_)
              intro p hw
              simp only [Option.toList, List.nil_append, List.cons_append, Nat.reduceSub]
              refine mj_run hG.1 (fun pc => pc == 7 || pc == 22 || pc == 42 || pc == 45 || pc == 62 || pc == 74 || pc == 172 || pc == 187 || pc == 190 || pc == 203) 4000 ?_
              simp only [mj_step, mj_W_s, mj_fin, List.getElem?_cons_zero, List.getElem?_cons_succ, mj_go, Nat.reduceAdd, Nat.reduceSub, Nat.reduceLT, Nat.reduceLeDiff, Nat.zero_add, Nat.reduceEqDiff, Nat.reduceBEq, ↓reduceIte, Bool.false_eq_true, List.append_nil, List.nil_append, List.cons_append, Option.toList, and_true, true_and, true_or, or_true, reduceCtorEq, List.map_nil, bI_eq0, bI_eq1, bool_ft, pk_us, vnar0, vnar1, Bool.or_false, Bool.or_true, Bool.false_or, Bool.true_or, mj_kne, eq_self, Int32.reduceLT, Int32.reduceLE, Int32.reduceAdd, Int32.reduceSub, Int32.reduceMul, not_true_eq_false, not_false_eq_true, false_implies, true_implies, D_X12_stay_0, D_X12_stay_1, D_X12_stay_2, D_X12_stay_3, mj_F_aload_n_k, mj_F_baload, mj_F_dup2, mj_F_getfield_i, mj_F_goto_off, mj_F_iadd, mj_F_iaload, mj_F_iastore, mj_F_iconst_n, mj_F_idiv, mj_F_ifCond_eq_off, mj_F_ifCond_ne_off, mj_F_if_icmp_ge_off, mj_F_if_icmp_gt_off, mj_F_if_icmp_lt_off, mj_F_if_icmp_ne_off, mj_F_iinc_k_n, mj_F_iload_k, mj_F_iload_n_k, mj_F_imul, mj_F_invokevirtual_i, mj_F_ireturn, mj_F_istore_k, mj_F_isub, mj_F_ldc_w_i, mj_F_sipush_n, mj_set, mj_set0, mj_unk, mj_c2, mj_kc, FT_X12, FT_X12_1, KT_X12, L_X12_stay, List.take_succ_cons, List.take_zero, List.drop_succ_cons, List.drop_zero, List.reverse_cons, List.reverse_nil, List.length_cons, List.length_nil, gS_M0, gMf_92, gS_M72, sS_Ma_72, gMf_12, gMf_5, gS_M5, sS_Ma_5, gMf_91, gS_M71, sS_Ma_71, gMf_90, gS_M70, sS_Ma_70, gMf_89, gS_M69, sS_Ma_69, J_X12_stay]
              refine ⟨(ok_nz hw).1, ?_⟩
              replace hw := (ok_nz hw).2
              refine ⟨(ok_wr hw).1, ?_⟩
              replace hw := (ok_wr hw).2
              exact hG.2 _ _ _ _ _ _ _ _ _ (by refine ⟨Or.inr rfl, ?_⟩; refine ⟨Or.inr rfl, ?_⟩; refine ⟨Or.inr rfl, ?_⟩; refine ⟨Or.inr rfl, ?_⟩; refine ⟨Or.inr rfl, ?_⟩; exact trivial) (Nat.zero_le _) (Nat.zero_le _) (hP _ (ok_some hw :) :)
            · replace hw := ok_f hw c
              refine ⟨(ok_rd hw).1, ?_⟩
              replace hw := (ok_rd hw).2
              refine ⟨fun c => ?_, fun c => ?_⟩
              · replace hw := ok_t hw c
                refine ⟨(ok_rd hw).1, ?_⟩
                replace hw := (ok_rd hw).2
                refine ⟨(ok_wr hw).1, ?_⟩
                replace hw := (ok_wr hw).2
                refine ⟨(ok_rd hw).1, ?_⟩
                replace hw := (ok_rd hw).2
                refine c_X12_childOf_in (ok_imp (ok_bind hw) ?_)
                intro p hw
                simp only [Option.toList, List.nil_append, List.cons_append, Nat.reduceSub]
                refine mj_run hG.1 (fun pc => pc == 7 || pc == 22 || pc == 42 || pc == 45 || pc == 62 || pc == 74 || pc == 172 || pc == 187 || pc == 190 || pc == 203) 4000 ?_
                simp only [mj_step, mj_W_s, mj_fin, List.getElem?_cons_zero, List.getElem?_cons_succ, mj_go, Nat.reduceAdd, Nat.reduceSub, Nat.reduceLT, Nat.reduceLeDiff, Nat.zero_add, Nat.reduceEqDiff, Nat.reduceBEq, ↓reduceIte, Bool.false_eq_true, List.append_nil, List.nil_append, List.cons_append, Option.toList, and_true, true_and, true_or, or_true, reduceCtorEq, List.map_nil, bI_eq0, bI_eq1, bool_ft, pk_us, vnar0, vnar1, Bool.or_false, Bool.or_true, Bool.false_or, Bool.true_or, mj_kne, eq_self, Int32.reduceLT, Int32.reduceLE, Int32.reduceAdd, Int32.reduceSub, Int32.reduceMul, not_true_eq_false, not_false_eq_true, false_implies, true_implies, D_X12_stay_0, D_X12_stay_1, D_X12_stay_2, D_X12_stay_3, mj_F_aload_n_k, mj_F_baload, mj_F_dup2, mj_F_getfield_i, mj_F_goto_off, mj_F_iadd, mj_F_iaload, mj_F_iastore, mj_F_iconst_n, mj_F_idiv, mj_F_ifCond_eq_off, mj_F_ifCond_ne_off, mj_F_if_icmp_ge_off, mj_F_if_icmp_gt_off, mj_F_if_icmp_lt_off, mj_F_if_icmp_ne_off, mj_F_iinc_k_n, mj_F_iload_k, mj_F_iload_n_k, mj_F_imul, mj_F_invokevirtual_i, mj_F_ireturn, mj_F_istore_k, mj_F_isub, mj_F_ldc_w_i, mj_F_sipush_n, mj_set, mj_set0, mj_unk, mj_c2, mj_kc, FT_X12, FT_X12_1, KT_X12, L_X12_stay, List.take_succ_cons, List.take_zero, List.drop_succ_cons, List.drop_zero, List.reverse_cons, List.reverse_nil, List.length_cons, List.length_nil, gS_M0, gMf_92, gS_M72, sS_Ma_72, gMf_12, gMf_5, gS_M5, sS_Ma_5, gMf_91, gS_M71, sS_Ma_71, gMf_90, gS_M70, sS_Ma_70, gMf_89, gS_M69, sS_Ma_69, J_X12_stay]
                refine ⟨(ok_nz hw).1, ?_⟩
                replace hw := (ok_nz hw).2
                refine hC 187 283 _ _ _ _ _ (by simp only [D_X12_stay_0, D_X12_stay_1, D_X12_stay_2, D_X12_stay_3]) ?_
                simp only [List.all_cons, List.all_nil, mj_isi, Bool.and_self, mj_fin, List.getElem?_cons_zero, List.getElem?_cons_succ, mj_go, Nat.reduceAdd, Nat.reduceSub, Nat.reduceLT, Nat.reduceLeDiff, Nat.zero_add, Nat.reduceEqDiff, Nat.reduceBEq, ↓reduceIte, Bool.false_eq_true, List.append_nil, List.nil_append, List.cons_append, Option.toList, and_true, true_and, true_or, or_true, reduceCtorEq, List.map_nil, bI_eq0, bI_eq1, bool_ft, pk_us, vnar0, vnar1, Bool.or_false, Bool.or_true, Bool.false_or, Bool.true_or, mj_kne, eq_self, Int32.reduceLT, Int32.reduceLE, Int32.reduceAdd, Int32.reduceSub, Int32.reduceMul, not_true_eq_false, not_false_eq_true, false_implies, true_implies, mj_set, mj_set0, mj_unk, mj_c2, mj_kc, FT_X12, FT_X12_1, KT_X12, L_X12_stay, List.take_succ_cons, List.take_zero, List.drop_succ_cons, List.drop_zero, List.reverse_cons, List.reverse_nil, List.length_cons, List.length_nil, gS_M0, gMf_92, gS_M72, sS_Ma_72, gMf_12, gMf_5, gS_M5, sS_Ma_5, gMf_91, gS_M71, sS_Ma_71, gMf_90, gS_M70, sS_Ma_70, gMf_89, gS_M69, sS_Ma_69, J_X12_stay]
                refine c_X12_childOf_in (ok_imp (ok_bind hw) ?_)
                intro p hw
                simp only [Option.toList, List.nil_append, List.cons_append, Nat.reduceSub]
                refine mj_run hG.1 (fun pc => pc == 7 || pc == 22 || pc == 42 || pc == 45 || pc == 62 || pc == 74 || pc == 172 || pc == 187 || pc == 190 || pc == 203) 4000 ?_
                simp only [mj_step, mj_W_s, mj_fin, List.getElem?_cons_zero, List.getElem?_cons_succ, mj_go, Nat.reduceAdd, Nat.reduceSub, Nat.reduceLT, Nat.reduceLeDiff, Nat.zero_add, Nat.reduceEqDiff, Nat.reduceBEq, ↓reduceIte, Bool.false_eq_true, List.append_nil, List.nil_append, List.cons_append, Option.toList, and_true, true_and, true_or, or_true, reduceCtorEq, List.map_nil, bI_eq0, bI_eq1, bool_ft, pk_us, vnar0, vnar1, Bool.or_false, Bool.or_true, Bool.false_or, Bool.true_or, mj_kne, eq_self, Int32.reduceLT, Int32.reduceLE, Int32.reduceAdd, Int32.reduceSub, Int32.reduceMul, not_true_eq_false, not_false_eq_true, false_implies, true_implies, D_X12_stay_0, D_X12_stay_1, D_X12_stay_2, D_X12_stay_3, mj_F_aload_n_k, mj_F_baload, mj_F_dup2, mj_F_getfield_i, mj_F_goto_off, mj_F_iadd, mj_F_iaload, mj_F_iastore, mj_F_iconst_n, mj_F_idiv, mj_F_ifCond_eq_off, mj_F_ifCond_ne_off, mj_F_if_icmp_ge_off, mj_F_if_icmp_gt_off, mj_F_if_icmp_lt_off, mj_F_if_icmp_ne_off, mj_F_iinc_k_n, mj_F_iload_k, mj_F_iload_n_k, mj_F_imul, mj_F_invokevirtual_i, mj_F_ireturn, mj_F_istore_k, mj_F_isub, mj_F_ldc_w_i, mj_F_sipush_n, mj_set, mj_set0, mj_unk, mj_c2, mj_kc, FT_X12, FT_X12_1, KT_X12, L_X12_stay, List.take_succ_cons, List.take_zero, List.drop_succ_cons, List.drop_zero, List.reverse_cons, List.reverse_nil, List.length_cons, List.length_nil, gS_M0, gMf_92, gS_M72, sS_Ma_72, gMf_12, gMf_5, gS_M5, sS_Ma_5, gMf_91, gS_M71, sS_Ma_71, gMf_90, gS_M70, sS_Ma_70, gMf_89, gS_M69, sS_Ma_69, J_X12_stay]
                refine ⟨(ok_nz hw).1, ?_⟩
                replace hw := (ok_nz hw).2
                refine ⟨(ok_wr hw).1, ?_⟩
                replace hw := (ok_wr hw).2
                exact hG.2 _ _ _ _ _ _ _ _ _ (by refine ⟨Or.inr rfl, ?_⟩; refine ⟨Or.inr rfl, ?_⟩; refine ⟨Or.inr rfl, ?_⟩; refine ⟨Or.inr rfl, ?_⟩; refine ⟨Or.inr rfl, ?_⟩; exact trivial) (Nat.zero_le _) (Nat.zero_le _) (hP _ (ok_some hw :) :)
              · replace hw := ok_f hw c
                refine ⟨(ok_rd hw).1, ?_⟩
                replace hw := (ok_rd hw).2
                refine ⟨(ok_wr hw).1, ?_⟩
                replace hw := (ok_wr hw).2
                refine ⟨(ok_rd hw).1, ?_⟩
                replace hw := (ok_rd hw).2
                refine c_X12_childOf_in (ok_imp (ok_bind hw) ?_)
                intro p hw
                simp only [Option.toList, List.nil_append, List.cons_append, Nat.reduceSub]
                refine mj_run hG.1 (fun pc => pc == 7 || pc == 22 || pc == 42 || pc == 45 || pc == 62 || pc == 74 || pc == 172 || pc == 187 || pc == 190 || pc == 203) 4000 ?_
                simp only [mj_step, mj_W_s, mj_fin, List.getElem?_cons_zero, List.getElem?_cons_succ, mj_go, Nat.reduceAdd, Nat.reduceSub, Nat.reduceLT, Nat.reduceLeDiff, Nat.zero_add, Nat.reduceEqDiff, Nat.reduceBEq, ↓reduceIte, Bool.false_eq_true, List.append_nil, List.nil_append, List.cons_append, Option.toList, and_true, true_and, true_or, or_true, reduceCtorEq, List.map_nil, bI_eq0, bI_eq1, bool_ft, pk_us, vnar0, vnar1, Bool.or_false, Bool.or_true, Bool.false_or, Bool.true_or, mj_kne, eq_self, Int32.reduceLT, Int32.reduceLE, Int32.reduceAdd, Int32.reduceSub, Int32.reduceMul, not_true_eq_false, not_false_eq_true, false_implies, true_implies, D_X12_stay_0, D_X12_stay_1, D_X12_stay_2, D_X12_stay_3, mj_F_aload_n_k, mj_F_baload, mj_F_dup2, mj_F_getfield_i, mj_F_goto_off, mj_F_iadd, mj_F_iaload, mj_F_iastore, mj_F_iconst_n, mj_F_idiv, mj_F_ifCond_eq_off, mj_F_ifCond_ne_off, mj_F_if_icmp_ge_off, mj_F_if_icmp_gt_off, mj_F_if_icmp_lt_off, mj_F_if_icmp_ne_off, mj_F_iinc_k_n, mj_F_iload_k, mj_F_iload_n_k, mj_F_imul, mj_F_invokevirtual_i, mj_F_ireturn, mj_F_istore_k, mj_F_isub, mj_F_ldc_w_i, mj_F_sipush_n, mj_set, mj_set0, mj_unk, mj_c2, mj_kc, FT_X12, FT_X12_1, KT_X12, L_X12_stay, List.take_succ_cons, List.take_zero, List.drop_succ_cons, List.drop_zero, List.reverse_cons, List.reverse_nil, List.length_cons, List.length_nil, gS_M0, gMf_92, gS_M72, sS_Ma_72, gMf_12, gMf_5, gS_M5, sS_Ma_5, gMf_91, gS_M71, sS_Ma_71, gMf_90, gS_M70, sS_Ma_70, gMf_89, gS_M69, sS_Ma_69, J_X12_stay]
                refine ⟨(ok_nz hw).1, ?_⟩
                replace hw := (ok_nz hw).2
                refine hC 187 283 _ _ _ _ _ (by simp only [D_X12_stay_0, D_X12_stay_1, D_X12_stay_2, D_X12_stay_3]) ?_
                simp only [List.all_cons, List.all_nil, mj_isi, Bool.and_self, mj_fin, List.getElem?_cons_zero, List.getElem?_cons_succ, mj_go, Nat.reduceAdd, Nat.reduceSub, Nat.reduceLT, Nat.reduceLeDiff, Nat.zero_add, Nat.reduceEqDiff, Nat.reduceBEq, ↓reduceIte, Bool.false_eq_true, List.append_nil, List.nil_append, List.cons_append, Option.toList, and_true, true_and, true_or, or_true, reduceCtorEq, List.map_nil, bI_eq0, bI_eq1, bool_ft, pk_us, vnar0, vnar1, Bool.or_false, Bool.or_true, Bool.false_or, Bool.true_or, mj_kne, eq_self, Int32.reduceLT, Int32.reduceLE, Int32.reduceAdd, Int32.reduceSub, Int32.reduceMul, not_true_eq_false, not_false_eq_true, false_implies, true_implies, mj_set, mj_set0, mj_unk, mj_c2, mj_kc, FT_X12, FT_X12_1, KT_X12, L_X12_stay, List.take_succ_cons, List.take_zero, List.drop_succ_cons, List.drop_zero, List.reverse_cons, List.reverse_nil, List.length_cons, List.length_nil, gS_M0, gMf_92, gS_M72, sS_Ma_72, gMf_12, gMf_5, gS_M5, sS_Ma_5, gMf_91, gS_M71, sS_Ma_71, gMf_90, gS_M70, sS_Ma_70, gMf_89, gS_M69, sS_Ma_69, J_X12_stay]
                refine c_X12_childOf_in (ok_imp (ok_bind hw) ?_)
                intro p hw
                simp only [Option.toList, List.nil_append, List.cons_append, Nat.reduceSub]
                refine mj_run hG.1 (fun pc => pc == 7 || pc == 22 || pc == 42 || pc == 45 || pc == 62 || pc == 74 || pc == 172 || pc == 187 || pc == 190 || pc == 203) 4000 ?_
                simp only [mj_step, mj_W_s, mj_fin, List.getElem?_cons_zero, List.getElem?_cons_succ, mj_go, Nat.reduceAdd, Nat.reduceSub, Nat.reduceLT, Nat.reduceLeDiff, Nat.zero_add, Nat.reduceEqDiff, Nat.reduceBEq, ↓reduceIte, Bool.false_eq_true, List.append_nil, List.nil_append, List.cons_append, Option.toList, and_true, true_and, true_or, or_true, reduceCtorEq, List.map_nil, bI_eq0, bI_eq1, bool_ft, pk_us, vnar0, vnar1, Bool.or_false, Bool.or_true, Bool.false_or, Bool.true_or, mj_kne, eq_self, Int32.reduceLT, Int32.reduceLE, Int32.reduceAdd, Int32.reduceSub, Int32.reduceMul, not_true_eq_false, not_false_eq_true, false_implies, true_implies, D_X12_stay_0, D_X12_stay_1, D_X12_stay_2, D_X12_stay_3, mj_F_aload_n_k, mj_F_baload, mj_F_dup2, mj_F_getfield_i, mj_F_goto_off, mj_F_iadd, mj_F_iaload, mj_F_iastore, mj_F_iconst_n, mj_F_idiv, mj_F_ifCond_eq_off, mj_F_ifCond_ne_off, mj_F_if_icmp_ge_off, mj_F_if_icmp_gt_off, mj_F_if_icmp_lt_off, mj_F_if_icmp_ne_off, mj_F_iinc_k_n, mj_F_iload_k, mj_F_iload_n_k, mj_F_imul, mj_F_invokevirtual_i, mj_F_ireturn, mj_F_istore_k, mj_F_isub, mj_F_ldc_w_i, mj_F_sipush_n, mj_set, mj_set0, mj_unk, mj_c2, mj_kc, FT_X12, FT_X12_1, KT_X12, L_X12_stay, List.take_succ_cons, List.take_zero, List.drop_succ_cons, List.drop_zero, List.reverse_cons, List.reverse_nil, List.length_cons, List.length_nil, gS_M0, gMf_92, gS_M72, sS_Ma_72, gMf_12, gMf_5, gS_M5, sS_Ma_5, gMf_91, gS_M71, sS_Ma_71, gMf_90, gS_M70, sS_Ma_70, gMf_89, gS_M69, sS_Ma_69, J_X12_stay]
                refine ⟨(ok_nz hw).1, ?_⟩
                replace hw := (ok_nz hw).2
                refine ⟨(ok_wr hw).1, ?_⟩
                replace hw := (ok_wr hw).2
                exact hG.2 _ _ _ _ _ _ _ _ _ (by refine ⟨Or.inr rfl, ?_⟩; refine ⟨Or.inr rfl, ?_⟩; refine ⟨Or.inr rfl, ?_⟩; refine ⟨Or.inr rfl, ?_⟩; refine ⟨Or.inr rfl, ?_⟩; exact trivial) (Nat.zero_le _) (Nat.zero_le _) (hP _ (ok_some hw :) :)
        · replace hw := ok_t hw c
          exact hG.2 _ _ _ _ _ _ _ _ _ (by refine ⟨Or.inr rfl, ?_⟩; refine ⟨Or.inr rfl, ?_⟩; refine ⟨Or.inr rfl, ?_⟩; refine ⟨Or.inr rfl, ?_⟩; refine ⟨Or.inr rfl, ?_⟩; exact trivial) (Nat.zero_le _) (Nat.zero_le _) (hP _ (ok_some hw :) :)

set_option maxHeartbeats 4000000 in
set_option maxRecDepth 20000 in
theorem g_X12_stay_203 {k : Option Value → mj_H → Prop} {G : mj_K} (hG : mj_cl2 cX12_stay (TbX12 8 ((some FieldType.int)) ct_X12_stay) k G) (hC : mj_c8 cX12_stay (TbX12 8 ((some FieldType.int)) ct_X12_stay) G)   {s : St} (hw : ok (F_X12_stay_203 s) (fun p => k (some (.int p.1)) (mkMs p.2))) : G 203 [.ref 0] [] (mkMs s) 0 0 := by
  unfold F_X12_stay_203 at hw
  refine mj_run hG.1 (fun pc => pc == 7 || pc == 22 || pc == 42 || pc == 45 || pc == 62 || pc == 74 || pc == 172 || pc == 187 || pc == 190 || pc == 203) 4000 ?_
  simp only [mj_step, mj_W_s, mj_fin, List.getElem?_cons_zero, List.getElem?_cons_succ, mj_go, Nat.reduceAdd, Nat.reduceSub, Nat.reduceLT, Nat.reduceLeDiff, Nat.zero_add, Nat.reduceEqDiff, Nat.reduceBEq, ↓reduceIte, Bool.false_eq_true, List.append_nil, List.nil_append, List.cons_append, Option.toList, and_true, true_and, true_or, or_true, reduceCtorEq, List.map_nil, bI_eq0, bI_eq1, bool_ft, pk_us, vnar0, vnar1, Bool.or_false, Bool.or_true, Bool.false_or, Bool.true_or, mj_kne, eq_self, Int32.reduceLT, Int32.reduceLE, Int32.reduceAdd, Int32.reduceSub, Int32.reduceMul, not_true_eq_false, not_false_eq_true, false_implies, true_implies, D_X12_stay_0, D_X12_stay_1, D_X12_stay_2, D_X12_stay_3, mj_F_aload_n_k, mj_F_baload, mj_F_dup2, mj_F_getfield_i, mj_F_goto_off, mj_F_iadd, mj_F_iaload, mj_F_iastore, mj_F_iconst_n, mj_F_idiv, mj_F_ifCond_eq_off, mj_F_ifCond_ne_off, mj_F_if_icmp_ge_off, mj_F_if_icmp_gt_off, mj_F_if_icmp_lt_off, mj_F_if_icmp_ne_off, mj_F_iinc_k_n, mj_F_iload_k, mj_F_iload_n_k, mj_F_imul, mj_F_invokevirtual_i, mj_F_ireturn, mj_F_istore_k, mj_F_isub, mj_F_ldc_w_i, mj_F_sipush_n, mj_set, mj_set0, mj_unk, mj_c2, mj_kc, FT_X12, FT_X12_1, KT_X12, L_X12_stay, List.take_succ_cons, List.take_zero, List.drop_succ_cons, List.drop_zero, List.reverse_cons, List.reverse_nil, List.length_cons, List.length_nil, gS_M0, gMf_92, gS_M72, sS_Ma_72, gMf_12, gMf_5, gS_M5, sS_Ma_5, gMf_91, gS_M71, sS_Ma_71, gMf_90, gS_M70, sS_Ma_70, gMf_89, gS_M69, sS_Ma_69, J_X12_stay]
  refine ⟨(ok_rd hw).1, ?_⟩
  replace hw := (ok_rd hw).2
  refine ⟨fun c => ?_, fun c => ?_⟩
  · replace hw := ok_t hw c
    exact (ok_some hw :)
  · replace hw := ok_f hw c
    refine ⟨(ok_rd hw).1, ?_⟩
    replace hw := (ok_rd hw).2
    refine ⟨fun c => ?_, fun c => ?_⟩
    · replace hw := ok_t hw c
      refine ⟨(ok_rd hw).1, ?_⟩
      replace hw := (ok_rd hw).2
      refine ⟨(ok_rd hw).1, ?_⟩
      replace hw := (ok_rd hw).2
      refine ⟨(ok_nz hw).1, ?_⟩
      replace hw := (ok_nz hw).2
      refine ⟨(ok_rd hw).1, ?_⟩
      replace hw := (ok_rd hw).2
      refine ⟨(ok_rd hw).1, ?_⟩
      replace hw := (ok_rd hw).2
      refine ⟨(ok_nz hw).1, ?_⟩
      replace hw := (ok_nz hw).2
      exact (ok_some hw :)
    · replace hw := ok_f hw c
      exact (ok_some hw :)

set_option maxHeartbeats 4000000 in
theorem g_X12_stay_45 {k : Option Value → mj_H → Prop} {G : mj_K} (hG : mj_cl2 cX12_stay (TbX12 8 ((some FieldType.int)) ct_X12_stay) k G) (hC : mj_c8 cX12_stay (TbX12 8 ((some FieldType.int)) ct_X12_stay) G)   {v1 : Int32} {v2 : Int32} {v3 : Int32} {v4 : Int32} {s : St} (hw : ok (F_X12_stay_45 v1 v2 v3 v4 s) (fun p => k (some (.int p.1)) (mkMs p.2))) : G 45 [.ref 0, .int v1, .int v2, .int v3, .int v4] [] (mkMs s) 0 0 := by
  unfold F_X12_stay_45 at hw
  refine lp_ok (B_X12_stay_45 v1 v2 v3) (fun x => G 45 [.ref 0, .int v1, .int v2, .int v3, .int x.1] [] (mkMs x.2) 0 0) _ ?_ _ _ (ok_bind hw)
  rintro ⟨v4, s⟩ hb
  exact b_X12_stay_45 hG hC (fun _ z => z) (fun y hw => by exact hG.2 _ _ _ _ _ _ _ _ _ (by refine ⟨Or.inr rfl, ?_⟩; exact trivial) (Nat.zero_le _) (Nat.zero_le _) (g_X12_stay_203 hG hC  hw :)) hb

set_option maxHeartbeats 4000000 in
set_option maxRecDepth 20000 in
theorem g_X12_stay_42 {k : Option Value → mj_H → Prop} {G : mj_K} (hG : mj_cl2 cX12_stay (TbX12 8 ((some FieldType.int)) ct_X12_stay) k G) (hC : mj_c8 cX12_stay (TbX12 8 ((some FieldType.int)) ct_X12_stay) G)   {v1 : Int32} {v2 : Int32} {v3 : Int32} {s : St} (hw : ok (F_X12_stay_42 v1 v2 v3 s) (fun p => k (some (.int p.1)) (mkMs p.2))) : G 42 [.ref 0, .int v1, .int v2, .int v3] [] (mkMs s) 0 0 := by
  unfold F_X12_stay_42 at hw
  refine mj_run hG.1 (fun pc => pc == 7 || pc == 22 || pc == 42 || pc == 45 || pc == 62 || pc == 74 || pc == 172 || pc == 187 || pc == 190 || pc == 203) 4000 ?_
  simp only [mj_step, mj_W_s, mj_fin, List.getElem?_cons_zero, List.getElem?_cons_succ, mj_go, Nat.reduceAdd, Nat.reduceSub, Nat.reduceLT, Nat.reduceLeDiff, Nat.zero_add, Nat.reduceEqDiff, Nat.reduceBEq, ↓reduceIte, Bool.false_eq_true, List.append_nil, List.nil_append, List.cons_append, Option.toList, and_true, true_and, true_or, or_true, reduceCtorEq, List.map_nil, bI_eq0, bI_eq1, bool_ft, pk_us, vnar0, vnar1, Bool.or_false, Bool.or_true, Bool.false_or, Bool.true_or, mj_kne, eq_self, Int32.reduceLT, Int32.reduceLE, Int32.reduceAdd, Int32.reduceSub, Int32.reduceMul, not_true_eq_false, not_false_eq_true, false_implies, true_implies, D_X12_stay_0, D_X12_stay_1, D_X12_stay_2, D_X12_stay_3, mj_F_aload_n_k, mj_F_baload, mj_F_dup2, mj_F_getfield_i, mj_F_goto_off, mj_F_iadd, mj_F_iaload, mj_F_iastore, mj_F_iconst_n, mj_F_idiv, mj_F_ifCond_eq_off, mj_F_ifCond_ne_off, mj_F_if_icmp_ge_off, mj_F_if_icmp_gt_off, mj_F_if_icmp_lt_off, mj_F_if_icmp_ne_off, mj_F_iinc_k_n, mj_F_iload_k, mj_F_iload_n_k, mj_F_imul, mj_F_invokevirtual_i, mj_F_ireturn, mj_F_istore_k, mj_F_isub, mj_F_ldc_w_i, mj_F_sipush_n, mj_set, mj_set0, mj_unk, mj_c2, mj_kc, FT_X12, FT_X12_1, KT_X12, L_X12_stay, List.take_succ_cons, List.take_zero, List.drop_succ_cons, List.drop_zero, List.reverse_cons, List.reverse_nil, List.length_cons, List.length_nil, gS_M0, gMf_92, gS_M72, sS_Ma_72, gMf_12, gMf_5, gS_M5, sS_Ma_5, gMf_91, gS_M71, sS_Ma_71, gMf_90, gS_M70, sS_Ma_70, gMf_89, gS_M69, sS_Ma_69, J_X12_stay]
  exact hG.2 _ _ _ _ _ _ _ _ _ (by refine ⟨Or.inr rfl, ?_⟩; refine ⟨Or.inr rfl, ?_⟩; refine ⟨Or.inr rfl, ?_⟩; refine ⟨Or.inr rfl, ?_⟩; refine ⟨Or.inr rfl, ?_⟩; exact trivial) (Nat.zero_le _) (Nat.zero_le _) (g_X12_stay_45 hG hC  hw :)

set_option maxHeartbeats 4000000 in
theorem g_X12_stay_22 {k : Option Value → mj_H → Prop} {G : mj_K} (hG : mj_cl2 cX12_stay (TbX12 8 ((some FieldType.int)) ct_X12_stay) k G) (hC : mj_c8 cX12_stay (TbX12 8 ((some FieldType.int)) ct_X12_stay) G)   {v1 : Int32} {v2 : Int32} {v3 : Int32} {v4 : Int32} {s : St} (hw : ok (F_X12_stay_22 v1 v2 v3 v4 s) (fun p => k (some (.int p.1)) (mkMs p.2))) : G 22 [.ref 0, .int v1, .int v2, .int v3, .int v4] [] (mkMs s) 0 0 := by
  unfold F_X12_stay_22 at hw
  refine lp_ok (B_X12_stay_22 v1 v2 v3) (fun x => G 22 [.ref 0, .int v1, .int v2, .int v3, .int x.1] [] (mkMs x.2) 0 0) _ ?_ _ _ (ok_bind hw)
  rintro ⟨v4, s⟩ hb
  exact b_X12_stay_22 hG hC (fun _ z => z) (fun y hw => by exact hG.2 _ _ _ _ _ _ _ _ _ (by refine ⟨Or.inr rfl, ?_⟩; refine ⟨Or.inr rfl, ?_⟩; refine ⟨Or.inr rfl, ?_⟩; refine ⟨Or.inr rfl, ?_⟩; exact trivial) (Nat.zero_le _) (Nat.zero_le _) (g_X12_stay_42 hG hC  hw :)) hb

set_option maxHeartbeats 4000000 in
set_option maxRecDepth 20000 in
theorem g_X12_stay {k : Option Value → mj_H → Prop} {G : mj_K} (hG : mj_cl2 cX12_stay (TbX12 8 ((some FieldType.int)) ct_X12_stay) k G) (hC : mj_c8 cX12_stay (TbX12 8 ((some FieldType.int)) ct_X12_stay) G) {v1 : Int32} {v2 : Int32} {v3 : Int32} {s : St} (hw : ok (F_X12_stay v1 v2 v3 s) (fun p => k (some (.int p.1)) (mkMs p.2))) : G 0 [.ref 0, .int v1, .int v2, .int v3] [] (mkMs s) 0 0 := by
  unfold F_X12_stay at hw
  refine mj_run hG.1 (fun pc => pc == 7 || pc == 22 || pc == 42 || pc == 45 || pc == 62 || pc == 74 || pc == 172 || pc == 187 || pc == 190 || pc == 203) 4000 ?_
  simp only [mj_step, mj_W_s, mj_fin, List.getElem?_cons_zero, List.getElem?_cons_succ, mj_go, Nat.reduceAdd, Nat.reduceSub, Nat.reduceLT, Nat.reduceLeDiff, Nat.zero_add, Nat.reduceEqDiff, Nat.reduceBEq, ↓reduceIte, Bool.false_eq_true, List.append_nil, List.nil_append, List.cons_append, Option.toList, and_true, true_and, true_or, or_true, reduceCtorEq, List.map_nil, bI_eq0, bI_eq1, bool_ft, pk_us, vnar0, vnar1, Bool.or_false, Bool.or_true, Bool.false_or, Bool.true_or, mj_kne, eq_self, Int32.reduceLT, Int32.reduceLE, Int32.reduceAdd, Int32.reduceSub, Int32.reduceMul, not_true_eq_false, not_false_eq_true, false_implies, true_implies, D_X12_stay_0, D_X12_stay_1, D_X12_stay_2, D_X12_stay_3, mj_F_aload_n_k, mj_F_baload, mj_F_dup2, mj_F_getfield_i, mj_F_goto_off, mj_F_iadd, mj_F_iaload, mj_F_iastore, mj_F_iconst_n, mj_F_idiv, mj_F_ifCond_eq_off, mj_F_ifCond_ne_off, mj_F_if_icmp_ge_off, mj_F_if_icmp_gt_off, mj_F_if_icmp_lt_off, mj_F_if_icmp_ne_off, mj_F_iinc_k_n, mj_F_iload_k, mj_F_iload_n_k, mj_F_imul, mj_F_invokevirtual_i, mj_F_ireturn, mj_F_istore_k, mj_F_isub, mj_F_ldc_w_i, mj_F_sipush_n, mj_set, mj_set0, mj_unk, mj_c2, mj_kc, FT_X12, FT_X12_1, KT_X12, L_X12_stay, List.take_succ_cons, List.take_zero, List.drop_succ_cons, List.drop_zero, List.reverse_cons, List.reverse_nil, List.length_cons, List.length_nil, gS_M0, gMf_92, gS_M72, sS_Ma_72, gMf_12, gMf_5, gS_M5, sS_Ma_5, gMf_91, gS_M71, sS_Ma_71, gMf_90, gS_M70, sS_Ma_70, gMf_89, gS_M69, sS_Ma_69, J_X12_stay]
  refine c_X12_isAsked_in (ok_imp (ok_bind hw) ?_)
  intro p hw
  simp only [Option.toList, List.nil_append, List.cons_append, Nat.reduceSub]
  refine mj_run hG.1 (fun pc => pc == 7 || pc == 22 || pc == 42 || pc == 45 || pc == 62 || pc == 74 || pc == 172 || pc == 187 || pc == 190 || pc == 203) 4000 ?_
  simp only [mj_step, mj_W_s, mj_fin, List.getElem?_cons_zero, List.getElem?_cons_succ, mj_go, Nat.reduceAdd, Nat.reduceSub, Nat.reduceLT, Nat.reduceLeDiff, Nat.zero_add, Nat.reduceEqDiff, Nat.reduceBEq, ↓reduceIte, Bool.false_eq_true, List.append_nil, List.nil_append, List.cons_append, Option.toList, and_true, true_and, true_or, or_true, reduceCtorEq, List.map_nil, bI_eq0, bI_eq1, bool_ft, pk_us, vnar0, vnar1, Bool.or_false, Bool.or_true, Bool.false_or, Bool.true_or, mj_kne, eq_self, Int32.reduceLT, Int32.reduceLE, Int32.reduceAdd, Int32.reduceSub, Int32.reduceMul, not_true_eq_false, not_false_eq_true, false_implies, true_implies, D_X12_stay_0, D_X12_stay_1, D_X12_stay_2, D_X12_stay_3, mj_F_aload_n_k, mj_F_baload, mj_F_dup2, mj_F_getfield_i, mj_F_goto_off, mj_F_iadd, mj_F_iaload, mj_F_iastore, mj_F_iconst_n, mj_F_idiv, mj_F_ifCond_eq_off, mj_F_ifCond_ne_off, mj_F_if_icmp_ge_off, mj_F_if_icmp_gt_off, mj_F_if_icmp_lt_off, mj_F_if_icmp_ne_off, mj_F_iinc_k_n, mj_F_iload_k, mj_F_iload_n_k, mj_F_imul, mj_F_invokevirtual_i, mj_F_ireturn, mj_F_istore_k, mj_F_isub, mj_F_ldc_w_i, mj_F_sipush_n, mj_set, mj_set0, mj_unk, mj_c2, mj_kc, FT_X12, FT_X12_1, KT_X12, L_X12_stay, List.take_succ_cons, List.take_zero, List.drop_succ_cons, List.drop_zero, List.reverse_cons, List.reverse_nil, List.length_cons, List.length_nil, gS_M0, gMf_92, gS_M72, sS_Ma_72, gMf_12, gMf_5, gS_M5, sS_Ma_5, gMf_91, gS_M71, sS_Ma_71, gMf_90, gS_M70, sS_Ma_70, gMf_89, gS_M69, sS_Ma_69, J_X12_stay]
  refine ⟨fun c => ?_, fun c => ?_⟩
  · replace hw := ok_t hw c
    exact (ok_some hw :)
  · replace hw := ok_f hw c
    refine ⟨fun c => ?_, fun c => ?_⟩
    · replace hw := ok_t hw c
      exact hG.2 _ _ _ _ _ _ _ _ _ (by refine ⟨Or.inr rfl, ?_⟩; refine ⟨Or.inr rfl, ?_⟩; refine ⟨Or.inr rfl, ?_⟩; refine ⟨Or.inr rfl, ?_⟩; refine ⟨Or.inr rfl, ?_⟩; exact trivial) (Nat.zero_le _) (Nat.zero_le _) (g_X12_stay_22 hG hC  hw :)
    · replace hw := ok_f hw c
      exact (ok_some hw :)

def c_X12_stay : mj_S := fun as h k => ∃ (v1 : Int32) (v2 : Int32) (v3 : Int32) (s : St), as = [.ref 0, .int v1, .int v2, .int v3] ∧ h = mkMs s ∧ ok (F_X12_stay v1 v2 v3 s) (fun p => k (some (.int p.1)) (mkMs p.2))
theorem c_X12_stay_in {v1 : Int32} {v2 : Int32} {v3 : Int32} {s : St} {k : Option Value → mj_H → Prop} (hw : ok (F_X12_stay v1 v2 v3 s) (fun p => k (some (.int p.1)) (mkMs p.2))) : c_X12_stay [.ref 0, .int v1, .int v2, .int v3] (mkMs s) k := ⟨v1, v2, v3, s, rfl, rfl, hw⟩
theorem m_X12_stay (l : Launch) : mj_Met l yX12_stay cX12_stay 8 ((some FieldType.int)) 3 0 0 c_X12_stay := by
  refine mj_body5 false (TbX12 8 ((some FieldType.int)) ct_X12_stay) (by decide) rfl rfl (fun h => nomatch h) (tfX12 _ (List.forall_mem_cons.mpr ⟨cfX12_283 (m_X12_childOf l) (by decide), List.forall_mem_cons.mpr ⟨cfX12_422 (m_X12_isAsked l) (by decide), List.forall_mem_cons.mpr ⟨cfX12_463 (m_X12_children l) (by decide), fun _ h => nomatch h⟩⟩⟩)) ?_
  rintro as h k ⟨v1, v2, v3, s, rfl, rfl, hw⟩
  exact ⟨rfl, fun G hG hC => g_X12_stay hG hC hw⟩
