/-! functional pictures, and that the bytecode keeps them (m2) -/
def B_X12_carry_19 (v1 : Int32) (v2 : Int32) (s : St) : Int32 × Int32 → Option ((Int32 × Int32) ⊕ ((Int32)))
  | (v3, v4) =>
  (rd s 1251 20 v4).bind fun x3 =>
  if x3 = v1 then
    some (.inr v3)
  else
    (rd s 1251 20 v4).bind fun x4 =>
    (rd s 1251 20 v4).bind fun x5 =>
    (rd s 1252 24 x5).bind fun x6 =>
    (rd s 1250 480 ((20 * x4) + x6)).bind fun x7 =>
    (rd s 1251 20 v4).bind fun x8 =>
    (rd s 1252 24 x8).bind fun x9 =>
    some (.inl ((zmn v3 x7), x9))
def B_X12_carry_83 (v1 : Int32) (v2 : Int32) (v3 : Int32) : Int32 × St → Option ((Int32 × St) ⊕ ((Int32 × St)))
  | (v4, s) =>
  (rd s 1251 20 v4).bind fun x10 =>
  if x10 = v1 then
    some (.inr (v4, s))
  else
    (rd s 1251 20 v4).bind fun x11 =>
    (rd s 1250 480 ((20 * x11) + v4)).bind fun x12 =>
    (wr s 1250 480 ((20 * x11) + v4) (x12 + v3)).bind fun s13 =>
    (rd s13 1252 24 x11).bind fun x14 =>
    (rd s13 1250 480 ((20 * x11) + x14)).bind fun x15 =>
    (wr s13 1250 480 ((20 * x11) + x14) (x15 - v3)).bind fun s16 =>
    (rd s16 1252 24 x11).bind fun x17 =>
    some (.inl (x17, s16))
def F_X12_carry_154 (v1 : Int32) (v2 : Int32) (v3 : Int32) (v4 : Int32) (s : St) : Option (Int32 × St) :=
  (rd s 1250 480 ((20 * v1) + v4)).bind fun x18 =>
  (wr s 1250 480 ((20 * v1) + v4) (x18 + v3)).bind fun s19 =>
  (rd s19 1246 20 v2).bind fun x20 =>
  (wr s19 1246 20 v2 (x20 - v3)).bind fun s21 =>
  (rd s21 1247 24 v1).bind fun x22 =>
  (wr s21 1247 24 v1 (x22 - v3)).bind fun s23 =>
  some (v3, s23)
def F_X12_carry_83 (v1 : Int32) (v2 : Int32) (v3 : Int32) (v4 : Int32) (s : St) : Option (Int32 × St) :=
  (lp (B_X12_carry_83 v1 v2 v3) FU (v4, s)).bind (fun y => F_X12_carry_154 v1 v2 v3 y.1 y.2)
def F_X12_carry_80 (v1 : Int32) (v2 : Int32) (v3 : Int32) (s : St) : Option (Int32 × St) :=
  F_X12_carry_83 v1 v2 v3 v2 s
def F_X12_carry_19 (v1 : Int32) (v2 : Int32) (v3 : Int32) (v4 : Int32) (s : St) : Option (Int32 × St) :=
  (lp (B_X12_carry_19 v1 v2 s) FU (v3, v4)).bind (fun y => F_X12_carry_80 v1 v2 y s)
def F_X12_carry (v1 : Int32) (v2 : Int32) (s : St) : Option (Int32 × St) :=
  (rd s 1247 24 v1).bind fun x1 =>
  (rd s 1246 20 v2).bind fun x2 =>
  F_X12_carry_19 v1 v2 (zmn x1 x2) v2 s
theorem J_X12_carry : mj_t 27 53 = 80 ∧ mj_t 77 (-58) = 19 ∧ mj_t 91 63 = 154 ∧ mj_t 151 (-68) = 83 ∧ (0 ≤ ((27 : Nat) : Int) + 53) = True ∧ (0 ≤ ((77 : Nat) : Int) + (-58)) = True ∧ (0 ≤ ((91 : Nat) : Int) + 63) = True ∧ (0 ≤ ((151 : Nat) : Int) + (-68)) = True := by and_intros <;> first | rfl | exact eq_true (by decide)
set_option maxHeartbeats 4000000 in
set_option maxRecDepth 20000 in
theorem b_X12_carry_19 {k : Option Value → mj_H → Prop} {G : mj_K} (hG : mj_cl2 cX12_carry (TbX12 6 ((some FieldType.int)) []) k G) (hM : mj_ml cX12_carry yX12_carry.cls G) {v1 : Int32} {v2 : Int32} {s : St} {P : Int32 × Int32 → Prop} {K : (Int32) → Prop} (hP : ∀ x, P x → G 19 [.ref 0, .int v1, .int v2, .int x.1, .int x.2] [] (mkMs s) 0 0) (hK0 : ∀ y, K y → G 80 [.ref 0, .int v1, .int v2, .int y] [] (mkMs s) 0 0) {v3 : Int32} {v4 : Int32} (hw : ok (B_X12_carry_19 v1 v2 s (v3, v4)) (Sum.elim P K)) : G 19 [.ref 0, .int v1, .int v2, .int v3, .int v4] [] (mkMs s) 0 0 := by
  unfold B_X12_carry_19 at hw
  refine mj_run hG.1 (fun pc => pc == 12 || pc == 19 || pc == 59 || pc == 80 || pc == 83 || pc == 154) 4000 ?_
  simp only [mj_step, mj_W_s, mj_fin, List.getElem?_cons_zero, List.getElem?_cons_succ, mj_go, Nat.reduceAdd, Nat.reduceSub, Nat.reduceLT, Nat.reduceLeDiff, Nat.zero_add, Nat.reduceEqDiff, Nat.reduceBEq, ↓reduceIte, Bool.false_eq_true, List.append_nil, List.nil_append, List.cons_append, Option.toList, and_true, true_and, true_or, or_true, reduceCtorEq, List.map_nil, bI_eq0, bI_eq1, bool_ft, pk_us, vnar0, vnar1, Bool.or_false, Bool.or_true, Bool.false_or, Bool.true_or, mj_kne, eq_self, Int32.reduceLT, Int32.reduceLE, Int32.reduceAdd, Int32.reduceSub, Int32.reduceMul, not_true_eq_false, not_false_eq_true, false_implies, true_implies, D_X12_carry_0, D_X12_carry_1, D_X12_carry_2, mj_F_aload_n_k, mj_F_bipush_n, mj_F_dup2, mj_F_getfield_i, mj_F_goto_off, mj_F_iadd, mj_F_iaload, mj_F_iastore, mj_F_if_icmp_eq_off, mj_F_iload_k, mj_F_iload_n_k, mj_F_imul, mj_F_invokestatic_i, mj_F_ireturn, mj_F_istore_k, mj_F_istore_n_k, mj_F_isub, mj_set, mj_set0, mj_unk, mj_c2, mj_kc, FT_X12, FT_X12_1, List.take_succ_cons, List.take_zero, List.drop_succ_cons, List.drop_zero, List.reverse_cons, List.reverse_nil, List.length_cons, List.length_nil, gS_M0, gMf_47, gS_M35, sS_Ma_35, gMf_46, gS_M34, sS_Ma_34, gMf_51, gS_M39, sS_Ma_39, gMf_50, gS_M38, sS_Ma_38, gMf_52, gS_M40, sS_Ma_40, J_X12_carry]
  refine ⟨(ok_rd hw).1, ?_⟩
  replace hw := (ok_rd hw).2
  refine ⟨fun c => ?_, fun c => ?_⟩
  · replace hw := ok_t hw c
    exact hG.2 _ _ _ _ _ _ _ _ _ (by refine ⟨Or.inr rfl, ?_⟩; refine ⟨Or.inr rfl, ?_⟩; refine ⟨Or.inr rfl, ?_⟩; refine ⟨Or.inr rfl, ?_⟩; exact trivial) (Nat.zero_le _) (Nat.zero_le _) (hK0 _ (ok_some hw :) :)
  · replace hw := ok_f hw c
    refine ⟨(ok_rd hw).1, ?_⟩
    replace hw := (ok_rd hw).2
    refine ⟨(ok_rd hw).1, ?_⟩
    replace hw := (ok_rd hw).2
    refine ⟨(ok_rd hw).1, ?_⟩
    replace hw := (ok_rd hw).2
    refine ⟨(ok_rd hw).1, ?_⟩
    replace hw := (ok_rd hw).2
    refine hM 59 449 0 _ _ _ _ _ _ _ _ (by simp only [D_X12_carry_0, D_X12_carry_1, D_X12_carry_2]) (lkX12_449) rfl (Nat.le_of_ble_eq_true rfl) ?_
    refine mj_run hG.1 (fun pc => pc == 12 || pc == 19 || pc == 59 || pc == 80 || pc == 83 || pc == 154) 4000 ?_
    simp only [mj_step, mj_W_s, mj_fin, List.getElem?_cons_zero, List.getElem?_cons_succ, mj_go, Nat.reduceAdd, Nat.reduceSub, Nat.reduceLT, Nat.reduceLeDiff, Nat.zero_add, Nat.reduceEqDiff, Nat.reduceBEq, ↓reduceIte, Bool.false_eq_true, List.append_nil, List.nil_append, List.cons_append, Option.toList, and_true, true_and, true_or, or_true, reduceCtorEq, List.map_nil, bI_eq0, bI_eq1, bool_ft, pk_us, vnar0, vnar1, Bool.or_false, Bool.or_true, Bool.false_or, Bool.true_or, mj_kne, eq_self, Int32.reduceLT, Int32.reduceLE, Int32.reduceAdd, Int32.reduceSub, Int32.reduceMul, not_true_eq_false, not_false_eq_true, false_implies, true_implies, D_X12_carry_0, D_X12_carry_1, D_X12_carry_2, mj_F_aload_n_k, mj_F_bipush_n, mj_F_dup2, mj_F_getfield_i, mj_F_goto_off, mj_F_iadd, mj_F_iaload, mj_F_iastore, mj_F_if_icmp_eq_off, mj_F_iload_k, mj_F_iload_n_k, mj_F_imul, mj_F_invokestatic_i, mj_F_ireturn, mj_F_istore_k, mj_F_istore_n_k, mj_F_isub, mj_set, mj_set0, mj_unk, mj_c2, mj_kc, FT_X12, FT_X12_1, List.take_succ_cons, List.take_zero, List.drop_succ_cons, List.drop_zero, List.reverse_cons, List.reverse_nil, List.length_cons, List.length_nil, gS_M0, gMf_47, gS_M35, sS_Ma_35, gMf_46, gS_M34, sS_Ma_34, gMf_51, gS_M39, sS_Ma_39, gMf_50, gS_M38, sS_Ma_38, gMf_52, gS_M40, sS_Ma_40, J_X12_carry]
    refine ⟨(ok_rd hw).1, ?_⟩
    replace hw := (ok_rd hw).2
    refine ⟨(ok_rd hw).1, ?_⟩
    replace hw := (ok_rd hw).2
    exact hG.2 _ _ _ _ _ _ _ _ _ (by refine ⟨Or.inr rfl, ?_⟩; refine ⟨Or.inr rfl, ?_⟩; refine ⟨Or.inr rfl, ?_⟩; refine ⟨Or.inr rfl, ?_⟩; refine ⟨Or.inr rfl, ?_⟩; exact trivial) (Nat.zero_le _) (Nat.zero_le _) (hP _ (ok_some hw :) :)

set_option maxHeartbeats 4000000 in
set_option maxRecDepth 20000 in
theorem b_X12_carry_83 {k : Option Value → mj_H → Prop} {G : mj_K} (hG : mj_cl2 cX12_carry (TbX12 6 ((some FieldType.int)) []) k G) (hM : mj_ml cX12_carry yX12_carry.cls G) {v1 : Int32} {v2 : Int32} {v3 : Int32} {P : Int32 × St → Prop} {K : (Int32 × St) → Prop} (hP : ∀ x, P x → G 83 [.ref 0, .int v1, .int v2, .int v3, .int x.1] [] (mkMs x.2) 0 0) (hK0 : ∀ y, K y → G 154 [.ref 0, .int v1, .int v2, .int v3, .int y.1] [] (mkMs y.2) 0 0) {v4 : Int32} {s : St} (hw : ok (B_X12_carry_83 v1 v2 v3 (v4, s)) (Sum.elim P K)) : G 83 [.ref 0, .int v1, .int v2, .int v3, .int v4] [] (mkMs s) 0 0 := by
  unfold B_X12_carry_83 at hw
  refine mj_run hG.1 (fun pc => pc == 12 || pc == 19 || pc == 59 || pc == 80 || pc == 83 || pc == 154) 4000 ?_
  simp only [mj_step, mj_W_s, mj_fin, List.getElem?_cons_zero, List.getElem?_cons_succ, mj_go, Nat.reduceAdd, Nat.reduceSub, Nat.reduceLT, Nat.reduceLeDiff, Nat.zero_add, Nat.reduceEqDiff, Nat.reduceBEq, ↓reduceIte, Bool.false_eq_true, List.append_nil, List.nil_append, List.cons_append, Option.toList, and_true, true_and, true_or, or_true, reduceCtorEq, List.map_nil, bI_eq0, bI_eq1, bool_ft, pk_us, vnar0, vnar1, Bool.or_false, Bool.or_true, Bool.false_or, Bool.true_or, mj_kne, eq_self, Int32.reduceLT, Int32.reduceLE, Int32.reduceAdd, Int32.reduceSub, Int32.reduceMul, not_true_eq_false, not_false_eq_true, false_implies, true_implies, D_X12_carry_0, D_X12_carry_1, D_X12_carry_2, mj_F_aload_n_k, mj_F_bipush_n, mj_F_dup2, mj_F_getfield_i, mj_F_goto_off, mj_F_iadd, mj_F_iaload, mj_F_iastore, mj_F_if_icmp_eq_off, mj_F_iload_k, mj_F_iload_n_k, mj_F_imul, mj_F_invokestatic_i, mj_F_ireturn, mj_F_istore_k, mj_F_istore_n_k, mj_F_isub, mj_set, mj_set0, mj_unk, mj_c2, mj_kc, FT_X12, FT_X12_1, List.take_succ_cons, List.take_zero, List.drop_succ_cons, List.drop_zero, List.reverse_cons, List.reverse_nil, List.length_cons, List.length_nil, gS_M0, gMf_47, gS_M35, sS_Ma_35, gMf_46, gS_M34, sS_Ma_34, gMf_51, gS_M39, sS_Ma_39, gMf_50, gS_M38, sS_Ma_38, gMf_52, gS_M40, sS_Ma_40, J_X12_carry]
  refine ⟨(ok_rd hw).1, ?_⟩
  replace hw := (ok_rd hw).2
  refine ⟨fun c => ?_, fun c => ?_⟩
  · replace hw := ok_t hw c
    exact hG.2 _ _ _ _ _ _ _ _ _ (by refine ⟨Or.inr rfl, ?_⟩; refine ⟨Or.inr rfl, ?_⟩; refine ⟨Or.inr rfl, ?_⟩; refine ⟨Or.inr rfl, ?_⟩; refine ⟨Or.inr rfl, ?_⟩; exact trivial) (Nat.zero_le _) (Nat.zero_le _) (hK0 _ (ok_some hw :) :)
  · replace hw := ok_f hw c
    refine ⟨(ok_rd hw).1, ?_⟩
    replace hw := (ok_rd hw).2
    refine ⟨(ok_rd hw).1, ?_⟩
    replace hw := (ok_rd hw).2
    refine ⟨(ok_wr hw).1, ?_⟩
    replace hw := (ok_wr hw).2
    refine ⟨(ok_rd hw).1, ?_⟩
    replace hw := (ok_rd hw).2
    refine ⟨(ok_rd hw).1, ?_⟩
    replace hw := (ok_rd hw).2
    refine ⟨(ok_wr hw).1, ?_⟩
    replace hw := (ok_wr hw).2
    refine ⟨(ok_rd hw).1, ?_⟩
    replace hw := (ok_rd hw).2
    exact hG.2 _ _ _ _ _ _ _ _ _ (by refine ⟨Or.inr rfl, ?_⟩; refine ⟨Or.inr rfl, ?_⟩; refine ⟨Or.inr rfl, ?_⟩; refine ⟨Or.inr rfl, ?_⟩; refine ⟨Or.inr rfl, ?_⟩; exact trivial) (Nat.zero_le _) (Nat.zero_le _) (hP _ (ok_some hw :) :)

set_option maxHeartbeats 4000000 in
set_option maxRecDepth 20000 in
theorem g_X12_carry_154 {k : Option Value → mj_H → Prop} {G : mj_K} (hG : mj_cl2 cX12_carry (TbX12 6 ((some FieldType.int)) []) k G) (hM : mj_ml cX12_carry yX12_carry.cls G)   {v1 : Int32} {v2 : Int32} {v3 : Int32} {v4 : Int32} {s : St} (hw : ok (F_X12_carry_154 v1 v2 v3 v4 s) (fun p => k (some (.int p.1)) (mkMs p.2))) : G 154 [.ref 0, .int v1, .int v2, .int v3, .int v4] [] (mkMs s) 0 0 := by
  unfold F_X12_carry_154 at hw
  refine mj_run hG.1 (fun pc => pc == 12 || pc == 19 || pc == 59 || pc == 80 || pc == 83 || pc == 154) 4000 ?_
  simp only [mj_step, mj_W_s, mj_fin, List.getElem?_cons_zero, List.getElem?_cons_succ, mj_go, Nat.reduceAdd, Nat.reduceSub, Nat.reduceLT, Nat.reduceLeDiff, Nat.zero_add, Nat.reduceEqDiff, Nat.reduceBEq, ↓reduceIte, Bool.false_eq_true, List.append_nil, List.nil_append, List.cons_append, Option.toList, and_true, true_and, true_or, or_true, reduceCtorEq, List.map_nil, bI_eq0, bI_eq1, bool_ft, pk_us, vnar0, vnar1, Bool.or_false, Bool.or_true, Bool.false_or, Bool.true_or, mj_kne, eq_self, Int32.reduceLT, Int32.reduceLE, Int32.reduceAdd, Int32.reduceSub, Int32.reduceMul, not_true_eq_false, not_false_eq_true, false_implies, true_implies, D_X12_carry_0, D_X12_carry_1, D_X12_carry_2, mj_F_aload_n_k, mj_F_bipush_n, mj_F_dup2, mj_F_getfield_i, mj_F_goto_off, mj_F_iadd, mj_F_iaload, mj_F_iastore, mj_F_if_icmp_eq_off, mj_F_iload_k, mj_F_iload_n_k, mj_F_imul, mj_F_invokestatic_i, mj_F_ireturn, mj_F_istore_k, mj_F_istore_n_k, mj_F_isub, mj_set, mj_set0, mj_unk, mj_c2, mj_kc, FT_X12, FT_X12_1, List.take_succ_cons, List.take_zero, List.drop_succ_cons, List.drop_zero, List.reverse_cons, List.reverse_nil, List.length_cons, List.length_nil, gS_M0, gMf_47, gS_M35, sS_Ma_35, gMf_46, gS_M34, sS_Ma_34, gMf_51, gS_M39, sS_Ma_39, gMf_50, gS_M38, sS_Ma_38, gMf_52, gS_M40, sS_Ma_40, J_X12_carry]
  refine ⟨(ok_rd hw).1, ?_⟩
  replace hw := (ok_rd hw).2
  refine ⟨(ok_wr hw).1, ?_⟩
  replace hw := (ok_wr hw).2
  refine ⟨(ok_rd hw).1, ?_⟩
  replace hw := (ok_rd hw).2
  refine ⟨(ok_wr hw).1, ?_⟩
  replace hw := (ok_wr hw).2
  refine ⟨(ok_rd hw).1, ?_⟩
  replace hw := (ok_rd hw).2
  refine ⟨(ok_wr hw).1, ?_⟩
  replace hw := (ok_wr hw).2
  exact (ok_some hw :)

set_option maxHeartbeats 4000000 in
theorem g_X12_carry_83 {k : Option Value → mj_H → Prop} {G : mj_K} (hG : mj_cl2 cX12_carry (TbX12 6 ((some FieldType.int)) []) k G) (hM : mj_ml cX12_carry yX12_carry.cls G)   {v1 : Int32} {v2 : Int32} {v3 : Int32} {v4 : Int32} {s : St} (hw : ok (F_X12_carry_83 v1 v2 v3 v4 s) (fun p => k (some (.int p.1)) (mkMs p.2))) : G 83 [.ref 0, .int v1, .int v2, .int v3, .int v4] [] (mkMs s) 0 0 := by
  unfold F_X12_carry_83 at hw
  refine lp_ok (B_X12_carry_83 v1 v2 v3) (fun x => G 83 [.ref 0, .int v1, .int v2, .int v3, .int x.1] [] (mkMs x.2) 0 0) _ ?_ _ _ (ok_bind hw)
  rintro ⟨v4, s⟩ hb
  exact b_X12_carry_83 hG hM (fun _ z => z) (fun y hw => by exact hG.2 _ _ _ _ _ _ _ _ _ (by refine ⟨Or.inr rfl, ?_⟩; refine ⟨Or.inr rfl, ?_⟩; refine ⟨Or.inr rfl, ?_⟩; refine ⟨Or.inr rfl, ?_⟩; refine ⟨Or.inr rfl, ?_⟩; exact trivial) (Nat.zero_le _) (Nat.zero_le _) (g_X12_carry_154 hG hM  hw :)) hb

set_option maxHeartbeats 4000000 in
set_option maxRecDepth 20000 in
theorem g_X12_carry_80 {k : Option Value → mj_H → Prop} {G : mj_K} (hG : mj_cl2 cX12_carry (TbX12 6 ((some FieldType.int)) []) k G) (hM : mj_ml cX12_carry yX12_carry.cls G)   {v1 : Int32} {v2 : Int32} {v3 : Int32} {s : St} (hw : ok (F_X12_carry_80 v1 v2 v3 s) (fun p => k (some (.int p.1)) (mkMs p.2))) : G 80 [.ref 0, .int v1, .int v2, .int v3] [] (mkMs s) 0 0 := by
  unfold F_X12_carry_80 at hw
  refine mj_run hG.1 (fun pc => pc == 12 || pc == 19 || pc == 59 || pc == 80 || pc == 83 || pc == 154) 4000 ?_
  simp only [mj_step, mj_W_s, mj_fin, List.getElem?_cons_zero, List.getElem?_cons_succ, mj_go, Nat.reduceAdd, Nat.reduceSub, Nat.reduceLT, Nat.reduceLeDiff, Nat.zero_add, Nat.reduceEqDiff, Nat.reduceBEq, ↓reduceIte, Bool.false_eq_true, List.append_nil, List.nil_append, List.cons_append, Option.toList, and_true, true_and, true_or, or_true, reduceCtorEq, List.map_nil, bI_eq0, bI_eq1, bool_ft, pk_us, vnar0, vnar1, Bool.or_false, Bool.or_true, Bool.false_or, Bool.true_or, mj_kne, eq_self, Int32.reduceLT, Int32.reduceLE, Int32.reduceAdd, Int32.reduceSub, Int32.reduceMul, not_true_eq_false, not_false_eq_true, false_implies, true_implies, D_X12_carry_0, D_X12_carry_1, D_X12_carry_2, mj_F_aload_n_k, mj_F_bipush_n, mj_F_dup2, mj_F_getfield_i, mj_F_goto_off, mj_F_iadd, mj_F_iaload, mj_F_iastore, mj_F_if_icmp_eq_off, mj_F_iload_k, mj_F_iload_n_k, mj_F_imul, mj_F_invokestatic_i, mj_F_ireturn, mj_F_istore_k, mj_F_istore_n_k, mj_F_isub, mj_set, mj_set0, mj_unk, mj_c2, mj_kc, FT_X12, FT_X12_1, List.take_succ_cons, List.take_zero, List.drop_succ_cons, List.drop_zero, List.reverse_cons, List.reverse_nil, List.length_cons, List.length_nil, gS_M0, gMf_47, gS_M35, sS_Ma_35, gMf_46, gS_M34, sS_Ma_34, gMf_51, gS_M39, sS_Ma_39, gMf_50, gS_M38, sS_Ma_38, gMf_52, gS_M40, sS_Ma_40, J_X12_carry]
  exact hG.2 _ _ _ _ _ _ _ _ _ (by refine ⟨Or.inr rfl, ?_⟩; refine ⟨Or.inr rfl, ?_⟩; refine ⟨Or.inr rfl, ?_⟩; refine ⟨Or.inr rfl, ?_⟩; refine ⟨Or.inr rfl, ?_⟩; exact trivial) (Nat.zero_le _) (Nat.zero_le _) (g_X12_carry_83 hG hM  hw :)

set_option maxHeartbeats 4000000 in
theorem g_X12_carry_19 {k : Option Value → mj_H → Prop} {G : mj_K} (hG : mj_cl2 cX12_carry (TbX12 6 ((some FieldType.int)) []) k G) (hM : mj_ml cX12_carry yX12_carry.cls G)   {v1 : Int32} {v2 : Int32} {v3 : Int32} {v4 : Int32} {s : St} (hw : ok (F_X12_carry_19 v1 v2 v3 v4 s) (fun p => k (some (.int p.1)) (mkMs p.2))) : G 19 [.ref 0, .int v1, .int v2, .int v3, .int v4] [] (mkMs s) 0 0 := by
  unfold F_X12_carry_19 at hw
  refine lp_ok (B_X12_carry_19 v1 v2 s) (fun x => G 19 [.ref 0, .int v1, .int v2, .int x.1, .int x.2] [] (mkMs s) 0 0) _ ?_ _ _ (ok_bind hw)
  rintro ⟨v3, v4⟩ hb
  exact b_X12_carry_19 hG hM (fun _ z => z) (fun y hw => by exact hG.2 _ _ _ _ _ _ _ _ _ (by refine ⟨Or.inr rfl, ?_⟩; refine ⟨Or.inr rfl, ?_⟩; refine ⟨Or.inr rfl, ?_⟩; refine ⟨Or.inr rfl, ?_⟩; exact trivial) (Nat.zero_le _) (Nat.zero_le _) (g_X12_carry_80 hG hM  hw :)) hb

set_option maxHeartbeats 4000000 in
set_option maxRecDepth 20000 in
theorem g_X12_carry {k : Option Value → mj_H → Prop} {G : mj_K} (hG : mj_cl2 cX12_carry (TbX12 6 ((some FieldType.int)) []) k G) (hM : mj_ml cX12_carry yX12_carry.cls G) {v1 : Int32} {v2 : Int32} {s : St} (hw : ok (F_X12_carry v1 v2 s) (fun p => k (some (.int p.1)) (mkMs p.2))) : G 0 [.ref 0, .int v1, .int v2] [] (mkMs s) 0 0 := by
  unfold F_X12_carry at hw
  refine mj_run hG.1 (fun pc => pc == 12 || pc == 19 || pc == 59 || pc == 80 || pc == 83 || pc == 154) 4000 ?_
  simp only [mj_step, mj_W_s, mj_fin, List.getElem?_cons_zero, List.getElem?_cons_succ, mj_go, Nat.reduceAdd, Nat.reduceSub, Nat.reduceLT, Nat.reduceLeDiff, Nat.zero_add, Nat.reduceEqDiff, Nat.reduceBEq, ↓reduceIte, Bool.false_eq_true, List.append_nil, List.nil_append, List.cons_append, Option.toList, and_true, true_and, true_or, or_true, reduceCtorEq, List.map_nil, bI_eq0, bI_eq1, bool_ft, pk_us, vnar0, vnar1, Bool.or_false, Bool.or_true, Bool.false_or, Bool.true_or, mj_kne, eq_self, Int32.reduceLT, Int32.reduceLE, Int32.reduceAdd, Int32.reduceSub, Int32.reduceMul, not_true_eq_false, not_false_eq_true, false_implies, true_implies, D_X12_carry_0, D_X12_carry_1, D_X12_carry_2, mj_F_aload_n_k, mj_F_bipush_n, mj_F_dup2, mj_F_getfield_i, mj_F_goto_off, mj_F_iadd, mj_F_iaload, mj_F_iastore, mj_F_if_icmp_eq_off, mj_F_iload_k, mj_F_iload_n_k, mj_F_imul, mj_F_invokestatic_i, mj_F_ireturn, mj_F_istore_k, mj_F_istore_n_k, mj_F_isub, mj_set, mj_set0, mj_unk, mj_c2, mj_kc, FT_X12, FT_X12_1, List.take_succ_cons, List.take_zero, List.drop_succ_cons, List.drop_zero, List.reverse_cons, List.reverse_nil, List.length_cons, List.length_nil, gS_M0, gMf_47, gS_M35, sS_Ma_35, gMf_46, gS_M34, sS_Ma_34, gMf_51, gS_M39, sS_Ma_39, gMf_50, gS_M38, sS_Ma_38, gMf_52, gS_M40, sS_Ma_40, J_X12_carry]
  refine ⟨(ok_rd hw).1, ?_⟩
  replace hw := (ok_rd hw).2
  refine ⟨(ok_rd hw).1, ?_⟩
  replace hw := (ok_rd hw).2
  refine hM 12 449 0 _ _ _ _ _ _ _ _ (by simp only [D_X12_carry_0, D_X12_carry_1, D_X12_carry_2]) (lkX12_449) rfl (Nat.le_of_ble_eq_true rfl) ?_
  refine mj_run hG.1 (fun pc => pc == 12 || pc == 19 || pc == 59 || pc == 80 || pc == 83 || pc == 154) 4000 ?_
  simp only [mj_step, mj_W_s, mj_fin, List.getElem?_cons_zero, List.getElem?_cons_succ, mj_go, Nat.reduceAdd, Nat.reduceSub, Nat.reduceLT, Nat.reduceLeDiff, Nat.zero_add, Nat.reduceEqDiff, Nat.reduceBEq, ↓reduceIte, Bool.false_eq_true, List.append_nil, List.nil_append, List.cons_append, Option.toList, and_true, true_and, true_or, or_true, reduceCtorEq, List.map_nil, bI_eq0, bI_eq1, bool_ft, pk_us, vnar0, vnar1, Bool.or_false, Bool.or_true, Bool.false_or, Bool.true_or, mj_kne, eq_self, Int32.reduceLT, Int32.reduceLE, Int32.reduceAdd, Int32.reduceSub, Int32.reduceMul, not_true_eq_false, not_false_eq_true, false_implies, true_implies, D_X12_carry_0, D_X12_carry_1, D_X12_carry_2, mj_F_aload_n_k, mj_F_bipush_n, mj_F_dup2, mj_F_getfield_i, mj_F_goto_off, mj_F_iadd, mj_F_iaload, mj_F_iastore, mj_F_if_icmp_eq_off, mj_F_iload_k, mj_F_iload_n_k, mj_F_imul, mj_F_invokestatic_i, mj_F_ireturn, mj_F_istore_k, mj_F_istore_n_k, mj_F_isub, mj_set, mj_set0, mj_unk, mj_c2, mj_kc, FT_X12, FT_X12_1, List.take_succ_cons, List.take_zero, List.drop_succ_cons, List.drop_zero, List.reverse_cons, List.reverse_nil, List.length_cons, List.length_nil, gS_M0, gMf_47, gS_M35, sS_Ma_35, gMf_46, gS_M34, sS_Ma_34, gMf_51, gS_M39, sS_Ma_39, gMf_50, gS_M38, sS_Ma_38, gMf_52, gS_M40, sS_Ma_40, J_X12_carry]
  exact hG.2 _ _ _ _ _ _ _ _ _ (by refine ⟨Or.inr rfl, ?_⟩; refine ⟨Or.inr rfl, ?_⟩; refine ⟨Or.inr rfl, ?_⟩; refine ⟨Or.inr rfl, ?_⟩; refine ⟨Or.inr rfl, ?_⟩; exact trivial) (Nat.zero_le _) (Nat.zero_le _) (g_X12_carry_19 hG hM  hw :)

def c_X12_carry : mj_S := fun as h k => ∃ (v1 : Int32) (v2 : Int32) (s : St), as = [.ref 0, .int v1, .int v2] ∧ h = mkMs s ∧ ok (F_X12_carry v1 v2 s) (fun p => k (some (.int p.1)) (mkMs p.2))
theorem c_X12_carry_in {v1 : Int32} {v2 : Int32} {s : St} {k : Option Value → mj_H → Prop} (hw : ok (F_X12_carry v1 v2 s) (fun p => k (some (.int p.1)) (mkMs p.2))) : c_X12_carry [.ref 0, .int v1, .int v2] (mkMs s) k := ⟨v1, v2, s, rfl, rfl, hw⟩
theorem m_X12_carry (l : Launch) : mj_Met l yX12_carry cX12_carry 6 ((some FieldType.int)) 1 0 0 c_X12_carry := by
  refine mj_body3 false (TbX12 6 ((some FieldType.int)) []) (by decide) (by decide) rfl rfl (fun h => nomatch h) (tfX12 _ (fun _ h => nomatch h)) ?_
  rintro as h k ⟨v1, v2, s, rfl, rfl, hw⟩
  exact ⟨rfl, fun G hG hM => g_X12_carry hG hM hw⟩
def B_X12_push_13 (v1 : Int32) : Int32 × St → Option ((Int32 × St) ⊕ ((St)))
  | (v2, s) =>
  if (s.1 1223) ≤ v2 then
    some (.inr s)
  else
    (wr s 1251 20 v2 (-1)).bind fun s2 =>
    some (.inl ((v2 + 1), s2))
def B_X12_push_38 (v1 : Int32) : Int32 × Int32 × St → Option ((Int32 × Int32 × St) ⊕ ((Int32 × St)))
  | (v2, v3, s) =>
  if (s.1 1223) ≤ v3 then
    some (.inr (v2, s))
  else
    (rd s 1249 480 ((20 * v1) + v3)).bind fun x3 =>
    if x3 = 0 then
      some (.inl (v2, (v3 + 1), s))
    else
      (wr s 1251 20 v3 v1).bind fun s4 =>
      (wr s4 1253 20 v2 v3).bind fun s5 =>
      some (.inl ((v2 + 1), (v3 + 1), s5))
def B_X12_push_85 (v1 : Int32) (v2 : Int32) : Int32 × St → Option ((Int32 × St) ⊕ ((St)))
  | (v3, s) =>
  if (s.1 1212) ≤ v3 then
    some (.inr s)
  else
    (wr s 1252 24 v3 (-1)).bind fun s6 =>
    some (.inl ((v3 + 1), s6))
def F_X12_push_261 (v1 : Int32) (v2 : Int32) (v3 : Int32) (v4 : Int32) (v5 : Int32) (s : St) : Option ((Int32 × Int32 × St) ⊕ ((Int32 × St))) :=
  some (.inl (v2, (v5 + 1), s))
def B_X12_push_199 (v1 : Int32) (v3 : Int32) (v4 : Int32) (v5 : Int32) : Int32 × Int32 × St → Option ((Int32 × Int32 × St) ⊕ ((Int32 × St)))
  | (v2, v6, s) =>
  if (s.1 1223) ≤ v6 then
    some (.inr (v2, s))
  else
    (rd s 1249 480 ((20 * v5) + v6)).bind fun x12 =>
    if x12 = 0 then
      some (.inl (v2, (v6 + 1), s))
    else
      (rd s 1251 20 v6).bind fun x13 =>
      if x13 = (-1) then
        (wr s 1251 20 v6 v5).bind fun s14 =>
        (wr s14 1253 20 v2 v6).bind fun s15 =>
        some (.inl ((v2 + 1), (v6 + 1), s15))
      else
        some (.inl (v2, (v6 + 1), s))
def F_X12_push_199 (v1 : Int32) (v2 : Int32) (v3 : Int32) (v4 : Int32) (v5 : Int32) (v6 : Int32) (s : St) : Option ((Int32 × Int32 × St) ⊕ ((Int32 × St))) :=
  (lp (B_X12_push_199 v1 v3 v4 v5) FU (v2, v6, s)).bind (fun y => F_X12_push_261 v1 y.1 v3 v4 v5 y.2)
def B_X12_push_142 (v1 : Int32) (v3 : Int32) (v4 : Int32) : Int32 × Int32 × St → Option ((Int32 × Int32 × St) ⊕ ((Int32 × St)))
  | (v2, v5, s) =>
  if (s.1 1212) ≤ v5 then
    some (.inr (v2, s))
  else
    if v5 = v1 then
      F_X12_push_261 v1 v2 v3 v4 v5 s
    else
      (rd s 1252 24 v5).bind fun x9 =>
      if x9 = (-1) then
        (rd s 1250 480 ((20 * v5) + v4)).bind fun x10 =>
        if x10 = 0 then
          F_X12_push_261 v1 v2 v3 v4 v5 s
        else
          (wr s 1252 24 v5 v4).bind fun s11 =>
          F_X12_push_199 v1 v2 v3 v4 v5 0 s11
      else
        F_X12_push_261 v1 v2 v3 v4 v5 s
def F_X12_push_267 (v1 : Int32) (v2 : Int32) (v3 : Int32) (s : St) : Option ((Int32 × Int32 × St) ⊕ ((St) ⊕ (Int32 × St))) :=
  some (.inl (v2, (v3 + 1), s))
def F_X12_push_142 (v1 : Int32) (v2 : Int32) (v3 : Int32) (v4 : Int32) (v5 : Int32) (s : St) : Option ((Int32 × Int32 × St) ⊕ ((St) ⊕ (Int32 × St))) :=
  (lp (B_X12_push_142 v1 v3 v4) FU (v2, v5, s)).bind (fun y => F_X12_push_267 v1 y.1 v3 y.2)
def B_X12_push_108 (v1 : Int32) : Int32 × Int32 × St → Option ((Int32 × Int32 × St) ⊕ ((St) ⊕ (Int32 × St)))
  | (v2, v3, s) =>
  if v2 ≤ v3 then
    some (.inr (.inl s))
  else
    (rd s 1253 20 v3).bind fun x7 =>
    (rd s 1246 20 x7).bind fun x8 =>
    if x8 ≤ 0 then
      F_X12_push_142 v1 v2 v3 x7 0 s
    else
      some (.inr (.inr (x7, s)))
def F_X12_push_273 (s : St) : Option (Int32 × St) :=
  some (0, s)
def F_X12_push_131 (v1 : Int32) (v4 : Int32) (s : St) : Option (Int32 × St) :=
  (F_X12_carry v1 v4 s).bind fun r16 =>
  some (r16.1, r16.2)
def F_X12_push_108 (v1 : Int32) (v2 : Int32) (v3 : Int32) (s : St) : Option (Int32 × St) :=
  (lp (B_X12_push_108 v1) FU (v2, v3, s)).bind (Sum.elim (fun y => F_X12_push_273 y) (fun y => F_X12_push_131 v1 y.1 y.2))
def F_X12_push_106 (v1 : Int32) (v2 : Int32) (s : St) : Option (Int32 × St) :=
  F_X12_push_108 v1 v2 0 s
def F_X12_push_85 (v1 : Int32) (v2 : Int32) (v3 : Int32) (s : St) : Option (Int32 × St) :=
  (lp (B_X12_push_85 v1 v2) FU (v3, s)).bind (fun y => F_X12_push_106 v1 v2 y)
def F_X12_push_83 (v1 : Int32) (v2 : Int32) (s : St) : Option (Int32 × St) :=
  F_X12_push_85 v1 v2 0 s
def F_X12_push_38 (v1 : Int32) (v2 : Int32) (v3 : Int32) (s : St) : Option (Int32 × St) :=
  (lp (B_X12_push_38 v1) FU (v2, v3, s)).bind (fun y => F_X12_push_83 v1 y.1 y.2)
def F_X12_push_34 (v1 : Int32) (s : St) : Option (Int32 × St) :=
  F_X12_push_38 v1 0 0 s
def F_X12_push_13 (v1 : Int32) (v2 : Int32) (s : St) : Option (Int32 × St) :=
  (lp (B_X12_push_13 v1) FU (v2, s)).bind (fun y => F_X12_push_34 v1 y)
def F_X12_push (v1 : Int32) (s : St) : Option (Int32 × St) :=
  (rd s 1247 24 v1).bind fun x1 =>
  if x1 = 0 then
    some (0, s)
  else
    F_X12_push_13 v1 0 s
theorem J_X12_push : mj_t 6 5 = 11 ∧ mj_t 18 16 = 34 ∧ mj_t 31 (-18) = 13 ∧ mj_t 43 40 = 83 ∧ mj_t 57 20 = 77 ∧ mj_t 80 (-42) = 38 ∧ mj_t 90 16 = 106 ∧ mj_t 103 (-18) = 85 ∧ mj_t 110 163 = 273 ∧ mj_t 128 11 = 139 ∧ mj_t 148 119 = 267 ∧ mj_t 154 107 = 261 ∧ mj_t 165 96 = 261 ∧ mj_t 181 6 = 187 ∧ mj_t 184 77 = 261 ∧ mj_t 205 56 = 261 ∧ mj_t 221 34 = 255 ∧ mj_t 232 23 = 255 ∧ mj_t 258 (-59) = 199 ∧ mj_t 264 (-122) = 142 ∧ mj_t 270 (-162) = 108 ∧ (0 ≤ ((6 : Nat) : Int) + 5) = True ∧ (0 ≤ ((18 : Nat) : Int) + 16) = True ∧ (0 ≤ ((31 : Nat) : Int) + (-18)) = True ∧ (0 ≤ ((43 : Nat) : Int) + 40) = True ∧ (0 ≤ ((57 : Nat) : Int) + 20) = True ∧ (0 ≤ ((80 : Nat) : Int) + (-42)) = True ∧ (0 ≤ ((90 : Nat) : Int) + 16) = True ∧ (0 ≤ ((103 : Nat) : Int) + (-18)) = True ∧ (0 ≤ ((110 : Nat) : Int) + 163) = True ∧ (0 ≤ ((128 : Nat) : Int) + 11) = True ∧ (0 ≤ ((148 : Nat) : Int) + 119) = True ∧ (0 ≤ ((154 : Nat) : Int) + 107) = True ∧ (0 ≤ ((165 : Nat) : Int) + 96) = True ∧ (0 ≤ ((181 : Nat) : Int) + 6) = True ∧ (0 ≤ ((184 : Nat) : Int) + 77) = True ∧ (0 ≤ ((205 : Nat) : Int) + 56) = True ∧ (0 ≤ ((221 : Nat) : Int) + 34) = True ∧ (0 ≤ ((232 : Nat) : Int) + 23) = True ∧ (0 ≤ ((258 : Nat) : Int) + (-59)) = True ∧ (0 ≤ ((264 : Nat) : Int) + (-122)) = True ∧ (0 ≤ ((270 : Nat) : Int) + (-162)) = True := by and_intros <;> first | rfl | exact eq_true (by decide)
def ct_X12_push : List (Nat × mj_Cs) := [(488, 0, 3, 12, 0, 0, c_X12_carry)]
theorem L_X12_push : mj_lk ct_X12_push 488 = some (0, 3, 12, 0, 0, c_X12_carry) := rfl
set_option maxHeartbeats 4000000 in
set_option maxRecDepth 20000 in
theorem b_X12_push_13 {k : Option Value → mj_H → Prop} {G : mj_K} (hG : mj_cl2 cX12_push (TbX12 7 ((some FieldType.int)) ct_X12_push) k G) {v1 : Int32} {P : Int32 × St → Prop} {K : (St) → Prop} (hP : ∀ x, P x → G 13 [.ref 0, .int v1, .int x.1] [] (mkMs x.2) 0 0) (hK0 : ∀ y, K y → G 34 [.ref 0, .int v1] [] (mkMs y) 0 0) {v2 : Int32} {s : St} (hw : ok (B_X12_push_13 v1 (v2, s)) (Sum.elim P K)) : G 13 [.ref 0, .int v1, .int v2] [] (mkMs s) 0 0 := by
  unfold B_X12_push_13 at hw
  refine mj_run hG.1 (fun pc => pc == 13 || pc == 34 || pc == 38 || pc == 83 || pc == 85 || pc == 106 || pc == 108 || pc == 131 || pc == 138 || pc == 142 || pc == 199 || pc == 261 || pc == 267 || pc == 273) 4000 ?_
  simp only [mj_step, mj_W_s, mj_fin, List.getElem?_cons_zero, List.getElem?_cons_succ, mj_go, Nat.reduceAdd, Nat.reduceSub, Nat.reduceLT, Nat.reduceLeDiff, Nat.zero_add, Nat.reduceEqDiff, Nat.reduceBEq, ↓reduceIte, Bool.false_eq_true, List.append_nil, List.nil_append, List.cons_append, Option.toList, and_true, true_and, true_or, or_true, reduceCtorEq, List.map_nil, bI_eq0, bI_eq1, bool_ft, pk_us, vnar0, vnar1, Bool.or_false, Bool.or_true, Bool.false_or, Bool.true_or, mj_kne, eq_self, Int32.reduceLT, Int32.reduceLE, Int32.reduceAdd, Int32.reduceSub, Int32.reduceMul, not_true_eq_false, not_false_eq_true, false_implies, true_implies, D_X12_push_0, D_X12_push_1, D_X12_push_2, D_X12_push_3, mj_F_aload_n_k, mj_F_baload, mj_F_bipush_n, mj_F_getfield_i, mj_F_goto_off, mj_F_iadd, mj_F_iaload, mj_F_iastore, mj_F_iconst_n, mj_F_ifCond_eq_off, mj_F_ifCond_le_off, mj_F_ifCond_ne_off, mj_F_if_icmp_eq_off, mj_F_if_icmp_ge_off, mj_F_if_icmp_ne_off, mj_F_iinc_k_n, mj_F_iload_k, mj_F_iload_n_k, mj_F_imul, mj_F_invokevirtual_i, mj_F_ireturn, mj_F_istore_k, mj_F_istore_n_k, mj_set, mj_set0, mj_unk, mj_c2, mj_kc, FT_X12, FT_X12_1, L_X12_push, List.take_succ_cons, List.take_zero, List.drop_succ_cons, List.drop_zero, List.reverse_cons, List.reverse_nil, List.length_cons, List.length_nil, gS_M0, gMf_47, gS_M35, sS_Ma_35, gMf_23, gMf_51, gS_M39, sS_Ma_39, gMf_49, gS_M37, sS_Ma_37, gMf_53, gS_M41, sS_Ma_41, gMf_12, gMf_52, gS_M40, sS_Ma_40, gMf_46, gS_M34, sS_Ma_34, gMf_50, gS_M38, sS_Ma_38, J_X12_push]
  refine ⟨fun c => ?_, fun c => ?_⟩
  · replace hw := ok_t hw c
    exact hG.2 _ _ _ _ _ _ _ _ _ (by refine ⟨Or.inr rfl, ?_⟩; refine ⟨Or.inr rfl, ?_⟩; exact trivial) (Nat.zero_le _) (Nat.zero_le _) (hK0 _ (ok_some hw :) :)
  · replace hw := ok_f hw c
    refine ⟨(ok_wr hw).1, ?_⟩
    replace hw := (ok_wr hw).2
    exact hG.2 _ _ _ _ _ _ _ _ _ (by refine ⟨Or.inr rfl, ?_⟩; refine ⟨Or.inr rfl, ?_⟩; refine ⟨Or.inr rfl, ?_⟩; exact trivial) (Nat.zero_le _) (Nat.zero_le _) (hP _ (ok_some hw :) :)

set_option maxHeartbeats 4000000 in
set_option maxRecDepth 20000 in
theorem b_X12_push_38 {k : Option Value → mj_H → Prop} {G : mj_K} (hG : mj_cl2 cX12_push (TbX12 7 ((some FieldType.int)) ct_X12_push) k G) {v1 : Int32} {P : Int32 × Int32 × St → Prop} {K : (Int32 × St) → Prop} (hP : ∀ x, P x → G 38 [.ref 0, .int v1, .int x.1, .int x.2.1] [] (mkMs x.2.2) 0 0) (hK0 : ∀ y, K y → G 83 [.ref 0, .int v1, .int y.1] [] (mkMs y.2) 0 0) {v2 : Int32} {v3 : Int32} {s : St} (hw : ok (B_X12_push_38 v1 (v2, v3, s)) (Sum.elim P K)) : G 38 [.ref 0, .int v1, .int v2, .int v3] [] (mkMs s) 0 0 := by
  unfold B_X12_push_38 at hw
  refine mj_run hG.1 (fun pc => pc == 13 || pc == 34 || pc == 38 || pc == 83 || pc == 85 || pc == 106 || pc == 108 || pc == 131 || pc == 138 || pc == 142 || pc == 199 || pc == 261 || pc == 267 || pc == 273) 4000 ?_
  simp only [mj_step, mj_W_s, mj_fin, List.getElem?_cons_zero, List.getElem?_cons_succ, mj_go, Nat.reduceAdd, Nat.reduceSub, Nat.reduceLT, Nat.reduceLeDiff, Nat.zero_add, Nat.reduceEqDiff, Nat.reduceBEq, ↓reduceIte, Bool.false_eq_true, List.append_nil, List.nil_append, List.cons_append, Option.toList, and_true, true_and, true_or, or_true, reduceCtorEq, List.map_nil, bI_eq0, bI_eq1, bool_ft, pk_us, vnar0, vnar1, Bool.or_false, Bool.or_true, Bool.false_or, Bool.true_or, mj_kne, eq_self, Int32.reduceLT, Int32.reduceLE, Int32.reduceAdd, Int32.reduceSub, Int32.reduceMul, not_true_eq_false, not_false_eq_true, false_implies, true_implies, D_X12_push_0, D_X12_push_1, D_X12_push_2, D_X12_push_3, mj_F_aload_n_k, mj_F_baload, mj_F_bipush_n, mj_F_getfield_i, mj_F_goto_off, mj_F_iadd, mj_F_iaload, mj_F_iastore, mj_F_iconst_n, mj_F_ifCond_eq_off, mj_F_ifCond_le_off, mj_F_ifCond_ne_off, mj_F_if_icmp_eq_off, mj_F_if_icmp_ge_off, mj_F_if_icmp_ne_off, mj_F_iinc_k_n, mj_F_iload_k, mj_F_iload_n_k, mj_F_imul, mj_F_invokevirtual_i, mj_F_ireturn, mj_F_istore_k, mj_F_istore_n_k, mj_set, mj_set0, mj_unk, mj_c2, mj_kc, FT_X12, FT_X12_1, L_X12_push, List.take_succ_cons, List.take_zero, List.drop_succ_cons, List.drop_zero, List.reverse_cons, List.reverse_nil, List.length_cons, List.length_nil, gS_M0, gMf_47, gS_M35, sS_Ma_35, gMf_23, gMf_51, gS_M39, sS_Ma_39, gMf_49, gS_M37, sS_Ma_37, gMf_53, gS_M41, sS_Ma_41, gMf_12, gMf_52, gS_M40, sS_Ma_40, gMf_46, gS_M34, sS_Ma_34, gMf_50, gS_M38, sS_Ma_38, J_X12_push]
  refine ⟨fun c => ?_, fun c => ?_⟩
  · replace hw := ok_t hw c
    exact hG.2 _ _ _ _ _ _ _ _ _ (by refine ⟨Or.inr rfl, ?_⟩; refine ⟨Or.inr rfl, ?_⟩; refine ⟨Or.inr rfl, ?_⟩; exact trivial) (Nat.zero_le _) (Nat.zero_le _) (hK0 _ (ok_some hw :) :)
  · replace hw := ok_f hw c
    refine ⟨(ok_rd hw).1, ?_⟩
    replace hw := (ok_rd hw).2
    refine ⟨fun c => ?_, fun c => ?_⟩
    · replace hw := ok_t hw c
      exact hG.2 _ _ _ _ _ _ _ _ _ (by refine ⟨Or.inr rfl, ?_⟩; refine ⟨Or.inr rfl, ?_⟩; refine ⟨Or.inr rfl, ?_⟩; refine ⟨Or.inr rfl, ?_⟩; exact trivial) (Nat.zero_le _) (Nat.zero_le _) (hP _ (ok_some hw :) :)
    · replace hw := ok_f hw c
      refine ⟨(ok_wr hw).1, ?_⟩
      replace hw := (ok_wr hw).2
      refine ⟨(ok_wr hw).1, ?_⟩
      replace hw := (ok_wr hw).2
      exact hG.2 _ _ _ _ _ _ _ _ _ (by refine ⟨Or.inr rfl, ?_⟩; refine ⟨Or.inr rfl, ?_⟩; refine ⟨Or.inr rfl, ?_⟩; refine ⟨Or.inr rfl, ?_⟩; exact trivial) (Nat.zero_le _) (Nat.zero_le _) (hP _ (ok_some hw :) :)

set_option maxHeartbeats 4000000 in
set_option maxRecDepth 20000 in
theorem b_X12_push_85 {k : Option Value → mj_H → Prop} {G : mj_K} (hG : mj_cl2 cX12_push (TbX12 7 ((some FieldType.int)) ct_X12_push) k G) {v1 : Int32} {v2 : Int32} {P : Int32 × St → Prop} {K : (St) → Prop} (hP : ∀ x, P x → G 85 [.ref 0, .int v1, .int v2, .int x.1] [] (mkMs x.2) 0 0) (hK0 : ∀ y, K y → G 106 [.ref 0, .int v1, .int v2] [] (mkMs y) 0 0) {v3 : Int32} {s : St} (hw : ok (B_X12_push_85 v1 v2 (v3, s)) (Sum.elim P K)) : G 85 [.ref 0, .int v1, .int v2, .int v3] [] (mkMs s) 0 0 := by
  unfold B_X12_push_85 at hw
  refine mj_run hG.1 (fun pc => pc == 13 || pc == 34 || pc == 38 || pc == 83 || pc == 85 || pc == 106 || pc == 108 || pc == 131 || pc == 138 || pc == 142 || pc == 199 || pc == 261 || pc == 267 || pc == 273) 4000 ?_
  simp only [mj_step, mj_W_s, mj_fin, List.getElem?_cons_zero, List.getElem?_cons_succ, mj_go, Nat.reduceAdd, Nat.reduceSub, Nat.reduceLT, Nat.reduceLeDiff, Nat.zero_add, Nat.reduceEqDiff, Nat.reduceBEq, ↓reduceIte, Bool.false_eq_true, List.append_nil, List.nil_append, List.cons_append, Option.toList, and_true, true_and, true_or, or_true, reduceCtorEq, List.map_nil, bI_eq0, bI_eq1, bool_ft, pk_us, vnar0, vnar1, Bool.or_false, Bool.or_true, Bool.false_or, Bool.true_or, mj_kne, eq_self, Int32.reduceLT, Int32.reduceLE, Int32.reduceAdd, Int32.reduceSub, Int32.reduceMul, not_true_eq_false, not_false_eq_true, false_implies, true_implies, D_X12_push_0, D_X12_push_1, D_X12_push_2, D_X12_push_3, mj_F_aload_n_k, mj_F_baload, mj_F_bipush_n, mj_F_getfield_i, mj_F_goto_off, mj_F_iadd, mj_F_iaload, mj_F_iastore, mj_F_iconst_n, mj_F_ifCond_eq_off, mj_F_ifCond_le_off, mj_F_ifCond_ne_off, mj_F_if_icmp_eq_off, mj_F_if_icmp_ge_off, mj_F_if_icmp_ne_off, mj_F_iinc_k_n, mj_F_iload_k, mj_F_iload_n_k, mj_F_imul, mj_F_invokevirtual_i, mj_F_ireturn, mj_F_istore_k, mj_F_istore_n_k, mj_set, mj_set0, mj_unk, mj_c2, mj_kc, FT_X12, FT_X12_1, L_X12_push, List.take_succ_cons, List.take_zero, List.drop_succ_cons, List.drop_zero, List.reverse_cons, List.reverse_nil, List.length_cons, List.length_nil, gS_M0, gMf_47, gS_M35, sS_Ma_35, gMf_23, gMf_51, gS_M39, sS_Ma_39, gMf_49, gS_M37, sS_Ma_37, gMf_53, gS_M41, sS_Ma_41, gMf_12, gMf_52, gS_M40, sS_Ma_40, gMf_46, gS_M34, sS_Ma_34, gMf_50, gS_M38, sS_Ma_38, J_X12_push]
  refine ⟨fun c => ?_, fun c => ?_⟩
  · replace hw := ok_t hw c
    exact hG.2 _ _ _ _ _ _ _ _ _ (by refine ⟨Or.inr rfl, ?_⟩; refine ⟨Or.inr rfl, ?_⟩; refine ⟨Or.inr rfl, ?_⟩; exact trivial) (Nat.zero_le _) (Nat.zero_le _) (hK0 _ (ok_some hw :) :)
  · replace hw := ok_f hw c
    refine ⟨(ok_wr hw).1, ?_⟩
    replace hw := (ok_wr hw).2
    exact hG.2 _ _ _ _ _ _ _ _ _ (by refine ⟨Or.inr rfl, ?_⟩; refine ⟨Or.inr rfl, ?_⟩; refine ⟨Or.inr rfl, ?_⟩; refine ⟨Or.inr rfl, ?_⟩; exact trivial) (Nat.zero_le _) (Nat.zero_le _) (hP _ (ok_some hw :) :)

set_option maxHeartbeats 4000000 in
set_option maxRecDepth 20000 in
theorem g_X12_push_261 {k : Option Value → mj_H → Prop} {G : mj_K} (hG : mj_cl2 cX12_push (TbX12 7 ((some FieldType.int)) ct_X12_push) k G) {v1 : Int32} {v3 : Int32} {v4 : Int32} {P : Int32 × Int32 × St → Prop} {K : (Int32 × St) → Prop} (hP : ∀ x, P x → G 142 [.ref 0, .int v1, .int x.1, .int v3, .int v4, .int x.2.1] [] (mkMs x.2.2) 0 0) (hK0 : ∀ y, K y → G 267 [.ref 0, .int v1, .int y.1, .int v3] [] (mkMs y.2) 0 0) {v2 : Int32} {v5 : Int32} {s : St} (hw : ok (F_X12_push_261 v1 v2 v3 v4 v5 s) (Sum.elim P K)) : G 261 [.ref 0, .int v1, .int v2, .int v3, .int v4, .int v5] [] (mkMs s) 0 0 := by
  unfold F_X12_push_261 at hw
  refine mj_run hG.1 (fun pc => pc == 13 || pc == 34 || pc == 38 || pc == 83 || pc == 85 || pc == 106 || pc == 108 || pc == 131 || pc == 138 || pc == 142 || pc == 199 || pc == 261 || pc == 267 || pc == 273) 4000 ?_
  simp only [mj_step, mj_W_s, mj_fin, List.getElem?_cons_zero, List.getElem?_cons_succ, mj_go, Nat.reduceAdd, Nat.reduceSub, Nat.reduceLT, Nat.reduceLeDiff, Nat.zero_add, Nat.reduceEqDiff, Nat.reduceBEq, ↓reduceIte, Bool.false_eq_true, List.append_nil, List.nil_append, List.cons_append, Option.toList, and_true, true_and, true_or, or_true, reduceCtorEq, List.map_nil, bI_eq0, bI_eq1, bool_ft, pk_us, vnar0, vnar1, Bool.or_false, Bool.or_true, Bool.false_or, Bool.true_or, mj_kne, eq_self, Int32.reduceLT, Int32.reduceLE, Int32.reduceAdd, Int32.reduceSub, Int32.reduceMul, not_true_eq_false, not_false_eq_true, false_implies, true_implies, D_X12_push_0, D_X12_push_1, D_X12_push_2, D_X12_push_3, mj_F_aload_n_k, mj_F_baload, mj_F_bipush_n, mj_F_getfield_i, mj_F_goto_off, mj_F_iadd, mj_F_iaload, mj_F_iastore, mj_F_iconst_n, mj_F_ifCond_eq_off, mj_F_ifCond_le_off, mj_F_ifCond_ne_off, mj_F_if_icmp_eq_off, mj_F_if_icmp_ge_off, mj_F_if_icmp_ne_off, mj_F_iinc_k_n, mj_F_iload_k, mj_F_iload_n_k, mj_F_imul, mj_F_invokevirtual_i, mj_F_ireturn, mj_F_istore_k, mj_F_istore_n_k, mj_set, mj_set0, mj_unk, mj_c2, mj_kc, FT_X12, FT_X12_1, L_X12_push, List.take_succ_cons, List.take_zero, List.drop_succ_cons, List.drop_zero, List.reverse_cons, List.reverse_nil, List.length_cons, List.length_nil, gS_M0, gMf_47, gS_M35, sS_Ma_35, gMf_23, gMf_51, gS_M39, sS_Ma_39, gMf_49, gS_M37, sS_Ma_37, gMf_53, gS_M41, sS_Ma_41, gMf_12, gMf_52, gS_M40, sS_Ma_40, gMf_46, gS_M34, sS_Ma_34, gMf_50, gS_M38, sS_Ma_38, J_X12_push]
  exact hG.2 _ _ _ _ _ _ _ _ _ (by refine ⟨Or.inr rfl, ?_⟩; refine ⟨Or.inr rfl, ?_⟩; refine ⟨Or.inr rfl, ?_⟩; refine ⟨Or.inr rfl, ?_⟩; refine ⟨Or.inr rfl, ?_⟩; refine ⟨Or.inr rfl, ?_⟩; exact trivial) (Nat.zero_le _) (Nat.zero_le _) (hP _ (ok_some hw :) :)

set_option maxHeartbeats 4000000 in
set_option maxRecDepth 20000 in
theorem b_X12_push_199 {k : Option Value → mj_H → Prop} {G : mj_K} (hG : mj_cl2 cX12_push (TbX12 7 ((some FieldType.int)) ct_X12_push) k G) {v1 : Int32} {v3 : Int32} {v4 : Int32} {v5 : Int32} {P : Int32 × Int32 × St → Prop} {K : (Int32 × St) → Prop} (hP : ∀ x, P x → G 199 [.ref 0, .int v1, .int x.1, .int v3, .int v4, .int v5, .int x.2.1] [] (mkMs x.2.2) 0 0) (hK0 : ∀ y, K y → G 261 [.ref 0, .int v1, .int y.1, .int v3, .int v4, .int v5] [] (mkMs y.2) 0 0) {v2 : Int32} {v6 : Int32} {s : St} (hw : ok (B_X12_push_199 v1 v3 v4 v5 (v2, v6, s)) (Sum.elim P K)) : G 199 [.ref 0, .int v1, .int v2, .int v3, .int v4, .int v5, .int v6] [] (mkMs s) 0 0 := by
  unfold B_X12_push_199 at hw
  refine mj_run hG.1 (fun pc => pc == 13 || pc == 34 || pc == 38 || pc == 83 || pc == 85 || pc == 106 || pc == 108 || pc == 131 || pc == 138 || pc == 142 || pc == 199 || pc == 261 || pc == 267 || pc == 273) 4000 ?_
  simp only [mj_step, mj_W_s, mj_fin, List.getElem?_cons_zero, List.getElem?_cons_succ, mj_go, Nat.reduceAdd, Nat.reduceSub, Nat.reduceLT, Nat.reduceLeDiff, Nat.zero_add, Nat.reduceEqDiff, Nat.reduceBEq, ↓reduceIte, Bool.false_eq_true, List.append_nil, List.nil_append, List.cons_append, Option.toList, and_true, true_and, true_or, or_true, reduceCtorEq, List.map_nil, bI_eq0, bI_eq1, bool_ft, pk_us, vnar0, vnar1, Bool.or_false, Bool.or_true, Bool.false_or, Bool.true_or, mj_kne, eq_self, Int32.reduceLT, Int32.reduceLE, Int32.reduceAdd, Int32.reduceSub, Int32.reduceMul, not_true_eq_false, not_false_eq_true, false_implies, true_implies, D_X12_push_0, D_X12_push_1, D_X12_push_2, D_X12_push_3, mj_F_aload_n_k, mj_F_baload, mj_F_bipush_n, mj_F_getfield_i, mj_F_goto_off, mj_F_iadd, mj_F_iaload, mj_F_iastore, mj_F_iconst_n, mj_F_ifCond_eq_off, mj_F_ifCond_le_off, mj_F_ifCond_ne_off, mj_F_if_icmp_eq_off, mj_F_if_icmp_ge_off, mj_F_if_icmp_ne_off, mj_F_iinc_k_n, mj_F_iload_k, mj_F_iload_n_k, mj_F_imul, mj_F_invokevirtual_i, mj_F_ireturn, mj_F_istore_k, mj_F_istore_n_k, mj_set, mj_set0, mj_unk, mj_c2, mj_kc, FT_X12, FT_X12_1, L_X12_push, List.take_succ_cons, List.take_zero, List.drop_succ_cons, List.drop_zero, List.reverse_cons, List.reverse_nil, List.length_cons, List.length_nil, gS_M0, gMf_47, gS_M35, sS_Ma_35, gMf_23, gMf_51, gS_M39, sS_Ma_39, gMf_49, gS_M37, sS_Ma_37, gMf_53, gS_M41, sS_Ma_41, gMf_12, gMf_52, gS_M40, sS_Ma_40, gMf_46, gS_M34, sS_Ma_34, gMf_50, gS_M38, sS_Ma_38, J_X12_push]
  refine ⟨fun c => ?_, fun c => ?_⟩
  · replace hw := ok_t hw c
    exact hG.2 _ _ _ _ _ _ _ _ _ (by refine ⟨Or.inr rfl, ?_⟩; refine ⟨Or.inr rfl, ?_⟩; refine ⟨Or.inr rfl, ?_⟩; refine ⟨Or.inr rfl, ?_⟩; refine ⟨Or.inr rfl, ?_⟩; refine ⟨Or.inr rfl, ?_⟩; exact trivial) (Nat.zero_le _) (Nat.zero_le _) (hK0 _ (ok_some hw :) :)
  · replace hw := ok_f hw c
    refine ⟨(ok_rd hw).1, ?_⟩
    replace hw := (ok_rd hw).2
    refine ⟨fun c => ?_, fun c => ?_⟩
    · replace hw := ok_t hw c
      exact hG.2 _ _ _ _ _ _ _ _ _ (by refine ⟨Or.inr rfl, ?_⟩; refine ⟨Or.inr rfl, ?_⟩; refine ⟨Or.inr rfl, ?_⟩; refine ⟨Or.inr rfl, ?_⟩; refine ⟨Or.inr rfl, ?_⟩; refine ⟨Or.inr rfl, ?_⟩; refine ⟨Or.inr rfl, ?_⟩; exact trivial) (Nat.zero_le _) (Nat.zero_le _) (hP _ (ok_some hw :) :)
    · replace hw := ok_f hw c
      refine ⟨(ok_rd hw).1, ?_⟩
      replace hw := (ok_rd hw).2
      refine ⟨fun c => ?_, fun c => ?_⟩
      · replace hw := ok_f hw c
        exact hG.2 _ _ _ _ _ _ _ _ _ (by refine ⟨Or.inr rfl, ?_⟩; refine ⟨Or.inr rfl, ?_⟩; refine ⟨Or.inr rfl, ?_⟩; refine ⟨Or.inr rfl, ?_⟩; refine ⟨Or.inr rfl, ?_⟩; refine ⟨Or.inr rfl, ?_⟩; refine ⟨Or.inr rfl, ?_⟩; exact trivial) (Nat.zero_le _) (Nat.zero_le _) (hP _ (ok_some hw :) :)
      · replace hw := ok_t hw c
        refine ⟨(ok_wr hw).1, ?_⟩
        replace hw := (ok_wr hw).2
        refine ⟨(ok_wr hw).1, ?_⟩
        replace hw := (ok_wr hw).2
        exact hG.2 _ _ _ _ _ _ _ _ _ (by refine ⟨Or.inr rfl, ?_⟩; refine ⟨Or.inr rfl, ?_⟩; refine ⟨Or.inr rfl, ?_⟩; refine ⟨Or.inr rfl, ?_⟩; refine ⟨Or.inr rfl, ?_⟩; refine ⟨Or.inr rfl, ?_⟩; refine ⟨Or.inr rfl, ?_⟩; exact trivial) (Nat.zero_le _) (Nat.zero_le _) (hP _ (ok_some hw :) :)

set_option maxHeartbeats 4000000 in
theorem g_X12_push_199 {k : Option Value → mj_H → Prop} {G : mj_K} (hG : mj_cl2 cX12_push (TbX12 7 ((some FieldType.int)) ct_X12_push) k G) {v1 : Int32} {v3 : Int32} {v4 : Int32} {P : Int32 × Int32 × St → Prop} {K : (Int32 × St) → Prop} (hP : ∀ x, P x → G 142 [.ref 0, .int v1, .int x.1, .int v3, .int v4, .int x.2.1] [] (mkMs x.2.2) 0 0) (hK0 : ∀ y, K y → G 267 [.ref 0, .int v1, .int y.1, .int v3] [] (mkMs y.2) 0 0) {v2 : Int32} {v5 : Int32} {v6 : Int32} {s : St} (hw : ok (F_X12_push_199 v1 v2 v3 v4 v5 v6 s) (Sum.elim P K)) : G 199 [.ref 0, .int v1, .int v2, .int v3, .int v4, .int v5, .int v6] [] (mkMs s) 0 0 := by
  unfold F_X12_push_199 at hw
  refine lp_ok (B_X12_push_199 v1 v3 v4 v5) (fun x => G 199 [.ref 0, .int v1, .int x.1, .int v3, .int v4, .int v5, .int x.2.1] [] (mkMs x.2.2) 0 0) _ ?_ _ _ (ok_bind hw)
  rintro ⟨v2, v6, s⟩ hb
  exact b_X12_push_199 hG (fun _ z => z) (fun y hw => by exact hG.2 _ _ _ _ _ _ _ _ _ (by refine ⟨Or.inr rfl, ?_⟩; refine ⟨Or.inr rfl, ?_⟩; refine ⟨Or.inr rfl, ?_⟩; refine ⟨Or.inr rfl, ?_⟩; refine ⟨Or.inr rfl, ?_⟩; refine ⟨Or.inr rfl, ?_⟩; exact trivial) (Nat.zero_le _) (Nat.zero_le _) (g_X12_push_261 hG hP hK0  hw :)) hb

set_option maxHeartbeats 4000000 in
set_option maxRecDepth 20000 in
theorem b_X12_push_142 {k : Option Value → mj_H → Prop} {G : mj_K} (hG : mj_cl2 cX12_push (TbX12 7 ((some FieldType.int)) ct_X12_push) k G) {v1 : Int32} {v3 : Int32} {v4 : Int32} {P : Int32 × Int32 × St → Prop} {K : (Int32 × St) → Prop} (hP : ∀ x, P x → G 142 [.ref 0, .int v1, .int x.1, .int v3, .int v4, .int x.2.1] [] (mkMs x.2.2) 0 0) (hK0 : ∀ y, K y → G 267 [.ref 0, .int v1, .int y.1, .int v3] [] (mkMs y.2) 0 0) {v2 : Int32} {v5 : Int32} {s : St} (hw : ok (B_X12_push_142 v1 v3 v4 (v2, v5, s)) (Sum.elim P K)) : G 142 [.ref 0, .int v1, .int v2, .int v3, .int v4, .int v5] [] (mkMs s) 0 0 := by
  unfold B_X12_push_142 at hw
  refine mj_run hG.1 (fun pc => pc == 13 || pc == 34 || pc == 38 || pc == 83 || pc == 85 || pc == 106 || pc == 108 || pc == 131 || pc == 138 || pc == 142 || pc == 199 || pc == 261 || pc == 267 || pc == 273) 4000 ?_
  simp only [mj_step, mj_W_s, mj_fin, List.getElem?_cons_zero, List.getElem?_cons_succ, mj_go, Nat.reduceAdd, Nat.reduceSub, Nat.reduceLT, Nat.reduceLeDiff, Nat.zero_add, Nat.reduceEqDiff, Nat.reduceBEq, ↓reduceIte, Bool.false_eq_true, List.append_nil, List.nil_append, List.cons_append, Option.toList, and_true, true_and, true_or, or_true, reduceCtorEq, List.map_nil, bI_eq0, bI_eq1, bool_ft, pk_us, vnar0, vnar1, Bool.or_false, Bool.or_true, Bool.false_or, Bool.true_or, mj_kne, eq_self, Int32.reduceLT, Int32.reduceLE, Int32.reduceAdd, Int32.reduceSub, Int32.reduceMul, not_true_eq_false, not_false_eq_true, false_implies, true_implies, D_X12_push_0, D_X12_push_1, D_X12_push_2, D_X12_push_3, mj_F_aload_n_k, mj_F_baload, mj_F_bipush_n, mj_F_getfield_i, mj_F_goto_off, mj_F_iadd, mj_F_iaload, mj_F_iastore, mj_F_iconst_n, mj_F_ifCond_eq_off, mj_F_ifCond_le_off, mj_F_ifCond_ne_off, mj_F_if_icmp_eq_off, mj_F_if_icmp_ge_off, mj_F_if_icmp_ne_off, mj_F_iinc_k_n, mj_F_iload_k, mj_F_iload_n_k, mj_F_imul, mj_F_invokevirtual_i, mj_F_ireturn, mj_F_istore_k, mj_F_istore_n_k, mj_set, mj_set0, mj_unk, mj_c2, mj_kc, FT_X12, FT_X12_1, L_X12_push, List.take_succ_cons, List.take_zero, List.drop_succ_cons, List.drop_zero, List.reverse_cons, List.reverse_nil, List.length_cons, List.length_nil, gS_M0, gMf_47, gS_M35, sS_Ma_35, gMf_23, gMf_51, gS_M39, sS_Ma_39, gMf_49, gS_M37, sS_Ma_37, gMf_53, gS_M41, sS_Ma_41, gMf_12, gMf_52, gS_M40, sS_Ma_40, gMf_46, gS_M34, sS_Ma_34, gMf_50, gS_M38, sS_Ma_38, J_X12_push]
  refine ⟨fun c => ?_, fun c => ?_⟩
  · replace hw := ok_t hw c
    exact hG.2 _ _ _ _ _ _ _ _ _ (by refine ⟨Or.inr rfl, ?_⟩; refine ⟨Or.inr rfl, ?_⟩; refine ⟨Or.inr rfl, ?_⟩; refine ⟨Or.inr rfl, ?_⟩; exact trivial) (Nat.zero_le _) (Nat.zero_le _) (hK0 _ (ok_some hw :) :)
  · replace hw := ok_f hw c
    refine ⟨fun c => ?_, fun c => ?_⟩
    · replace hw := ok_t hw c
      exact hG.2 _ _ _ _ _ _ _ _ _ (by refine ⟨Or.inr rfl, ?_⟩; refine ⟨Or.inr rfl, ?_⟩; refine ⟨Or.inr rfl, ?_⟩; refine ⟨Or.inr rfl, ?_⟩; refine ⟨Or.inr rfl, ?_⟩; refine ⟨Or.inr rfl, ?_⟩; exact trivial) (Nat.zero_le _) (Nat.zero_le _) (g_X12_push_261 hG hP hK0  hw :)
    · replace hw := ok_f hw c
      refine ⟨(ok_rd hw).1, ?_⟩
      replace hw := (ok_rd hw).2
      refine ⟨fun c => ?_, fun c => ?_⟩
      · replace hw := ok_f hw c
        exact hG.2 _ _ _ _ _ _ _ _ _ (by refine ⟨Or.inr rfl, ?_⟩; refine ⟨Or.inr rfl, ?_⟩; refine ⟨Or.inr rfl, ?_⟩; refine ⟨Or.inr rfl, ?_⟩; refine ⟨Or.inr rfl, ?_⟩; refine ⟨Or.inr rfl, ?_⟩; exact trivial) (Nat.zero_le _) (Nat.zero_le _) (g_X12_push_261 hG hP hK0  hw :)
      · replace hw := ok_t hw c
        refine ⟨(ok_rd hw).1, ?_⟩
        replace hw := (ok_rd hw).2
        refine ⟨fun c => ?_, fun c => ?_⟩
        · replace hw := ok_f hw c
          refine ⟨(ok_wr hw).1, ?_⟩
          replace hw := (ok_wr hw).2
          exact hG.2 _ _ _ _ _ _ _ _ _ (by refine ⟨Or.inr rfl, ?_⟩; refine ⟨Or.inr rfl, ?_⟩; refine ⟨Or.inr rfl, ?_⟩; refine ⟨Or.inr rfl, ?_⟩; refine ⟨Or.inr rfl, ?_⟩; refine ⟨Or.inr rfl, ?_⟩; refine ⟨Or.inr rfl, ?_⟩; exact trivial) (Nat.zero_le _) (Nat.zero_le _) (g_X12_push_199 hG hP hK0  hw :)
        · replace hw := ok_t hw c
          exact hG.2 _ _ _ _ _ _ _ _ _ (by refine ⟨Or.inr rfl, ?_⟩; refine ⟨Or.inr rfl, ?_⟩; refine ⟨Or.inr rfl, ?_⟩; refine ⟨Or.inr rfl, ?_⟩; refine ⟨Or.inr rfl, ?_⟩; refine ⟨Or.inr rfl, ?_⟩; exact trivial) (Nat.zero_le _) (Nat.zero_le _) (g_X12_push_261 hG hP hK0  hw :)

set_option maxHeartbeats 4000000 in
set_option maxRecDepth 20000 in
theorem g_X12_push_267 {k : Option Value → mj_H → Prop} {G : mj_K} (hG : mj_cl2 cX12_push (TbX12 7 ((some FieldType.int)) ct_X12_push) k G) {v1 : Int32} {P : Int32 × Int32 × St → Prop} {K : (St) ⊕ (Int32 × St) → Prop} (hP : ∀ x, P x → G 108 [.ref 0, .int v1, .int x.1, .int x.2.1] [] (mkMs x.2.2) 0 0) (hK0 : ∀ y, K (.inl y) → G 273 [] [] (mkMs y) 0 0) (hK1 : ∀ y, K (.inr y) → G 131 [.ref 0, .int v1, mj_unk, mj_unk, .int y.1] [] (mkMs y.2) 0 0) {v2 : Int32} {v3 : Int32} {s : St} (hw : ok (F_X12_push_267 v1 v2 v3 s) (Sum.elim P K)) : G 267 [.ref 0, .int v1, .int v2, .int v3] [] (mkMs s) 0 0 := by
  unfold F_X12_push_267 at hw
  refine mj_run hG.1 (fun pc => pc == 13 || pc == 34 || pc == 38 || pc == 83 || pc == 85 || pc == 106 || pc == 108 || pc == 131 || pc == 138 || pc == 142 || pc == 199 || pc == 261 || pc == 267 || pc == 273) 4000 ?_
  simp only [mj_step, mj_W_s, mj_fin, List.getElem?_cons_zero, List.getElem?_cons_succ, mj_go, Nat.reduceAdd, Nat.reduceSub, Nat.reduceLT, Nat.reduceLeDiff, Nat.zero_add, Nat.reduceEqDiff, Nat.reduceBEq, ↓reduceIte, Bool.false_eq_true, List.append_nil, List.nil_append, List.cons_append, Option.toList, and_true, true_and, true_or, or_true, reduceCtorEq, List.map_nil, bI_eq0, bI_eq1, bool_ft, pk_us, vnar0, vnar1, Bool.or_false, Bool.or_true, Bool.false_or, Bool.true_or, mj_kne, eq_self, Int32.reduceLT, Int32.reduceLE, Int32.reduceAdd, Int32.reduceSub, Int32.reduceMul, not_true_eq_false, not_false_eq_true, false_implies, true_implies, D_X12_push_0, D_X12_push_1, D_X12_push_2, D_X12_push_3, mj_F_aload_n_k, mj_F_baload, mj_F_bipush_n, mj_F_getfield_i, mj_F_goto_off, mj_F_iadd, mj_F_iaload, mj_F_iastore, mj_F_iconst_n, mj_F_ifCond_eq_off, mj_F_ifCond_le_off, mj_F_ifCond_ne_off, mj_F_if_icmp_eq_off, mj_F_if_icmp_ge_off, mj_F_if_icmp_ne_off, mj_F_iinc_k_n, mj_F_iload_k, mj_F_iload_n_k, mj_F_imul, mj_F_invokevirtual_i, mj_F_ireturn, mj_F_istore_k, mj_F_istore_n_k, mj_set, mj_set0, mj_unk, mj_c2, mj_kc, FT_X12, FT_X12_1, L_X12_push, List.take_succ_cons, List.take_zero, List.drop_succ_cons, List.drop_zero, List.reverse_cons, List.reverse_nil, List.length_cons, List.length_nil, gS_M0, gMf_47, gS_M35, sS_Ma_35, gMf_23, gMf_51, gS_M39, sS_Ma_39, gMf_49, gS_M37, sS_Ma_37, gMf_53, gS_M41, sS_Ma_41, gMf_12, gMf_52, gS_M40, sS_Ma_40, gMf_46, gS_M34, sS_Ma_34, gMf_50, gS_M38, sS_Ma_38, J_X12_push]
  exact hG.2 _ _ _ _ _ _ _ _ _ (by refine ⟨Or.inr rfl, ?_⟩; refine ⟨Or.inr rfl, ?_⟩; refine ⟨Or.inr rfl, ?_⟩; refine ⟨Or.inr rfl, ?_⟩; exact trivial) (Nat.zero_le _) (Nat.zero_le _) (hP _ (ok_some hw :) :)

set_option maxHeartbeats 4000000 in
theorem g_X12_push_142 {k : Option Value → mj_H → Prop} {G : mj_K} (hG : mj_cl2 cX12_push (TbX12 7 ((some FieldType.int)) ct_X12_push) k G) {v1 : Int32} {P : Int32 × Int32 × St → Prop} {K : (St) ⊕ (Int32 × St) → Prop} (hP : ∀ x, P x → G 108 [.ref 0, .int v1, .int x.1, .int x.2.1] [] (mkMs x.2.2) 0 0) (hK0 : ∀ y, K (.inl y) → G 273 [] [] (mkMs y) 0 0) (hK1 : ∀ y, K (.inr y) → G 131 [.ref 0, .int v1, mj_unk, mj_unk, .int y.1] [] (mkMs y.2) 0 0) {v2 : Int32} {v3 : Int32} {v4 : Int32} {v5 : Int32} {s : St} (hw : ok (F_X12_push_142 v1 v2 v3 v4 v5 s) (Sum.elim P K)) : G 142 [.ref 0, .int v1, .int v2, .int v3, .int v4, .int v5] [] (mkMs s) 0 0 := by
  unfold F_X12_push_142 at hw
  refine lp_ok (B_X12_push_142 v1 v3 v4) (fun x => G 142 [.ref 0, .int v1, .int x.1, .int v3, .int v4, .int x.2.1] [] (mkMs x.2.2) 0 0) _ ?_ _ _ (ok_bind hw)
  rintro ⟨v2, v5, s⟩ hb
  exact b_X12_push_142 hG (fun _ z => z) (fun y hw => by exact hG.2 _ _ _ _ _ _ _ _ _ (by refine ⟨Or.inr rfl, ?_⟩; refine ⟨Or.inr rfl, ?_⟩; refine ⟨Or.inr rfl, ?_⟩; refine ⟨Or.inr rfl, ?_⟩; exact trivial) (Nat.zero_le _) (Nat.zero_le _) (g_X12_push_267 hG hP hK0 hK1  hw :)) hb

set_option maxHeartbeats 4000000 in
set_option maxRecDepth 20000 in
theorem b_X12_push_108 {k : Option Value → mj_H → Prop} {G : mj_K} (hG : mj_cl2 cX12_push (TbX12 7 ((some FieldType.int)) ct_X12_push) k G) {v1 : Int32} {P : Int32 × Int32 × St → Prop} {K : (St) ⊕ (Int32 × St) → Prop} (hP : ∀ x, P x → G 108 [.ref 0, .int v1, .int x.1, .int x.2.1] [] (mkMs x.2.2) 0 0) (hK0 : ∀ y, K (.inl y) → G 273 [] [] (mkMs y) 0 0) (hK1 : ∀ y, K (.inr y) → G 131 [.ref 0, .int v1, mj_unk, mj_unk, .int y.1] [] (mkMs y.2) 0 0) {v2 : Int32} {v3 : Int32} {s : St} (hw : ok (B_X12_push_108 v1 (v2, v3, s)) (Sum.elim P K)) : G 108 [.ref 0, .int v1, .int v2, .int v3] [] (mkMs s) 0 0 := by
  unfold B_X12_push_108 at hw
  refine mj_run hG.1 (fun pc => pc == 13 || pc == 34 || pc == 38 || pc == 83 || pc == 85 || pc == 106 || pc == 108 || pc == 131 || pc == 138 || pc == 142 || pc == 199 || pc == 261 || pc == 267 || pc == 273) 4000 ?_
  simp only [mj_step, mj_W_s, mj_fin, List.getElem?_cons_zero, List.getElem?_cons_succ, mj_go, Nat.reduceAdd, Nat.reduceSub, Nat.reduceLT, Nat.reduceLeDiff, Nat.zero_add, Nat.reduceEqDiff, Nat.reduceBEq, ↓reduceIte, Bool.false_eq_true, List.append_nil, List.nil_append, List.cons_append, Option.toList, and_true, true_and, true_or, or_true, reduceCtorEq, List.map_nil, bI_eq0, bI_eq1, bool_ft, pk_us, vnar0, vnar1, Bool.or_false, Bool.or_true, Bool.false_or, Bool.true_or, mj_kne, eq_self, Int32.reduceLT, Int32.reduceLE, Int32.reduceAdd, Int32.reduceSub, Int32.reduceMul, not_true_eq_false, not_false_eq_true, false_implies, true_implies, D_X12_push_0, D_X12_push_1, D_X12_push_2, D_X12_push_3, mj_F_aload_n_k, mj_F_baload, mj_F_bipush_n, mj_F_getfield_i, mj_F_goto_off, mj_F_iadd, mj_F_iaload, mj_F_iastore, mj_F_iconst_n, mj_F_ifCond_eq_off, mj_F_ifCond_le_off, mj_F_ifCond_ne_off, mj_F_if_icmp_eq_off, mj_F_if_icmp_ge_off, mj_F_if_icmp_ne_off, mj_F_iinc_k_n, mj_F_iload_k, mj_F_iload_n_k, mj_F_imul, mj_F_invokevirtual_i, mj_F_ireturn, mj_F_istore_k, mj_F_istore_n_k, mj_set, mj_set0, mj_unk, mj_c2, mj_kc, FT_X12, FT_X12_1, L_X12_push, List.take_succ_cons, List.take_zero, List.drop_succ_cons, List.drop_zero, List.reverse_cons, List.reverse_nil, List.length_cons, List.length_nil, gS_M0, gMf_47, gS_M35, sS_Ma_35, gMf_23, gMf_51, gS_M39, sS_Ma_39, gMf_49, gS_M37, sS_Ma_37, gMf_53, gS_M41, sS_Ma_41, gMf_12, gMf_52, gS_M40, sS_Ma_40, gMf_46, gS_M34, sS_Ma_34, gMf_50, gS_M38, sS_Ma_38, J_X12_push]
  refine ⟨fun c => ?_, fun c => ?_⟩
  · replace hw := ok_t hw c
    exact hG.2 _ _ _ _ _ _ _ _ _ (by exact trivial) (Nat.zero_le _) (Nat.zero_le _) (hK0 _ (ok_some hw :) :)
  · replace hw := ok_f hw c
    refine ⟨(ok_rd hw).1, ?_⟩
    replace hw := (ok_rd hw).2
    refine ⟨(ok_rd hw).1, ?_⟩
    replace hw := (ok_rd hw).2
    refine ⟨fun c => ?_, fun c => ?_⟩
    · replace hw := ok_t hw c
      exact hG.2 _ _ _ _ _ _ _ _ _ (by refine ⟨Or.inr rfl, ?_⟩; refine ⟨Or.inr rfl, ?_⟩; refine ⟨Or.inr rfl, ?_⟩; refine ⟨Or.inr rfl, ?_⟩; refine ⟨Or.inr rfl, ?_⟩; refine ⟨Or.inr rfl, ?_⟩; exact trivial) (Nat.zero_le _) (Nat.zero_le _) (g_X12_push_142 hG hP hK0 hK1  hw :)
    · replace hw := ok_f hw c
      exact hG.2 _ _ _ _ _ _ _ _ _ (by refine ⟨Or.inr rfl, ?_⟩; refine ⟨Or.inr rfl, ?_⟩; refine ⟨Or.inl rfl, ?_⟩; refine ⟨Or.inl rfl, ?_⟩; refine ⟨Or.inr rfl, ?_⟩; exact trivial) (Nat.zero_le _) (Nat.zero_le _) (hK1 _ (ok_some hw :) :)

set_option maxHeartbeats 4000000 in
set_option maxRecDepth 20000 in
theorem g_X12_push_273 {k : Option Value → mj_H → Prop} {G : mj_K} (hG : mj_cl2 cX12_push (TbX12 7 ((some FieldType.int)) ct_X12_push) k G)   {s : St} (hw : ok (F_X12_push_273 s) (fun p => k (some (.int p.1)) (mkMs p.2))) : G 273 [] [] (mkMs s) 0 0 := by
  unfold F_X12_push_273 at hw
  refine mj_run hG.1 (fun pc => pc == 13 || pc == 34 || pc == 38 || pc == 83 || pc == 85 || pc == 106 || pc == 108 || pc == 131 || pc == 138 || pc == 142 || pc == 199 || pc == 261 || pc == 267 || pc == 273) 4000 ?_
  simp only [mj_step, mj_W_s, mj_fin, List.getElem?_cons_zero, List.getElem?_cons_succ, mj_go, Nat.reduceAdd, Nat.reduceSub, Nat.reduceLT, Nat.reduceLeDiff, Nat.zero_add, Nat.reduceEqDiff, Nat.reduceBEq, ↓reduceIte, Bool.false_eq_true, List.append_nil, List.nil_append, List.cons_append, Option.toList, and_true, true_and, true_or, or_true, reduceCtorEq, List.map_nil, bI_eq0, bI_eq1, bool_ft, pk_us, vnar0, vnar1, Bool.or_false, Bool.or_true, Bool.false_or, Bool.true_or, mj_kne, eq_self, Int32.reduceLT, Int32.reduceLE, Int32.reduceAdd, Int32.reduceSub, Int32.reduceMul, not_true_eq_false, not_false_eq_true, false_implies, true_implies, D_X12_push_0, D_X12_push_1, D_X12_push_2, D_X12_push_3, mj_F_aload_n_k, mj_F_baload, mj_F_bipush_n, mj_F_getfield_i, mj_F_goto_off, mj_F_iadd, mj_F_iaload, mj_F_iastore, mj_F_iconst_n, mj_F_ifCond_eq_off, mj_F_ifCond_le_off, mj_F_ifCond_ne_off, mj_F_if_icmp_eq_off, mj_F_if_icmp_ge_off, mj_F_if_icmp_ne_off, mj_F_iinc_k_n, mj_F_iload_k, mj_F_iload_n_k, mj_F_imul, mj_F_invokevirtual_i, mj_F_ireturn, mj_F_istore_k, mj_F_istore_n_k, mj_set, mj_set0, mj_unk, mj_c2, mj_kc, FT_X12, FT_X12_1, L_X12_push, List.take_succ_cons, List.take_zero, List.drop_succ_cons, List.drop_zero, List.reverse_cons, List.reverse_nil, List.length_cons, List.length_nil, gS_M0, gMf_47, gS_M35, sS_Ma_35, gMf_23, gMf_51, gS_M39, sS_Ma_39, gMf_49, gS_M37, sS_Ma_37, gMf_53, gS_M41, sS_Ma_41, gMf_12, gMf_52, gS_M40, sS_Ma_40, gMf_46, gS_M34, sS_Ma_34, gMf_50, gS_M38, sS_Ma_38, J_X12_push]
  exact (ok_some hw :)

set_option maxHeartbeats 4000000 in
set_option maxRecDepth 20000 in
theorem g_X12_push_131 {k : Option Value → mj_H → Prop} {G : mj_K} (hG : mj_cl2 cX12_push (TbX12 7 ((some FieldType.int)) ct_X12_push) k G)   {v1 : Int32} {v4 : Int32} {s : St} (hw : ok (F_X12_push_131 v1 v4 s) (fun p => k (some (.int p.1)) (mkMs p.2))) : G 131 [.ref 0, .int v1, mj_unk, mj_unk, .int v4] [] (mkMs s) 0 0 := by
  unfold F_X12_push_131 at hw
  refine mj_run hG.1 (fun pc => pc == 13 || pc == 34 || pc == 38 || pc == 83 || pc == 85 || pc == 106 || pc == 108 || pc == 131 || pc == 138 || pc == 142 || pc == 199 || pc == 261 || pc == 267 || pc == 273) 4000 ?_
  simp only [mj_step, mj_W_s, mj_fin, List.getElem?_cons_zero, List.getElem?_cons_succ, mj_go, Nat.reduceAdd, Nat.reduceSub, Nat.reduceLT, Nat.reduceLeDiff, Nat.zero_add, Nat.reduceEqDiff, Nat.reduceBEq, ↓reduceIte, Bool.false_eq_true, List.append_nil, List.nil_append, List.cons_append, Option.toList, and_true, true_and, true_or, or_true, reduceCtorEq, List.map_nil, bI_eq0, bI_eq1, bool_ft, pk_us, vnar0, vnar1, Bool.or_false, Bool.or_true, Bool.false_or, Bool.true_or, mj_kne, eq_self, Int32.reduceLT, Int32.reduceLE, Int32.reduceAdd, Int32.reduceSub, Int32.reduceMul, not_true_eq_false, not_false_eq_true, false_implies, true_implies, D_X12_push_0, D_X12_push_1, D_X12_push_2, D_X12_push_3, mj_F_aload_n_k, mj_F_baload, mj_F_bipush_n, mj_F_getfield_i, mj_F_goto_off, mj_F_iadd, mj_F_iaload, mj_F_iastore, mj_F_iconst_n, mj_F_ifCond_eq_off, mj_F_ifCond_le_off, mj_F_ifCond_ne_off, mj_F_if_icmp_eq_off, mj_F_if_icmp_ge_off, mj_F_if_icmp_ne_off, mj_F_iinc_k_n, mj_F_iload_k, mj_F_iload_n_k, mj_F_imul, mj_F_invokevirtual_i, mj_F_ireturn, mj_F_istore_k, mj_F_istore_n_k, mj_set, mj_set0, mj_unk, mj_c2, mj_kc, FT_X12, FT_X12_1, L_X12_push, List.take_succ_cons, List.take_zero, List.drop_succ_cons, List.drop_zero, List.reverse_cons, List.reverse_nil, List.length_cons, List.length_nil, gS_M0, gMf_47, gS_M35, sS_Ma_35, gMf_23, gMf_51, gS_M39, sS_Ma_39, gMf_49, gS_M37, sS_Ma_37, gMf_53, gS_M41, sS_Ma_41, gMf_12, gMf_52, gS_M40, sS_Ma_40, gMf_46, gS_M34, sS_Ma_34, gMf_50, gS_M38, sS_Ma_38, J_X12_push]
  refine c_X12_carry_in (ok_imp (ok_bind hw) ?_)
  intro p hw
  simp only [Option.toList, List.nil_append, List.cons_append, Nat.reduceSub]
  refine mj_run hG.1 (fun pc => pc == 13 || pc == 34 || pc == 38 || pc == 83 || pc == 85 || pc == 106 || pc == 108 || pc == 131 || pc == 138 || pc == 142 || pc == 199 || pc == 261 || pc == 267 || pc == 273) 4000 ?_
  simp only [mj_step, mj_W_s, mj_fin, List.getElem?_cons_zero, List.getElem?_cons_succ, mj_go, Nat.reduceAdd, Nat.reduceSub, Nat.reduceLT, Nat.reduceLeDiff, Nat.zero_add, Nat.reduceEqDiff, Nat.reduceBEq, ↓reduceIte, Bool.false_eq_true, List.append_nil, List.nil_append, List.cons_append, Option.toList, and_true, true_and, true_or, or_true, reduceCtorEq, List.map_nil, bI_eq0, bI_eq1, bool_ft, pk_us, vnar0, vnar1, Bool.or_false, Bool.or_true, Bool.false_or, Bool.true_or, mj_kne, eq_self, Int32.reduceLT, Int32.reduceLE, Int32.reduceAdd, Int32.reduceSub, Int32.reduceMul, not_true_eq_false, not_false_eq_true, false_implies, true_implies, D_X12_push_0, D_X12_push_1, D_X12_push_2, D_X12_push_3, mj_F_aload_n_k, mj_F_baload, mj_F_bipush_n, mj_F_getfield_i, mj_F_goto_off, mj_F_iadd, mj_F_iaload, mj_F_iastore, mj_F_iconst_n, mj_F_ifCond_eq_off, mj_F_ifCond_le_off, mj_F_ifCond_ne_off, mj_F_if_icmp_eq_off, mj_F_if_icmp_ge_off, mj_F_if_icmp_ne_off, mj_F_iinc_k_n, mj_F_iload_k, mj_F_iload_n_k, mj_F_imul, mj_F_invokevirtual_i, mj_F_ireturn, mj_F_istore_k, mj_F_istore_n_k, mj_set, mj_set0, mj_unk, mj_c2, mj_kc, FT_X12, FT_X12_1, L_X12_push, List.take_succ_cons, List.take_zero, List.drop_succ_cons, List.drop_zero, List.reverse_cons, List.reverse_nil, List.length_cons, List.length_nil, gS_M0, gMf_47, gS_M35, sS_Ma_35, gMf_23, gMf_51, gS_M39, sS_Ma_39, gMf_49, gS_M37, sS_Ma_37, gMf_53, gS_M41, sS_Ma_41, gMf_12, gMf_52, gS_M40, sS_Ma_40, gMf_46, gS_M34, sS_Ma_34, gMf_50, gS_M38, sS_Ma_38, J_X12_push]
  exact (ok_some hw :)

set_option maxHeartbeats 4000000 in
theorem g_X12_push_108 {k : Option Value → mj_H → Prop} {G : mj_K} (hG : mj_cl2 cX12_push (TbX12 7 ((some FieldType.int)) ct_X12_push) k G)   {v1 : Int32} {v2 : Int32} {v3 : Int32} {s : St} (hw : ok (F_X12_push_108 v1 v2 v3 s) (fun p => k (some (.int p.1)) (mkMs p.2))) : G 108 [.ref 0, .int v1, .int v2, .int v3] [] (mkMs s) 0 0 := by
  unfold F_X12_push_108 at hw
  refine lp_ok (B_X12_push_108 v1) (fun x => G 108 [.ref 0, .int v1, .int x.1, .int x.2.1] [] (mkMs x.2.2) 0 0) _ ?_ _ _ (ok_bind hw)
  rintro ⟨v2, v3, s⟩ hb
  exact b_X12_push_108 hG (fun _ z => z) (fun y hw => by exact hG.2 _ _ _ _ _ _ _ _ _ (by exact trivial) (Nat.zero_le _) (Nat.zero_le _) (g_X12_push_273 hG  hw :)) (fun y hw => by exact hG.2 _ _ _ _ _ _ _ _ _ (by refine ⟨Or.inr rfl, ?_⟩; refine ⟨Or.inr rfl, ?_⟩; refine ⟨Or.inl rfl, ?_⟩; refine ⟨Or.inl rfl, ?_⟩; refine ⟨Or.inr rfl, ?_⟩; exact trivial) (Nat.zero_le _) (Nat.zero_le _) (g_X12_push_131 hG  hw :)) hb

set_option maxHeartbeats 4000000 in
set_option maxRecDepth 20000 in
theorem g_X12_push_106 {k : Option Value → mj_H → Prop} {G : mj_K} (hG : mj_cl2 cX12_push (TbX12 7 ((some FieldType.int)) ct_X12_push) k G)   {v1 : Int32} {v2 : Int32} {s : St} (hw : ok (F_X12_push_106 v1 v2 s) (fun p => k (some (.int p.1)) (mkMs p.2))) : G 106 [.ref 0, .int v1, .int v2] [] (mkMs s) 0 0 := by
  unfold F_X12_push_106 at hw
  refine mj_run hG.1 (fun pc => pc == 13 || pc == 34 || pc == 38 || pc == 83 || pc == 85 || pc == 106 || pc == 108 || pc == 131 || pc == 138 || pc == 142 || pc == 199 || pc == 261 || pc == 267 || pc == 273) 4000 ?_
  simp only [mj_step, mj_W_s, mj_fin, List.getElem?_cons_zero, List.getElem?_cons_succ, mj_go, Nat.reduceAdd, Nat.reduceSub, Nat.reduceLT, Nat.reduceLeDiff, Nat.zero_add, Nat.reduceEqDiff, Nat.reduceBEq, ↓reduceIte, Bool.false_eq_true, List.append_nil, List.nil_append, List.cons_append, Option.toList, and_true, true_and, true_or, or_true, reduceCtorEq, List.map_nil, bI_eq0, bI_eq1, bool_ft, pk_us, vnar0, vnar1, Bool.or_false, Bool.or_true, Bool.false_or, Bool.true_or, mj_kne, eq_self, Int32.reduceLT, Int32.reduceLE, Int32.reduceAdd, Int32.reduceSub, Int32.reduceMul, not_true_eq_false, not_false_eq_true, false_implies, true_implies, D_X12_push_0, D_X12_push_1, D_X12_push_2, D_X12_push_3, mj_F_aload_n_k, mj_F_baload, mj_F_bipush_n, mj_F_getfield_i, mj_F_goto_off, mj_F_iadd, mj_F_iaload, mj_F_iastore, mj_F_iconst_n, mj_F_ifCond_eq_off, mj_F_ifCond_le_off, mj_F_ifCond_ne_off, mj_F_if_icmp_eq_off, mj_F_if_icmp_ge_off, mj_F_if_icmp_ne_off, mj_F_iinc_k_n, mj_F_iload_k, mj_F_iload_n_k, mj_F_imul, mj_F_invokevirtual_i, mj_F_ireturn, mj_F_istore_k, mj_F_istore_n_k, mj_set, mj_set0, mj_unk, mj_c2, mj_kc, FT_X12, FT_X12_1, L_X12_push, List.take_succ_cons, List.take_zero, List.drop_succ_cons, List.drop_zero, List.reverse_cons, List.reverse_nil, List.length_cons, List.length_nil, gS_M0, gMf_47, gS_M35, sS_Ma_35, gMf_23, gMf_51, gS_M39, sS_Ma_39, gMf_49, gS_M37, sS_Ma_37, gMf_53, gS_M41, sS_Ma_41, gMf_12, gMf_52, gS_M40, sS_Ma_40, gMf_46, gS_M34, sS_Ma_34, gMf_50, gS_M38, sS_Ma_38, J_X12_push]
  exact hG.2 _ _ _ _ _ _ _ _ _ (by refine ⟨Or.inr rfl, ?_⟩; refine ⟨Or.inr rfl, ?_⟩; refine ⟨Or.inr rfl, ?_⟩; refine ⟨Or.inr rfl, ?_⟩; exact trivial) (Nat.zero_le _) (Nat.zero_le _) (g_X12_push_108 hG  hw :)

set_option maxHeartbeats 4000000 in
theorem g_X12_push_85 {k : Option Value → mj_H → Prop} {G : mj_K} (hG : mj_cl2 cX12_push (TbX12 7 ((some FieldType.int)) ct_X12_push) k G)   {v1 : Int32} {v2 : Int32} {v3 : Int32} {s : St} (hw : ok (F_X12_push_85 v1 v2 v3 s) (fun p => k (some (.int p.1)) (mkMs p.2))) : G 85 [.ref 0, .int v1, .int v2, .int v3] [] (mkMs s) 0 0 := by
  unfold F_X12_push_85 at hw
  refine lp_ok (B_X12_push_85 v1 v2) (fun x => G 85 [.ref 0, .int v1, .int v2, .int x.1] [] (mkMs x.2) 0 0) _ ?_ _ _ (ok_bind hw)
  rintro ⟨v3, s⟩ hb
  exact b_X12_push_85 hG (fun _ z => z) (fun y hw => by exact hG.2 _ _ _ _ _ _ _ _ _ (by refine ⟨Or.inr rfl, ?_⟩; refine ⟨Or.inr rfl, ?_⟩; refine ⟨Or.inr rfl, ?_⟩; exact trivial) (Nat.zero_le _) (Nat.zero_le _) (g_X12_push_106 hG  hw :)) hb

set_option maxHeartbeats 4000000 in
set_option maxRecDepth 20000 in
theorem g_X12_push_83 {k : Option Value → mj_H → Prop} {G : mj_K} (hG : mj_cl2 cX12_push (TbX12 7 ((some FieldType.int)) ct_X12_push) k G)   {v1 : Int32} {v2 : Int32} {s : St} (hw : ok (F_X12_push_83 v1 v2 s) (fun p => k (some (.int p.1)) (mkMs p.2))) : G 83 [.ref 0, .int v1, .int v2] [] (mkMs s) 0 0 := by
  unfold F_X12_push_83 at hw
  refine mj_run hG.1 (fun pc => pc == 13 || pc == 34 || pc == 38 || pc == 83 || pc == 85 || pc == 106 || pc == 108 || pc == 131 || pc == 138 || pc == 142 || pc == 199 || pc == 261 || pc == 267 || pc == 273) 4000 ?_
  simp only [mj_step, mj_W_s, mj_fin, List.getElem?_cons_zero, List.getElem?_cons_succ, mj_go, Nat.reduceAdd, Nat.reduceSub, Nat.reduceLT, Nat.reduceLeDiff, Nat.zero_add, Nat.reduceEqDiff, Nat.reduceBEq, ↓reduceIte, Bool.false_eq_true, List.append_nil, List.nil_append, List.cons_append, Option.toList, and_true, true_and, true_or, or_true, reduceCtorEq, List.map_nil, bI_eq0, bI_eq1, bool_ft, pk_us, vnar0, vnar1, Bool.or_false, Bool.or_true, Bool.false_or, Bool.true_or, mj_kne, eq_self, Int32.reduceLT, Int32.reduceLE, Int32.reduceAdd, Int32.reduceSub, Int32.reduceMul, not_true_eq_false, not_false_eq_true, false_implies, true_implies, D_X12_push_0, D_X12_push_1, D_X12_push_2, D_X12_push_3, mj_F_aload_n_k, mj_F_baload, mj_F_bipush_n, mj_F_getfield_i, mj_F_goto_off, mj_F_iadd, mj_F_iaload, mj_F_iastore, mj_F_iconst_n, mj_F_ifCond_eq_off, mj_F_ifCond_le_off, mj_F_ifCond_ne_off, mj_F_if_icmp_eq_off, mj_F_if_icmp_ge_off, mj_F_if_icmp_ne_off, mj_F_iinc_k_n, mj_F_iload_k, mj_F_iload_n_k, mj_F_imul, mj_F_invokevirtual_i, mj_F_ireturn, mj_F_istore_k, mj_F_istore_n_k, mj_set, mj_set0, mj_unk, mj_c2, mj_kc, FT_X12, FT_X12_1, L_X12_push, List.take_succ_cons, List.take_zero, List.drop_succ_cons, List.drop_zero, List.reverse_cons, List.reverse_nil, List.length_cons, List.length_nil, gS_M0, gMf_47, gS_M35, sS_Ma_35, gMf_23, gMf_51, gS_M39, sS_Ma_39, gMf_49, gS_M37, sS_Ma_37, gMf_53, gS_M41, sS_Ma_41, gMf_12, gMf_52, gS_M40, sS_Ma_40, gMf_46, gS_M34, sS_Ma_34, gMf_50, gS_M38, sS_Ma_38, J_X12_push]
  exact hG.2 _ _ _ _ _ _ _ _ _ (by refine ⟨Or.inr rfl, ?_⟩; refine ⟨Or.inr rfl, ?_⟩; refine ⟨Or.inr rfl, ?_⟩; refine ⟨Or.inr rfl, ?_⟩; exact trivial) (Nat.zero_le _) (Nat.zero_le _) (g_X12_push_85 hG  hw :)

set_option maxHeartbeats 4000000 in
theorem g_X12_push_38 {k : Option Value → mj_H → Prop} {G : mj_K} (hG : mj_cl2 cX12_push (TbX12 7 ((some FieldType.int)) ct_X12_push) k G)   {v1 : Int32} {v2 : Int32} {v3 : Int32} {s : St} (hw : ok (F_X12_push_38 v1 v2 v3 s) (fun p => k (some (.int p.1)) (mkMs p.2))) : G 38 [.ref 0, .int v1, .int v2, .int v3] [] (mkMs s) 0 0 := by
  unfold F_X12_push_38 at hw
  refine lp_ok (B_X12_push_38 v1) (fun x => G 38 [.ref 0, .int v1, .int x.1, .int x.2.1] [] (mkMs x.2.2) 0 0) _ ?_ _ _ (ok_bind hw)
  rintro ⟨v2, v3, s⟩ hb
  exact b_X12_push_38 hG (fun _ z => z) (fun y hw => by exact hG.2 _ _ _ _ _ _ _ _ _ (by refine ⟨Or.inr rfl, ?_⟩; refine ⟨Or.inr rfl, ?_⟩; refine ⟨Or.inr rfl, ?_⟩; exact trivial) (Nat.zero_le _) (Nat.zero_le _) (g_X12_push_83 hG  hw :)) hb

set_option maxHeartbeats 4000000 in
set_option maxRecDepth 20000 in
theorem g_X12_push_34 {k : Option Value → mj_H → Prop} {G : mj_K} (hG : mj_cl2 cX12_push (TbX12 7 ((some FieldType.int)) ct_X12_push) k G)   {v1 : Int32} {s : St} (hw : ok (F_X12_push_34 v1 s) (fun p => k (some (.int p.1)) (mkMs p.2))) : G 34 [.ref 0, .int v1] [] (mkMs s) 0 0 := by
  unfold F_X12_push_34 at hw
  refine mj_run hG.1 (fun pc => pc == 13 || pc == 34 || pc == 38 || pc == 83 || pc == 85 || pc == 106 || pc == 108 || pc == 131 || pc == 138 || pc == 142 || pc == 199 || pc == 261 || pc == 267 || pc == 273) 4000 ?_
  simp only [mj_step, mj_W_s, mj_fin, List.getElem?_cons_zero, List.getElem?_cons_succ, mj_go, Nat.reduceAdd, Nat.reduceSub, Nat.reduceLT, Nat.reduceLeDiff, Nat.zero_add, Nat.reduceEqDiff, Nat.reduceBEq, ↓reduceIte, Bool.false_eq_true, List.append_nil, List.nil_append, List.cons_append, Option.toList, and_true, true_and, true_or, or_true, reduceCtorEq, List.map_nil, bI_eq0, bI_eq1, bool_ft, pk_us, vnar0, vnar1, Bool.or_false, Bool.or_true, Bool.false_or, Bool.true_or, mj_kne, eq_self, Int32.reduceLT, Int32.reduceLE, Int32.reduceAdd, Int32.reduceSub, Int32.reduceMul, not_true_eq_false, not_false_eq_true, false_implies, true_implies, D_X12_push_0, D_X12_push_1, D_X12_push_2, D_X12_push_3, mj_F_aload_n_k, mj_F_baload, mj_F_bipush_n, mj_F_getfield_i, mj_F_goto_off, mj_F_iadd, mj_F_iaload, mj_F_iastore, mj_F_iconst_n, mj_F_ifCond_eq_off, mj_F_ifCond_le_off, mj_F_ifCond_ne_off, mj_F_if_icmp_eq_off, mj_F_if_icmp_ge_off, mj_F_if_icmp_ne_off, mj_F_iinc_k_n, mj_F_iload_k, mj_F_iload_n_k, mj_F_imul, mj_F_invokevirtual_i, mj_F_ireturn, mj_F_istore_k, mj_F_istore_n_k, mj_set, mj_set0, mj_unk, mj_c2, mj_kc, FT_X12, FT_X12_1, L_X12_push, List.take_succ_cons, List.take_zero, List.drop_succ_cons, List.drop_zero, List.reverse_cons, List.reverse_nil, List.length_cons, List.length_nil, gS_M0, gMf_47, gS_M35, sS_Ma_35, gMf_23, gMf_51, gS_M39, sS_Ma_39, gMf_49, gS_M37, sS_Ma_37, gMf_53, gS_M41, sS_Ma_41, gMf_12, gMf_52, gS_M40, sS_Ma_40, gMf_46, gS_M34, sS_Ma_34, gMf_50, gS_M38, sS_Ma_38, J_X12_push]
  exact hG.2 _ _ _ _ _ _ _ _ _ (by refine ⟨Or.inr rfl, ?_⟩; refine ⟨Or.inr rfl, ?_⟩; refine ⟨Or.inr rfl, ?_⟩; refine ⟨Or.inr rfl, ?_⟩; exact trivial) (Nat.zero_le _) (Nat.zero_le _) (g_X12_push_38 hG  hw :)

set_option maxHeartbeats 4000000 in
theorem g_X12_push_13 {k : Option Value → mj_H → Prop} {G : mj_K} (hG : mj_cl2 cX12_push (TbX12 7 ((some FieldType.int)) ct_X12_push) k G)   {v1 : Int32} {v2 : Int32} {s : St} (hw : ok (F_X12_push_13 v1 v2 s) (fun p => k (some (.int p.1)) (mkMs p.2))) : G 13 [.ref 0, .int v1, .int v2] [] (mkMs s) 0 0 := by
  unfold F_X12_push_13 at hw
  refine lp_ok (B_X12_push_13 v1) (fun x => G 13 [.ref 0, .int v1, .int x.1] [] (mkMs x.2) 0 0) _ ?_ _ _ (ok_bind hw)
  rintro ⟨v2, s⟩ hb
  exact b_X12_push_13 hG (fun _ z => z) (fun y hw => by exact hG.2 _ _ _ _ _ _ _ _ _ (by refine ⟨Or.inr rfl, ?_⟩; refine ⟨Or.inr rfl, ?_⟩; exact trivial) (Nat.zero_le _) (Nat.zero_le _) (g_X12_push_34 hG  hw :)) hb

set_option maxHeartbeats 4000000 in
set_option maxRecDepth 20000 in
theorem g_X12_push {k : Option Value → mj_H → Prop} {G : mj_K} (hG : mj_cl2 cX12_push (TbX12 7 ((some FieldType.int)) ct_X12_push) k G) {v1 : Int32} {s : St} (hw : ok (F_X12_push v1 s) (fun p => k (some (.int p.1)) (mkMs p.2))) : G 0 [.ref 0, .int v1] [] (mkMs s) 0 0 := by
  unfold F_X12_push at hw
  refine mj_run hG.1 (fun pc => pc == 13 || pc == 34 || pc == 38 || pc == 83 || pc == 85 || pc == 106 || pc == 108 || pc == 131 || pc == 138 || pc == 142 || pc == 199 || pc == 261 || pc == 267 || pc == 273) 4000 ?_
  simp only [mj_step, mj_W_s, mj_fin, List.getElem?_cons_zero, List.getElem?_cons_succ, mj_go, Nat.reduceAdd, Nat.reduceSub, Nat.reduceLT, Nat.reduceLeDiff, Nat.zero_add, Nat.reduceEqDiff, Nat.reduceBEq, ↓reduceIte, Bool.false_eq_true, List.append_nil, List.nil_append, List.cons_append, Option.toList, and_true, true_and, true_or, or_true, reduceCtorEq, List.map_nil, bI_eq0, bI_eq1, bool_ft, pk_us, vnar0, vnar1, Bool.or_false, Bool.or_true, Bool.false_or, Bool.true_or, mj_kne, eq_self, Int32.reduceLT, Int32.reduceLE, Int32.reduceAdd, Int32.reduceSub, Int32.reduceMul, not_true_eq_false, not_false_eq_true, false_implies, true_implies, D_X12_push_0, D_X12_push_1, D_X12_push_2, D_X12_push_3, mj_F_aload_n_k, mj_F_baload, mj_F_bipush_n, mj_F_getfield_i, mj_F_goto_off, mj_F_iadd, mj_F_iaload, mj_F_iastore, mj_F_iconst_n, mj_F_ifCond_eq_off, mj_F_ifCond_le_off, mj_F_ifCond_ne_off, mj_F_if_icmp_eq_off, mj_F_if_icmp_ge_off, mj_F_if_icmp_ne_off, mj_F_iinc_k_n, mj_F_iload_k, mj_F_iload_n_k, mj_F_imul, mj_F_invokevirtual_i, mj_F_ireturn, mj_F_istore_k, mj_F_istore_n_k, mj_set, mj_set0, mj_unk, mj_c2, mj_kc, FT_X12, FT_X12_1, L_X12_push, List.take_succ_cons, List.take_zero, List.drop_succ_cons, List.drop_zero, List.reverse_cons, List.reverse_nil, List.length_cons, List.length_nil, gS_M0, gMf_47, gS_M35, sS_Ma_35, gMf_23, gMf_51, gS_M39, sS_Ma_39, gMf_49, gS_M37, sS_Ma_37, gMf_53, gS_M41, sS_Ma_41, gMf_12, gMf_52, gS_M40, sS_Ma_40, gMf_46, gS_M34, sS_Ma_34, gMf_50, gS_M38, sS_Ma_38, J_X12_push]
  refine ⟨(ok_rd hw).1, ?_⟩
  replace hw := (ok_rd hw).2
  refine ⟨fun c => ?_, fun c => ?_⟩
  · replace hw := ok_f hw c
    exact hG.2 _ _ _ _ _ _ _ _ _ (by refine ⟨Or.inr rfl, ?_⟩; refine ⟨Or.inr rfl, ?_⟩; refine ⟨Or.inr rfl, ?_⟩; exact trivial) (Nat.zero_le _) (Nat.zero_le _) (g_X12_push_13 hG  hw :)
  · replace hw := ok_t hw c
    exact (ok_some hw :)

def c_X12_push : mj_S := fun as h k => ∃ (v1 : Int32) (s : St), as = [.ref 0, .int v1] ∧ h = mkMs s ∧ ok (F_X12_push v1 s) (fun p => k (some (.int p.1)) (mkMs p.2))
theorem c_X12_push_in {v1 : Int32} {s : St} {k : Option Value → mj_H → Prop} (hw : ok (F_X12_push v1 s) (fun p => k (some (.int p.1)) (mkMs p.2))) : c_X12_push [.ref 0, .int v1] (mkMs s) k := ⟨v1, s, rfl, rfl, hw⟩
theorem m_X12_push (l : Launch) : mj_Met l yX12_push cX12_push 7 ((some FieldType.int)) 2 0 0 c_X12_push := by
  refine mj_body2 false (TbX12 7 ((some FieldType.int)) ct_X12_push) (by decide) rfl rfl (fun h => nomatch h) (tfX12 _ (List.forall_mem_cons.mpr ⟨cfX12_488 (m_X12_carry l) (by decide), fun _ h => nomatch h⟩)) ?_
  rintro as h k ⟨v1, s, rfl, rfl, hw⟩
  exact ⟨rfl, fun G hG => g_X12_push hG hw⟩
def B_X12_most_29 (v3 : Int32) : Int32 × St → Option ((Int32 × St) ⊕ ((St)))
  | (v4, s) =>
  if 480 ≤ v4 then
    some (.inr s)
  else
    (wr s 1250 480 v4 0).bind fun s4 =>
    some (.inl ((v4 + 1), s4))
def B_X12_most_71 (v4 : Int32) : Int32 × Int32 × St → Option ((Int32 × Int32 × St) ⊕ ((Int32 × St)))
  | (v3, v5, s) =>
  if v5 ≤ 0 then
    some (.inr (v3, s))
  else
    (F_X12_push v4 s).bind fun r6 =>
    some (.inl ((v3 + v5), r6.1, r6.2))
def F_X12_most_92 (v3 : Int32) (v4 : Int32) (s : St) : Option ((Int32 × Int32 × St) ⊕ ((Int32 × St))) :=
  some (.inl (v3, (v4 + 1), s))
def F_X12_most_71 (v3 : Int32) (v4 : Int32) (v5 : Int32) (s : St) : Option ((Int32 × Int32 × St) ⊕ ((Int32 × St))) :=
  (lp (B_X12_most_71 v4) FU (v3, v5, s)).bind (fun y => F_X12_most_92 y.1 v4 y.2)
def B_X12_most_54  : Int32 × Int32 × St → Option ((Int32 × Int32 × St) ⊕ ((Int32 × St)))
  | (v3, v4, s) =>
  if (s.1 1212) ≤ v4 then
    some (.inr (v3, s))
  else
    (F_X12_push v4 s).bind fun r5 =>
    F_X12_most_71 v3 v4 r5.1 r5.2
def F_X12_most_98 (v3 : Int32) (s : St) : Option (Int32 × St) :=
  some (v3, s)
def F_X12_most_54 (v3 : Int32) (v4 : Int32) (s : St) : Option (Int32 × St) :=
  (lp (B_X12_most_54 ) FU (v3, v4, s)).bind (fun y => F_X12_most_98 y.1 y.2)
def F_X12_most_51 (v3 : Int32) (s : St) : Option (Int32 × St) :=
  F_X12_most_54 v3 0 s
def F_X12_most_29 (v3 : Int32) (v4 : Int32) (s : St) : Option (Int32 × St) :=
  (lp (B_X12_most_29 v3) FU (v4, s)).bind (fun y => F_X12_most_51 v3 y)
def F_X12_most (v1 : Int32) (v2 : Int32) (s : St) : Option (Int32 × St) :=
  (F_X12_isWeek v1 s).bind fun r1 =>
  if r1 = 0 then
    some ((-1), s)
  else
    (F_X12_isKnowing v2 s).bind fun r2 =>
    if r2 = 0 then
      some ((-1), s)
    else
      (F_X12_gather v1 v2 s).bind fun s3 =>
      F_X12_most_29 0 0 s3
theorem J_X12_most : mj_t 5 11 = 16 ∧ mj_t 13 5 = 18 ∧ mj_t 34 17 = 51 ∧ mj_t 48 (-19) = 29 ∧ mj_t 60 38 = 98 ∧ mj_t 73 19 = 92 ∧ mj_t 89 (-18) = 71 ∧ mj_t 95 (-41) = 54 ∧ (0 ≤ ((5 : Nat) : Int) + 11) = True ∧ (0 ≤ ((13 : Nat) : Int) + 5) = True ∧ (0 ≤ ((34 : Nat) : Int) + 17) = True ∧ (0 ≤ ((48 : Nat) : Int) + (-19)) = True ∧ (0 ≤ ((60 : Nat) : Int) + 38) = True ∧ (0 ≤ ((73 : Nat) : Int) + 19) = True ∧ (0 ≤ ((89 : Nat) : Int) + (-18)) = True ∧ (0 ≤ ((95 : Nat) : Int) + (-41)) = True := by and_intros <;> first | rfl | exact eq_true (by decide)
def ct_X12_most : List (Nat × mj_Cs) := [(287, 0, 2, 12, 0, 0, c_X12_isKnowing), (457, 0, 2, 12, 0, 0, c_X12_isWeek), (479, 0, 3, 12, 0, 0, c_X12_gather), (485, 0, 2, 12, 0, 0, c_X12_push)]
theorem L_X12_most : mj_lk ct_X12_most 287 = some (0, 2, 12, 0, 0, c_X12_isKnowing) ∧ mj_lk ct_X12_most 457 = some (0, 2, 12, 0, 0, c_X12_isWeek) ∧ mj_lk ct_X12_most 479 = some (0, 3, 12, 0, 0, c_X12_gather) ∧ mj_lk ct_X12_most 485 = some (0, 2, 12, 0, 0, c_X12_push) := ⟨rfl, rfl, rfl, rfl⟩
set_option maxHeartbeats 4000000 in
set_option maxRecDepth 20000 in
theorem b_X12_most_29 {k : Option Value → mj_H → Prop} {G : mj_K} (hG : mj_cl2 cX12_most (TbX12 6 ((some FieldType.int)) ct_X12_most) k G) {v3 : Int32} {P : Int32 × St → Prop} {K : (St) → Prop} (hP : ∀ x, P x → G 29 [.ref 0, mj_unk, mj_unk, .int v3, .int x.1] [] (mkMs x.2) 0 0) (hK0 : ∀ y, K y → G 51 [.ref 0, mj_unk, mj_unk, .int v3] [] (mkMs y) 0 0) {v4 : Int32} {s : St} (hw : ok (B_X12_most_29 v3 (v4, s)) (Sum.elim P K)) : G 29 [.ref 0, mj_unk, mj_unk, .int v3, .int v4] [] (mkMs s) 0 0 := by
  unfold B_X12_most_29 at hw
  refine mj_run hG.1 (fun pc => pc == 5 || pc == 13 || pc == 24 || pc == 29 || pc == 51 || pc == 54 || pc == 69 || pc == 71 || pc == 87 || pc == 92 || pc == 98) 4000 ?_
  simp only [mj_step, mj_W_s, mj_fin, List.getElem?_cons_zero, List.getElem?_cons_succ, mj_go, Nat.reduceAdd, Nat.reduceSub, Nat.reduceLT, Nat.reduceLeDiff, Nat.zero_add, Nat.reduceEqDiff, Nat.reduceBEq, ↓reduceIte, Bool.false_eq_true, List.append_nil, List.nil_append, List.cons_append, Option.toList, and_true, true_and, true_or, or_true, reduceCtorEq, List.map_nil, bI_eq0, bI_eq1, bool_ft, pk_us, vnar0, vnar1, Bool.or_false, Bool.or_true, Bool.false_or, Bool.true_or, mj_kne, eq_self, Int32.reduceLT, Int32.reduceLE, Int32.reduceAdd, Int32.reduceSub, Int32.reduceMul, not_true_eq_false, not_false_eq_true, false_implies, true_implies, D_X12_most_0, D_X12_most_1, mj_F_aload_n_k, mj_F_getfield_i, mj_F_goto_off, mj_F_iadd, mj_F_iastore, mj_F_iconst_n, mj_F_ifCond_eq_off, mj_F_ifCond_le_off, mj_F_ifCond_ne_off, mj_F_if_icmp_ge_off, mj_F_iinc_k_n, mj_F_iload_k, mj_F_iload_n_k, mj_F_invokevirtual_i, mj_F_ireturn, mj_F_istore_k, mj_F_istore_n_k, mj_F_sipush_n, mj_set, mj_set0, mj_unk, mj_c2, mj_kc, FT_X12, FT_X12_1, L_X12_most, List.take_succ_cons, List.take_zero, List.drop_succ_cons, List.drop_zero, List.reverse_cons, List.reverse_nil, List.length_cons, List.length_nil, gS_M0, gMf_50, gS_M38, sS_Ma_38, gMf_12, J_X12_most]
  refine ⟨fun c => ?_, fun c => ?_⟩
  · replace hw := ok_t hw c
    exact hG.2 _ _ _ _ _ _ _ _ _ (by refine ⟨Or.inr rfl, ?_⟩; refine ⟨Or.inl rfl, ?_⟩; refine ⟨Or.inl rfl, ?_⟩; refine ⟨Or.inr rfl, ?_⟩; exact trivial) (Nat.zero_le _) (Nat.zero_le _) (hK0 _ (ok_some hw :) :)
  · replace hw := ok_f hw c
    refine ⟨(ok_wr hw).1, ?_⟩
    replace hw := (ok_wr hw).2
    exact hG.2 _ _ _ _ _ _ _ _ _ (by refine ⟨Or.inr rfl, ?_⟩; refine ⟨Or.inl rfl, ?_⟩; refine ⟨Or.inl rfl, ?_⟩; refine ⟨Or.inr rfl, ?_⟩; refine ⟨Or.inr rfl, ?_⟩; exact trivial) (Nat.zero_le _) (Nat.zero_le _) (hP _ (ok_some hw :) :)

set_option maxHeartbeats 4000000 in
set_option maxRecDepth 20000 in
theorem b_X12_most_71 {k : Option Value → mj_H → Prop} {G : mj_K} (hG : mj_cl2 cX12_most (TbX12 6 ((some FieldType.int)) ct_X12_most) k G) {v4 : Int32} {P : Int32 × Int32 × St → Prop} {K : (Int32 × St) → Prop} (hP : ∀ x, P x → G 71 [.ref 0, mj_unk, mj_unk, .int x.1, .int v4, .int x.2.1] [] (mkMs x.2.2) 0 0) (hK0 : ∀ y, K y → G 92 [.ref 0, mj_unk, mj_unk, .int y.1, .int v4] [] (mkMs y.2) 0 0) {v3 : Int32} {v5 : Int32} {s : St} (hw : ok (B_X12_most_71 v4 (v3, v5, s)) (Sum.elim P K)) : G 71 [.ref 0, mj_unk, mj_unk, .int v3, .int v4, .int v5] [] (mkMs s) 0 0 := by
  unfold B_X12_most_71 at hw
  refine mj_run hG.1 (fun pc => pc == 5 || pc == 13 || pc == 24 || pc == 29 || pc == 51 || pc == 54 || pc == 69 || pc == 71 || pc == 87 || pc == 92 || pc == 98) 4000 ?_
  simp only [mj_step, mj_W_s, mj_fin, List.getElem?_cons_zero, List.getElem?_cons_succ, mj_go, Nat.reduceAdd, Nat.reduceSub, Nat.reduceLT, Nat.reduceLeDiff, Nat.zero_add, Nat.reduceEqDiff, Nat.reduceBEq, ↓reduceIte, Bool.false_eq_true, List.append_nil, List.nil_append, List.cons_append, Option.toList, and_true, true_and, true_or, or_true, reduceCtorEq, List.map_nil, bI_eq0, bI_eq1, bool_ft, pk_us, vnar0, vnar1, Bool.or_false, Bool.or_true, Bool.false_or, Bool.true_or, mj_kne, eq_self, Int32.reduceLT, Int32.reduceLE, Int32.reduceAdd, Int32.reduceSub, Int32.reduceMul, not_true_eq_false, not_false_eq_true, false_implies, true_implies, D_X12_most_0, D_X12_most_1, mj_F_aload_n_k, mj_F_getfield_i, mj_F_goto_off, mj_F_iadd, mj_F_iastore, mj_F_iconst_n, mj_F_ifCond_eq_off, mj_F_ifCond_le_off, mj_F_ifCond_ne_off, mj_F_if_icmp_ge_off, mj_F_iinc_k_n, mj_F_iload_k, mj_F_iload_n_k, mj_F_invokevirtual_i, mj_F_ireturn, mj_F_istore_k, mj_F_istore_n_k, mj_F_sipush_n, mj_set, mj_set0, mj_unk, mj_c2, mj_kc, FT_X12, FT_X12_1, L_X12_most, List.take_succ_cons, List.take_zero, List.drop_succ_cons, List.drop_zero, List.reverse_cons, List.reverse_nil, List.length_cons, List.length_nil, gS_M0, gMf_50, gS_M38, sS_Ma_38, gMf_12, J_X12_most]
  refine ⟨fun c => ?_, fun c => ?_⟩
  · replace hw := ok_t hw c
    exact hG.2 _ _ _ _ _ _ _ _ _ (by refine ⟨Or.inr rfl, ?_⟩; refine ⟨Or.inl rfl, ?_⟩; refine ⟨Or.inl rfl, ?_⟩; refine ⟨Or.inr rfl, ?_⟩; refine ⟨Or.inr rfl, ?_⟩; exact trivial) (Nat.zero_le _) (Nat.zero_le _) (hK0 _ (ok_some hw :) :)
  · replace hw := ok_f hw c
    refine c_X12_push_in (ok_imp (ok_bind hw) ?_)
    intro p hw
    simp only [Option.toList, List.nil_append, List.cons_append, Nat.reduceSub]
    refine mj_run hG.1 (fun pc => pc == 5 || pc == 13 || pc == 24 || pc == 29 || pc == 51 || pc == 54 || pc == 69 || pc == 71 || pc == 87 || pc == 92 || pc == 98) 4000 ?_
    simp only [mj_step, mj_W_s, mj_fin, List.getElem?_cons_zero, List.getElem?_cons_succ, mj_go, Nat.reduceAdd, Nat.reduceSub, Nat.reduceLT, Nat.reduceLeDiff, Nat.zero_add, Nat.reduceEqDiff, Nat.reduceBEq, ↓reduceIte, Bool.false_eq_true, List.append_nil, List.nil_append, List.cons_append, Option.toList, and_true, true_and, true_or, or_true, reduceCtorEq, List.map_nil, bI_eq0, bI_eq1, bool_ft, pk_us, vnar0, vnar1, Bool.or_false, Bool.or_true, Bool.false_or, Bool.true_or, mj_kne, eq_self, Int32.reduceLT, Int32.reduceLE, Int32.reduceAdd, Int32.reduceSub, Int32.reduceMul, not_true_eq_false, not_false_eq_true, false_implies, true_implies, D_X12_most_0, D_X12_most_1, mj_F_aload_n_k, mj_F_getfield_i, mj_F_goto_off, mj_F_iadd, mj_F_iastore, mj_F_iconst_n, mj_F_ifCond_eq_off, mj_F_ifCond_le_off, mj_F_ifCond_ne_off, mj_F_if_icmp_ge_off, mj_F_iinc_k_n, mj_F_iload_k, mj_F_iload_n_k, mj_F_invokevirtual_i, mj_F_ireturn, mj_F_istore_k, mj_F_istore_n_k, mj_F_sipush_n, mj_set, mj_set0, mj_unk, mj_c2, mj_kc, FT_X12, FT_X12_1, L_X12_most, List.take_succ_cons, List.take_zero, List.drop_succ_cons, List.drop_zero, List.reverse_cons, List.reverse_nil, List.length_cons, List.length_nil, gS_M0, gMf_50, gS_M38, sS_Ma_38, gMf_12, J_X12_most]
    exact hG.2 _ _ _ _ _ _ _ _ _ (by refine ⟨Or.inr rfl, ?_⟩; refine ⟨Or.inl rfl, ?_⟩; refine ⟨Or.inl rfl, ?_⟩; refine ⟨Or.inr rfl, ?_⟩; refine ⟨Or.inr rfl, ?_⟩; refine ⟨Or.inr rfl, ?_⟩; exact trivial) (Nat.zero_le _) (Nat.zero_le _) (hP _ (ok_some hw :) :)

set_option maxHeartbeats 4000000 in
set_option maxRecDepth 20000 in
theorem g_X12_most_92 {k : Option Value → mj_H → Prop} {G : mj_K} (hG : mj_cl2 cX12_most (TbX12 6 ((some FieldType.int)) ct_X12_most) k G)  {P : Int32 × Int32 × St → Prop} {K : (Int32 × St) → Prop} (hP : ∀ x, P x → G 54 [.ref 0, mj_unk, mj_unk, .int x.1, .int x.2.1] [] (mkMs x.2.2) 0 0) (hK0 : ∀ y, K y → G 98 [mj_unk, mj_unk, mj_unk, .int y.1] [] (mkMs y.2) 0 0) {v3 : Int32} {v4 : Int32} {s : St} (hw : ok (F_X12_most_92 v3 v4 s) (Sum.elim P K)) : G 92 [.ref 0, mj_unk, mj_unk, .int v3, .int v4] [] (mkMs s) 0 0 := by
  unfold F_X12_most_92 at hw
  refine mj_run hG.1 (fun pc => pc == 5 || pc == 13 || pc == 24 || pc == 29 || pc == 51 || pc == 54 || pc == 69 || pc == 71 || pc == 87 || pc == 92 || pc == 98) 4000 ?_
  simp only [mj_step, mj_W_s, mj_fin, List.getElem?_cons_zero, List.getElem?_cons_succ, mj_go, Nat.reduceAdd, Nat.reduceSub, Nat.reduceLT, Nat.reduceLeDiff, Nat.zero_add, Nat.reduceEqDiff, Nat.reduceBEq, ↓reduceIte, Bool.false_eq_true, List.append_nil, List.nil_append, List.cons_append, Option.toList, and_true, true_and, true_or, or_true, reduceCtorEq, List.map_nil, bI_eq0, bI_eq1, bool_ft, pk_us, vnar0, vnar1, Bool.or_false, Bool.or_true, Bool.false_or, Bool.true_or, mj_kne, eq_self, Int32.reduceLT, Int32.reduceLE, Int32.reduceAdd, Int32.reduceSub, Int32.reduceMul, not_true_eq_false, not_false_eq_true, false_implies, true_implies, D_X12_most_0, D_X12_most_1, mj_F_aload_n_k, mj_F_getfield_i, mj_F_goto_off, mj_F_iadd, mj_F_iastore, mj_F_iconst_n, mj_F_ifCond_eq_off, mj_F_ifCond_le_off, mj_F_ifCond_ne_off, mj_F_if_icmp_ge_off, mj_F_iinc_k_n, mj_F_iload_k, mj_F_iload_n_k, mj_F_invokevirtual_i, mj_F_ireturn, mj_F_istore_k, mj_F_istore_n_k, mj_F_sipush_n, mj_set, mj_set0, mj_unk, mj_c2, mj_kc, FT_X12, FT_X12_1, L_X12_most, List.take_succ_cons, List.take_zero, List.drop_succ_cons, List.drop_zero, List.reverse_cons, List.reverse_nil, List.length_cons, List.length_nil, gS_M0, gMf_50, gS_M38, sS_Ma_38, gMf_12, J_X12_most]
  exact hG.2 _ _ _ _ _ _ _ _ _ (by refine ⟨Or.inr rfl, ?_⟩; refine ⟨Or.inl rfl, ?_⟩; refine ⟨Or.inl rfl, ?_⟩; refine ⟨Or.inr rfl, ?_⟩; refine ⟨Or.inr rfl, ?_⟩; exact trivial) (Nat.zero_le _) (Nat.zero_le _) (hP _ (ok_some hw :) :)

set_option maxHeartbeats 4000000 in
theorem g_X12_most_71 {k : Option Value → mj_H → Prop} {G : mj_K} (hG : mj_cl2 cX12_most (TbX12 6 ((some FieldType.int)) ct_X12_most) k G)  {P : Int32 × Int32 × St → Prop} {K : (Int32 × St) → Prop} (hP : ∀ x, P x → G 54 [.ref 0, mj_unk, mj_unk, .int x.1, .int x.2.1] [] (mkMs x.2.2) 0 0) (hK0 : ∀ y, K y → G 98 [mj_unk, mj_unk, mj_unk, .int y.1] [] (mkMs y.2) 0 0) {v3 : Int32} {v4 : Int32} {v5 : Int32} {s : St} (hw : ok (F_X12_most_71 v3 v4 v5 s) (Sum.elim P K)) : G 71 [.ref 0, mj_unk, mj_unk, .int v3, .int v4, .int v5] [] (mkMs s) 0 0 := by
  unfold F_X12_most_71 at hw
  refine lp_ok (B_X12_most_71 v4) (fun x => G 71 [.ref 0, mj_unk, mj_unk, .int x.1, .int v4, .int x.2.1] [] (mkMs x.2.2) 0 0) _ ?_ _ _ (ok_bind hw)
  rintro ⟨v3, v5, s⟩ hb
  exact b_X12_most_71 hG (fun _ z => z) (fun y hw => by exact hG.2 _ _ _ _ _ _ _ _ _ (by refine ⟨Or.inr rfl, ?_⟩; refine ⟨Or.inl rfl, ?_⟩; refine ⟨Or.inl rfl, ?_⟩; refine ⟨Or.inr rfl, ?_⟩; refine ⟨Or.inr rfl, ?_⟩; exact trivial) (Nat.zero_le _) (Nat.zero_le _) (g_X12_most_92 hG hP hK0  hw :)) hb

set_option maxHeartbeats 4000000 in
set_option maxRecDepth 20000 in
theorem b_X12_most_54 {k : Option Value → mj_H → Prop} {G : mj_K} (hG : mj_cl2 cX12_most (TbX12 6 ((some FieldType.int)) ct_X12_most) k G)  {P : Int32 × Int32 × St → Prop} {K : (Int32 × St) → Prop} (hP : ∀ x, P x → G 54 [.ref 0, mj_unk, mj_unk, .int x.1, .int x.2.1] [] (mkMs x.2.2) 0 0) (hK0 : ∀ y, K y → G 98 [mj_unk, mj_unk, mj_unk, .int y.1] [] (mkMs y.2) 0 0) {v3 : Int32} {v4 : Int32} {s : St} (hw : ok (B_X12_most_54  (v3, v4, s)) (Sum.elim P K)) : G 54 [.ref 0, mj_unk, mj_unk, .int v3, .int v4] [] (mkMs s) 0 0 := by
  unfold B_X12_most_54 at hw
  refine mj_run hG.1 (fun pc => pc == 5 || pc == 13 || pc == 24 || pc == 29 || pc == 51 || pc == 54 || pc == 69 || pc == 71 || pc == 87 || pc == 92 || pc == 98) 4000 ?_
  simp only [mj_step, mj_W_s, mj_fin, List.getElem?_cons_zero, List.getElem?_cons_succ, mj_go, Nat.reduceAdd, Nat.reduceSub, Nat.reduceLT, Nat.reduceLeDiff, Nat.zero_add, Nat.reduceEqDiff, Nat.reduceBEq, ↓reduceIte, Bool.false_eq_true, List.append_nil, List.nil_append, List.cons_append, Option.toList, and_true, true_and, true_or, or_true, reduceCtorEq, List.map_nil, bI_eq0, bI_eq1, bool_ft, pk_us, vnar0, vnar1, Bool.or_false, Bool.or_true, Bool.false_or, Bool.true_or, mj_kne, eq_self, Int32.reduceLT, Int32.reduceLE, Int32.reduceAdd, Int32.reduceSub, Int32.reduceMul, not_true_eq_false, not_false_eq_true, false_implies, true_implies, D_X12_most_0, D_X12_most_1, mj_F_aload_n_k, mj_F_getfield_i, mj_F_goto_off, mj_F_iadd, mj_F_iastore, mj_F_iconst_n, mj_F_ifCond_eq_off, mj_F_ifCond_le_off, mj_F_ifCond_ne_off, mj_F_if_icmp_ge_off, mj_F_iinc_k_n, mj_F_iload_k, mj_F_iload_n_k, mj_F_invokevirtual_i, mj_F_ireturn, mj_F_istore_k, mj_F_istore_n_k, mj_F_sipush_n, mj_set, mj_set0, mj_unk, mj_c2, mj_kc, FT_X12, FT_X12_1, L_X12_most, List.take_succ_cons, List.take_zero, List.drop_succ_cons, List.drop_zero, List.reverse_cons, List.reverse_nil, List.length_cons, List.length_nil, gS_M0, gMf_50, gS_M38, sS_Ma_38, gMf_12, J_X12_most]
  refine ⟨fun c => ?_, fun c => ?_⟩
  · replace hw := ok_t hw c
    exact hG.2 _ _ _ _ _ _ _ _ _ (by refine ⟨Or.inl rfl, ?_⟩; refine ⟨Or.inl rfl, ?_⟩; refine ⟨Or.inl rfl, ?_⟩; refine ⟨Or.inr rfl, ?_⟩; exact trivial) (Nat.zero_le _) (Nat.zero_le _) (hK0 _ (ok_some hw :) :)
  · replace hw := ok_f hw c
    refine c_X12_push_in (ok_imp (ok_bind hw) ?_)
    intro p hw
    simp only [Option.toList, List.nil_append, List.cons_append, Nat.reduceSub]
    refine mj_run hG.1 (fun pc => pc == 5 || pc == 13 || pc == 24 || pc == 29 || pc == 51 || pc == 54 || pc == 69 || pc == 71 || pc == 87 || pc == 92 || pc == 98) 4000 ?_
    simp only [mj_step, mj_W_s, mj_fin, List.getElem?_cons_zero, List.getElem?_cons_succ, mj_go, Nat.reduceAdd, Nat.reduceSub, Nat.reduceLT, Nat.reduceLeDiff, Nat.zero_add, Nat.reduceEqDiff, Nat.reduceBEq, ↓reduceIte, Bool.false_eq_true, List.append_nil, List.nil_append, List.cons_append, Option.toList, and_true, true_and, true_or, or_true, reduceCtorEq, List.map_nil, bI_eq0, bI_eq1, bool_ft, pk_us, vnar0, vnar1, Bool.or_false, Bool.or_true, Bool.false_or, Bool.true_or, mj_kne, eq_self, Int32.reduceLT, Int32.reduceLE, Int32.reduceAdd, Int32.reduceSub, Int32.reduceMul, not_true_eq_false, not_false_eq_true, false_implies, true_implies, D_X12_most_0, D_X12_most_1, mj_F_aload_n_k, mj_F_getfield_i, mj_F_goto_off, mj_F_iadd, mj_F_iastore, mj_F_iconst_n, mj_F_ifCond_eq_off, mj_F_ifCond_le_off, mj_F_ifCond_ne_off, mj_F_if_icmp_ge_off, mj_F_iinc_k_n, mj_F_iload_k, mj_F_iload_n_k, mj_F_invokevirtual_i, mj_F_ireturn, mj_F_istore_k, mj_F_istore_n_k, mj_F_sipush_n, mj_set, mj_set0, mj_unk, mj_c2, mj_kc, FT_X12, FT_X12_1, L_X12_most, List.take_succ_cons, List.take_zero, List.drop_succ_cons, List.drop_zero, List.reverse_cons, List.reverse_nil, List.length_cons, List.length_nil, gS_M0, gMf_50, gS_M38, sS_Ma_38, gMf_12, J_X12_most]
    exact hG.2 _ _ _ _ _ _ _ _ _ (by refine ⟨Or.inr rfl, ?_⟩; refine ⟨Or.inl rfl, ?_⟩; refine ⟨Or.inl rfl, ?_⟩; refine ⟨Or.inr rfl, ?_⟩; refine ⟨Or.inr rfl, ?_⟩; refine ⟨Or.inr rfl, ?_⟩; exact trivial) (Nat.zero_le _) (Nat.zero_le _) (g_X12_most_71 hG hP hK0  hw :)

set_option maxHeartbeats 4000000 in
set_option maxRecDepth 20000 in
theorem g_X12_most_98 {k : Option Value → mj_H → Prop} {G : mj_K} (hG : mj_cl2 cX12_most (TbX12 6 ((some FieldType.int)) ct_X12_most) k G)   {v3 : Int32} {s : St} (hw : ok (F_X12_most_98 v3 s) (fun p => k (some (.int p.1)) (mkMs p.2))) : G 98 [mj_unk, mj_unk, mj_unk, .int v3] [] (mkMs s) 0 0 := by
  unfold F_X12_most_98 at hw
  refine mj_run hG.1 (fun pc => pc == 5 || pc == 13 || pc == 24 || pc == 29 || pc == 51 || pc == 54 || pc == 69 || pc == 71 || pc == 87 || pc == 92 || pc == 98) 4000 ?_
  simp only [mj_step, mj_W_s, mj_fin, List.getElem?_cons_zero, List.getElem?_cons_succ, mj_go, Nat.reduceAdd, Nat.reduceSub, Nat.reduceLT, Nat.reduceLeDiff, Nat.zero_add, Nat.reduceEqDiff, Nat.reduceBEq, ↓reduceIte, Bool.false_eq_true, List.append_nil, List.nil_append, List.cons_append, Option.toList, and_true, true_and, true_or, or_true, reduceCtorEq, List.map_nil, bI_eq0, bI_eq1, bool_ft, pk_us, vnar0, vnar1, Bool.or_false, Bool.or_true, Bool.false_or, Bool.true_or, mj_kne, eq_self, Int32.reduceLT, Int32.reduceLE, Int32.reduceAdd, Int32.reduceSub, Int32.reduceMul, not_true_eq_false, not_false_eq_true, false_implies, true_implies, D_X12_most_0, D_X12_most_1, mj_F_aload_n_k, mj_F_getfield_i, mj_F_goto_off, mj_F_iadd, mj_F_iastore, mj_F_iconst_n, mj_F_ifCond_eq_off, mj_F_ifCond_le_off, mj_F_ifCond_ne_off, mj_F_if_icmp_ge_off, mj_F_iinc_k_n, mj_F_iload_k, mj_F_iload_n_k, mj_F_invokevirtual_i, mj_F_ireturn, mj_F_istore_k, mj_F_istore_n_k, mj_F_sipush_n, mj_set, mj_set0, mj_unk, mj_c2, mj_kc, FT_X12, FT_X12_1, L_X12_most, List.take_succ_cons, List.take_zero, List.drop_succ_cons, List.drop_zero, List.reverse_cons, List.reverse_nil, List.length_cons, List.length_nil, gS_M0, gMf_50, gS_M38, sS_Ma_38, gMf_12, J_X12_most]
  exact (ok_some hw :)

set_option maxHeartbeats 4000000 in
theorem g_X12_most_54 {k : Option Value → mj_H → Prop} {G : mj_K} (hG : mj_cl2 cX12_most (TbX12 6 ((some FieldType.int)) ct_X12_most) k G)   {v3 : Int32} {v4 : Int32} {s : St} (hw : ok (F_X12_most_54 v3 v4 s) (fun p => k (some (.int p.1)) (mkMs p.2))) : G 54 [.ref 0, mj_unk, mj_unk, .int v3, .int v4] [] (mkMs s) 0 0 := by
  unfold F_X12_most_54 at hw
  refine lp_ok (B_X12_most_54 ) (fun x => G 54 [.ref 0, mj_unk, mj_unk, .int x.1, .int x.2.1] [] (mkMs x.2.2) 0 0) _ ?_ _ _ (ok_bind hw)
  rintro ⟨v3, v4, s⟩ hb
  exact b_X12_most_54 hG (fun _ z => z) (fun y hw => by exact hG.2 _ _ _ _ _ _ _ _ _ (by refine ⟨Or.inl rfl, ?_⟩; refine ⟨Or.inl rfl, ?_⟩; refine ⟨Or.inl rfl, ?_⟩; refine ⟨Or.inr rfl, ?_⟩; exact trivial) (Nat.zero_le _) (Nat.zero_le _) (g_X12_most_98 hG  hw :)) hb

set_option maxHeartbeats 4000000 in
set_option maxRecDepth 20000 in
theorem g_X12_most_51 {k : Option Value → mj_H → Prop} {G : mj_K} (hG : mj_cl2 cX12_most (TbX12 6 ((some FieldType.int)) ct_X12_most) k G)   {v3 : Int32} {s : St} (hw : ok (F_X12_most_51 v3 s) (fun p => k (some (.int p.1)) (mkMs p.2))) : G 51 [.ref 0, mj_unk, mj_unk, .int v3] [] (mkMs s) 0 0 := by
  unfold F_X12_most_51 at hw
  refine mj_run hG.1 (fun pc => pc == 5 || pc == 13 || pc == 24 || pc == 29 || pc == 51 || pc == 54 || pc == 69 || pc == 71 || pc == 87 || pc == 92 || pc == 98) 4000 ?_
  simp only [mj_step, mj_W_s, mj_fin, List.getElem?_cons_zero, List.getElem?_cons_succ, mj_go, Nat.reduceAdd, Nat.reduceSub, Nat.reduceLT, Nat.reduceLeDiff, Nat.zero_add, Nat.reduceEqDiff, Nat.reduceBEq, ↓reduceIte, Bool.false_eq_true, List.append_nil, List.nil_append, List.cons_append, Option.toList, and_true, true_and, true_or, or_true, reduceCtorEq, List.map_nil, bI_eq0, bI_eq1, bool_ft, pk_us, vnar0, vnar1, Bool.or_false, Bool.or_true, Bool.false_or, Bool.true_or, mj_kne, eq_self, Int32.reduceLT, Int32.reduceLE, Int32.reduceAdd, Int32.reduceSub, Int32.reduceMul, not_true_eq_false, not_false_eq_true, false_implies, true_implies, D_X12_most_0, D_X12_most_1, mj_F_aload_n_k, mj_F_getfield_i, mj_F_goto_off, mj_F_iadd, mj_F_iastore, mj_F_iconst_n, mj_F_ifCond_eq_off, mj_F_ifCond_le_off, mj_F_ifCond_ne_off, mj_F_if_icmp_ge_off, mj_F_iinc_k_n, mj_F_iload_k, mj_F_iload_n_k, mj_F_invokevirtual_i, mj_F_ireturn, mj_F_istore_k, mj_F_istore_n_k, mj_F_sipush_n, mj_set, mj_set0, mj_unk, mj_c2, mj_kc, FT_X12, FT_X12_1, L_X12_most, List.take_succ_cons, List.take_zero, List.drop_succ_cons, List.drop_zero, List.reverse_cons, List.reverse_nil, List.length_cons, List.length_nil, gS_M0, gMf_50, gS_M38, sS_Ma_38, gMf_12, J_X12_most]
  exact hG.2 _ _ _ _ _ _ _ _ _ (by refine ⟨Or.inr rfl, ?_⟩; refine ⟨Or.inl rfl, ?_⟩; refine ⟨Or.inl rfl, ?_⟩; refine ⟨Or.inr rfl, ?_⟩; refine ⟨Or.inr rfl, ?_⟩; exact trivial) (Nat.zero_le _) (Nat.zero_le _) (g_X12_most_54 hG  hw :)

set_option maxHeartbeats 4000000 in
theorem g_X12_most_29 {k : Option Value → mj_H → Prop} {G : mj_K} (hG : mj_cl2 cX12_most (TbX12 6 ((some FieldType.int)) ct_X12_most) k G)   {v3 : Int32} {v4 : Int32} {s : St} (hw : ok (F_X12_most_29 v3 v4 s) (fun p => k (some (.int p.1)) (mkMs p.2))) : G 29 [.ref 0, mj_unk, mj_unk, .int v3, .int v4] [] (mkMs s) 0 0 := by
  unfold F_X12_most_29 at hw
  refine lp_ok (B_X12_most_29 v3) (fun x => G 29 [.ref 0, mj_unk, mj_unk, .int v3, .int x.1] [] (mkMs x.2) 0 0) _ ?_ _ _ (ok_bind hw)
  rintro ⟨v4, s⟩ hb
  exact b_X12_most_29 hG (fun _ z => z) (fun y hw => by exact hG.2 _ _ _ _ _ _ _ _ _ (by refine ⟨Or.inr rfl, ?_⟩; refine ⟨Or.inl rfl, ?_⟩; refine ⟨Or.inl rfl, ?_⟩; refine ⟨Or.inr rfl, ?_⟩; exact trivial) (Nat.zero_le _) (Nat.zero_le _) (g_X12_most_51 hG  hw :)) hb

set_option maxHeartbeats 4000000 in
set_option maxRecDepth 20000 in
theorem g_X12_most {k : Option Value → mj_H → Prop} {G : mj_K} (hG : mj_cl2 cX12_most (TbX12 6 ((some FieldType.int)) ct_X12_most) k G) {v1 : Int32} {v2 : Int32} {s : St} (hw : ok (F_X12_most v1 v2 s) (fun p => k (some (.int p.1)) (mkMs p.2))) : G 0 [.ref 0, .int v1, .int v2] [] (mkMs s) 0 0 := by
  unfold F_X12_most at hw
  refine mj_run hG.1 (fun pc => pc == 5 || pc == 13 || pc == 24 || pc == 29 || pc == 51 || pc == 54 || pc == 69 || pc == 71 || pc == 87 || pc == 92 || pc == 98) 4000 ?_
  simp only [mj_step, mj_W_s, mj_fin, List.getElem?_cons_zero, List.getElem?_cons_succ, mj_go, Nat.reduceAdd, Nat.reduceSub, Nat.reduceLT, Nat.reduceLeDiff, Nat.zero_add, Nat.reduceEqDiff, Nat.reduceBEq, ↓reduceIte, Bool.false_eq_true, List.append_nil, List.nil_append, List.cons_append, Option.toList, and_true, true_and, true_or, or_true, reduceCtorEq, List.map_nil, bI_eq0, bI_eq1, bool_ft, pk_us, vnar0, vnar1, Bool.or_false, Bool.or_true, Bool.false_or, Bool.true_or, mj_kne, eq_self, Int32.reduceLT, Int32.reduceLE, Int32.reduceAdd, Int32.reduceSub, Int32.reduceMul, not_true_eq_false, not_false_eq_true, false_implies, true_implies, D_X12_most_0, D_X12_most_1, mj_F_aload_n_k, mj_F_getfield_i, mj_F_goto_off, mj_F_iadd, mj_F_iastore, mj_F_iconst_n, mj_F_ifCond_eq_off, mj_F_ifCond_le_off, mj_F_ifCond_ne_off, mj_F_if_icmp_ge_off, mj_F_iinc_k_n, mj_F_iload_k, mj_F_iload_n_k, mj_F_invokevirtual_i, mj_F_ireturn, mj_F_istore_k, mj_F_istore_n_k, mj_F_sipush_n, mj_set, mj_set0, mj_unk, mj_c2, mj_kc, FT_X12, FT_X12_1, L_X12_most, List.take_succ_cons, List.take_zero, List.drop_succ_cons, List.drop_zero, List.reverse_cons, List.reverse_nil, List.length_cons, List.length_nil, gS_M0, gMf_50, gS_M38, sS_Ma_38, gMf_12, J_X12_most]
  refine c_X12_isWeek_in (ok_imp (ok_bind hw) ?_)
  intro p hw
  simp only [Option.toList, List.nil_append, List.cons_append, Nat.reduceSub]
  refine mj_run hG.1 (fun pc => pc == 5 || pc == 13 || pc == 24 || pc == 29 || pc == 51 || pc == 54 || pc == 69 || pc == 71 || pc == 87 || pc == 92 || pc == 98) 4000 ?_
  simp only [mj_step, mj_W_s, mj_fin, List.getElem?_cons_zero, List.getElem?_cons_succ, mj_go, Nat.reduceAdd, Nat.reduceSub, Nat.reduceLT, Nat.reduceLeDiff, Nat.zero_add, Nat.reduceEqDiff, Nat.reduceBEq, ↓reduceIte, Bool.false_eq_true, List.append_nil, List.nil_append, List.cons_append, Option.toList, and_true, true_and, true_or, or_true, reduceCtorEq, List.map_nil, bI_eq0, bI_eq1, bool_ft, pk_us, vnar0, vnar1, Bool.or_false, Bool.or_true, Bool.false_or, Bool.true_or, mj_kne, eq_self, Int32.reduceLT, Int32.reduceLE, Int32.reduceAdd, Int32.reduceSub, Int32.reduceMul, not_true_eq_false, not_false_eq_true, false_implies, true_implies, D_X12_most_0, D_X12_most_1, mj_F_aload_n_k, mj_F_getfield_i, mj_F_goto_off, mj_F_iadd, mj_F_iastore, mj_F_iconst_n, mj_F_ifCond_eq_off, mj_F_ifCond_le_off, mj_F_ifCond_ne_off, mj_F_if_icmp_ge_off, mj_F_iinc_k_n, mj_F_iload_k, mj_F_iload_n_k, mj_F_invokevirtual_i, mj_F_ireturn, mj_F_istore_k, mj_F_istore_n_k, mj_F_sipush_n, mj_set, mj_set0, mj_unk, mj_c2, mj_kc, FT_X12, FT_X12_1, L_X12_most, List.take_succ_cons, List.take_zero, List.drop_succ_cons, List.drop_zero, List.reverse_cons, List.reverse_nil, List.length_cons, List.length_nil, gS_M0, gMf_50, gS_M38, sS_Ma_38, gMf_12, J_X12_most]
  refine ⟨fun c => ?_, fun c => ?_⟩
  · replace hw := ok_t hw c
    exact (ok_some hw :)
  · replace hw := ok_f hw c
    refine c_X12_isKnowing_in (ok_imp (ok_bind hw) ?_)
    intro p hw
    simp only [Option.toList, List.nil_append, List.cons_append, Nat.reduceSub]
    refine mj_run hG.1 (fun pc => pc == 5 || pc == 13 || pc == 24 || pc == 29 || pc == 51 || pc == 54 || pc == 69 || pc == 71 || pc == 87 || pc == 92 || pc == 98) 4000 ?_
    simp only [mj_step, mj_W_s, mj_fin, List.getElem?_cons_zero, List.getElem?_cons_succ, mj_go, Nat.reduceAdd, Nat.reduceSub, Nat.reduceLT, Nat.reduceLeDiff, Nat.zero_add, Nat.reduceEqDiff, Nat.reduceBEq, ↓reduceIte, Bool.false_eq_true, List.append_nil, List.nil_append, List.cons_append, Option.toList, and_true, true_and, true_or, or_true, reduceCtorEq, List.map_nil, bI_eq0, bI_eq1, bool_ft, pk_us, vnar0, vnar1, Bool.or_false, Bool.or_true, Bool.false_or, Bool.true_or, mj_kne, eq_self, Int32.reduceLT, Int32.reduceLE, Int32.reduceAdd, Int32.reduceSub, Int32.reduceMul, not_true_eq_false, not_false_eq_true, false_implies, true_implies, D_X12_most_0, D_X12_most_1, mj_F_aload_n_k, mj_F_getfield_i, mj_F_goto_off, mj_F_iadd, mj_F_iastore, mj_F_iconst_n, mj_F_ifCond_eq_off, mj_F_ifCond_le_off, mj_F_ifCond_ne_off, mj_F_if_icmp_ge_off, mj_F_iinc_k_n, mj_F_iload_k, mj_F_iload_n_k, mj_F_invokevirtual_i, mj_F_ireturn, mj_F_istore_k, mj_F_istore_n_k, mj_F_sipush_n, mj_set, mj_set0, mj_unk, mj_c2, mj_kc, FT_X12, FT_X12_1, L_X12_most, List.take_succ_cons, List.take_zero, List.drop_succ_cons, List.drop_zero, List.reverse_cons, List.reverse_nil, List.length_cons, List.length_nil, gS_M0, gMf_50, gS_M38, sS_Ma_38, gMf_12, J_X12_most]
    refine ⟨fun c => ?_, fun c => ?_⟩
    · replace hw := ok_f hw c
      refine c_X12_gather_in (ok_imp (ok_bind hw) ?_)
      intro p hw
      simp only [Option.toList, List.nil_append, List.cons_append, Nat.reduceSub]
      refine mj_run hG.1 (fun pc => pc == 5 || pc == 13 || pc == 24 || pc == 29 || pc == 51 || pc == 54 || pc == 69 || pc == 71 || pc == 87 || pc == 92 || pc == 98) 4000 ?_
      simp only [mj_step, mj_W_s, mj_fin, List.getElem?_cons_zero, List.getElem?_cons_succ, mj_go, Nat.reduceAdd, Nat.reduceSub, Nat.reduceLT, Nat.reduceLeDiff, Nat.zero_add, Nat.reduceEqDiff, Nat.reduceBEq, ↓reduceIte, Bool.false_eq_true, List.append_nil, List.nil_append, List.cons_append, Option.toList, and_true, true_and, true_or, or_true, reduceCtorEq, List.map_nil, bI_eq0, bI_eq1, bool_ft, pk_us, vnar0, vnar1, Bool.or_false, Bool.or_true, Bool.false_or, Bool.true_or, mj_kne, eq_self, Int32.reduceLT, Int32.reduceLE, Int32.reduceAdd, Int32.reduceSub, Int32.reduceMul, not_true_eq_false, not_false_eq_true, false_implies, true_implies, D_X12_most_0, D_X12_most_1, mj_F_aload_n_k, mj_F_getfield_i, mj_F_goto_off, mj_F_iadd, mj_F_iastore, mj_F_iconst_n, mj_F_ifCond_eq_off, mj_F_ifCond_le_off, mj_F_ifCond_ne_off, mj_F_if_icmp_ge_off, mj_F_iinc_k_n, mj_F_iload_k, mj_F_iload_n_k, mj_F_invokevirtual_i, mj_F_ireturn, mj_F_istore_k, mj_F_istore_n_k, mj_F_sipush_n, mj_set, mj_set0, mj_unk, mj_c2, mj_kc, FT_X12, FT_X12_1, L_X12_most, List.take_succ_cons, List.take_zero, List.drop_succ_cons, List.drop_zero, List.reverse_cons, List.reverse_nil, List.length_cons, List.length_nil, gS_M0, gMf_50, gS_M38, sS_Ma_38, gMf_12, J_X12_most]
      exact hG.2 _ _ _ _ _ _ _ _ _ (by refine ⟨Or.inr rfl, ?_⟩; refine ⟨Or.inl rfl, ?_⟩; refine ⟨Or.inl rfl, ?_⟩; refine ⟨Or.inr rfl, ?_⟩; refine ⟨Or.inr rfl, ?_⟩; exact trivial) (Nat.zero_le _) (Nat.zero_le _) (g_X12_most_29 hG  hw :)
    · replace hw := ok_t hw c
      exact (ok_some hw :)

def c_X12_most : mj_S := fun as h k => ∃ (v1 : Int32) (v2 : Int32) (s : St), as = [.ref 0, .int v1, .int v2] ∧ h = mkMs s ∧ ok (F_X12_most v1 v2 s) (fun p => k (some (.int p.1)) (mkMs p.2))
theorem c_X12_most_in {v1 : Int32} {v2 : Int32} {s : St} {k : Option Value → mj_H → Prop} (hw : ok (F_X12_most v1 v2 s) (fun p => k (some (.int p.1)) (mkMs p.2))) : c_X12_most [.ref 0, .int v1, .int v2] (mkMs s) k := ⟨v1, v2, s, rfl, rfl, hw⟩
theorem m_X12_most (l : Launch) : mj_Met l yX12_most cX12_most 6 ((some FieldType.int)) 10 0 0 c_X12_most := by
  refine mj_body2 false (TbX12 6 ((some FieldType.int)) ct_X12_most) (by decide) rfl rfl (fun h => nomatch h) (tfX12 _ (List.forall_mem_cons.mpr ⟨cfX12_287 (m_X12_isKnowing l) (by decide), List.forall_mem_cons.mpr ⟨cfX12_457 (m_X12_isWeek l) (by decide), List.forall_mem_cons.mpr ⟨cfX12_479 (m_X12_gather l) (by decide), List.forall_mem_cons.mpr ⟨cfX12_485 (m_X12_push l) (by decide), fun _ h => nomatch h⟩⟩⟩⟩)) ?_
  rintro as h k ⟨v1, v2, s, rfl, rfl, hw⟩
  exact ⟨rfl, fun G hG => g_X12_most hG hw⟩
def F_X12_site (v1 : Int32) (s : St) : Option (Int32 × St) :=
  if inb v1 0 119 = false then
    some ((-1), s)
  else
    if (s.1 1256) = 9 then
      some ((-1), s)
    else
      (wr s 1254 9 (s.1 1256) v1).bind fun s1 =>
      (wI s1 1256 ((s1.1 1256) + 1)).bind fun s2 =>
      some (((s2.1 1256) - 1), s2)
theorem J_X12_site : mj_t 4 12 = 16 ∧ mj_t 13 5 = 18 ∧ (0 ≤ ((4 : Nat) : Int) + 12) = True ∧ (0 ≤ ((13 : Nat) : Int) + 5) = True := by and_intros <;> first | rfl | exact eq_true (by decide)
def ct_X12_site : List (Nat × mj_Cs) := [(260, 2, 1, 12, 0, 0, c_isCell)]
theorem L_X12_site : mj_lk ct_X12_site 260 = some (2, 1, 12, 0, 0, c_isCell) := rfl
set_option maxHeartbeats 4000000 in
set_option maxRecDepth 20000 in
theorem g_X12_site {k : Option Value → mj_H → Prop} {G : mj_K} (hG : mj_cl2 cX12_site (TbX12 2 ((some FieldType.int)) ct_X12_site) k G) {v1 : Int32} {s : St} (hw : ok (F_X12_site v1 s) (fun p => k (some (.int p.1)) (mkMs p.2))) : G 0 [.ref 0, .int v1] [] (mkMs s) 0 0 := by
  unfold F_X12_site at hw
  refine mj_run hG.1 (fun _ => false) 4000 ?_
  simp only [mj_step, mj_W_s, mj_fin, List.getElem?_cons_zero, List.getElem?_cons_succ, mj_go, Nat.reduceAdd, Nat.reduceSub, Nat.reduceLT, Nat.reduceLeDiff, Nat.zero_add, Nat.reduceEqDiff, Nat.reduceBEq, ↓reduceIte, Bool.false_eq_true, List.append_nil, List.nil_append, List.cons_append, Option.toList, and_true, true_and, true_or, or_true, reduceCtorEq, List.map_nil, bI_eq0, bI_eq1, bool_ft, pk_us, vnar0, vnar1, Bool.or_false, Bool.or_true, Bool.false_or, Bool.true_or, mj_kne, eq_self, Int32.reduceLT, Int32.reduceLE, Int32.reduceAdd, Int32.reduceSub, Int32.reduceMul, not_true_eq_false, not_false_eq_true, false_implies, true_implies, D_X12_site, mj_F_aload_n_k, mj_F_bipush_n, mj_F_dup, mj_F_getfield_i, mj_F_iadd, mj_F_iastore, mj_F_iconst_n, mj_F_ifCond_eq_off, mj_F_if_icmp_ne_off, mj_F_iload_n_k, mj_F_invokestatic_i, mj_F_ireturn, mj_F_isub, mj_F_putfield_i, mj_c2, mj_kc, FT_X12, FT_X12_1, PT_X12, L_X12_site, List.take_succ_cons, List.take_zero, List.drop_succ_cons, List.drop_zero, List.reverse_cons, List.reverse_nil, List.length_cons, List.length_nil, gS_M0, gMf_56, gMf_54, gS_M42, sS_Ma_42, sS_Mf_56, gMl, c_isCell_eq, J_X12_site]
  refine ⟨fun c => ?_, fun c => ?_⟩
  · replace hw := ok_t hw c
    exact (ok_some hw :)
  · replace hw := ok_f hw c
    refine ⟨fun c => ?_, fun c => ?_⟩
    · replace hw := ok_f hw c
      refine ⟨(ok_wr hw).1, ?_⟩
      replace hw := (ok_wr hw).2
      replace hw := ok_wI hw
      exact (ok_some hw :)
    · replace hw := ok_t hw c
      exact (ok_some hw :)

def c_X12_site : mj_S := fun as h k => ∃ (v1 : Int32) (s : St), as = [.ref 0, .int v1] ∧ h = mkMs s ∧ ok (F_X12_site v1 s) (fun p => k (some (.int p.1)) (mkMs p.2))
theorem c_X12_site_in {v1 : Int32} {s : St} {k : Option Value → mj_H → Prop} (hw : ok (F_X12_site v1 s) (fun p => k (some (.int p.1)) (mkMs p.2))) : c_X12_site [.ref 0, .int v1] (mkMs s) k := ⟨v1, s, rfl, rfl, hw⟩
theorem m_X12_site (l : Launch) : mj_Met l yX12_site cX12_site 2 ((some FieldType.int)) 2 0 0 c_X12_site := by
  refine mj_body2 false (TbX12 2 ((some FieldType.int)) ct_X12_site) (by decide) rfl rfl (fun h => nomatch h) (tfX12 _ (List.forall_mem_cons.mpr ⟨cfX12_260 (m_X12_isCell l) (by decide), fun _ h => nomatch h⟩)) ?_
  rintro as h k ⟨v1, s, rfl, rfl, hw⟩
  exact ⟨rfl, fun G hG => g_X12_site hG hw⟩
def F_X12_mayCover (v1 : Int32) (v2 : Int32) (s : St) : Option (Int32) :=
  if v1 < 0 then
    some 0
  else
    if (1 <<< ((s.1 1212) &&& 31)) ≤ v1 then
      some 0
    else
      if inb v2 0 600 = false then
        some 0
      else
        some 1
theorem J_X12_mayCover : mj_t 1 28 = 29 ∧ mj_t 11 18 = 29 ∧ mj_t 22 7 = 29 ∧ mj_t 26 4 = 30 ∧ (0 ≤ ((1 : Nat) : Int) + 28) = True ∧ (0 ≤ ((11 : Nat) : Int) + 18) = True ∧ (0 ≤ ((22 : Nat) : Int) + 7) = True ∧ (0 ≤ ((26 : Nat) : Int) + 4) = True := by and_intros <;> first | rfl | exact eq_true (by decide)
def ct_X12_mayCover : List (Nat × mj_Cs) := [(243, 2, 3, 12, 0, 0, c_in)]
theorem L_X12_mayCover : mj_lk ct_X12_mayCover 243 = some (2, 3, 12, 0, 0, c_in) := rfl
set_option maxHeartbeats 4000000 in
set_option maxRecDepth 20000 in
theorem g_X12_mayCover {k : Option Value → mj_H → Prop} {G : mj_K} (hG : mj_cl2 cX12_mayCover (TbX12 3 ((some FieldType.boolean)) ct_X12_mayCover) k G) {v1 : Int32} {v2 : Int32} {s : St} (hw : ok (F_X12_mayCover v1 v2 s) (fun p => k (some (.int p)) (mkMs s))) : G 0 [.ref 0, .int v1, .int v2] [] (mkMs s) 0 0 := by
  unfold F_X12_mayCover at hw
  refine mj_run hG.1 (fun _ => false) 4000 ?_
  simp only [mj_step, mj_W_s, mj_fin, List.getElem?_cons_zero, List.getElem?_cons_succ, mj_go, Nat.reduceAdd, Nat.reduceSub, Nat.reduceLT, Nat.reduceLeDiff, Nat.zero_add, Nat.reduceEqDiff, Nat.reduceBEq, ↓reduceIte, Bool.false_eq_true, List.append_nil, List.nil_append, List.cons_append, Option.toList, and_true, true_and, true_or, or_true, reduceCtorEq, List.map_nil, bI_eq0, bI_eq1, bool_ft, pk_us, vnar0, vnar1, Bool.or_false, Bool.or_true, Bool.false_or, Bool.true_or, mj_kne, eq_self, Int32.reduceLT, Int32.reduceLE, Int32.reduceAdd, Int32.reduceSub, Int32.reduceMul, not_true_eq_false, not_false_eq_true, false_implies, true_implies, D_X12_mayCover, mj_F_aload_n_k, mj_F_getfield_i, mj_F_goto_off, mj_F_iconst_n, mj_F_ifCond_eq_off, mj_F_ifCond_lt_off, mj_F_if_icmp_ge_off, mj_F_iload_n_k, mj_F_invokestatic_i, mj_F_ireturn, mj_F_ishl, mj_F_sipush_n, mj_kc, FT_X12, FT_X12_1, L_X12_mayCover, List.take_succ_cons, List.take_zero, List.drop_succ_cons, List.drop_zero, List.reverse_cons, List.reverse_nil, List.length_cons, List.length_nil, gS_M0, gMf_12, c_in_eq, J_X12_mayCover]
  refine ⟨fun c => ?_, fun c => ?_⟩
  · replace hw := ok_t hw c
    exact (ok_some hw :)
  · replace hw := ok_f hw c
    refine ⟨fun c => ?_, fun c => ?_⟩
    · replace hw := ok_t hw c
      exact (ok_some hw :)
    · replace hw := ok_f hw c
      refine ⟨fun c => ?_, fun c => ?_⟩
      · replace hw := ok_t hw c
        exact (ok_some hw :)
      · replace hw := ok_f hw c
        exact (ok_some hw :)

def c_X12_mayCover : mj_S := fun as h k => ∃ (v1 : Int32) (v2 : Int32) (s : St), as = [.ref 0, .int v1, .int v2] ∧ h = mkMs s ∧ ok (F_X12_mayCover v1 v2 s) (fun p => k (some (.int p)) (mkMs s))
theorem c_X12_mayCover_in {v1 : Int32} {v2 : Int32} {s : St} {k : Option Value → mj_H → Prop} (hw : ok (F_X12_mayCover v1 v2 s) (fun p => k (some (.int p)) (mkMs s))) : c_X12_mayCover [.ref 0, .int v1, .int v2] (mkMs s) k := ⟨v1, v2, s, rfl, rfl, hw⟩
theorem m_X12_mayCover (l : Launch) : mj_Met l yX12_mayCover cX12_mayCover 3 ((some FieldType.boolean)) 1 0 0 c_X12_mayCover := by
  refine mj_body2 false (TbX12 3 ((some FieldType.boolean)) ct_X12_mayCover) (by decide) rfl rfl (fun h => nomatch h) (tfX12 _ (List.forall_mem_cons.mpr ⟨cfX12_243 (m_X12_in l) (by decide), fun _ h => nomatch h⟩)) ?_
  rintro as h k ⟨v1, v2, s, rfl, rfl, hw⟩
  exact ⟨rfl, fun G hG => g_X12_mayCover hG hw⟩
def F_X12_look__125 (v1 : Int32) (v2 : Int32) (v3 : Int32) (s : St) : Option ((Int32 × St) ⊕ ((St))) :=
  some (.inl ((v3 + 1), s))
def B_X12_look__67 (v1 : Int32) (v2 : Int32) (v3 : Int32) (v4 : Int32) : Int32 × St → Option ((Int32 × St) ⊕ ((St)))
  | (v5, s) =>
  if (s.1 1256) ≤ v5 then
    some (.inr s)
  else
    (rd s 1254 9 v5).bind fun x7 =>
    (F_X12_walkedTo x7 s).bind fun r8 =>
    (rd s 1255 24 v3).bind fun x9 =>
    if r8 = (-1) then
      (wr s 1255 24 v3 (x9 ||| 0)).bind fun s10 =>
      some (.inl ((v5 + 1), s10))
    else
      if v4 < r8 then
        (wr s 1255 24 v3 (x9 ||| 0)).bind fun s11 =>
        some (.inl ((v5 + 1), s11))
      else
        (wr s 1255 24 v3 (x9 ||| (1 <<< (v5 &&& 31)))).bind fun s12 =>
        some (.inl ((v5 + 1), s12))
def F_X12_look__67 (v1 : Int32) (v2 : Int32) (v3 : Int32) (v4 : Int32) (v5 : Int32) (s : St) : Option ((Int32 × St) ⊕ ((St))) :=
  (lp (B_X12_look__67 v1 v2 v3 v4) FU (v5, s)).bind (fun y => F_X12_look__125 v1 v2 v3 y)
def B_X12_look__2 (v1 : Int32) (v2 : Int32) : Int32 × St → Option ((Int32 × St) ⊕ ((St)))
  | (v3, s) =>
  if (s.1 1212) ≤ v3 then
    some (.inr s)
  else
    (wr s 1255 24 v3 0).bind fun s1 =>
    if ((v1 >>> (v3 &&& 31)) &&& 1) = 0 then
      F_X12_look__125 v1 v2 v3 s1
    else
      (F_X12_mayWalk v3 v2 (s1.1 1200) s1).bind fun r2 =>
      (rd r2.2 1204 24 v3).bind fun x3 =>
      (rd r2.2 1202 601 v2).bind fun x4 =>
      if x4 = 0 then
        (F_X12_spread x3 0 r2.2).bind fun s5 =>
        F_X12_look__67 v1 v2 v3 r2.1 0 s5
      else
        (F_X12_spread x3 1 r2.2).bind fun s6 =>
        F_X12_look__67 v1 v2 v3 r2.1 0 s6
def F_X12_look__131 (s : St) : Option (St) :=
  some s
def F_X12_look__2 (v1 : Int32) (v2 : Int32) (v3 : Int32) (s : St) : Option (St) :=
  (lp (B_X12_look__2 v1 v2) FU (v3, s)).bind (fun y => F_X12_look__131 y)
def F_X12_look_ (v1 : Int32) (v2 : Int32) (s : St) : Option (St) :=
  F_X12_look__2 v1 v2 0 s
theorem J_X12_look_ : mj_t 7 124 = 131 ∧ mj_t 22 6 = 28 ∧ mj_t 25 100 = 125 ∧ mj_t 53 7 = 60 ∧ mj_t 57 4 = 61 ∧ mj_t 73 52 = 125 ∧ mj_t 99 17 = 116 ∧ mj_t 106 10 = 116 ∧ mj_t 113 4 = 117 ∧ mj_t 122 (-55) = 67 ∧ mj_t 128 (-126) = 2 ∧ (0 ≤ ((7 : Nat) : Int) + 124) = True ∧ (0 ≤ ((22 : Nat) : Int) + 6) = True ∧ (0 ≤ ((25 : Nat) : Int) + 100) = True ∧ (0 ≤ ((53 : Nat) : Int) + 7) = True ∧ (0 ≤ ((57 : Nat) : Int) + 4) = True ∧ (0 ≤ ((73 : Nat) : Int) + 52) = True ∧ (0 ≤ ((99 : Nat) : Int) + 17) = True ∧ (0 ≤ ((106 : Nat) : Int) + 10) = True ∧ (0 ≤ ((113 : Nat) : Int) + 4) = True ∧ (0 ≤ ((122 : Nat) : Int) + (-55)) = True ∧ (0 ≤ ((128 : Nat) : Int) + (-126)) = True := by and_intros <;> first | rfl | exact eq_true (by decide)
def ct_X12_look_ : List (Nat × mj_Cs) := [(247, 0, 3, 12, 0, 0, c_X12_spread), (251, 0, 2, 12, 0, 0, c_X12_walkedTo), (469, 0, 4, 12, 0, 0, c_X12_mayWalk)]
theorem L_X12_look_ : mj_lk ct_X12_look_ 247 = some (0, 3, 12, 0, 0, c_X12_spread) ∧ mj_lk ct_X12_look_ 251 = some (0, 2, 12, 0, 0, c_X12_walkedTo) ∧ mj_lk ct_X12_look_ 469 = some (0, 4, 12, 0, 0, c_X12_mayWalk) := ⟨rfl, rfl, rfl⟩
set_option maxHeartbeats 4000000 in
set_option maxRecDepth 20000 in
theorem g_X12_look__125 {k : Option Value → mj_H → Prop} {G : mj_K} (hG : mj_cl2 cX12_look_ (TbX12 7 (none) ct_X12_look_) k G) {v1 : Int32} {v2 : Int32} {P : Int32 × St → Prop} {K : (St) → Prop} (hP : ∀ x, P x → G 2 [.ref 0, .int v1, .int v2, .int x.1] [] (mkMs x.2) 0 0) (hK0 : ∀ y, K y → G 131 [] [] (mkMs y) 0 0) {v3 : Int32} {s : St} (hw : ok (F_X12_look__125 v1 v2 v3 s) (Sum.elim P K)) : G 125 [.ref 0, .int v1, .int v2, .int v3] [] (mkMs s) 0 0 := by
  unfold F_X12_look__125 at hw
  refine mj_run hG.1 (fun pc => pc == 2 || pc == 38 || pc == 64 || pc == 67 || pc == 87 || pc == 125 || pc == 131) 4000 ?_
  simp only [mj_step, mj_W_s, mj_fin, List.getElem?_cons_zero, List.getElem?_cons_succ, mj_go, Nat.reduceAdd, Nat.reduceSub, Nat.reduceLT, Nat.reduceLeDiff, Nat.zero_add, Nat.reduceEqDiff, Nat.reduceBEq, ↓reduceIte, Bool.false_eq_true, List.append_nil, List.nil_append, List.cons_append, Option.toList, and_true, true_and, true_or, or_true, reduceCtorEq, List.map_nil, bI_eq0, bI_eq1, bool_ft, pk_us, vnar0, vnar1, Bool.or_false, Bool.or_true, Bool.false_or, Bool.true_or, mj_kne, eq_self, Int32.reduceLT, Int32.reduceLE, Int32.reduceAdd, Int32.reduceSub, Int32.reduceMul, not_true_eq_false, not_false_eq_true, false_implies, true_implies, D_X12_look__0, D_X12_look__1, mj_F_aload_n_k, mj_F_baload, mj_F_dup2, mj_F_getfield_i, mj_F_goto_off, mj_F_iaload, mj_F_iand, mj_F_iastore, mj_F_iconst_n, mj_F_ifCond_eq_off, mj_F_ifCond_ne_off, mj_F_if_icmp_eq_off, mj_F_if_icmp_ge_off, mj_F_if_icmp_gt_off, mj_F_iinc_k_n, mj_F_iload_k, mj_F_iload_n_k, mj_F_invokevirtual_i, mj_F_ior, mj_F_ishl, mj_F_ishr, mj_F_istore_k, mj_F_istore_n_k, mj_F_return_, mj_set, mj_set0, mj_unk, mj_c2, mj_kc, FT_X12, FT_X12_1, L_X12_look_, List.take_succ_cons, List.take_zero, List.drop_succ_cons, List.drop_zero, List.reverse_cons, List.reverse_nil, List.length_cons, List.length_nil, gS_M0, gMf_12, gMf_55, gS_M43, sS_Ma_43, gMf_0, gMf_4, gS_M4, sS_Ma_4, gMf_2, gS_M2, sS_Ma_2, gMf_56, gMf_54, gS_M42, sS_Ma_42, J_X12_look_]
  exact hG.2 _ _ _ _ _ _ _ _ _ (by refine ⟨Or.inr rfl, ?_⟩; refine ⟨Or.inr rfl, ?_⟩; refine ⟨Or.inr rfl, ?_⟩; refine ⟨Or.inr rfl, ?_⟩; exact trivial) (Nat.zero_le _) (Nat.zero_le _) (hP _ (ok_some hw :) :)

set_option maxHeartbeats 4000000 in
set_option maxRecDepth 20000 in
theorem b_X12_look__67 {k : Option Value → mj_H → Prop} {G : mj_K} (hG : mj_cl2 cX12_look_ (TbX12 7 (none) ct_X12_look_) k G) {v1 : Int32} {v2 : Int32} {v3 : Int32} {v4 : Int32} {P : Int32 × St → Prop} {K : (St) → Prop} (hP : ∀ x, P x → G 67 [.ref 0, .int v1, .int v2, .int v3, .int v4, .int x.1] [] (mkMs x.2) 0 0) (hK0 : ∀ y, K y → G 125 [.ref 0, .int v1, .int v2, .int v3] [] (mkMs y) 0 0) {v5 : Int32} {s : St} (hw : ok (B_X12_look__67 v1 v2 v3 v4 (v5, s)) (Sum.elim P K)) : G 67 [.ref 0, .int v1, .int v2, .int v3, .int v4, .int v5] [] (mkMs s) 0 0 := by
  unfold B_X12_look__67 at hw
  refine mj_run hG.1 (fun pc => pc == 2 || pc == 38 || pc == 64 || pc == 67 || pc == 87 || pc == 125 || pc == 131) 4000 ?_
  simp only [mj_step, mj_W_s, mj_fin, List.getElem?_cons_zero, List.getElem?_cons_succ, mj_go, Nat.reduceAdd, Nat.reduceSub, Nat.reduceLT, Nat.reduceLeDiff, Nat.zero_add, Nat.reduceEqDiff, Nat.reduceBEq, ↓reduceIte, Bool.false_eq_true, List.append_nil, List.nil_append, List.cons_append, Option.toList, and_true, true_and, true_or, or_true, reduceCtorEq, List.map_nil, bI_eq0, bI_eq1, bool_ft, pk_us, vnar0, vnar1, Bool.or_false, Bool.or_true, Bool.false_or, Bool.true_or, mj_kne, eq_self, Int32.reduceLT, Int32.reduceLE, Int32.reduceAdd, Int32.reduceSub, Int32.reduceMul, not_true_eq_false, not_false_eq_true, false_implies, true_implies, D_X12_look__0, D_X12_look__1, mj_F_aload_n_k, mj_F_baload, mj_F_dup2, mj_F_getfield_i, mj_F_goto_off, mj_F_iaload, mj_F_iand, mj_F_iastore, mj_F_iconst_n, mj_F_ifCond_eq_off, mj_F_ifCond_ne_off, mj_F_if_icmp_eq_off, mj_F_if_icmp_ge_off, mj_F_if_icmp_gt_off, mj_F_iinc_k_n, mj_F_iload_k, mj_F_iload_n_k, mj_F_invokevirtual_i, mj_F_ior, mj_F_ishl, mj_F_ishr, mj_F_istore_k, mj_F_istore_n_k, mj_F_return_, mj_set, mj_set0, mj_unk, mj_c2, mj_kc, FT_X12, FT_X12_1, L_X12_look_, List.take_succ_cons, List.take_zero, List.drop_succ_cons, List.drop_zero, List.reverse_cons, List.reverse_nil, List.length_cons, List.length_nil, gS_M0, gMf_12, gMf_55, gS_M43, sS_Ma_43, gMf_0, gMf_4, gS_M4, sS_Ma_4, gMf_2, gS_M2, sS_Ma_2, gMf_56, gMf_54, gS_M42, sS_Ma_42, J_X12_look_]
  refine ⟨fun c => ?_, fun c => ?_⟩
  · replace hw := ok_t hw c
    exact hG.2 _ _ _ _ _ _ _ _ _ (by refine ⟨Or.inr rfl, ?_⟩; refine ⟨Or.inr rfl, ?_⟩; refine ⟨Or.inr rfl, ?_⟩; refine ⟨Or.inr rfl, ?_⟩; exact trivial) (Nat.zero_le _) (Nat.zero_le _) (hK0 _ (ok_some hw :) :)
  · replace hw := ok_f hw c
    refine ⟨(ok_rd hw).1, ?_⟩
    replace hw := (ok_rd hw).2
    refine c_X12_walkedTo_in (ok_imp (ok_bind hw) ?_)
    intro p hw
    simp only [Option.toList, List.nil_append, List.cons_append, Nat.reduceSub]
    refine mj_run hG.1 (fun pc => pc == 2 || pc == 38 || pc == 64 || pc == 67 || pc == 87 || pc == 125 || pc == 131) 4000 ?_
    simp only [mj_step, mj_W_s, mj_fin, List.getElem?_cons_zero, List.getElem?_cons_succ, mj_go, Nat.reduceAdd, Nat.reduceSub, Nat.reduceLT, Nat.reduceLeDiff, Nat.zero_add, Nat.reduceEqDiff, Nat.reduceBEq, ↓reduceIte, Bool.false_eq_true, List.append_nil, List.nil_append, List.cons_append, Option.toList, and_true, true_and, true_or, or_true, reduceCtorEq, List.map_nil, bI_eq0, bI_eq1, bool_ft, pk_us, vnar0, vnar1, Bool.or_false, Bool.or_true, Bool.false_or, Bool.true_or, mj_kne, eq_self, Int32.reduceLT, Int32.reduceLE, Int32.reduceAdd, Int32.reduceSub, Int32.reduceMul, not_true_eq_false, not_false_eq_true, false_implies, true_implies, D_X12_look__0, D_X12_look__1, mj_F_aload_n_k, mj_F_baload, mj_F_dup2, mj_F_getfield_i, mj_F_goto_off, mj_F_iaload, mj_F_iand, mj_F_iastore, mj_F_iconst_n, mj_F_ifCond_eq_off, mj_F_ifCond_ne_off, mj_F_if_icmp_eq_off, mj_F_if_icmp_ge_off, mj_F_if_icmp_gt_off, mj_F_iinc_k_n, mj_F_iload_k, mj_F_iload_n_k, mj_F_invokevirtual_i, mj_F_ior, mj_F_ishl, mj_F_ishr, mj_F_istore_k, mj_F_istore_n_k, mj_F_return_, mj_set, mj_set0, mj_unk, mj_c2, mj_kc, FT_X12, FT_X12_1, L_X12_look_, List.take_succ_cons, List.take_zero, List.drop_succ_cons, List.drop_zero, List.reverse_cons, List.reverse_nil, List.length_cons, List.length_nil, gS_M0, gMf_12, gMf_55, gS_M43, sS_Ma_43, gMf_0, gMf_4, gS_M4, sS_Ma_4, gMf_2, gS_M2, sS_Ma_2, gMf_56, gMf_54, gS_M42, sS_Ma_42, J_X12_look_]
    refine ⟨(ok_rd hw).1, ?_⟩
    replace hw := (ok_rd hw).2
    refine ⟨fun c => ?_, fun c => ?_⟩
    · replace hw := ok_t hw c
      refine ⟨(ok_wr hw).1, ?_⟩
      replace hw := (ok_wr hw).2
      exact hG.2 _ _ _ _ _ _ _ _ _ (by refine ⟨Or.inr rfl, ?_⟩; refine ⟨Or.inr rfl, ?_⟩; refine ⟨Or.inr rfl, ?_⟩; refine ⟨Or.inr rfl, ?_⟩; refine ⟨Or.inr rfl, ?_⟩; refine ⟨Or.inr rfl, ?_⟩; exact trivial) (Nat.zero_le _) (Nat.zero_le _) (hP _ (ok_some hw :) :)
    · replace hw := ok_f hw c
      refine ⟨fun c => ?_, fun c => ?_⟩
      · replace hw := ok_t hw c
        refine ⟨(ok_wr hw).1, ?_⟩
        replace hw := (ok_wr hw).2
        exact hG.2 _ _ _ _ _ _ _ _ _ (by refine ⟨Or.inr rfl, ?_⟩; refine ⟨Or.inr rfl, ?_⟩; refine ⟨Or.inr rfl, ?_⟩; refine ⟨Or.inr rfl, ?_⟩; refine ⟨Or.inr rfl, ?_⟩; refine ⟨Or.inr rfl, ?_⟩; exact trivial) (Nat.zero_le _) (Nat.zero_le _) (hP _ (ok_some hw :) :)
      · replace hw := ok_f hw c
        refine ⟨(ok_wr hw).1, ?_⟩
        replace hw := (ok_wr hw).2
        exact hG.2 _ _ _ _ _ _ _ _ _ (by refine ⟨Or.inr rfl, ?_⟩; refine ⟨Or.inr rfl, ?_⟩; refine ⟨Or.inr rfl, ?_⟩; refine ⟨Or.inr rfl, ?_⟩; refine ⟨Or.inr rfl, ?_⟩; refine ⟨Or.inr rfl, ?_⟩; exact trivial) (Nat.zero_le _) (Nat.zero_le _) (hP _ (ok_some hw :) :)

set_option maxHeartbeats 4000000 in
theorem g_X12_look__67 {k : Option Value → mj_H → Prop} {G : mj_K} (hG : mj_cl2 cX12_look_ (TbX12 7 (none) ct_X12_look_) k G) {v1 : Int32} {v2 : Int32} {P : Int32 × St → Prop} {K : (St) → Prop} (hP : ∀ x, P x → G 2 [.ref 0, .int v1, .int v2, .int x.1] [] (mkMs x.2) 0 0) (hK0 : ∀ y, K y → G 131 [] [] (mkMs y) 0 0) {v3 : Int32} {v4 : Int32} {v5 : Int32} {s : St} (hw : ok (F_X12_look__67 v1 v2 v3 v4 v5 s) (Sum.elim P K)) : G 67 [.ref 0, .int v1, .int v2, .int v3, .int v4, .int v5] [] (mkMs s) 0 0 := by
  unfold F_X12_look__67 at hw
  refine lp_ok (B_X12_look__67 v1 v2 v3 v4) (fun x => G 67 [.ref 0, .int v1, .int v2, .int v3, .int v4, .int x.1] [] (mkMs x.2) 0 0) _ ?_ _ _ (ok_bind hw)
  rintro ⟨v5, s⟩ hb
  exact b_X12_look__67 hG (fun _ z => z) (fun y hw => by exact hG.2 _ _ _ _ _ _ _ _ _ (by refine ⟨Or.inr rfl, ?_⟩; refine ⟨Or.inr rfl, ?_⟩; refine ⟨Or.inr rfl, ?_⟩; refine ⟨Or.inr rfl, ?_⟩; exact trivial) (Nat.zero_le _) (Nat.zero_le _) (g_X12_look__125 hG hP hK0  hw :)) hb

set_option maxHeartbeats 4000000 in
set_option maxRecDepth 20000 in
theorem b_X12_look__2 {k : Option Value → mj_H → Prop} {G : mj_K} (hG : mj_cl2 cX12_look_ (TbX12 7 (none) ct_X12_look_) k G) {v1 : Int32} {v2 : Int32} {P : Int32 × St → Prop} {K : (St) → Prop} (hP : ∀ x, P x → G 2 [.ref 0, .int v1, .int v2, .int x.1] [] (mkMs x.2) 0 0) (hK0 : ∀ y, K y → G 131 [] [] (mkMs y) 0 0) {v3 : Int32} {s : St} (hw : ok (B_X12_look__2 v1 v2 (v3, s)) (Sum.elim P K)) : G 2 [.ref 0, .int v1, .int v2, .int v3] [] (mkMs s) 0 0 := by
  unfold B_X12_look__2 at hw
  refine mj_run hG.1 (fun pc => pc == 2 || pc == 38 || pc == 64 || pc == 67 || pc == 87 || pc == 125 || pc == 131) 4000 ?_
  simp only [mj_step, mj_W_s, mj_fin, List.getElem?_cons_zero, List.getElem?_cons_succ, mj_go, Nat.reduceAdd, Nat.reduceSub, Nat.reduceLT, Nat.reduceLeDiff, Nat.zero_add, Nat.reduceEqDiff, Nat.reduceBEq, ↓reduceIte, Bool.false_eq_true, List.append_nil, List.nil_append, List.cons_append, Option.toList, and_true, true_and, true_or, or_true, reduceCtorEq, List.map_nil, bI_eq0, bI_eq1, bool_ft, pk_us, vnar0, vnar1, Bool.or_false, Bool.or_true, Bool.false_or, Bool.true_or, mj_kne, eq_self, Int32.reduceLT, Int32.reduceLE, Int32.reduceAdd, Int32.reduceSub, Int32.reduceMul, not_true_eq_false, not_false_eq_true, false_implies, true_implies, D_X12_look__0, D_X12_look__1, mj_F_aload_n_k, mj_F_baload, mj_F_dup2, mj_F_getfield_i, mj_F_goto_off, mj_F_iaload, mj_F_iand, mj_F_iastore, mj_F_iconst_n, mj_F_ifCond_eq_off, mj_F_ifCond_ne_off, mj_F_if_icmp_eq_off, mj_F_if_icmp_ge_off, mj_F_if_icmp_gt_off, mj_F_iinc_k_n, mj_F_iload_k, mj_F_iload_n_k, mj_F_invokevirtual_i, mj_F_ior, mj_F_ishl, mj_F_ishr, mj_F_istore_k, mj_F_istore_n_k, mj_F_return_, mj_set, mj_set0, mj_unk, mj_c2, mj_kc, FT_X12, FT_X12_1, L_X12_look_, List.take_succ_cons, List.take_zero, List.drop_succ_cons, List.drop_zero, List.reverse_cons, List.reverse_nil, List.length_cons, List.length_nil, gS_M0, gMf_12, gMf_55, gS_M43, sS_Ma_43, gMf_0, gMf_4, gS_M4, sS_Ma_4, gMf_2, gS_M2, sS_Ma_2, gMf_56, gMf_54, gS_M42, sS_Ma_42, J_X12_look_]
  refine ⟨fun c => ?_, fun c => ?_⟩
  · replace hw := ok_t hw c
    exact hG.2 _ _ _ _ _ _ _ _ _ (by exact trivial) (Nat.zero_le _) (Nat.zero_le _) (hK0 _ (ok_some hw :) :)
  · replace hw := ok_f hw c
    refine ⟨(ok_wr hw).1, ?_⟩
    replace hw := (ok_wr hw).2
    refine ⟨fun c => ?_, fun c => ?_⟩
    · replace hw := ok_f hw c
      refine c_X12_mayWalk_in (ok_imp (ok_bind hw) ?_)
      intro p hw
      simp only [Option.toList, List.nil_append, List.cons_append, Nat.reduceSub]
      refine mj_run hG.1 (fun pc => pc == 2 || pc == 38 || pc == 64 || pc == 67 || pc == 87 || pc == 125 || pc == 131) 4000 ?_
      simp only [mj_step, mj_W_s, mj_fin, List.getElem?_cons_zero, List.getElem?_cons_succ, mj_go, Nat.reduceAdd, Nat.reduceSub, Nat.reduceLT, Nat.reduceLeDiff, Nat.zero_add, Nat.reduceEqDiff, Nat.reduceBEq, ↓reduceIte, Bool.false_eq_true, List.append_nil, List.nil_append, List.cons_append, Option.toList, and_true, true_and, true_or, or_true, reduceCtorEq, List.map_nil, bI_eq0, bI_eq1, bool_ft, pk_us, vnar0, vnar1, Bool.or_false, Bool.or_true, Bool.false_or, Bool.true_or, mj_kne, eq_self, Int32.reduceLT, Int32.reduceLE, Int32.reduceAdd, Int32.reduceSub, Int32.reduceMul, not_true_eq_false, not_false_eq_true, false_implies, true_implies, D_X12_look__0, D_X12_look__1, mj_F_aload_n_k, mj_F_baload, mj_F_dup2, mj_F_getfield_i, mj_F_goto_off, mj_F_iaload, mj_F_iand, mj_F_iastore, mj_F_iconst_n, mj_F_ifCond_eq_off, mj_F_ifCond_ne_off, mj_F_if_icmp_eq_off, mj_F_if_icmp_ge_off, mj_F_if_icmp_gt_off, mj_F_iinc_k_n, mj_F_iload_k, mj_F_iload_n_k, mj_F_invokevirtual_i, mj_F_ior, mj_F_ishl, mj_F_ishr, mj_F_istore_k, mj_F_istore_n_k, mj_F_return_, mj_set, mj_set0, mj_unk, mj_c2, mj_kc, FT_X12, FT_X12_1, L_X12_look_, List.take_succ_cons, List.take_zero, List.drop_succ_cons, List.drop_zero, List.reverse_cons, List.reverse_nil, List.length_cons, List.length_nil, gS_M0, gMf_12, gMf_55, gS_M43, sS_Ma_43, gMf_0, gMf_4, gS_M4, sS_Ma_4, gMf_2, gS_M2, sS_Ma_2, gMf_56, gMf_54, gS_M42, sS_Ma_42, J_X12_look_]
      refine ⟨(ok_rd hw).1, ?_⟩
      replace hw := (ok_rd hw).2
      refine ⟨(ok_rd hw).1, ?_⟩
      replace hw := (ok_rd hw).2
      refine ⟨fun c => ?_, fun c => ?_⟩
      · replace hw := ok_t hw c
        refine c_X12_spread_in (ok_imp (ok_bind hw) ?_)
        intro p hw
        simp only [Option.toList, List.nil_append, List.cons_append, Nat.reduceSub]
        refine mj_run hG.1 (fun pc => pc == 2 || pc == 38 || pc == 64 || pc == 67 || pc == 87 || pc == 125 || pc == 131) 4000 ?_
        simp only [mj_step, mj_W_s, mj_fin, List.getElem?_cons_zero, List.getElem?_cons_succ, mj_go, Nat.reduceAdd, Nat.reduceSub, Nat.reduceLT, Nat.reduceLeDiff, Nat.zero_add, Nat.reduceEqDiff, Nat.reduceBEq, ↓reduceIte, Bool.false_eq_true, List.append_nil, List.nil_append, List.cons_append, Option.toList, and_true, true_and, true_or, or_true, reduceCtorEq, List.map_nil, bI_eq0, bI_eq1, bool_ft, pk_us, vnar0, vnar1, Bool.or_false, Bool.or_true, Bool.false_or, Bool.true_or, mj_kne, eq_self, Int32.reduceLT, Int32.reduceLE, Int32.reduceAdd, Int32.reduceSub, Int32.reduceMul, not_true_eq_false, not_false_eq_true, false_implies, true_implies, D_X12_look__0, D_X12_look__1, mj_F_aload_n_k, mj_F_baload, mj_F_dup2, mj_F_getfield_i, mj_F_goto_off, mj_F_iaload, mj_F_iand, mj_F_iastore, mj_F_iconst_n, mj_F_ifCond_eq_off, mj_F_ifCond_ne_off, mj_F_if_icmp_eq_off, mj_F_if_icmp_ge_off, mj_F_if_icmp_gt_off, mj_F_iinc_k_n, mj_F_iload_k, mj_F_iload_n_k, mj_F_invokevirtual_i, mj_F_ior, mj_F_ishl, mj_F_ishr, mj_F_istore_k, mj_F_istore_n_k, mj_F_return_, mj_set, mj_set0, mj_unk, mj_c2, mj_kc, FT_X12, FT_X12_1, L_X12_look_, List.take_succ_cons, List.take_zero, List.drop_succ_cons, List.drop_zero, List.reverse_cons, List.reverse_nil, List.length_cons, List.length_nil, gS_M0, gMf_12, gMf_55, gS_M43, sS_Ma_43, gMf_0, gMf_4, gS_M4, sS_Ma_4, gMf_2, gS_M2, sS_Ma_2, gMf_56, gMf_54, gS_M42, sS_Ma_42, J_X12_look_]
        exact hG.2 _ _ _ _ _ _ _ _ _ (by refine ⟨Or.inr rfl, ?_⟩; refine ⟨Or.inr rfl, ?_⟩; refine ⟨Or.inr rfl, ?_⟩; refine ⟨Or.inr rfl, ?_⟩; refine ⟨Or.inr rfl, ?_⟩; refine ⟨Or.inr rfl, ?_⟩; exact trivial) (Nat.zero_le _) (Nat.zero_le _) (g_X12_look__67 hG hP hK0  hw :)
      · replace hw := ok_f hw c
        refine c_X12_spread_in (ok_imp (ok_bind hw) ?_)
        intro p hw
        simp only [Option.toList, List.nil_append, List.cons_append, Nat.reduceSub]
        refine mj_run hG.1 (fun pc => pc == 2 || pc == 38 || pc == 64 || pc == 67 || pc == 87 || pc == 125 || pc == 131) 4000 ?_
        simp only [mj_step, mj_W_s, mj_fin, List.getElem?_cons_zero, List.getElem?_cons_succ, mj_go, Nat.reduceAdd, Nat.reduceSub, Nat.reduceLT, Nat.reduceLeDiff, Nat.zero_add, Nat.reduceEqDiff, Nat.reduceBEq, ↓reduceIte, Bool.false_eq_true, List.append_nil, List.nil_append, List.cons_append, Option.toList, and_true, true_and, true_or, or_true, reduceCtorEq, List.map_nil, bI_eq0, bI_eq1, bool_ft, pk_us, vnar0, vnar1, Bool.or_false, Bool.or_true, Bool.false_or, Bool.true_or, mj_kne, eq_self, Int32.reduceLT, Int32.reduceLE, Int32.reduceAdd, Int32.reduceSub, Int32.reduceMul, not_true_eq_false, not_false_eq_true, false_implies, true_implies, D_X12_look__0, D_X12_look__1, mj_F_aload_n_k, mj_F_baload, mj_F_dup2, mj_F_getfield_i, mj_F_goto_off, mj_F_iaload, mj_F_iand, mj_F_iastore, mj_F_iconst_n, mj_F_ifCond_eq_off, mj_F_ifCond_ne_off, mj_F_if_icmp_eq_off, mj_F_if_icmp_ge_off, mj_F_if_icmp_gt_off, mj_F_iinc_k_n, mj_F_iload_k, mj_F_iload_n_k, mj_F_invokevirtual_i, mj_F_ior, mj_F_ishl, mj_F_ishr, mj_F_istore_k, mj_F_istore_n_k, mj_F_return_, mj_set, mj_set0, mj_unk, mj_c2, mj_kc, FT_X12, FT_X12_1, L_X12_look_, List.take_succ_cons, List.take_zero, List.drop_succ_cons, List.drop_zero, List.reverse_cons, List.reverse_nil, List.length_cons, List.length_nil, gS_M0, gMf_12, gMf_55, gS_M43, sS_Ma_43, gMf_0, gMf_4, gS_M4, sS_Ma_4, gMf_2, gS_M2, sS_Ma_2, gMf_56, gMf_54, gS_M42, sS_Ma_42, J_X12_look_]
        exact hG.2 _ _ _ _ _ _ _ _ _ (by refine ⟨Or.inr rfl, ?_⟩; refine ⟨Or.inr rfl, ?_⟩; refine ⟨Or.inr rfl, ?_⟩; refine ⟨Or.inr rfl, ?_⟩; refine ⟨Or.inr rfl, ?_⟩; refine ⟨Or.inr rfl, ?_⟩; exact trivial) (Nat.zero_le _) (Nat.zero_le _) (g_X12_look__67 hG hP hK0  hw :)
    · replace hw := ok_t hw c
      exact hG.2 _ _ _ _ _ _ _ _ _ (by refine ⟨Or.inr rfl, ?_⟩; refine ⟨Or.inr rfl, ?_⟩; refine ⟨Or.inr rfl, ?_⟩; refine ⟨Or.inr rfl, ?_⟩; exact trivial) (Nat.zero_le _) (Nat.zero_le _) (g_X12_look__125 hG hP hK0  hw :)

set_option maxHeartbeats 4000000 in
set_option maxRecDepth 20000 in
theorem g_X12_look__131 {k : Option Value → mj_H → Prop} {G : mj_K} (hG : mj_cl2 cX12_look_ (TbX12 7 (none) ct_X12_look_) k G)   {s : St} (hw : ok (F_X12_look__131 s) (fun p => k none (mkMs p))) : G 131 [] [] (mkMs s) 0 0 := by
  unfold F_X12_look__131 at hw
  refine mj_run hG.1 (fun pc => pc == 2 || pc == 38 || pc == 64 || pc == 67 || pc == 87 || pc == 125 || pc == 131) 4000 ?_
  simp only [mj_step, mj_W_s, mj_fin, List.getElem?_cons_zero, List.getElem?_cons_succ, mj_go, Nat.reduceAdd, Nat.reduceSub, Nat.reduceLT, Nat.reduceLeDiff, Nat.zero_add, Nat.reduceEqDiff, Nat.reduceBEq, ↓reduceIte, Bool.false_eq_true, List.append_nil, List.nil_append, List.cons_append, Option.toList, and_true, true_and, true_or, or_true, reduceCtorEq, List.map_nil, bI_eq0, bI_eq1, bool_ft, pk_us, vnar0, vnar1, Bool.or_false, Bool.or_true, Bool.false_or, Bool.true_or, mj_kne, eq_self, Int32.reduceLT, Int32.reduceLE, Int32.reduceAdd, Int32.reduceSub, Int32.reduceMul, not_true_eq_false, not_false_eq_true, false_implies, true_implies, D_X12_look__0, D_X12_look__1, mj_F_aload_n_k, mj_F_baload, mj_F_dup2, mj_F_getfield_i, mj_F_goto_off, mj_F_iaload, mj_F_iand, mj_F_iastore, mj_F_iconst_n, mj_F_ifCond_eq_off, mj_F_ifCond_ne_off, mj_F_if_icmp_eq_off, mj_F_if_icmp_ge_off, mj_F_if_icmp_gt_off, mj_F_iinc_k_n, mj_F_iload_k, mj_F_iload_n_k, mj_F_invokevirtual_i, mj_F_ior, mj_F_ishl, mj_F_ishr, mj_F_istore_k, mj_F_istore_n_k, mj_F_return_, mj_set, mj_set0, mj_unk, mj_c2, mj_kc, FT_X12, FT_X12_1, L_X12_look_, List.take_succ_cons, List.take_zero, List.drop_succ_cons, List.drop_zero, List.reverse_cons, List.reverse_nil, List.length_cons, List.length_nil, gS_M0, gMf_12, gMf_55, gS_M43, sS_Ma_43, gMf_0, gMf_4, gS_M4, sS_Ma_4, gMf_2, gS_M2, sS_Ma_2, gMf_56, gMf_54, gS_M42, sS_Ma_42, J_X12_look_]
  exact (ok_some hw :)

set_option maxHeartbeats 4000000 in
theorem g_X12_look__2 {k : Option Value → mj_H → Prop} {G : mj_K} (hG : mj_cl2 cX12_look_ (TbX12 7 (none) ct_X12_look_) k G)   {v1 : Int32} {v2 : Int32} {v3 : Int32} {s : St} (hw : ok (F_X12_look__2 v1 v2 v3 s) (fun p => k none (mkMs p))) : G 2 [.ref 0, .int v1, .int v2, .int v3] [] (mkMs s) 0 0 := by
  unfold F_X12_look__2 at hw
  refine lp_ok (B_X12_look__2 v1 v2) (fun x => G 2 [.ref 0, .int v1, .int v2, .int x.1] [] (mkMs x.2) 0 0) _ ?_ _ _ (ok_bind hw)
  rintro ⟨v3, s⟩ hb
  exact b_X12_look__2 hG (fun _ z => z) (fun y hw => by exact hG.2 _ _ _ _ _ _ _ _ _ (by exact trivial) (Nat.zero_le _) (Nat.zero_le _) (g_X12_look__131 hG  hw :)) hb

set_option maxHeartbeats 4000000 in
set_option maxRecDepth 20000 in
theorem g_X12_look_ {k : Option Value → mj_H → Prop} {G : mj_K} (hG : mj_cl2 cX12_look_ (TbX12 7 (none) ct_X12_look_) k G) {v1 : Int32} {v2 : Int32} {s : St} (hw : ok (F_X12_look_ v1 v2 s) (fun p => k none (mkMs p))) : G 0 [.ref 0, .int v1, .int v2] [] (mkMs s) 0 0 := by
  unfold F_X12_look_ at hw
  refine mj_run hG.1 (fun pc => pc == 2 || pc == 38 || pc == 64 || pc == 67 || pc == 87 || pc == 125 || pc == 131) 4000 ?_
  simp only [mj_step, mj_W_s, mj_fin, List.getElem?_cons_zero, List.getElem?_cons_succ, mj_go, Nat.reduceAdd, Nat.reduceSub, Nat.reduceLT, Nat.reduceLeDiff, Nat.zero_add, Nat.reduceEqDiff, Nat.reduceBEq, ↓reduceIte, Bool.false_eq_true, List.append_nil, List.nil_append, List.cons_append, Option.toList, and_true, true_and, true_or, or_true, reduceCtorEq, List.map_nil, bI_eq0, bI_eq1, bool_ft, pk_us, vnar0, vnar1, Bool.or_false, Bool.or_true, Bool.false_or, Bool.true_or, mj_kne, eq_self, Int32.reduceLT, Int32.reduceLE, Int32.reduceAdd, Int32.reduceSub, Int32.reduceMul, not_true_eq_false, not_false_eq_true, false_implies, true_implies, D_X12_look__0, D_X12_look__1, mj_F_aload_n_k, mj_F_baload, mj_F_dup2, mj_F_getfield_i, mj_F_goto_off, mj_F_iaload, mj_F_iand, mj_F_iastore, mj_F_iconst_n, mj_F_ifCond_eq_off, mj_F_ifCond_ne_off, mj_F_if_icmp_eq_off, mj_F_if_icmp_ge_off, mj_F_if_icmp_gt_off, mj_F_iinc_k_n, mj_F_iload_k, mj_F_iload_n_k, mj_F_invokevirtual_i, mj_F_ior, mj_F_ishl, mj_F_ishr, mj_F_istore_k, mj_F_istore_n_k, mj_F_return_, mj_set, mj_set0, mj_unk, mj_c2, mj_kc, FT_X12, FT_X12_1, L_X12_look_, List.take_succ_cons, List.take_zero, List.drop_succ_cons, List.drop_zero, List.reverse_cons, List.reverse_nil, List.length_cons, List.length_nil, gS_M0, gMf_12, gMf_55, gS_M43, sS_Ma_43, gMf_0, gMf_4, gS_M4, sS_Ma_4, gMf_2, gS_M2, sS_Ma_2, gMf_56, gMf_54, gS_M42, sS_Ma_42, J_X12_look_]
  exact hG.2 _ _ _ _ _ _ _ _ _ (by refine ⟨Or.inr rfl, ?_⟩; refine ⟨Or.inr rfl, ?_⟩; refine ⟨Or.inr rfl, ?_⟩; refine ⟨Or.inr rfl, ?_⟩; exact trivial) (Nat.zero_le _) (Nat.zero_le _) (g_X12_look__2 hG  hw :)

def c_X12_look_ : mj_S := fun as h k => ∃ (v1 : Int32) (v2 : Int32) (s : St), as = [.ref 0, .int v1, .int v2] ∧ h = mkMs s ∧ ok (F_X12_look_ v1 v2 s) (fun p => k none (mkMs p))
theorem c_X12_look__in {v1 : Int32} {v2 : Int32} {s : St} {k : Option Value → mj_H → Prop} (hw : ok (F_X12_look_ v1 v2 s) (fun p => k none (mkMs p))) : c_X12_look_ [.ref 0, .int v1, .int v2] (mkMs s) k := ⟨v1, v2, s, rfl, rfl, hw⟩
theorem m_X12_look_ (l : Launch) : mj_Met l yX12_look_ cX12_look_ 7 (none) 8 0 0 c_X12_look_ := by
  refine mj_body2 false (TbX12 7 (none) ct_X12_look_) (by decide) rfl rfl (fun h => nomatch h) (tfX12 _ (List.forall_mem_cons.mpr ⟨cfX12_247 (m_X12_spread l) (by decide), List.forall_mem_cons.mpr ⟨cfX12_251 (m_X12_walkedTo l) (by decide), List.forall_mem_cons.mpr ⟨cfX12_469 (m_X12_mayWalk l) (by decide), fun _ h => nomatch h⟩⟩⟩)) ?_
  rintro as h k ⟨v1, v2, s, rfl, rfl, hw⟩
  exact ⟨rfl, fun G hG => g_X12_look_ hG hw⟩
def B_X12_firstLeft_2 (v1 : Int32) (v2 : Int32) (s : St) : Int32 → Option ((Int32) ⊕ ((Unit) ⊕ (Int32)))
  | v3 =>
  if (s.1 1212) ≤ v3 then
    some (.inr (.inl ()))
  else
    if ((v2 >>> (v3 &&& 31)) &&& 1) = 1 then
      (rd s 1255 24 v3).bind fun x1 =>
      if (x1 &&& v1) = 0 then
        some (.inr (.inr v3))
      else
        some (.inl (v3 + 1))
    else
      some (.inl (v3 + 1))
def F_X12_firstLeft_38 (s : St) : Option (Int32) :=
  some (-1)
def F_X12_firstLeft_30 (v3 : Int32) (s : St) : Option (Int32) :=
  some v3
def F_X12_firstLeft_2 (v1 : Int32) (v2 : Int32) (v3 : Int32) (s : St) : Option (Int32) :=
  (lp (B_X12_firstLeft_2 v1 v2 s) FU v3).bind (Sum.elim (fun _ => F_X12_firstLeft_38 s) (fun y => F_X12_firstLeft_30 y s))
def F_X12_firstLeft (v1 : Int32) (v2 : Int32) (s : St) : Option (Int32) :=
  F_X12_firstLeft_2 v1 v2 0 s
theorem J_X12_firstLeft : mj_t 7 31 = 38 ∧ mj_t 16 16 = 32 ∧ mj_t 27 5 = 32 ∧ mj_t 35 (-33) = 2 ∧ (0 ≤ ((7 : Nat) : Int) + 31) = True ∧ (0 ≤ ((16 : Nat) : Int) + 16) = True ∧ (0 ≤ ((27 : Nat) : Int) + 5) = True ∧ (0 ≤ ((35 : Nat) : Int) + (-33)) = True := by and_intros <;> first | rfl | exact eq_true (by decide)
set_option maxHeartbeats 4000000 in
set_option maxRecDepth 20000 in
theorem b_X12_firstLeft_2 {k : Option Value → mj_H → Prop} {G : mj_K} (hG : mj_cl2 cX12_firstLeft (TbX12 4 ((some FieldType.int)) []) k G) {v1 : Int32} {v2 : Int32} {s : St} {P : Int32 → Prop} {K : (Unit) ⊕ (Int32) → Prop} (hP : ∀ x, P x → G 2 [.ref 0, .int v1, .int v2, .int x] [] (mkMs s) 0 0) (hK0 : ∀ y, K (.inl y) → G 38 [] [] (mkMs s) 0 0) (hK1 : ∀ y, K (.inr y) → G 30 [mj_unk, mj_unk, mj_unk, .int y] [] (mkMs s) 0 0) {v3 : Int32} (hw : ok (B_X12_firstLeft_2 v1 v2 s v3) (Sum.elim P K)) : G 2 [.ref 0, .int v1, .int v2, .int v3] [] (mkMs s) 0 0 := by
  unfold B_X12_firstLeft_2 at hw
  refine mj_run hG.1 (fun pc => pc == 2 || pc == 30 || pc == 38) 4000 ?_
  simp only [mj_step, mj_W_s, mj_fin, List.getElem?_cons_zero, List.getElem?_cons_succ, mj_go, Nat.reduceAdd, Nat.reduceSub, Nat.reduceLT, Nat.reduceLeDiff, Nat.zero_add, Nat.reduceEqDiff, Nat.reduceBEq, ↓reduceIte, Bool.false_eq_true, List.append_nil, List.nil_append, List.cons_append, Option.toList, and_true, true_and, true_or, or_true, reduceCtorEq, List.map_nil, bI_eq0, bI_eq1, bool_ft, pk_us, vnar0, vnar1, Bool.or_false, Bool.or_true, Bool.false_or, Bool.true_or, mj_kne, eq_self, Int32.reduceLT, Int32.reduceLE, Int32.reduceAdd, Int32.reduceSub, Int32.reduceMul, not_true_eq_false, not_false_eq_true, false_implies, true_implies, D_X12_firstLeft, mj_F_aload_n_k, mj_F_getfield_i, mj_F_goto_off, mj_F_iaload, mj_F_iand, mj_F_iconst_n, mj_F_ifCond_ne_off, mj_F_if_icmp_ge_off, mj_F_if_icmp_ne_off, mj_F_iinc_k_n, mj_F_iload_n_k, mj_F_ireturn, mj_F_ishr, mj_F_istore_n_k, mj_set, mj_set0, mj_unk, mj_c2, mj_kc, FT_X12, FT_X12_1, gS_M0, gMf_12, gMf_55, gS_M43, sS_Ma_43, J_X12_firstLeft]
  refine ⟨fun c => ?_, fun c => ?_⟩
  · replace hw := ok_t hw c
    exact hG.2 _ _ _ _ _ _ _ _ _ (by exact trivial) (Nat.zero_le _) (Nat.zero_le _) (hK0 _ (ok_some hw :) :)
  · replace hw := ok_f hw c
    refine ⟨fun c => ?_, fun c => ?_⟩
    · replace hw := ok_f hw c
      exact hG.2 _ _ _ _ _ _ _ _ _ (by refine ⟨Or.inr rfl, ?_⟩; refine ⟨Or.inr rfl, ?_⟩; refine ⟨Or.inr rfl, ?_⟩; refine ⟨Or.inr rfl, ?_⟩; exact trivial) (Nat.zero_le _) (Nat.zero_le _) (hP _ (ok_some hw :) :)
    · replace hw := ok_t hw c
      refine ⟨(ok_rd hw).1, ?_⟩
      replace hw := (ok_rd hw).2
      refine ⟨fun c => ?_, fun c => ?_⟩
      · replace hw := ok_f hw c
        exact hG.2 _ _ _ _ _ _ _ _ _ (by refine ⟨Or.inr rfl, ?_⟩; refine ⟨Or.inr rfl, ?_⟩; refine ⟨Or.inr rfl, ?_⟩; refine ⟨Or.inr rfl, ?_⟩; exact trivial) (Nat.zero_le _) (Nat.zero_le _) (hP _ (ok_some hw :) :)
      · replace hw := ok_t hw c
        exact hG.2 _ _ _ _ _ _ _ _ _ (by refine ⟨Or.inl rfl, ?_⟩; refine ⟨Or.inl rfl, ?_⟩; refine ⟨Or.inl rfl, ?_⟩; refine ⟨Or.inr rfl, ?_⟩; exact trivial) (Nat.zero_le _) (Nat.zero_le _) (hK1 _ (ok_some hw :) :)

set_option maxHeartbeats 4000000 in
set_option maxRecDepth 20000 in
theorem g_X12_firstLeft_38 {k : Option Value → mj_H → Prop} {G : mj_K} (hG : mj_cl2 cX12_firstLeft (TbX12 4 ((some FieldType.int)) []) k G)   {s : St} (hw : ok (F_X12_firstLeft_38 s) (fun p => k (some (.int p)) (mkMs s))) : G 38 [] [] (mkMs s) 0 0 := by
  unfold F_X12_firstLeft_38 at hw
  refine mj_run hG.1 (fun pc => pc == 2 || pc == 30 || pc == 38) 4000 ?_
  simp only [mj_step, mj_W_s, mj_fin, List.getElem?_cons_zero, List.getElem?_cons_succ, mj_go, Nat.reduceAdd, Nat.reduceSub, Nat.reduceLT, Nat.reduceLeDiff, Nat.zero_add, Nat.reduceEqDiff, Nat.reduceBEq, ↓reduceIte, Bool.false_eq_true, List.append_nil, List.nil_append, List.cons_append, Option.toList, and_true, true_and, true_or, or_true, reduceCtorEq, List.map_nil, bI_eq0, bI_eq1, bool_ft, pk_us, vnar0, vnar1, Bool.or_false, Bool.or_true, Bool.false_or, Bool.true_or, mj_kne, eq_self, Int32.reduceLT, Int32.reduceLE, Int32.reduceAdd, Int32.reduceSub, Int32.reduceMul, not_true_eq_false, not_false_eq_true, false_implies, true_implies, D_X12_firstLeft, mj_F_aload_n_k, mj_F_getfield_i, mj_F_goto_off, mj_F_iaload, mj_F_iand, mj_F_iconst_n, mj_F_ifCond_ne_off, mj_F_if_icmp_ge_off, mj_F_if_icmp_ne_off, mj_F_iinc_k_n, mj_F_iload_n_k, mj_F_ireturn, mj_F_ishr, mj_F_istore_n_k, mj_set, mj_set0, mj_unk, mj_c2, mj_kc, FT_X12, FT_X12_1, gS_M0, gMf_12, gMf_55, gS_M43, sS_Ma_43, J_X12_firstLeft]
  exact (ok_some hw :)

set_option maxHeartbeats 4000000 in
set_option maxRecDepth 20000 in
theorem g_X12_firstLeft_30 {k : Option Value → mj_H → Prop} {G : mj_K} (hG : mj_cl2 cX12_firstLeft (TbX12 4 ((some FieldType.int)) []) k G)   {v3 : Int32} {s : St} (hw : ok (F_X12_firstLeft_30 v3 s) (fun p => k (some (.int p)) (mkMs s))) : G 30 [mj_unk, mj_unk, mj_unk, .int v3] [] (mkMs s) 0 0 := by
  unfold F_X12_firstLeft_30 at hw
  refine mj_run hG.1 (fun pc => pc == 2 || pc == 30 || pc == 38) 4000 ?_
  simp only [mj_step, mj_W_s, mj_fin, List.getElem?_cons_zero, List.getElem?_cons_succ, mj_go, Nat.reduceAdd, Nat.reduceSub, Nat.reduceLT, Nat.reduceLeDiff, Nat.zero_add, Nat.reduceEqDiff, Nat.reduceBEq, ↓reduceIte, Bool.false_eq_true, List.append_nil, List.nil_append, List.cons_append, Option.toList, and_true, true_and, true_or, or_true, reduceCtorEq, List.map_nil, bI_eq0, bI_eq1, bool_ft, pk_us, vnar0, vnar1, Bool.or_false, Bool.or_true, Bool.false_or, Bool.true_or, mj_kne, eq_self, Int32.reduceLT, Int32.reduceLE, Int32.reduceAdd, Int32.reduceSub, Int32.reduceMul, not_true_eq_false, not_false_eq_true, false_implies, true_implies, D_X12_firstLeft, mj_F_aload_n_k, mj_F_getfield_i, mj_F_goto_off, mj_F_iaload, mj_F_iand, mj_F_iconst_n, mj_F_ifCond_ne_off, mj_F_if_icmp_ge_off, mj_F_if_icmp_ne_off, mj_F_iinc_k_n, mj_F_iload_n_k, mj_F_ireturn, mj_F_ishr, mj_F_istore_n_k, mj_set, mj_set0, mj_unk, mj_c2, mj_kc, FT_X12, FT_X12_1, gS_M0, gMf_12, gMf_55, gS_M43, sS_Ma_43, J_X12_firstLeft]
  exact (ok_some hw :)

set_option maxHeartbeats 4000000 in
theorem g_X12_firstLeft_2 {k : Option Value → mj_H → Prop} {G : mj_K} (hG : mj_cl2 cX12_firstLeft (TbX12 4 ((some FieldType.int)) []) k G)   {v1 : Int32} {v2 : Int32} {v3 : Int32} {s : St} (hw : ok (F_X12_firstLeft_2 v1 v2 v3 s) (fun p => k (some (.int p)) (mkMs s))) : G 2 [.ref 0, .int v1, .int v2, .int v3] [] (mkMs s) 0 0 := by
  unfold F_X12_firstLeft_2 at hw
  refine lp_ok (B_X12_firstLeft_2 v1 v2 s) (fun x => G 2 [.ref 0, .int v1, .int v2, .int x] [] (mkMs s) 0 0) _ ?_ _ _ (ok_bind hw)
  rintro v3 hb
  exact b_X12_firstLeft_2 hG (fun _ z => z) (fun y hw => by exact hG.2 _ _ _ _ _ _ _ _ _ (by exact trivial) (Nat.zero_le _) (Nat.zero_le _) (g_X12_firstLeft_38 hG  hw :)) (fun y hw => by exact hG.2 _ _ _ _ _ _ _ _ _ (by refine ⟨Or.inl rfl, ?_⟩; refine ⟨Or.inl rfl, ?_⟩; refine ⟨Or.inl rfl, ?_⟩; refine ⟨Or.inr rfl, ?_⟩; exact trivial) (Nat.zero_le _) (Nat.zero_le _) (g_X12_firstLeft_30 hG  hw :)) hb

set_option maxHeartbeats 4000000 in
set_option maxRecDepth 20000 in
theorem g_X12_firstLeft {k : Option Value → mj_H → Prop} {G : mj_K} (hG : mj_cl2 cX12_firstLeft (TbX12 4 ((some FieldType.int)) []) k G) {v1 : Int32} {v2 : Int32} {s : St} (hw : ok (F_X12_firstLeft v1 v2 s) (fun p => k (some (.int p)) (mkMs s))) : G 0 [.ref 0, .int v1, .int v2] [] (mkMs s) 0 0 := by
  unfold F_X12_firstLeft at hw
  refine mj_run hG.1 (fun pc => pc == 2 || pc == 30 || pc == 38) 4000 ?_
  simp only [mj_step, mj_W_s, mj_fin, List.getElem?_cons_zero, List.getElem?_cons_succ, mj_go, Nat.reduceAdd, Nat.reduceSub, Nat.reduceLT, Nat.reduceLeDiff, Nat.zero_add, Nat.reduceEqDiff, Nat.reduceBEq, ↓reduceIte, Bool.false_eq_true, List.append_nil, List.nil_append, List.cons_append, Option.toList, and_true, true_and, true_or, or_true, reduceCtorEq, List.map_nil, bI_eq0, bI_eq1, bool_ft, pk_us, vnar0, vnar1, Bool.or_false, Bool.or_true, Bool.false_or, Bool.true_or, mj_kne, eq_self, Int32.reduceLT, Int32.reduceLE, Int32.reduceAdd, Int32.reduceSub, Int32.reduceMul, not_true_eq_false, not_false_eq_true, false_implies, true_implies, D_X12_firstLeft, mj_F_aload_n_k, mj_F_getfield_i, mj_F_goto_off, mj_F_iaload, mj_F_iand, mj_F_iconst_n, mj_F_ifCond_ne_off, mj_F_if_icmp_ge_off, mj_F_if_icmp_ne_off, mj_F_iinc_k_n, mj_F_iload_n_k, mj_F_ireturn, mj_F_ishr, mj_F_istore_n_k, mj_set, mj_set0, mj_unk, mj_c2, mj_kc, FT_X12, FT_X12_1, gS_M0, gMf_12, gMf_55, gS_M43, sS_Ma_43, J_X12_firstLeft]
  exact hG.2 _ _ _ _ _ _ _ _ _ (by refine ⟨Or.inr rfl, ?_⟩; refine ⟨Or.inr rfl, ?_⟩; refine ⟨Or.inr rfl, ?_⟩; refine ⟨Or.inr rfl, ?_⟩; exact trivial) (Nat.zero_le _) (Nat.zero_le _) (g_X12_firstLeft_2 hG  hw :)

def c_X12_firstLeft : mj_S := fun as h k => ∃ (v1 : Int32) (v2 : Int32) (s : St), as = [.ref 0, .int v1, .int v2] ∧ h = mkMs s ∧ ok (F_X12_firstLeft v1 v2 s) (fun p => k (some (.int p)) (mkMs s))
theorem c_X12_firstLeft_in {v1 : Int32} {v2 : Int32} {s : St} {k : Option Value → mj_H → Prop} (hw : ok (F_X12_firstLeft v1 v2 s) (fun p => k (some (.int p)) (mkMs s))) : c_X12_firstLeft [.ref 0, .int v1, .int v2] (mkMs s) k := ⟨v1, v2, s, rfl, rfl, hw⟩
theorem m_X12_firstLeft (l : Launch) : mj_Met l yX12_firstLeft cX12_firstLeft 4 ((some FieldType.int)) 0 0 0 c_X12_firstLeft := by
  refine mj_body2 false (TbX12 4 ((some FieldType.int)) []) (by decide) rfl rfl (fun h => nomatch h) (tfX12 _ (fun _ h => nomatch h)) ?_
  rintro as h k ⟨v1, v2, s, rfl, rfl, hw⟩
  exact ⟨rfl, fun G hG => g_X12_firstLeft hG hw⟩
def B_X12_fewest_5 (v1 : Int32) (v2 : Int32) (s : St) : Int32 × Int32 → Option ((Int32 × Int32) ⊕ ((Int32)))
  | (v3, v4) =>
  if (1 <<< ((s.1 1256) &&& 31)) ≤ v4 then
    some (.inr v3)
  else
    if (v4 &&& (v1 ^^^ (-1))) = 0 then
      (F_X12_firstLeft v4 v2 s).bind fun r1 =>
      if r1 = (-1) then
        if v3 = (-1) then
          (F_J6_bitCount_0f7a4 v4).bind fun r4 =>
          if v3 = (-1) then
            if v3 = (-1) then
              some (.inl (v4, (v4 + 1)))
            else
              if r4 < 0 then
                some (.inl (v4, (v4 + 1)))
              else
                if r4 = 0 then
                  if ((v4 &&& 0) &&& 0) = 0 then
                    some (.inl (v3, (v4 + 1)))
                  else
                    some (.inl (v4, (v4 + 1)))
                else
                  some (.inl (v3, (v4 + 1)))
          else
            (F_J6_bitCount_0f7a4 v3).bind fun r5 =>
            if v3 = (-1) then
              some (.inl (v4, (v4 + 1)))
            else
              if r4 < r5 then
                some (.inl (v4, (v4 + 1)))
              else
                if r4 = r5 then
                  if ((v4 &&& 0) &&& 0) = 0 then
                    some (.inl (v3, (v4 + 1)))
                  else
                    some (.inl (v4, (v4 + 1)))
                else
                  some (.inl (v3, (v4 + 1)))
        else
          (F_J6_bitCount_0f7a4 v4).bind fun r2 =>
          if v3 = (-1) then
            if v3 = (-1) then
              some (.inl (v4, (v4 + 1)))
            else
              if r2 < 0 then
                some (.inl (v4, (v4 + 1)))
              else
                if r2 = 0 then
                  if ((v4 &&& (v4 ^^^ v3)) &&& (-(v4 ^^^ v3))) = 0 then
                    some (.inl (v3, (v4 + 1)))
                  else
                    some (.inl (v4, (v4 + 1)))
                else
                  some (.inl (v3, (v4 + 1)))
          else
            (F_J6_bitCount_0f7a4 v3).bind fun r3 =>
            if v3 = (-1) then
              some (.inl (v4, (v4 + 1)))
            else
              if r2 < r3 then
                some (.inl (v4, (v4 + 1)))
              else
                if r2 = r3 then
                  if ((v4 &&& (v4 ^^^ v3)) &&& (-(v4 ^^^ v3))) = 0 then
                    some (.inl (v3, (v4 + 1)))
                  else
                    some (.inl (v4, (v4 + 1)))
                else
                  some (.inl (v3, (v4 + 1)))
      else
        some (.inl (v3, (v4 + 1)))
    else
      some (.inl (v3, (v4 + 1)))
def F_X12_fewest_116 (v3 : Int32) (s : St) : Option (Int32) :=
  some v3
def F_X12_fewest_5 (v1 : Int32) (v2 : Int32) (v3 : Int32) (v4 : Int32) (s : St) : Option (Int32) :=
  (lp (B_X12_fewest_5 v1 v2 s) FU (v3, v4)).bind (fun y => F_X12_fewest_116 y s)
def F_X12_fewest (v1 : Int32) (v2 : Int32) (s : St) : Option (Int32) :=
  F_X12_fewest_5 v1 v2 (-1) 0 s
theorem J_X12_fewest : mj_t 13 103 = 116 ∧ mj_t 22 88 = 110 ∧ mj_t 33 6 = 39 ∧ mj_t 36 74 = 110 ∧ mj_t 41 7 = 48 ∧ mj_t 45 7 = 52 ∧ mj_t 63 7 = 70 ∧ mj_t 67 7 = 74 ∧ mj_t 78 29 = 107 ∧ mj_t 85 22 = 107 ∧ mj_t 92 18 = 110 ∧ mj_t 104 6 = 110 ∧ mj_t 113 (-108) = 5 ∧ (0 ≤ ((13 : Nat) : Int) + 103) = True ∧ (0 ≤ ((22 : Nat) : Int) + 88) = True ∧ (0 ≤ ((33 : Nat) : Int) + 6) = True ∧ (0 ≤ ((36 : Nat) : Int) + 74) = True ∧ (0 ≤ ((41 : Nat) : Int) + 7) = True ∧ (0 ≤ ((45 : Nat) : Int) + 7) = True ∧ (0 ≤ ((63 : Nat) : Int) + 7) = True ∧ (0 ≤ ((67 : Nat) : Int) + 7) = True ∧ (0 ≤ ((78 : Nat) : Int) + 29) = True ∧ (0 ≤ ((85 : Nat) : Int) + 22) = True ∧ (0 ≤ ((92 : Nat) : Int) + 18) = True ∧ (0 ≤ ((104 : Nat) : Int) + 6) = True ∧ (0 ≤ ((113 : Nat) : Int) + (-108)) = True := by and_intros <;> first | rfl | exact eq_true (by decide)
def ct_X12_fewest : List (Nat × mj_Cs) := [(494, 0, 3, 12, 0, 0, c_X12_firstLeft), (497, 2, 1, 99, 0, 0, c_J6_bitCount_0f7a4)]
theorem L_X12_fewest : mj_lk ct_X12_fewest 494 = some (0, 3, 12, 0, 0, c_X12_firstLeft) ∧ mj_lk ct_X12_fewest 497 = some (2, 1, 99, 0, 0, c_J6_bitCount_0f7a4) := ⟨rfl, rfl⟩
set_option maxHeartbeats 4000000 in
set_option maxRecDepth 20000 in
theorem b_X12_fewest_5 {k : Option Value → mj_H → Prop} {G : mj_K} (hG : mj_cl2 cX12_fewest (TbX12 8 ((some FieldType.int)) ct_X12_fewest) k G) {v1 : Int32} {v2 : Int32} {s : St} {P : Int32 × Int32 → Prop} {K : (Int32) → Prop} (hP : ∀ x, P x → G 5 [.ref 0, .int v1, .int v2, .int x.1, .int x.2] [] (mkMs s) 0 0) (hK0 : ∀ y, K y → G 116 [mj_unk, mj_unk, mj_unk, .int y] [] (mkMs s) 0 0) {v3 : Int32} {v4 : Int32} (hw : ok (B_X12_fewest_5 v1 v2 s (v3, v4)) (Sum.elim P K)) : G 5 [.ref 0, .int v1, .int v2, .int v3, .int v4] [] (mkMs s) 0 0 := by
  unfold B_X12_fewest_5 at hw
  refine mj_run hG.1 (fun pc => pc == 5 || pc == 32 || pc == 59 || pc == 74 || pc == 116) 4000 ?_
  simp only [mj_step, mj_W_s, mj_fin, List.getElem?_cons_zero, List.getElem?_cons_succ, mj_go, Nat.reduceAdd, Nat.reduceSub, Nat.reduceLT, Nat.reduceLeDiff, Nat.zero_add, Nat.reduceEqDiff, Nat.reduceBEq, ↓reduceIte, Bool.false_eq_true, List.append_nil, List.nil_append, List.cons_append, Option.toList, and_true, true_and, true_or, or_true, reduceCtorEq, List.map_nil, bI_eq0, bI_eq1, bool_ft, pk_us, vnar0, vnar1, Bool.or_false, Bool.or_true, Bool.false_or, Bool.true_or, mj_kne, eq_self, Int32.reduceLT, Int32.reduceLE, Int32.reduceAdd, Int32.reduceSub, Int32.reduceMul, not_true_eq_false, not_false_eq_true, false_implies, true_implies, D_X12_fewest_0, D_X12_fewest_1, mj_F_aload_n_k, mj_F_getfield_i, mj_F_goto_off, mj_F_iand, mj_F_iconst_n, mj_F_ifCond_eq_off, mj_F_ifCond_ne_off, mj_F_if_icmp_eq_off, mj_F_if_icmp_ge_off, mj_F_if_icmp_lt_off, mj_F_if_icmp_ne_off, mj_F_iinc_k_n, mj_F_iload_k, mj_F_iload_n_k, mj_F_ineg, mj_F_invokestatic_i, mj_F_invokevirtual_i, mj_F_ireturn, mj_F_ishl, mj_F_istore_k, mj_F_istore_n_k, mj_F_ixor, mj_set, mj_set0, mj_unk, mj_c2, mj_kc, FT_X12, FT_X12_1, L_X12_fewest, List.take_succ_cons, List.take_zero, List.drop_succ_cons, List.drop_zero, List.reverse_cons, List.reverse_nil, List.length_cons, List.length_nil, gS_M0, gMf_56, J_X12_fewest]
  refine ⟨fun c => ?_, fun c => ?_⟩
  · replace hw := ok_t hw c
    exact hG.2 _ _ _ _ _ _ _ _ _ (by refine ⟨Or.inl rfl, ?_⟩; refine ⟨Or.inl rfl, ?_⟩; refine ⟨Or.inl rfl, ?_⟩; refine ⟨Or.inr rfl, ?_⟩; exact trivial) (Nat.zero_le _) (Nat.zero_le _) (hK0 _ (ok_some hw :) :)
  · replace hw := ok_f hw c
    refine ⟨fun c => ?_, fun c => ?_⟩
    · replace hw := ok_f hw c
      exact hG.2 _ _ _ _ _ _ _ _ _ (by refine ⟨Or.inr rfl, ?_⟩; refine ⟨Or.inr rfl, ?_⟩; refine ⟨Or.inr rfl, ?_⟩; refine ⟨Or.inr rfl, ?_⟩; refine ⟨Or.inr rfl, ?_⟩; exact trivial) (Nat.zero_le _) (Nat.zero_le _) (hP _ (ok_some hw :) :)
    · replace hw := ok_t hw c
      refine c_X12_firstLeft_in (ok_imp (ok_bind hw) ?_)
      intro p hw
      simp only [Option.toList, List.nil_append, List.cons_append, Nat.reduceSub]
      refine mj_run hG.1 (fun pc => pc == 5 || pc == 32 || pc == 59 || pc == 74 || pc == 116) 4000 ?_
      simp only [mj_step, mj_W_s, mj_fin, List.getElem?_cons_zero, List.getElem?_cons_succ, mj_go, Nat.reduceAdd, Nat.reduceSub, Nat.reduceLT, Nat.reduceLeDiff, Nat.zero_add, Nat.reduceEqDiff, Nat.reduceBEq, ↓reduceIte, Bool.false_eq_true, List.append_nil, List.nil_append, List.cons_append, Option.toList, and_true, true_and, true_or, or_true, reduceCtorEq, List.map_nil, bI_eq0, bI_eq1, bool_ft, pk_us, vnar0, vnar1, Bool.or_false, Bool.or_true, Bool.false_or, Bool.true_or, mj_kne, eq_self, Int32.reduceLT, Int32.reduceLE, Int32.reduceAdd, Int32.reduceSub, Int32.reduceMul, not_true_eq_false, not_false_eq_true, false_implies, true_implies, D_X12_fewest_0, D_X12_fewest_1, mj_F_aload_n_k, mj_F_getfield_i, mj_F_goto_off, mj_F_iand, mj_F_iconst_n, mj_F_ifCond_eq_off, mj_F_ifCond_ne_off, mj_F_if_icmp_eq_off, mj_F_if_icmp_ge_off, mj_F_if_icmp_lt_off, mj_F_if_icmp_ne_off, mj_F_iinc_k_n, mj_F_iload_k, mj_F_iload_n_k, mj_F_ineg, mj_F_invokestatic_i, mj_F_invokevirtual_i, mj_F_ireturn, mj_F_ishl, mj_F_istore_k, mj_F_istore_n_k, mj_F_ixor, mj_set, mj_set0, mj_unk, mj_c2, mj_kc, FT_X12, FT_X12_1, L_X12_fewest, List.take_succ_cons, List.take_zero, List.drop_succ_cons, List.drop_zero, List.reverse_cons, List.reverse_nil, List.length_cons, List.length_nil, gS_M0, gMf_56, J_X12_fewest]
      refine ⟨fun c => ?_, fun c => ?_⟩
      · replace hw := ok_t hw c
        refine ⟨fun c => ?_, fun c => ?_⟩
        · replace hw := ok_f hw c
          refine c_J6_bitCount_0f7a4_in (ok_imp (ok_bind hw) ?_)
          intro p hw
          simp only [Option.toList, List.nil_append, List.cons_append, Nat.reduceSub]
          refine mj_run hG.1 (fun pc => pc == 5 || pc == 32 || pc == 59 || pc == 74 || pc == 116) 4000 ?_
          simp only [mj_step, mj_W_s, mj_fin, List.getElem?_cons_zero, List.getElem?_cons_succ, mj_go, Nat.reduceAdd, Nat.reduceSub, Nat.reduceLT, Nat.reduceLeDiff, Nat.zero_add, Nat.reduceEqDiff, Nat.reduceBEq, ↓reduceIte, Bool.false_eq_true, List.append_nil, List.nil_append, List.cons_append, Option.toList, and_true, true_and, true_or, or_true, reduceCtorEq, List.map_nil, bI_eq0, bI_eq1, bool_ft, pk_us, vnar0, vnar1, Bool.or_false, Bool.or_true, Bool.false_or, Bool.true_or, mj_kne, eq_self, Int32.reduceLT, Int32.reduceLE, Int32.reduceAdd, Int32.reduceSub, Int32.reduceMul, not_true_eq_false, not_false_eq_true, false_implies, true_implies, D_X12_fewest_0, D_X12_fewest_1, mj_F_aload_n_k, mj_F_getfield_i, mj_F_goto_off, mj_F_iand, mj_F_iconst_n, mj_F_ifCond_eq_off, mj_F_ifCond_ne_off, mj_F_if_icmp_eq_off, mj_F_if_icmp_ge_off, mj_F_if_icmp_lt_off, mj_F_if_icmp_ne_off, mj_F_iinc_k_n, mj_F_iload_k, mj_F_iload_n_k, mj_F_ineg, mj_F_invokestatic_i, mj_F_invokevirtual_i, mj_F_ireturn, mj_F_ishl, mj_F_istore_k, mj_F_istore_n_k, mj_F_ixor, mj_set, mj_set0, mj_unk, mj_c2, mj_kc, FT_X12, FT_X12_1, L_X12_fewest, List.take_succ_cons, List.take_zero, List.drop_succ_cons, List.drop_zero, List.reverse_cons, List.reverse_nil, List.length_cons, List.length_nil, gS_M0, gMf_56, J_X12_fewest]
          refine ⟨fun c => ?_, fun c => ?_⟩
          · replace hw := ok_f hw c
            refine c_J6_bitCount_0f7a4_in (ok_imp (ok_bind hw) ?_)
            intro p hw
            simp only [Option.toList, List.nil_append, List.cons_append, Nat.reduceSub]
            refine mj_run hG.1 (fun pc => pc == 5 || pc == 32 || pc == 59 || pc == 74 || pc == 116) 4000 ?_
            simp only [mj_step, mj_W_s, mj_fin, List.getElem?_cons_zero, List.getElem?_cons_succ, mj_go, Nat.reduceAdd, Nat.reduceSub, Nat.reduceLT, Nat.reduceLeDiff, Nat.zero_add, Nat.reduceEqDiff, Nat.reduceBEq, ↓reduceIte, Bool.false_eq_true, List.append_nil, List.nil_append, List.cons_append, Option.toList, and_true, true_and, true_or, or_true, reduceCtorEq, List.map_nil, bI_eq0, bI_eq1, bool_ft, pk_us, vnar0, vnar1, Bool.or_false, Bool.or_true, Bool.false_or, Bool.true_or, mj_kne, eq_self, Int32.reduceLT, Int32.reduceLE, Int32.reduceAdd, Int32.reduceSub, Int32.reduceMul, not_true_eq_false, not_false_eq_true, false_implies, true_implies, D_X12_fewest_0, D_X12_fewest_1, mj_F_aload_n_k, mj_F_getfield_i, mj_F_goto_off, mj_F_iand, mj_F_iconst_n, mj_F_ifCond_eq_off, mj_F_ifCond_ne_off, mj_F_if_icmp_eq_off, mj_F_if_icmp_ge_off, mj_F_if_icmp_lt_off, mj_F_if_icmp_ne_off, mj_F_iinc_k_n, mj_F_iload_k, mj_F_iload_n_k, mj_F_ineg, mj_F_invokestatic_i, mj_F_invokevirtual_i, mj_F_ireturn, mj_F_ishl, mj_F_istore_k, mj_F_istore_n_k, mj_F_ixor, mj_set, mj_set0, mj_unk, mj_c2, mj_kc, FT_X12, FT_X12_1, L_X12_fewest, List.take_succ_cons, List.take_zero, List.drop_succ_cons, List.drop_zero, List.reverse_cons, List.reverse_nil, List.length_cons, List.length_nil, gS_M0, gMf_56, J_X12_fewest]
            refine ⟨fun c => ?_, fun c => ?_⟩
            · replace hw := ok_t hw c
              exact hG.2 _ _ _ _ _ _ _ _ _ (by refine ⟨Or.inr rfl, ?_⟩; refine ⟨Or.inr rfl, ?_⟩; refine ⟨Or.inr rfl, ?_⟩; refine ⟨Or.inr rfl, ?_⟩; refine ⟨Or.inr rfl, ?_⟩; exact trivial) (Nat.zero_le _) (Nat.zero_le _) (hP _ (ok_some hw :) :)
            · replace hw := ok_f hw c
              refine ⟨fun c => ?_, fun c => ?_⟩
              · replace hw := ok_t hw c
                exact hG.2 _ _ _ _ _ _ _ _ _ (by refine ⟨Or.inr rfl, ?_⟩; refine ⟨Or.inr rfl, ?_⟩; refine ⟨Or.inr rfl, ?_⟩; refine ⟨Or.inr rfl, ?_⟩; refine ⟨Or.inr rfl, ?_⟩; exact trivial) (Nat.zero_le _) (Nat.zero_le _) (hP _ (ok_some hw :) :)
              · replace hw := ok_f hw c
                refine ⟨fun c => ?_, fun c => ?_⟩
                · replace hw := ok_f hw c
                  exact hG.2 _ _ _ _ _ _ _ _ _ (by refine ⟨Or.inr rfl, ?_⟩; refine ⟨Or.inr rfl, ?_⟩; refine ⟨Or.inr rfl, ?_⟩; refine ⟨Or.inr rfl, ?_⟩; refine ⟨Or.inr rfl, ?_⟩; exact trivial) (Nat.zero_le _) (Nat.zero_le _) (hP _ (ok_some hw :) :)
                · replace hw := ok_t hw c
                  refine ⟨fun c => ?_, fun c => ?_⟩
                  · replace hw := ok_t hw c
                    exact hG.2 _ _ _ _ _ _ _ _ _ (by refine ⟨Or.inr rfl, ?_⟩; refine ⟨Or.inr rfl, ?_⟩; refine ⟨Or.inr rfl, ?_⟩; refine ⟨Or.inr rfl, ?_⟩; refine ⟨Or.inr rfl, ?_⟩; exact trivial) (Nat.zero_le _) (Nat.zero_le _) (hP _ (ok_some hw :) :)
                  · replace hw := ok_f hw c
                    exact hG.2 _ _ _ _ _ _ _ _ _ (by refine ⟨Or.inr rfl, ?_⟩; refine ⟨Or.inr rfl, ?_⟩; refine ⟨Or.inr rfl, ?_⟩; refine ⟨Or.inr rfl, ?_⟩; refine ⟨Or.inr rfl, ?_⟩; exact trivial) (Nat.zero_le _) (Nat.zero_le _) (hP _ (ok_some hw :) :)
          · replace hw := ok_t hw c
            refine mj_run hG.1 (fun pc => pc == 5 || pc == 32 || pc == 59 || pc == 74 || pc == 116) 4000 ?_
            simp only [mj_step, mj_W_s, mj_fin, List.getElem?_cons_zero, List.getElem?_cons_succ, mj_go, Nat.reduceAdd, Nat.reduceSub, Nat.reduceLT, Nat.reduceLeDiff, Nat.zero_add, Nat.reduceEqDiff, Nat.reduceBEq, ↓reduceIte, Bool.false_eq_true, List.append_nil, List.nil_append, List.cons_append, Option.toList, and_true, true_and, true_or, or_true, reduceCtorEq, List.map_nil, bI_eq0, bI_eq1, bool_ft, pk_us, vnar0, vnar1, Bool.or_false, Bool.or_true, Bool.false_or, Bool.true_or, mj_kne, eq_self, Int32.reduceLT, Int32.reduceLE, Int32.reduceAdd, Int32.reduceSub, Int32.reduceMul, not_true_eq_false, not_false_eq_true, false_implies, true_implies, D_X12_fewest_0, D_X12_fewest_1, mj_F_aload_n_k, mj_F_getfield_i, mj_F_goto_off, mj_F_iand, mj_F_iconst_n, mj_F_ifCond_eq_off, mj_F_ifCond_ne_off, mj_F_if_icmp_eq_off, mj_F_if_icmp_ge_off, mj_F_if_icmp_lt_off, mj_F_if_icmp_ne_off, mj_F_iinc_k_n, mj_F_iload_k, mj_F_iload_n_k, mj_F_ineg, mj_F_invokestatic_i, mj_F_invokevirtual_i, mj_F_ireturn, mj_F_ishl, mj_F_istore_k, mj_F_istore_n_k, mj_F_ixor, mj_set, mj_set0, mj_unk, mj_c2, mj_kc, FT_X12, FT_X12_1, L_X12_fewest, List.take_succ_cons, List.take_zero, List.drop_succ_cons, List.drop_zero, List.reverse_cons, List.reverse_nil, List.length_cons, List.length_nil, gS_M0, gMf_56, J_X12_fewest]
            refine ⟨fun c => ?_, fun c => ?_⟩
            · replace hw := ok_t hw c
              exact hG.2 _ _ _ _ _ _ _ _ _ (by refine ⟨Or.inr rfl, ?_⟩; refine ⟨Or.inr rfl, ?_⟩; refine ⟨Or.inr rfl, ?_⟩; refine ⟨Or.inr rfl, ?_⟩; refine ⟨Or.inr rfl, ?_⟩; exact trivial) (Nat.zero_le _) (Nat.zero_le _) (hP _ (ok_some hw :) :)
            · replace hw := ok_f hw c
              refine ⟨fun c => ?_, fun c => ?_⟩
              · replace hw := ok_t hw c
                exact hG.2 _ _ _ _ _ _ _ _ _ (by refine ⟨Or.inr rfl, ?_⟩; refine ⟨Or.inr rfl, ?_⟩; refine ⟨Or.inr rfl, ?_⟩; refine ⟨Or.inr rfl, ?_⟩; refine ⟨Or.inr rfl, ?_⟩; exact trivial) (Nat.zero_le _) (Nat.zero_le _) (hP _ (ok_some hw :) :)
              · replace hw := ok_f hw c
                refine ⟨fun c => ?_, fun c => ?_⟩
                · replace hw := ok_f hw c
                  exact hG.2 _ _ _ _ _ _ _ _ _ (by refine ⟨Or.inr rfl, ?_⟩; refine ⟨Or.inr rfl, ?_⟩; refine ⟨Or.inr rfl, ?_⟩; refine ⟨Or.inr rfl, ?_⟩; refine ⟨Or.inr rfl, ?_⟩; exact trivial) (Nat.zero_le _) (Nat.zero_le _) (hP _ (ok_some hw :) :)
                · replace hw := ok_t hw c
                  refine ⟨fun c => ?_, fun c => ?_⟩
                  · replace hw := ok_t hw c
                    exact hG.2 _ _ _ _ _ _ _ _ _ (by refine ⟨Or.inr rfl, ?_⟩; refine ⟨Or.inr rfl, ?_⟩; refine ⟨Or.inr rfl, ?_⟩; refine ⟨Or.inr rfl, ?_⟩; refine ⟨Or.inr rfl, ?_⟩; exact trivial) (Nat.zero_le _) (Nat.zero_le _) (hP _ (ok_some hw :) :)
                  · replace hw := ok_f hw c
                    exact hG.2 _ _ _ _ _ _ _ _ _ (by refine ⟨Or.inr rfl, ?_⟩; refine ⟨Or.inr rfl, ?_⟩; refine ⟨Or.inr rfl, ?_⟩; refine ⟨Or.inr rfl, ?_⟩; refine ⟨Or.inr rfl, ?_⟩; exact trivial) (Nat.zero_le _) (Nat.zero_le _) (hP _ (ok_some hw :) :)
        · replace hw := ok_t hw c
          refine c_J6_bitCount_0f7a4_in (ok_imp (ok_bind hw) ?_)
          intro p hw
          simp only [Option.toList, List.nil_append, List.cons_append, Nat.reduceSub]
          refine mj_run hG.1 (fun pc => pc == 5 || pc == 32 || pc == 59 || pc == 74 || pc == 116) 4000 ?_
          simp only [mj_step, mj_W_s, mj_fin, List.getElem?_cons_zero, List.getElem?_cons_succ, mj_go, Nat.reduceAdd, Nat.reduceSub, Nat.reduceLT, Nat.reduceLeDiff, Nat.zero_add, Nat.reduceEqDiff, Nat.reduceBEq, ↓reduceIte, Bool.false_eq_true, List.append_nil, List.nil_append, List.cons_append, Option.toList, and_true, true_and, true_or, or_true, reduceCtorEq, List.map_nil, bI_eq0, bI_eq1, bool_ft, pk_us, vnar0, vnar1, Bool.or_false, Bool.or_true, Bool.false_or, Bool.true_or, mj_kne, eq_self, Int32.reduceLT, Int32.reduceLE, Int32.reduceAdd, Int32.reduceSub, Int32.reduceMul, not_true_eq_false, not_false_eq_true, false_implies, true_implies, D_X12_fewest_0, D_X12_fewest_1, mj_F_aload_n_k, mj_F_getfield_i, mj_F_goto_off, mj_F_iand, mj_F_iconst_n, mj_F_ifCond_eq_off, mj_F_ifCond_ne_off, mj_F_if_icmp_eq_off, mj_F_if_icmp_ge_off, mj_F_if_icmp_lt_off, mj_F_if_icmp_ne_off, mj_F_iinc_k_n, mj_F_iload_k, mj_F_iload_n_k, mj_F_ineg, mj_F_invokestatic_i, mj_F_invokevirtual_i, mj_F_ireturn, mj_F_ishl, mj_F_istore_k, mj_F_istore_n_k, mj_F_ixor, mj_set, mj_set0, mj_unk, mj_c2, mj_kc, FT_X12, FT_X12_1, L_X12_fewest, List.take_succ_cons, List.take_zero, List.drop_succ_cons, List.drop_zero, List.reverse_cons, List.reverse_nil, List.length_cons, List.length_nil, gS_M0, gMf_56, J_X12_fewest]
          refine ⟨fun c => ?_, fun c => ?_⟩
          · replace hw := ok_f hw c
            refine c_J6_bitCount_0f7a4_in (ok_imp (ok_bind hw) ?_)
            intro p hw
            simp only [Option.toList, List.nil_append, List.cons_append, Nat.reduceSub]
            refine mj_run hG.1 (fun pc => pc == 5 || pc == 32 || pc == 59 || pc == 74 || pc == 116) 4000 ?_
            simp only [mj_step, mj_W_s, mj_fin, List.getElem?_cons_zero, List.getElem?_cons_succ, mj_go, Nat.reduceAdd, Nat.reduceSub, Nat.reduceLT, Nat.reduceLeDiff, Nat.zero_add, Nat.reduceEqDiff, Nat.reduceBEq, ↓reduceIte, Bool.false_eq_true, List.append_nil, List.nil_append, List.cons_append, Option.toList, and_true, true_and, true_or, or_true, reduceCtorEq, List.map_nil, bI_eq0, bI_eq1, bool_ft, pk_us, vnar0, vnar1, Bool.or_false, Bool.or_true, Bool.false_or, Bool.true_or, mj_kne, eq_self, Int32.reduceLT, Int32.reduceLE, Int32.reduceAdd, Int32.reduceSub, Int32.reduceMul, not_true_eq_false, not_false_eq_true, false_implies, true_implies, D_X12_fewest_0, D_X12_fewest_1, mj_F_aload_n_k, mj_F_getfield_i, mj_F_goto_off, mj_F_iand, mj_F_iconst_n, mj_F_ifCond_eq_off, mj_F_ifCond_ne_off, mj_F_if_icmp_eq_off, mj_F_if_icmp_ge_off, mj_F_if_icmp_lt_off, mj_F_if_icmp_ne_off, mj_F_iinc_k_n, mj_F_iload_k, mj_F_iload_n_k, mj_F_ineg, mj_F_invokestatic_i, mj_F_invokevirtual_i, mj_F_ireturn, mj_F_ishl, mj_F_istore_k, mj_F_istore_n_k, mj_F_ixor, mj_set, mj_set0, mj_unk, mj_c2, mj_kc, FT_X12, FT_X12_1, L_X12_fewest, List.take_succ_cons, List.take_zero, List.drop_succ_cons, List.drop_zero, List.reverse_cons, List.reverse_nil, List.length_cons, List.length_nil, gS_M0, gMf_56, J_X12_fewest]
            refine ⟨fun c => ?_, fun c => ?_⟩
            · replace hw := ok_t hw c
              exact hG.2 _ _ _ _ _ _ _ _ _ (by refine ⟨Or.inr rfl, ?_⟩; refine ⟨Or.inr rfl, ?_⟩; refine ⟨Or.inr rfl, ?_⟩; refine ⟨Or.inr rfl, ?_⟩; refine ⟨Or.inr rfl, ?_⟩; exact trivial) (Nat.zero_le _) (Nat.zero_le _) (hP _ (ok_some hw :) :)
            · replace hw := ok_f hw c
              refine ⟨fun c => ?_, fun c => ?_⟩
              · replace hw := ok_t hw c
                exact hG.2 _ _ _ _ _ _ _ _ _ (by refine ⟨Or.inr rfl, ?_⟩; refine ⟨Or.inr rfl, ?_⟩; refine ⟨Or.inr rfl, ?_⟩; refine ⟨Or.inr rfl, ?_⟩; refine ⟨Or.inr rfl, ?_⟩; exact trivial) (Nat.zero_le _) (Nat.zero_le _) (hP _ (ok_some hw :) :)
              · replace hw := ok_f hw c
                refine ⟨fun c => ?_, fun c => ?_⟩
                · replace hw := ok_f hw c
                  exact hG.2 _ _ _ _ _ _ _ _ _ (by refine ⟨Or.inr rfl, ?_⟩; refine ⟨Or.inr rfl, ?_⟩; refine ⟨Or.inr rfl, ?_⟩; refine ⟨Or.inr rfl, ?_⟩; refine ⟨Or.inr rfl, ?_⟩; exact trivial) (Nat.zero_le _) (Nat.zero_le _) (hP _ (ok_some hw :) :)
                · replace hw := ok_t hw c
                  refine ⟨fun c => ?_, fun c => ?_⟩
                  · replace hw := ok_t hw c
                    exact hG.2 _ _ _ _ _ _ _ _ _ (by refine ⟨Or.inr rfl, ?_⟩; refine ⟨Or.inr rfl, ?_⟩; refine ⟨Or.inr rfl, ?_⟩; refine ⟨Or.inr rfl, ?_⟩; refine ⟨Or.inr rfl, ?_⟩; exact trivial) (Nat.zero_le _) (Nat.zero_le _) (hP _ (ok_some hw :) :)
                  · replace hw := ok_f hw c
                    exact hG.2 _ _ _ _ _ _ _ _ _ (by refine ⟨Or.inr rfl, ?_⟩; refine ⟨Or.inr rfl, ?_⟩; refine ⟨Or.inr rfl, ?_⟩; refine ⟨Or.inr rfl, ?_⟩; refine ⟨Or.inr rfl, ?_⟩; exact trivial) (Nat.zero_le _) (Nat.zero_le _) (hP _ (ok_some hw :) :)
          · replace hw := ok_t hw c
            refine mj_run hG.1 (fun pc => pc == 5 || pc == 32 || pc == 59 || pc == 74 || pc == 116) 4000 ?_
            simp only [mj_step, mj_W_s, mj_fin, List.getElem?_cons_zero, List.getElem?_cons_succ, mj_go, Nat.reduceAdd, Nat.reduceSub, Nat.reduceLT, Nat.reduceLeDiff, Nat.zero_add, Nat.reduceEqDiff, Nat.reduceBEq, ↓reduceIte, Bool.false_eq_true, List.append_nil, List.nil_append, List.cons_append, Option.toList, and_true, true_and, true_or, or_true, reduceCtorEq, List.map_nil, bI_eq0, bI_eq1, bool_ft, pk_us, vnar0, vnar1, Bool.or_false, Bool.or_true, Bool.false_or, Bool.true_or, mj_kne, eq_self, Int32.reduceLT, Int32.reduceLE, Int32.reduceAdd, Int32.reduceSub, Int32.reduceMul, not_true_eq_false, not_false_eq_true, false_implies, true_implies, D_X12_fewest_0, D_X12_fewest_1, mj_F_aload_n_k, mj_F_getfield_i, mj_F_goto_off, mj_F_iand, mj_F_iconst_n, mj_F_ifCond_eq_off, mj_F_ifCond_ne_off, mj_F_if_icmp_eq_off, mj_F_if_icmp_ge_off, mj_F_if_icmp_lt_off, mj_F_if_icmp_ne_off, mj_F_iinc_k_n, mj_F_iload_k, mj_F_iload_n_k, mj_F_ineg, mj_F_invokestatic_i, mj_F_invokevirtual_i, mj_F_ireturn, mj_F_ishl, mj_F_istore_k, mj_F_istore_n_k, mj_F_ixor, mj_set, mj_set0, mj_unk, mj_c2, mj_kc, FT_X12, FT_X12_1, L_X12_fewest, List.take_succ_cons, List.take_zero, List.drop_succ_cons, List.drop_zero, List.reverse_cons, List.reverse_nil, List.length_cons, List.length_nil, gS_M0, gMf_56, J_X12_fewest]
            refine ⟨fun c => ?_, fun c => ?_⟩
            · replace hw := ok_t hw c
              exact hG.2 _ _ _ _ _ _ _ _ _ (by refine ⟨Or.inr rfl, ?_⟩; refine ⟨Or.inr rfl, ?_⟩; refine ⟨Or.inr rfl, ?_⟩; refine ⟨Or.inr rfl, ?_⟩; refine ⟨Or.inr rfl, ?_⟩; exact trivial) (Nat.zero_le _) (Nat.zero_le _) (hP _ (ok_some hw :) :)
            · replace hw := ok_f hw c
              refine ⟨fun c => ?_, fun c => ?_⟩
              · replace hw := ok_t hw c
                exact hG.2 _ _ _ _ _ _ _ _ _ (by refine ⟨Or.inr rfl, ?_⟩; refine ⟨Or.inr rfl, ?_⟩; refine ⟨Or.inr rfl, ?_⟩; refine ⟨Or.inr rfl, ?_⟩; refine ⟨Or.inr rfl, ?_⟩; exact trivial) (Nat.zero_le _) (Nat.zero_le _) (hP _ (ok_some hw :) :)
              · replace hw := ok_f hw c
                refine ⟨fun c => ?_, fun c => ?_⟩
                · replace hw := ok_f hw c
                  exact hG.2 _ _ _ _ _ _ _ _ _ (by refine ⟨Or.inr rfl, ?_⟩; refine ⟨Or.inr rfl, ?_⟩; refine ⟨Or.inr rfl, ?_⟩; refine ⟨Or.inr rfl, ?_⟩; refine ⟨Or.inr rfl, ?_⟩; exact trivial) (Nat.zero_le _) (Nat.zero_le _) (hP _ (ok_some hw :) :)
                · replace hw := ok_t hw c
                  refine ⟨fun c => ?_, fun c => ?_⟩
                  · replace hw := ok_t hw c
                    exact hG.2 _ _ _ _ _ _ _ _ _ (by refine ⟨Or.inr rfl, ?_⟩; refine ⟨Or.inr rfl, ?_⟩; refine ⟨Or.inr rfl, ?_⟩; refine ⟨Or.inr rfl, ?_⟩; refine ⟨Or.inr rfl, ?_⟩; exact trivial) (Nat.zero_le _) (Nat.zero_le _) (hP _ (ok_some hw :) :)
                  · replace hw := ok_f hw c
                    exact hG.2 _ _ _ _ _ _ _ _ _ (by refine ⟨Or.inr rfl, ?_⟩; refine ⟨Or.inr rfl, ?_⟩; refine ⟨Or.inr rfl, ?_⟩; refine ⟨Or.inr rfl, ?_⟩; refine ⟨Or.inr rfl, ?_⟩; exact trivial) (Nat.zero_le _) (Nat.zero_le _) (hP _ (ok_some hw :) :)
      · replace hw := ok_f hw c
        exact hG.2 _ _ _ _ _ _ _ _ _ (by refine ⟨Or.inr rfl, ?_⟩; refine ⟨Or.inr rfl, ?_⟩; refine ⟨Or.inr rfl, ?_⟩; refine ⟨Or.inr rfl, ?_⟩; refine ⟨Or.inr rfl, ?_⟩; exact trivial) (Nat.zero_le _) (Nat.zero_le _) (hP _ (ok_some hw :) :)

set_option maxHeartbeats 4000000 in
set_option maxRecDepth 20000 in
theorem g_X12_fewest_116 {k : Option Value → mj_H → Prop} {G : mj_K} (hG : mj_cl2 cX12_fewest (TbX12 8 ((some FieldType.int)) ct_X12_fewest) k G)   {v3 : Int32} {s : St} (hw : ok (F_X12_fewest_116 v3 s) (fun p => k (some (.int p)) (mkMs s))) : G 116 [mj_unk, mj_unk, mj_unk, .int v3] [] (mkMs s) 0 0 := by
  unfold F_X12_fewest_116 at hw
  refine mj_run hG.1 (fun pc => pc == 5 || pc == 32 || pc == 59 || pc == 74 || pc == 116) 4000 ?_
  simp only [mj_step, mj_W_s, mj_fin, List.getElem?_cons_zero, List.getElem?_cons_succ, mj_go, Nat.reduceAdd, Nat.reduceSub, Nat.reduceLT, Nat.reduceLeDiff, Nat.zero_add, Nat.reduceEqDiff, Nat.reduceBEq, ↓reduceIte, Bool.false_eq_true, List.append_nil, List.nil_append, List.cons_append, Option.toList, and_true, true_and, true_or, or_true, reduceCtorEq, List.map_nil, bI_eq0, bI_eq1, bool_ft, pk_us, vnar0, vnar1, Bool.or_false, Bool.or_true, Bool.false_or, Bool.true_or, mj_kne, eq_self, Int32.reduceLT, Int32.reduceLE, Int32.reduceAdd, Int32.reduceSub, Int32.reduceMul, not_true_eq_false, not_false_eq_true, false_implies, true_implies, D_X12_fewest_0, D_X12_fewest_1, mj_F_aload_n_k, mj_F_getfield_i, mj_F_goto_off, mj_F_iand, mj_F_iconst_n, mj_F_ifCond_eq_off, mj_F_ifCond_ne_off, mj_F_if_icmp_eq_off, mj_F_if_icmp_ge_off, mj_F_if_icmp_lt_off, mj_F_if_icmp_ne_off, mj_F_iinc_k_n, mj_F_iload_k, mj_F_iload_n_k, mj_F_ineg, mj_F_invokestatic_i, mj_F_invokevirtual_i, mj_F_ireturn, mj_F_ishl, mj_F_istore_k, mj_F_istore_n_k, mj_F_ixor, mj_set, mj_set0, mj_unk, mj_c2, mj_kc, FT_X12, FT_X12_1, L_X12_fewest, List.take_succ_cons, List.take_zero, List.drop_succ_cons, List.drop_zero, List.reverse_cons, List.reverse_nil, List.length_cons, List.length_nil, gS_M0, gMf_56, J_X12_fewest]
  exact (ok_some hw :)

set_option maxHeartbeats 4000000 in
theorem g_X12_fewest_5 {k : Option Value → mj_H → Prop} {G : mj_K} (hG : mj_cl2 cX12_fewest (TbX12 8 ((some FieldType.int)) ct_X12_fewest) k G)   {v1 : Int32} {v2 : Int32} {v3 : Int32} {v4 : Int32} {s : St} (hw : ok (F_X12_fewest_5 v1 v2 v3 v4 s) (fun p => k (some (.int p)) (mkMs s))) : G 5 [.ref 0, .int v1, .int v2, .int v3, .int v4] [] (mkMs s) 0 0 := by
  unfold F_X12_fewest_5 at hw
  refine lp_ok (B_X12_fewest_5 v1 v2 s) (fun x => G 5 [.ref 0, .int v1, .int v2, .int x.1, .int x.2] [] (mkMs s) 0 0) _ ?_ _ _ (ok_bind hw)
  rintro ⟨v3, v4⟩ hb
  exact b_X12_fewest_5 hG (fun _ z => z) (fun y hw => by exact hG.2 _ _ _ _ _ _ _ _ _ (by refine ⟨Or.inl rfl, ?_⟩; refine ⟨Or.inl rfl, ?_⟩; refine ⟨Or.inl rfl, ?_⟩; refine ⟨Or.inr rfl, ?_⟩; exact trivial) (Nat.zero_le _) (Nat.zero_le _) (g_X12_fewest_116 hG  hw :)) hb

set_option maxHeartbeats 4000000 in
set_option maxRecDepth 20000 in
theorem g_X12_fewest {k : Option Value → mj_H → Prop} {G : mj_K} (hG : mj_cl2 cX12_fewest (TbX12 8 ((some FieldType.int)) ct_X12_fewest) k G) {v1 : Int32} {v2 : Int32} {s : St} (hw : ok (F_X12_fewest v1 v2 s) (fun p => k (some (.int p)) (mkMs s))) : G 0 [.ref 0, .int v1, .int v2] [] (mkMs s) 0 0 := by
  unfold F_X12_fewest at hw
  refine mj_run hG.1 (fun pc => pc == 5 || pc == 32 || pc == 59 || pc == 74 || pc == 116) 4000 ?_
  simp only [mj_step, mj_W_s, mj_fin, List.getElem?_cons_zero, List.getElem?_cons_succ, mj_go, Nat.reduceAdd, Nat.reduceSub, Nat.reduceLT, Nat.reduceLeDiff, Nat.zero_add, Nat.reduceEqDiff, Nat.reduceBEq, ↓reduceIte, Bool.false_eq_true, List.append_nil, List.nil_append, List.cons_append, Option.toList, and_true, true_and, true_or, or_true, reduceCtorEq, List.map_nil, bI_eq0, bI_eq1, bool_ft, pk_us, vnar0, vnar1, Bool.or_false, Bool.or_true, Bool.false_or, Bool.true_or, mj_kne, eq_self, Int32.reduceLT, Int32.reduceLE, Int32.reduceAdd, Int32.reduceSub, Int32.reduceMul, not_true_eq_false, not_false_eq_true, false_implies, true_implies, D_X12_fewest_0, D_X12_fewest_1, mj_F_aload_n_k, mj_F_getfield_i, mj_F_goto_off, mj_F_iand, mj_F_iconst_n, mj_F_ifCond_eq_off, mj_F_ifCond_ne_off, mj_F_if_icmp_eq_off, mj_F_if_icmp_ge_off, mj_F_if_icmp_lt_off, mj_F_if_icmp_ne_off, mj_F_iinc_k_n, mj_F_iload_k, mj_F_iload_n_k, mj_F_ineg, mj_F_invokestatic_i, mj_F_invokevirtual_i, mj_F_ireturn, mj_F_ishl, mj_F_istore_k, mj_F_istore_n_k, mj_F_ixor, mj_set, mj_set0, mj_unk, mj_c2, mj_kc, FT_X12, FT_X12_1, L_X12_fewest, List.take_succ_cons, List.take_zero, List.drop_succ_cons, List.drop_zero, List.reverse_cons, List.reverse_nil, List.length_cons, List.length_nil, gS_M0, gMf_56, J_X12_fewest]
  exact hG.2 _ _ _ _ _ _ _ _ _ (by refine ⟨Or.inr rfl, ?_⟩; refine ⟨Or.inr rfl, ?_⟩; refine ⟨Or.inr rfl, ?_⟩; refine ⟨Or.inr rfl, ?_⟩; refine ⟨Or.inr rfl, ?_⟩; exact trivial) (Nat.zero_le _) (Nat.zero_le _) (g_X12_fewest_5 hG  hw :)

def c_X12_fewest : mj_S := fun as h k => ∃ (v1 : Int32) (v2 : Int32) (s : St), as = [.ref 0, .int v1, .int v2] ∧ h = mkMs s ∧ ok (F_X12_fewest v1 v2 s) (fun p => k (some (.int p)) (mkMs s))
theorem c_X12_fewest_in {v1 : Int32} {v2 : Int32} {s : St} {k : Option Value → mj_H → Prop} (hw : ok (F_X12_fewest v1 v2 s) (fun p => k (some (.int p)) (mkMs s))) : c_X12_fewest [.ref 0, .int v1, .int v2] (mkMs s) k := ⟨v1, v2, s, rfl, rfl, hw⟩
theorem m_X12_fewest (l : Launch) : mj_Met l yX12_fewest cX12_fewest 8 ((some FieldType.int)) 1 0 0 c_X12_fewest := by
  refine mj_body2 false (TbX12 8 ((some FieldType.int)) ct_X12_fewest) (by decide) rfl rfl (fun h => nomatch h) (tfX12 _ (List.forall_mem_cons.mpr ⟨cfX12_494 (m_X12_firstLeft l) (by decide), List.forall_mem_cons.mpr ⟨cfX12_497 (m_J6_bitCount_0f7a4 l) (by decide), fun _ h => nomatch h⟩⟩)) ?_
  rintro as h k ⟨v1, v2, s, rfl, rfl, hw⟩
  exact ⟨rfl, fun G hG => g_X12_fewest hG hw⟩
def F_X12_cover (v1 : Int32) (v2 : Int32) (s : St) : Option (Int32 × St) :=
  (F_X12_mayCover v1 v2 s).bind fun r1 =>
  if r1 = 0 then
    some ((-1), s)
  else
    (F_X12_look_ v1 v2 s).bind fun s2 =>
    (F_X12_fewest ((1 <<< ((s2.1 1256) &&& 31)) - 1) v1 s2).bind fun r3 =>
    some (r3, s2)
theorem J_X12_cover : mj_t 6 5 = 11 ∧ (0 ≤ ((6 : Nat) : Int) + 5) = True := by and_intros <;> first | rfl | exact eq_true (by decide)
def ct_X12_cover : List (Nat × mj_Cs) := [(502, 0, 3, 12, 0, 0, c_X12_mayCover), (505, 0, 3, 12, 0, 0, c_X12_look_), (507, 0, 3, 12, 0, 0, c_X12_fewest)]
theorem L_X12_cover : mj_lk ct_X12_cover 502 = some (0, 3, 12, 0, 0, c_X12_mayCover) ∧ mj_lk ct_X12_cover 505 = some (0, 3, 12, 0, 0, c_X12_look_) ∧ mj_lk ct_X12_cover 507 = some (0, 3, 12, 0, 0, c_X12_fewest) := ⟨rfl, rfl, rfl⟩
set_option maxHeartbeats 4000000 in
set_option maxRecDepth 20000 in
theorem g_X12_cover {k : Option Value → mj_H → Prop} {G : mj_K} (hG : mj_cl2 cX12_cover (TbX12 3 ((some FieldType.int)) ct_X12_cover) k G) {v1 : Int32} {v2 : Int32} {s : St} (hw : ok (F_X12_cover v1 v2 s) (fun p => k (some (.int p.1)) (mkMs p.2))) : G 0 [.ref 0, .int v1, .int v2] [] (mkMs s) 0 0 := by
  unfold F_X12_cover at hw
  refine mj_run hG.1 (fun pc => pc == 6 || pc == 17 || pc == 30) 4000 ?_
  simp only [mj_step, mj_W_s, mj_fin, List.getElem?_cons_zero, List.getElem?_cons_succ, mj_go, Nat.reduceAdd, Nat.reduceSub, Nat.reduceLT, Nat.reduceLeDiff, Nat.zero_add, Nat.reduceEqDiff, Nat.reduceBEq, ↓reduceIte, Bool.false_eq_true, List.append_nil, List.nil_append, List.cons_append, Option.toList, and_true, true_and, true_or, or_true, reduceCtorEq, List.map_nil, bI_eq0, bI_eq1, bool_ft, pk_us, vnar0, vnar1, Bool.or_false, Bool.or_true, Bool.false_or, Bool.true_or, mj_kne, eq_self, Int32.reduceLT, Int32.reduceLE, Int32.reduceAdd, Int32.reduceSub, Int32.reduceMul, not_true_eq_false, not_false_eq_true, false_implies, true_implies, D_X12_cover, mj_F_aload_n_k, mj_F_getfield_i, mj_F_iconst_n, mj_F_ifCond_ne_off, mj_F_iload_n_k, mj_F_invokevirtual_i, mj_F_ireturn, mj_F_ishl, mj_F_isub, mj_kc, FT_X12, FT_X12_1, L_X12_cover, List.take_succ_cons, List.take_zero, List.drop_succ_cons, List.drop_zero, List.reverse_cons, List.reverse_nil, List.length_cons, List.length_nil, gS_M0, gMf_56, J_X12_cover]
  refine c_X12_mayCover_in (ok_imp (ok_bind hw) ?_)
  intro p hw
  simp only [Option.toList, List.nil_append, List.cons_append, Nat.reduceSub]
  refine mj_run hG.1 (fun pc => pc == 6 || pc == 17 || pc == 30) 4000 ?_
  simp only [mj_step, mj_W_s, mj_fin, List.getElem?_cons_zero, List.getElem?_cons_succ, mj_go, Nat.reduceAdd, Nat.reduceSub, Nat.reduceLT, Nat.reduceLeDiff, Nat.zero_add, Nat.reduceEqDiff, Nat.reduceBEq, ↓reduceIte, Bool.false_eq_true, List.append_nil, List.nil_append, List.cons_append, Option.toList, and_true, true_and, true_or, or_true, reduceCtorEq, List.map_nil, bI_eq0, bI_eq1, bool_ft, pk_us, vnar0, vnar1, Bool.or_false, Bool.or_true, Bool.false_or, Bool.true_or, mj_kne, eq_self, Int32.reduceLT, Int32.reduceLE, Int32.reduceAdd, Int32.reduceSub, Int32.reduceMul, not_true_eq_false, not_false_eq_true, false_implies, true_implies, D_X12_cover, mj_F_aload_n_k, mj_F_getfield_i, mj_F_iconst_n, mj_F_ifCond_ne_off, mj_F_iload_n_k, mj_F_invokevirtual_i, mj_F_ireturn, mj_F_ishl, mj_F_isub, mj_kc, FT_X12, FT_X12_1, L_X12_cover, List.take_succ_cons, List.take_zero, List.drop_succ_cons, List.drop_zero, List.reverse_cons, List.reverse_nil, List.length_cons, List.length_nil, gS_M0, gMf_56, J_X12_cover]
  refine ⟨fun c => ?_, fun c => ?_⟩
  · replace hw := ok_f hw c
    refine c_X12_look__in (ok_imp (ok_bind hw) ?_)
    intro p hw
    simp only [Option.toList, List.nil_append, List.cons_append, Nat.reduceSub]
    refine mj_run hG.1 (fun pc => pc == 6 || pc == 17 || pc == 30) 4000 ?_
    simp only [mj_step, mj_W_s, mj_fin, List.getElem?_cons_zero, List.getElem?_cons_succ, mj_go, Nat.reduceAdd, Nat.reduceSub, Nat.reduceLT, Nat.reduceLeDiff, Nat.zero_add, Nat.reduceEqDiff, Nat.reduceBEq, ↓reduceIte, Bool.false_eq_true, List.append_nil, List.nil_append, List.cons_append, Option.toList, and_true, true_and, true_or, or_true, reduceCtorEq, List.map_nil, bI_eq0, bI_eq1, bool_ft, pk_us, vnar0, vnar1, Bool.or_false, Bool.or_true, Bool.false_or, Bool.true_or, mj_kne, eq_self, Int32.reduceLT, Int32.reduceLE, Int32.reduceAdd, Int32.reduceSub, Int32.reduceMul, not_true_eq_false, not_false_eq_true, false_implies, true_implies, D_X12_cover, mj_F_aload_n_k, mj_F_getfield_i, mj_F_iconst_n, mj_F_ifCond_ne_off, mj_F_iload_n_k, mj_F_invokevirtual_i, mj_F_ireturn, mj_F_ishl, mj_F_isub, mj_kc, FT_X12, FT_X12_1, L_X12_cover, List.take_succ_cons, List.take_zero, List.drop_succ_cons, List.drop_zero, List.reverse_cons, List.reverse_nil, List.length_cons, List.length_nil, gS_M0, gMf_56, J_X12_cover]
    refine c_X12_fewest_in (ok_imp (ok_bind hw) ?_)
    intro p hw
    simp only [Option.toList, List.nil_append, List.cons_append, Nat.reduceSub]
    refine mj_run hG.1 (fun pc => pc == 6 || pc == 17 || pc == 30) 4000 ?_
    simp only [mj_step, mj_W_s, mj_fin, List.getElem?_cons_zero, List.getElem?_cons_succ, mj_go, Nat.reduceAdd, Nat.reduceSub, Nat.reduceLT, Nat.reduceLeDiff, Nat.zero_add, Nat.reduceEqDiff, Nat.reduceBEq, ↓reduceIte, Bool.false_eq_true, List.append_nil, List.nil_append, List.cons_append, Option.toList, and_true, true_and, true_or, or_true, reduceCtorEq, List.map_nil, bI_eq0, bI_eq1, bool_ft, pk_us, vnar0, vnar1, Bool.or_false, Bool.or_true, Bool.false_or, Bool.true_or, mj_kne, eq_self, Int32.reduceLT, Int32.reduceLE, Int32.reduceAdd, Int32.reduceSub, Int32.reduceMul, not_true_eq_false, not_false_eq_true, false_implies, true_implies, D_X12_cover, mj_F_aload_n_k, mj_F_getfield_i, mj_F_iconst_n, mj_F_ifCond_ne_off, mj_F_iload_n_k, mj_F_invokevirtual_i, mj_F_ireturn, mj_F_ishl, mj_F_isub, mj_kc, FT_X12, FT_X12_1, L_X12_cover, List.take_succ_cons, List.take_zero, List.drop_succ_cons, List.drop_zero, List.reverse_cons, List.reverse_nil, List.length_cons, List.length_nil, gS_M0, gMf_56, J_X12_cover]
    exact (ok_some hw :)
  · replace hw := ok_t hw c
    exact (ok_some hw :)

def c_X12_cover : mj_S := fun as h k => ∃ (v1 : Int32) (v2 : Int32) (s : St), as = [.ref 0, .int v1, .int v2] ∧ h = mkMs s ∧ ok (F_X12_cover v1 v2 s) (fun p => k (some (.int p.1)) (mkMs p.2))
theorem c_X12_cover_in {v1 : Int32} {v2 : Int32} {s : St} {k : Option Value → mj_H → Prop} (hw : ok (F_X12_cover v1 v2 s) (fun p => k (some (.int p.1)) (mkMs p.2))) : c_X12_cover [.ref 0, .int v1, .int v2] (mkMs s) k := ⟨v1, v2, s, rfl, rfl, hw⟩
theorem m_X12_cover (l : Launch) : mj_Met l yX12_cover cX12_cover 3 ((some FieldType.int)) 9 0 0 c_X12_cover := by
  refine mj_body2 false (TbX12 3 ((some FieldType.int)) ct_X12_cover) (by decide) rfl rfl (fun h => nomatch h) (tfX12 _ (List.forall_mem_cons.mpr ⟨cfX12_502 (m_X12_mayCover l) (by decide), List.forall_mem_cons.mpr ⟨cfX12_505 (m_X12_look_ l) (by decide), List.forall_mem_cons.mpr ⟨cfX12_507 (m_X12_fewest l) (by decide), fun _ h => nomatch h⟩⟩⟩)) ?_
  rintro as h k ⟨v1, v2, s, rfl, rfl, hw⟩
  exact ⟨rfl, fun G hG => g_X12_cover hG hw⟩
def F_X12_beyond (v1 : Int32) (v2 : Int32) (s : St) : Option (Int32 × St) :=
  (F_X12_mayCover v1 v2 s).bind fun r1 =>
  if r1 = 0 then
    some ((-1), s)
  else
    (F_X12_look_ v1 v2 s).bind fun s2 =>
    (F_X12_firstLeft ((1 <<< ((s2.1 1256) &&& 31)) - 1) v1 s2).bind fun r3 =>
    some (r3, s2)
theorem J_X12_beyond : mj_t 6 5 = 11 ∧ (0 ≤ ((6 : Nat) : Int) + 5) = True := by and_intros <;> first | rfl | exact eq_true (by decide)
def ct_X12_beyond : List (Nat × mj_Cs) := [(494, 0, 3, 12, 0, 0, c_X12_firstLeft), (502, 0, 3, 12, 0, 0, c_X12_mayCover), (505, 0, 3, 12, 0, 0, c_X12_look_)]
theorem L_X12_beyond : mj_lk ct_X12_beyond 494 = some (0, 3, 12, 0, 0, c_X12_firstLeft) ∧ mj_lk ct_X12_beyond 502 = some (0, 3, 12, 0, 0, c_X12_mayCover) ∧ mj_lk ct_X12_beyond 505 = some (0, 3, 12, 0, 0, c_X12_look_) := ⟨rfl, rfl, rfl⟩
set_option maxHeartbeats 4000000 in
set_option maxRecDepth 20000 in
theorem g_X12_beyond {k : Option Value → mj_H → Prop} {G : mj_K} (hG : mj_cl2 cX12_beyond (TbX12 3 ((some FieldType.int)) ct_X12_beyond) k G) {v1 : Int32} {v2 : Int32} {s : St} (hw : ok (F_X12_beyond v1 v2 s) (fun p => k (some (.int p.1)) (mkMs p.2))) : G 0 [.ref 0, .int v1, .int v2] [] (mkMs s) 0 0 := by
  unfold F_X12_beyond at hw
  refine mj_run hG.1 (fun pc => pc == 6 || pc == 17 || pc == 30) 4000 ?_
  simp only [mj_step, mj_W_s, mj_fin, List.getElem?_cons_zero, List.getElem?_cons_succ, mj_go, Nat.reduceAdd, Nat.reduceSub, Nat.reduceLT, Nat.reduceLeDiff, Nat.zero_add, Nat.reduceEqDiff, Nat.reduceBEq, ↓reduceIte, Bool.false_eq_true, List.append_nil, List.nil_append, List.cons_append, Option.toList, and_true, true_and, true_or, or_true, reduceCtorEq, List.map_nil, bI_eq0, bI_eq1, bool_ft, pk_us, vnar0, vnar1, Bool.or_false, Bool.or_true, Bool.false_or, Bool.true_or, mj_kne, eq_self, Int32.reduceLT, Int32.reduceLE, Int32.reduceAdd, Int32.reduceSub, Int32.reduceMul, not_true_eq_false, not_false_eq_true, false_implies, true_implies, D_X12_beyond, mj_F_aload_n_k, mj_F_getfield_i, mj_F_iconst_n, mj_F_ifCond_ne_off, mj_F_iload_n_k, mj_F_invokevirtual_i, mj_F_ireturn, mj_F_ishl, mj_F_isub, mj_kc, FT_X12, FT_X12_1, L_X12_beyond, List.take_succ_cons, List.take_zero, List.drop_succ_cons, List.drop_zero, List.reverse_cons, List.reverse_nil, List.length_cons, List.length_nil, gS_M0, gMf_56, J_X12_beyond]
  refine c_X12_mayCover_in (ok_imp (ok_bind hw) ?_)
  intro p hw
  simp only [Option.toList, List.nil_append, List.cons_append, Nat.reduceSub]
  refine mj_run hG.1 (fun pc => pc == 6 || pc == 17 || pc == 30) 4000 ?_
  simp only [mj_step, mj_W_s, mj_fin, List.getElem?_cons_zero, List.getElem?_cons_succ, mj_go, Nat.reduceAdd, Nat.reduceSub, Nat.reduceLT, Nat.reduceLeDiff, Nat.zero_add, Nat.reduceEqDiff, Nat.reduceBEq, ↓reduceIte, Bool.false_eq_true, List.append_nil, List.nil_append, List.cons_append, Option.toList, and_true, true_and, true_or, or_true, reduceCtorEq, List.map_nil, bI_eq0, bI_eq1, bool_ft, pk_us, vnar0, vnar1, Bool.or_false, Bool.or_true, Bool.false_or, Bool.true_or, mj_kne, eq_self, Int32.reduceLT, Int32.reduceLE, Int32.reduceAdd, Int32.reduceSub, Int32.reduceMul, not_true_eq_false, not_false_eq_true, false_implies, true_implies, D_X12_beyond, mj_F_aload_n_k, mj_F_getfield_i, mj_F_iconst_n, mj_F_ifCond_ne_off, mj_F_iload_n_k, mj_F_invokevirtual_i, mj_F_ireturn, mj_F_ishl, mj_F_isub, mj_kc, FT_X12, FT_X12_1, L_X12_beyond, List.take_succ_cons, List.take_zero, List.drop_succ_cons, List.drop_zero, List.reverse_cons, List.reverse_nil, List.length_cons, List.length_nil, gS_M0, gMf_56, J_X12_beyond]
  refine ⟨fun c => ?_, fun c => ?_⟩
  · replace hw := ok_f hw c
    refine c_X12_look__in (ok_imp (ok_bind hw) ?_)
    intro p hw
    simp only [Option.toList, List.nil_append, List.cons_append, Nat.reduceSub]
    refine mj_run hG.1 (fun pc => pc == 6 || pc == 17 || pc == 30) 4000 ?_
    simp only [mj_step, mj_W_s, mj_fin, List.getElem?_cons_zero, List.getElem?_cons_succ, mj_go, Nat.reduceAdd, Nat.reduceSub, Nat.reduceLT, Nat.reduceLeDiff, Nat.zero_add, Nat.reduceEqDiff, Nat.reduceBEq, ↓reduceIte, Bool.false_eq_true, List.append_nil, List.nil_append, List.cons_append, Option.toList, and_true, true_and, true_or, or_true, reduceCtorEq, List.map_nil, bI_eq0, bI_eq1, bool_ft, pk_us, vnar0, vnar1, Bool.or_false, Bool.or_true, Bool.false_or, Bool.true_or, mj_kne, eq_self, Int32.reduceLT, Int32.reduceLE, Int32.reduceAdd, Int32.reduceSub, Int32.reduceMul, not_true_eq_false, not_false_eq_true, false_implies, true_implies, D_X12_beyond, mj_F_aload_n_k, mj_F_getfield_i, mj_F_iconst_n, mj_F_ifCond_ne_off, mj_F_iload_n_k, mj_F_invokevirtual_i, mj_F_ireturn, mj_F_ishl, mj_F_isub, mj_kc, FT_X12, FT_X12_1, L_X12_beyond, List.take_succ_cons, List.take_zero, List.drop_succ_cons, List.drop_zero, List.reverse_cons, List.reverse_nil, List.length_cons, List.length_nil, gS_M0, gMf_56, J_X12_beyond]
    refine c_X12_firstLeft_in (ok_imp (ok_bind hw) ?_)
    intro p hw
    simp only [Option.toList, List.nil_append, List.cons_append, Nat.reduceSub]
    refine mj_run hG.1 (fun pc => pc == 6 || pc == 17 || pc == 30) 4000 ?_
    simp only [mj_step, mj_W_s, mj_fin, List.getElem?_cons_zero, List.getElem?_cons_succ, mj_go, Nat.reduceAdd, Nat.reduceSub, Nat.reduceLT, Nat.reduceLeDiff, Nat.zero_add, Nat.reduceEqDiff, Nat.reduceBEq, ↓reduceIte, Bool.false_eq_true, List.append_nil, List.nil_append, List.cons_append, Option.toList, and_true, true_and, true_or, or_true, reduceCtorEq, List.map_nil, bI_eq0, bI_eq1, bool_ft, pk_us, vnar0, vnar1, Bool.or_false, Bool.or_true, Bool.false_or, Bool.true_or, mj_kne, eq_self, Int32.reduceLT, Int32.reduceLE, Int32.reduceAdd, Int32.reduceSub, Int32.reduceMul, not_true_eq_false, not_false_eq_true, false_implies, true_implies, D_X12_beyond, mj_F_aload_n_k, mj_F_getfield_i, mj_F_iconst_n, mj_F_ifCond_ne_off, mj_F_iload_n_k, mj_F_invokevirtual_i, mj_F_ireturn, mj_F_ishl, mj_F_isub, mj_kc, FT_X12, FT_X12_1, L_X12_beyond, List.take_succ_cons, List.take_zero, List.drop_succ_cons, List.drop_zero, List.reverse_cons, List.reverse_nil, List.length_cons, List.length_nil, gS_M0, gMf_56, J_X12_beyond]
    exact (ok_some hw :)
  · replace hw := ok_t hw c
    exact (ok_some hw :)

def c_X12_beyond : mj_S := fun as h k => ∃ (v1 : Int32) (v2 : Int32) (s : St), as = [.ref 0, .int v1, .int v2] ∧ h = mkMs s ∧ ok (F_X12_beyond v1 v2 s) (fun p => k (some (.int p.1)) (mkMs p.2))
theorem c_X12_beyond_in {v1 : Int32} {v2 : Int32} {s : St} {k : Option Value → mj_H → Prop} (hw : ok (F_X12_beyond v1 v2 s) (fun p => k (some (.int p.1)) (mkMs p.2))) : c_X12_beyond [.ref 0, .int v1, .int v2] (mkMs s) k := ⟨v1, v2, s, rfl, rfl, hw⟩
theorem m_X12_beyond (l : Launch) : mj_Met l yX12_beyond cX12_beyond 3 ((some FieldType.int)) 9 0 0 c_X12_beyond := by
  refine mj_body2 false (TbX12 3 ((some FieldType.int)) ct_X12_beyond) (by decide) rfl rfl (fun h => nomatch h) (tfX12 _ (List.forall_mem_cons.mpr ⟨cfX12_494 (m_X12_firstLeft l) (by decide), List.forall_mem_cons.mpr ⟨cfX12_502 (m_X12_mayCover l) (by decide), List.forall_mem_cons.mpr ⟨cfX12_505 (m_X12_look_ l) (by decide), fun _ h => nomatch h⟩⟩⟩)) ?_
  rintro as h k ⟨v1, v2, s, rfl, rfl, hw⟩
  exact ⟨rfl, fun G hG => g_X12_beyond hG hw⟩
def F_X12_judge (v1 : Int32) (v2 : Int32) (v3 : Int32) (s : St) : Option (Int32 × St) :=
  (F_X12_mayCover v2 v3 s).bind fun r1 =>
  if r1 = 0 then
    some ((-2), s)
  else
    if v1 < 0 then
      some ((-2), s)
    else
      if v1 < (1 <<< ((s.1 1256) &&& 31)) then
        (F_X12_look_ v2 v3 s).bind fun s2 =>
        (F_X12_firstLeft v1 v2 s2).bind fun r3 =>
        some (r3, s2)
      else
        some ((-2), s)
theorem J_X12_judge : mj_t 6 17 = 23 ∧ mj_t 10 13 = 23 ∧ mj_t 20 6 = 26 ∧ (0 ≤ ((6 : Nat) : Int) + 17) = True ∧ (0 ≤ ((10 : Nat) : Int) + 13) = True ∧ (0 ≤ ((20 : Nat) : Int) + 6) = True := by and_intros <;> first | rfl | exact eq_true (by decide)
def ct_X12_judge : List (Nat × mj_Cs) := [(494, 0, 3, 12, 0, 0, c_X12_firstLeft), (502, 0, 3, 12, 0, 0, c_X12_mayCover), (505, 0, 3, 12, 0, 0, c_X12_look_)]
theorem L_X12_judge : mj_lk ct_X12_judge 494 = some (0, 3, 12, 0, 0, c_X12_firstLeft) ∧ mj_lk ct_X12_judge 502 = some (0, 3, 12, 0, 0, c_X12_mayCover) ∧ mj_lk ct_X12_judge 505 = some (0, 3, 12, 0, 0, c_X12_look_) := ⟨rfl, rfl, rfl⟩
set_option maxHeartbeats 4000000 in
set_option maxRecDepth 20000 in
theorem g_X12_judge {k : Option Value → mj_H → Prop} {G : mj_K} (hG : mj_cl2 cX12_judge (TbX12 4 ((some FieldType.int)) ct_X12_judge) k G) {v1 : Int32} {v2 : Int32} {v3 : Int32} {s : St} (hw : ok (F_X12_judge v1 v2 v3 s) (fun p => k (some (.int p.1)) (mkMs p.2))) : G 0 [.ref 0, .int v1, .int v2, .int v3] [] (mkMs s) 0 0 := by
  unfold F_X12_judge at hw
  refine mj_run hG.1 (fun pc => pc == 6 || pc == 32 || pc == 38) 4000 ?_
  simp only [mj_step, mj_W_s, mj_fin, List.getElem?_cons_zero, List.getElem?_cons_succ, mj_go, Nat.reduceAdd, Nat.reduceSub, Nat.reduceLT, Nat.reduceLeDiff, Nat.zero_add, Nat.reduceEqDiff, Nat.reduceBEq, ↓reduceIte, Bool.false_eq_true, List.append_nil, List.nil_append, List.cons_append, Option.toList, and_true, true_and, true_or, or_true, reduceCtorEq, List.map_nil, bI_eq0, bI_eq1, bool_ft, pk_us, vnar0, vnar1, Bool.or_false, Bool.or_true, Bool.false_or, Bool.true_or, mj_kne, eq_self, Int32.reduceLT, Int32.reduceLE, Int32.reduceAdd, Int32.reduceSub, Int32.reduceMul, not_true_eq_false, not_false_eq_true, false_implies, true_implies, D_X12_judge, mj_F_aload_n_k, mj_F_bipush_n, mj_F_getfield_i, mj_F_iconst_n, mj_F_ifCond_eq_off, mj_F_ifCond_lt_off, mj_F_if_icmp_lt_off, mj_F_iload_n_k, mj_F_invokevirtual_i, mj_F_ireturn, mj_F_ishl, mj_kc, FT_X12, FT_X12_1, L_X12_judge, List.take_succ_cons, List.take_zero, List.drop_succ_cons, List.drop_zero, List.reverse_cons, List.reverse_nil, List.length_cons, List.length_nil, gS_M0, gMf_56, J_X12_judge]
  refine c_X12_mayCover_in (ok_imp (ok_bind hw) ?_)
  intro p hw
  simp only [Option.toList, List.nil_append, List.cons_append, Nat.reduceSub]
  refine mj_run hG.1 (fun pc => pc == 6 || pc == 32 || pc == 38) 4000 ?_
  simp only [mj_step, mj_W_s, mj_fin, List.getElem?_cons_zero, List.getElem?_cons_succ, mj_go, Nat.reduceAdd, Nat.reduceSub, Nat.reduceLT, Nat.reduceLeDiff, Nat.zero_add, Nat.reduceEqDiff, Nat.reduceBEq, ↓reduceIte, Bool.false_eq_true, List.append_nil, List.nil_append, List.cons_append, Option.toList, and_true, true_and, true_or, or_true, reduceCtorEq, List.map_nil, bI_eq0, bI_eq1, bool_ft, pk_us, vnar0, vnar1, Bool.or_false, Bool.or_true, Bool.false_or, Bool.true_or, mj_kne, eq_self, Int32.reduceLT, Int32.reduceLE, Int32.reduceAdd, Int32.reduceSub, Int32.reduceMul, not_true_eq_false, not_false_eq_true, false_implies, true_implies, D_X12_judge, mj_F_aload_n_k, mj_F_bipush_n, mj_F_getfield_i, mj_F_iconst_n, mj_F_ifCond_eq_off, mj_F_ifCond_lt_off, mj_F_if_icmp_lt_off, mj_F_iload_n_k, mj_F_invokevirtual_i, mj_F_ireturn, mj_F_ishl, mj_kc, FT_X12, FT_X12_1, L_X12_judge, List.take_succ_cons, List.take_zero, List.drop_succ_cons, List.drop_zero, List.reverse_cons, List.reverse_nil, List.length_cons, List.length_nil, gS_M0, gMf_56, J_X12_judge]
  refine ⟨fun c => ?_, fun c => ?_⟩
  · replace hw := ok_t hw c
    exact (ok_some hw :)
  · replace hw := ok_f hw c
    refine ⟨fun c => ?_, fun c => ?_⟩
    · replace hw := ok_t hw c
      exact (ok_some hw :)
    · replace hw := ok_f hw c
      refine ⟨fun c => ?_, fun c => ?_⟩
      · replace hw := ok_t hw c
        refine c_X12_look__in (ok_imp (ok_bind hw) ?_)
        intro p hw
        simp only [Option.toList, List.nil_append, List.cons_append, Nat.reduceSub]
        refine mj_run hG.1 (fun pc => pc == 6 || pc == 32 || pc == 38) 4000 ?_
        simp only [mj_step, mj_W_s, mj_fin, List.getElem?_cons_zero, List.getElem?_cons_succ, mj_go, Nat.reduceAdd, Nat.reduceSub, Nat.reduceLT, Nat.reduceLeDiff, Nat.zero_add, Nat.reduceEqDiff, Nat.reduceBEq, ↓reduceIte, Bool.false_eq_true, List.append_nil, List.nil_append, List.cons_append, Option.toList, and_true, true_and, true_or, or_true, reduceCtorEq, List.map_nil, bI_eq0, bI_eq1, bool_ft, pk_us, vnar0, vnar1, Bool.or_false, Bool.or_true, Bool.false_or, Bool.true_or, mj_kne, eq_self, Int32.reduceLT, Int32.reduceLE, Int32.reduceAdd, Int32.reduceSub, Int32.reduceMul, not_true_eq_false, not_false_eq_true, false_implies, true_implies, D_X12_judge, mj_F_aload_n_k, mj_F_bipush_n, mj_F_getfield_i, mj_F_iconst_n, mj_F_ifCond_eq_off, mj_F_ifCond_lt_off, mj_F_if_icmp_lt_off, mj_F_iload_n_k, mj_F_invokevirtual_i, mj_F_ireturn, mj_F_ishl, mj_kc, FT_X12, FT_X12_1, L_X12_judge, List.take_succ_cons, List.take_zero, List.drop_succ_cons, List.drop_zero, List.reverse_cons, List.reverse_nil, List.length_cons, List.length_nil, gS_M0, gMf_56, J_X12_judge]
        refine c_X12_firstLeft_in (ok_imp (ok_bind hw) ?_)
        intro p hw
        simp only [Option.toList, List.nil_append, List.cons_append, Nat.reduceSub]
        refine mj_run hG.1 (fun pc => pc == 6 || pc == 32 || pc == 38) 4000 ?_
        simp only [mj_step, mj_W_s, mj_fin, List.getElem?_cons_zero, List.getElem?_cons_succ, mj_go, Nat.reduceAdd, Nat.reduceSub, Nat.reduceLT, Nat.reduceLeDiff, Nat.zero_add, Nat.reduceEqDiff, Nat.reduceBEq, ↓reduceIte, Bool.false_eq_true, List.append_nil, List.nil_append, List.cons_append, Option.toList, and_true, true_and, true_or, or_true, reduceCtorEq, List.map_nil, bI_eq0, bI_eq1, bool_ft, pk_us, vnar0, vnar1, Bool.or_false, Bool.or_true, Bool.false_or, Bool.true_or, mj_kne, eq_self, Int32.reduceLT, Int32.reduceLE, Int32.reduceAdd, Int32.reduceSub, Int32.reduceMul, not_true_eq_false, not_false_eq_true, false_implies, true_implies, D_X12_judge, mj_F_aload_n_k, mj_F_bipush_n, mj_F_getfield_i, mj_F_iconst_n, mj_F_ifCond_eq_off, mj_F_ifCond_lt_off, mj_F_if_icmp_lt_off, mj_F_iload_n_k, mj_F_invokevirtual_i, mj_F_ireturn, mj_F_ishl, mj_kc, FT_X12, FT_X12_1, L_X12_judge, List.take_succ_cons, List.take_zero, List.drop_succ_cons, List.drop_zero, List.reverse_cons, List.reverse_nil, List.length_cons, List.length_nil, gS_M0, gMf_56, J_X12_judge]
        exact (ok_some hw :)
      · replace hw := ok_f hw c
        exact (ok_some hw :)

def c_X12_judge : mj_S := fun as h k => ∃ (v1 : Int32) (v2 : Int32) (v3 : Int32) (s : St), as = [.ref 0, .int v1, .int v2, .int v3] ∧ h = mkMs s ∧ ok (F_X12_judge v1 v2 v3 s) (fun p => k (some (.int p.1)) (mkMs p.2))
theorem c_X12_judge_in {v1 : Int32} {v2 : Int32} {v3 : Int32} {s : St} {k : Option Value → mj_H → Prop} (hw : ok (F_X12_judge v1 v2 v3 s) (fun p => k (some (.int p.1)) (mkMs p.2))) : c_X12_judge [.ref 0, .int v1, .int v2, .int v3] (mkMs s) k := ⟨v1, v2, v3, s, rfl, rfl, hw⟩
theorem m_X12_judge (l : Launch) : mj_Met l yX12_judge cX12_judge 4 ((some FieldType.int)) 9 0 0 c_X12_judge := by
  refine mj_body2 false (TbX12 4 ((some FieldType.int)) ct_X12_judge) (by decide) rfl rfl (fun h => nomatch h) (tfX12 _ (List.forall_mem_cons.mpr ⟨cfX12_494 (m_X12_firstLeft l) (by decide), List.forall_mem_cons.mpr ⟨cfX12_502 (m_X12_mayCover l) (by decide), List.forall_mem_cons.mpr ⟨cfX12_505 (m_X12_look_ l) (by decide), fun _ h => nomatch h⟩⟩⟩)) ?_
  rintro as h k ⟨v1, v2, v3, s, rfl, rfl, hw⟩
  exact ⟨rfl, fun G hG => g_X12_judge hG hw⟩
def F_X12_maker (v1 : Int32) (v2 : Int32) (v3 : Int32) (v4 : Int32) (s : St) : Option (Int32 × St) :=
  if inb v1 0 4 = false then
    some ((-1), s)
  else
    if inb v2 1 50 = false then
      some ((-1), s)
    else
      if inb v3 0 600 = false then
        some ((-1), s)
      else
        if inb v4 v3 600 = false then
          some ((-1), s)
        else
          if (s.1 1263) = 8 then
            some ((-1), s)
          else
            (wr s 1257 8 (s.1 1263) v1).bind fun s1 =>
            (wr s1 1258 8 (s1.1 1263) v2).bind fun s2 =>
            (wr s2 1259 8 (s2.1 1263) v3).bind fun s3 =>
            (wr s3 1260 8 (s3.1 1263) v4).bind fun s4 =>
            (wI s4 1263 ((s4.1 1263) + 1)).bind fun s5 =>
            some (((s5.1 1263) - 1), s5)
theorem J_X12_maker : mj_t 6 45 = 51 ∧ mj_t 16 35 = 51 ∧ mj_t 27 24 = 51 ∧ mj_t 39 12 = 51 ∧ mj_t 48 5 = 53 ∧ (0 ≤ ((6 : Nat) : Int) + 45) = True ∧ (0 ≤ ((16 : Nat) : Int) + 35) = True ∧ (0 ≤ ((27 : Nat) : Int) + 24) = True ∧ (0 ≤ ((39 : Nat) : Int) + 12) = True ∧ (0 ≤ ((48 : Nat) : Int) + 5) = True := by and_intros <;> first | rfl | exact eq_true (by decide)
def ct_X12_maker : List (Nat × mj_Cs) := [(243, 2, 3, 12, 0, 0, c_in)]
theorem L_X12_maker : mj_lk ct_X12_maker 243 = some (2, 3, 12, 0, 0, c_in) := rfl
set_option maxHeartbeats 4000000 in
set_option maxRecDepth 20000 in
theorem g_X12_maker {k : Option Value → mj_H → Prop} {G : mj_K} (hG : mj_cl2 cX12_maker (TbX12 5 ((some FieldType.int)) ct_X12_maker) k G) {v1 : Int32} {v2 : Int32} {v3 : Int32} {v4 : Int32} {s : St} (hw : ok (F_X12_maker v1 v2 v3 v4 s) (fun p => k (some (.int p.1)) (mkMs p.2))) : G 0 [.ref 0, .int v1, .int v2, .int v3, .int v4] [] (mkMs s) 0 0 := by
  unfold F_X12_maker at hw
  refine mj_run hG.1 (fun _ => false) 4000 ?_
  simp only [mj_step, mj_W_s, mj_fin, List.getElem?_cons_zero, List.getElem?_cons_succ, mj_go, Nat.reduceAdd, Nat.reduceSub, Nat.reduceLT, Nat.reduceLeDiff, Nat.zero_add, Nat.reduceEqDiff, Nat.reduceBEq, ↓reduceIte, Bool.false_eq_true, List.append_nil, List.nil_append, List.cons_append, Option.toList, and_true, true_and, true_or, or_true, reduceCtorEq, List.map_nil, bI_eq0, bI_eq1, bool_ft, pk_us, vnar0, vnar1, Bool.or_false, Bool.or_true, Bool.false_or, Bool.true_or, mj_kne, eq_self, Int32.reduceLT, Int32.reduceLE, Int32.reduceAdd, Int32.reduceSub, Int32.reduceMul, not_true_eq_false, not_false_eq_true, false_implies, true_implies, D_X12_maker_0, D_X12_maker_1, mj_F_aload_n_k, mj_F_bipush_n, mj_F_dup, mj_F_getfield_i, mj_F_iadd, mj_F_iastore, mj_F_iconst_n, mj_F_ifCond_eq_off, mj_F_if_icmp_ne_off, mj_F_iload_k, mj_F_iload_n_k, mj_F_invokestatic_i, mj_F_ireturn, mj_F_isub, mj_F_putfield_i, mj_F_sipush_n, mj_c2, mj_kc, FT_X12, FT_X12_1, PT_X12, L_X12_maker, List.take_succ_cons, List.take_zero, List.drop_succ_cons, List.drop_zero, List.reverse_cons, List.reverse_nil, List.length_cons, List.length_nil, gS_M0, gMf_63, gMf_57, gS_M44, sS_Ma_44, gMf_58, gS_M45, sS_Ma_45, gMf_59, gS_M46, sS_Ma_46, gMf_60, gS_M47, sS_Ma_47, sS_Mf_63, gMl, c_in_eq, J_X12_maker]
  refine ⟨fun c => ?_, fun c => ?_⟩
  · replace hw := ok_t hw c
    exact (ok_some hw :)
  · replace hw := ok_f hw c
    refine ⟨fun c => ?_, fun c => ?_⟩
    · replace hw := ok_t hw c
      exact (ok_some hw :)
    · replace hw := ok_f hw c
      refine ⟨fun c => ?_, fun c => ?_⟩
      · replace hw := ok_t hw c
        exact (ok_some hw :)
      · replace hw := ok_f hw c
        refine ⟨fun c => ?_, fun c => ?_⟩
        · replace hw := ok_t hw c
          exact (ok_some hw :)
        · replace hw := ok_f hw c
          refine ⟨fun c => ?_, fun c => ?_⟩
          · replace hw := ok_f hw c
            refine ⟨(ok_wr hw).1, ?_⟩
            replace hw := (ok_wr hw).2
            refine ⟨(ok_wr hw).1, ?_⟩
            replace hw := (ok_wr hw).2
            refine ⟨(ok_wr hw).1, ?_⟩
            replace hw := (ok_wr hw).2
            refine ⟨(ok_wr hw).1, ?_⟩
            replace hw := (ok_wr hw).2
            replace hw := ok_wI hw
            exact (ok_some hw :)
          · replace hw := ok_t hw c
            exact (ok_some hw :)

def c_X12_maker : mj_S := fun as h k => ∃ (v1 : Int32) (v2 : Int32) (v3 : Int32) (v4 : Int32) (s : St), as = [.ref 0, .int v1, .int v2, .int v3, .int v4] ∧ h = mkMs s ∧ ok (F_X12_maker v1 v2 v3 v4 s) (fun p => k (some (.int p.1)) (mkMs p.2))
theorem c_X12_maker_in {v1 : Int32} {v2 : Int32} {v3 : Int32} {v4 : Int32} {s : St} {k : Option Value → mj_H → Prop} (hw : ok (F_X12_maker v1 v2 v3 v4 s) (fun p => k (some (.int p.1)) (mkMs p.2))) : c_X12_maker [.ref 0, .int v1, .int v2, .int v3, .int v4] (mkMs s) k := ⟨v1, v2, v3, v4, s, rfl, rfl, hw⟩
theorem m_X12_maker (l : Launch) : mj_Met l yX12_maker cX12_maker 5 ((some FieldType.int)) 1 0 0 c_X12_maker := by
  refine mj_body2 false (TbX12 5 ((some FieldType.int)) ct_X12_maker) (by decide) rfl rfl (fun h => nomatch h) (tfX12 _ (List.forall_mem_cons.mpr ⟨cfX12_243 (m_X12_in l) (by decide), fun _ h => nomatch h⟩)) ?_
  rintro as h k ⟨v1, v2, v3, v4, s, rfl, rfl, hw⟩
  exact ⟨rfl, fun G hG => g_X12_maker hG hw⟩
def F_X12_lorry (v1 : Int32) (s : St) : Option (Int32 × St) :=
  if inb v1 1 30 = false then
    some ((-1), s)
  else
    if (s.1 1264) = 10 then
      some ((-1), s)
    else
      (wr s 1261 10 (s.1 1264) v1).bind fun s1 =>
      (wI s1 1264 ((s1.1 1264) + 1)).bind fun s2 =>
      some (((s2.1 1264) - 1), s2)
theorem J_X12_lorry : mj_t 7 12 = 19 ∧ mj_t 16 5 = 21 ∧ (0 ≤ ((7 : Nat) : Int) + 12) = True ∧ (0 ≤ ((16 : Nat) : Int) + 5) = True := by and_intros <;> first | rfl | exact eq_true (by decide)
def ct_X12_lorry : List (Nat × mj_Cs) := [(243, 2, 3, 12, 0, 0, c_in)]
theorem L_X12_lorry : mj_lk ct_X12_lorry 243 = some (2, 3, 12, 0, 0, c_in) := rfl
set_option maxHeartbeats 4000000 in
set_option maxRecDepth 20000 in
theorem g_X12_lorry {k : Option Value → mj_H → Prop} {G : mj_K} (hG : mj_cl2 cX12_lorry (TbX12 2 ((some FieldType.int)) ct_X12_lorry) k G) {v1 : Int32} {s : St} (hw : ok (F_X12_lorry v1 s) (fun p => k (some (.int p.1)) (mkMs p.2))) : G 0 [.ref 0, .int v1] [] (mkMs s) 0 0 := by
  unfold F_X12_lorry at hw
  refine mj_run hG.1 (fun _ => false) 4000 ?_
  simp only [mj_step, mj_W_s, mj_fin, List.getElem?_cons_zero, List.getElem?_cons_succ, mj_go, Nat.reduceAdd, Nat.reduceSub, Nat.reduceLT, Nat.reduceLeDiff, Nat.zero_add, Nat.reduceEqDiff, Nat.reduceBEq, ↓reduceIte, Bool.false_eq_true, List.append_nil, List.nil_append, List.cons_append, Option.toList, and_true, true_and, true_or, or_true, reduceCtorEq, List.map_nil, bI_eq0, bI_eq1, bool_ft, pk_us, vnar0, vnar1, Bool.or_false, Bool.or_true, Bool.false_or, Bool.true_or, mj_kne, eq_self, Int32.reduceLT, Int32.reduceLE, Int32.reduceAdd, Int32.reduceSub, Int32.reduceMul, not_true_eq_false, not_false_eq_true, false_implies, true_implies, D_X12_lorry, mj_F_aload_n_k, mj_F_bipush_n, mj_F_dup, mj_F_getfield_i, mj_F_iadd, mj_F_iastore, mj_F_iconst_n, mj_F_ifCond_eq_off, mj_F_if_icmp_ne_off, mj_F_iload_n_k, mj_F_invokestatic_i, mj_F_ireturn, mj_F_isub, mj_F_putfield_i, mj_c2, mj_kc, FT_X12, FT_X12_1, PT_X12, L_X12_lorry, List.take_succ_cons, List.take_zero, List.drop_succ_cons, List.drop_zero, List.reverse_cons, List.reverse_nil, List.length_cons, List.length_nil, gS_M0, gMf_64, gMf_61, gS_M48, sS_Ma_48, sS_Mf_64, gMl, c_in_eq, J_X12_lorry]
  refine ⟨fun c => ?_, fun c => ?_⟩
  · replace hw := ok_t hw c
    exact (ok_some hw :)
  · replace hw := ok_f hw c
    refine ⟨fun c => ?_, fun c => ?_⟩
    · replace hw := ok_f hw c
      refine ⟨(ok_wr hw).1, ?_⟩
      replace hw := (ok_wr hw).2
      replace hw := ok_wI hw
      exact (ok_some hw :)
    · replace hw := ok_t hw c
      exact (ok_some hw :)

def c_X12_lorry : mj_S := fun as h k => ∃ (v1 : Int32) (s : St), as = [.ref 0, .int v1] ∧ h = mkMs s ∧ ok (F_X12_lorry v1 s) (fun p => k (some (.int p.1)) (mkMs p.2))
theorem c_X12_lorry_in {v1 : Int32} {s : St} {k : Option Value → mj_H → Prop} (hw : ok (F_X12_lorry v1 s) (fun p => k (some (.int p.1)) (mkMs p.2))) : c_X12_lorry [.ref 0, .int v1] (mkMs s) k := ⟨v1, s, rfl, rfl, hw⟩
theorem m_X12_lorry (l : Launch) : mj_Met l yX12_lorry cX12_lorry 2 ((some FieldType.int)) 1 0 0 c_X12_lorry := by
  refine mj_body2 false (TbX12 2 ((some FieldType.int)) ct_X12_lorry) (by decide) rfl rfl (fun h => nomatch h) (tfX12 _ (List.forall_mem_cons.mpr ⟨cfX12_243 (m_X12_in l) (by decide), fun _ h => nomatch h⟩)) ?_
  rintro as h k ⟨v1, s, rfl, rfl, hw⟩
  exact ⟨rfl, fun G hG => g_X12_lorry hG hw⟩
def F_X12_parts (v1 : Int32) (v2 : Int32) (s : St) : Option (Int32) :=
  if inb v2 0 4 = false then
    some (-1)
  else
    if v1 = (-1) then
      if v1 = (-1) then
        (rd s 1262 5 v2).bind fun x2 =>
        some x2
      else
        (rd s 1222 100 ((5 * v1) + v2)).bind fun x1 =>
        some x1
    else
      (F_X12_isSchool v1 s).bind fun r3 =>
      if r3 = 0 then
        some (-1)
      else
        if v1 = (-1) then
          (rd s 1262 5 v2).bind fun x5 =>
          some x5
        else
          (rd s 1222 100 ((5 * v1) + v2)).bind fun x4 =>
          some x4
theorem J_X12_parts : mj_t 6 16 = 22 ∧ mj_t 11 13 = 24 ∧ mj_t 19 5 = 24 ∧ mj_t 26 12 = 38 ∧ mj_t 35 13 = 48 ∧ (0 ≤ ((6 : Nat) : Int) + 16) = True ∧ (0 ≤ ((11 : Nat) : Int) + 13) = True ∧ (0 ≤ ((19 : Nat) : Int) + 5) = True ∧ (0 ≤ ((26 : Nat) : Int) + 12) = True ∧ (0 ≤ ((35 : Nat) : Int) + 13) = True := by and_intros <;> first | rfl | exact eq_true (by decide)
def ct_X12_parts : List (Nat × mj_Cs) := [(243, 2, 3, 12, 0, 0, c_in), (293, 0, 2, 12, 0, 0, c_X12_isSchool)]
theorem L_X12_parts : mj_lk ct_X12_parts 243 = some (2, 3, 12, 0, 0, c_in) ∧ mj_lk ct_X12_parts 293 = some (0, 2, 12, 0, 0, c_X12_isSchool) := ⟨rfl, rfl⟩
set_option maxHeartbeats 4000000 in
set_option maxRecDepth 20000 in
theorem g_X12_parts {k : Option Value → mj_H → Prop} {G : mj_K} (hG : mj_cl2 cX12_parts (TbX12 3 ((some FieldType.int)) ct_X12_parts) k G) {v1 : Int32} {v2 : Int32} {s : St} (hw : ok (F_X12_parts v1 v2 s) (fun p => k (some (.int p)) (mkMs s))) : G 0 [.ref 0, .int v1, .int v2] [] (mkMs s) 0 0 := by
  unfold F_X12_parts at hw
  refine mj_run hG.1 (fun pc => pc == 19) 4000 ?_
  simp only [mj_step, mj_W_s, mj_fin, List.getElem?_cons_zero, List.getElem?_cons_succ, mj_go, Nat.reduceAdd, Nat.reduceSub, Nat.reduceLT, Nat.reduceLeDiff, Nat.zero_add, Nat.reduceEqDiff, Nat.reduceBEq, ↓reduceIte, Bool.false_eq_true, List.append_nil, List.nil_append, List.cons_append, Option.toList, and_true, true_and, true_or, or_true, reduceCtorEq, List.map_nil, bI_eq0, bI_eq1, bool_ft, pk_us, vnar0, vnar1, Bool.or_false, Bool.or_true, Bool.false_or, Bool.true_or, mj_kne, eq_self, Int32.reduceLT, Int32.reduceLE, Int32.reduceAdd, Int32.reduceSub, Int32.reduceMul, not_true_eq_false, not_false_eq_true, false_implies, true_implies, D_X12_parts, mj_F_aload_n_k, mj_F_getfield_i, mj_F_goto_off, mj_F_iadd, mj_F_iaload, mj_F_iconst_n, mj_F_ifCond_eq_off, mj_F_ifCond_ne_off, mj_F_if_icmp_eq_off, mj_F_if_icmp_ne_off, mj_F_iload_n_k, mj_F_imul, mj_F_invokestatic_i, mj_F_invokevirtual_i, mj_F_ireturn, mj_kc, FT_X12, FT_X12_1, L_X12_parts, List.take_succ_cons, List.take_zero, List.drop_succ_cons, List.drop_zero, List.reverse_cons, List.reverse_nil, List.length_cons, List.length_nil, gS_M0, gMf_62, gS_M49, sS_Ma_49, gMf_22, gS_M20, sS_Ma_20, c_in_eq, J_X12_parts]
  refine ⟨fun c => ?_, fun c => ?_⟩
  · replace hw := ok_t hw c
    exact (ok_some hw :)
  · replace hw := ok_f hw c
    refine ⟨fun c => ?_, fun c => ?_⟩
    · replace hw := ok_t hw c
      refine ⟨fun c => ?_, fun c => ?_⟩
      · replace hw := ok_f hw c
        refine ⟨(ok_rd hw).1, ?_⟩
        replace hw := (ok_rd hw).2
        exact (ok_some hw :)
      · replace hw := ok_t hw c
        refine ⟨(ok_rd hw).1, ?_⟩
        replace hw := (ok_rd hw).2
        exact (ok_some hw :)
    · replace hw := ok_f hw c
      refine c_X12_isSchool_in (ok_imp (ok_bind hw) ?_)
      intro p hw
      simp only [Option.toList, List.nil_append, List.cons_append, Nat.reduceSub]
      refine mj_run hG.1 (fun pc => pc == 19) 4000 ?_
      simp only [mj_step, mj_W_s, mj_fin, List.getElem?_cons_zero, List.getElem?_cons_succ, mj_go, Nat.reduceAdd, Nat.reduceSub, Nat.reduceLT, Nat.reduceLeDiff, Nat.zero_add, Nat.reduceEqDiff, Nat.reduceBEq, ↓reduceIte, Bool.false_eq_true, List.append_nil, List.nil_append, List.cons_append, Option.toList, and_true, true_and, true_or, or_true, reduceCtorEq, List.map_nil, bI_eq0, bI_eq1, bool_ft, pk_us, vnar0, vnar1, Bool.or_false, Bool.or_true, Bool.false_or, Bool.true_or, mj_kne, eq_self, Int32.reduceLT, Int32.reduceLE, Int32.reduceAdd, Int32.reduceSub, Int32.reduceMul, not_true_eq_false, not_false_eq_true, false_implies, true_implies, D_X12_parts, mj_F_aload_n_k, mj_F_getfield_i, mj_F_goto_off, mj_F_iadd, mj_F_iaload, mj_F_iconst_n, mj_F_ifCond_eq_off, mj_F_ifCond_ne_off, mj_F_if_icmp_eq_off, mj_F_if_icmp_ne_off, mj_F_iload_n_k, mj_F_imul, mj_F_invokestatic_i, mj_F_invokevirtual_i, mj_F_ireturn, mj_kc, FT_X12, FT_X12_1, L_X12_parts, List.take_succ_cons, List.take_zero, List.drop_succ_cons, List.drop_zero, List.reverse_cons, List.reverse_nil, List.length_cons, List.length_nil, gS_M0, gMf_62, gS_M49, sS_Ma_49, gMf_22, gS_M20, sS_Ma_20, c_in_eq, J_X12_parts]
      refine ⟨fun c => ?_, fun c => ?_⟩
      · replace hw := ok_f hw c
        refine ⟨fun c => ?_, fun c => ?_⟩
        · replace hw := ok_f hw c
          refine ⟨(ok_rd hw).1, ?_⟩
          replace hw := (ok_rd hw).2
          exact (ok_some hw :)
        · replace hw := ok_t hw c
          refine ⟨(ok_rd hw).1, ?_⟩
          replace hw := (ok_rd hw).2
          exact (ok_some hw :)
      · replace hw := ok_t hw c
        exact (ok_some hw :)

def c_X12_parts : mj_S := fun as h k => ∃ (v1 : Int32) (v2 : Int32) (s : St), as = [.ref 0, .int v1, .int v2] ∧ h = mkMs s ∧ ok (F_X12_parts v1 v2 s) (fun p => k (some (.int p)) (mkMs s))
theorem c_X12_parts_in {v1 : Int32} {v2 : Int32} {s : St} {k : Option Value → mj_H → Prop} (hw : ok (F_X12_parts v1 v2 s) (fun p => k (some (.int p)) (mkMs s))) : c_X12_parts [.ref 0, .int v1, .int v2] (mkMs s) k := ⟨v1, v2, s, rfl, rfl, hw⟩
theorem m_X12_parts (l : Launch) : mj_Met l yX12_parts cX12_parts 3 ((some FieldType.int)) 2 0 0 c_X12_parts := by
  refine mj_body2 false (TbX12 3 ((some FieldType.int)) ct_X12_parts) (by decide) rfl rfl (fun h => nomatch h) (tfX12 _ (List.forall_mem_cons.mpr ⟨cfX12_243 (m_X12_in l) (by decide), List.forall_mem_cons.mpr ⟨cfX12_293 (m_X12_isSchool l) (by decide), fun _ h => nomatch h⟩⟩)) ?_
  rintro as h k ⟨v1, v2, s, rfl, rfl, hw⟩
  exact ⟨rfl, fun G hG => g_X12_parts hG hw⟩
def F_X12_promise (v1 : Int32) (v2 : Int32) (s : St) : Option (Int32 × St) :=
  (F_X12_isVillage v1 s).bind fun r1 =>
  if r1 = 0 then
    some (0, s)
  else
    (F_X12_isSchool v2 s).bind fun r2 =>
    if r2 = 0 then
      some (0, s)
    else
      (rd s 1265 20 v2).bind fun x3 =>
      if ((x3 >>> (v1 &&& 31)) &&& 1) = 1 then
        some (0, s)
      else
        (rd s 1265 20 v2).bind fun x4 =>
        (wr s 1265 20 v2 (x4 ||| (1 <<< (v1 &&& 31)))).bind fun s5 =>
        some (1, s5)
theorem J_X12_promise : mj_t 5 25 = 30 ∧ mj_t 13 17 = 30 ∧ mj_t 27 5 = 32 ∧ (0 ≤ ((5 : Nat) : Int) + 25) = True ∧ (0 ≤ ((13 : Nat) : Int) + 17) = True ∧ (0 ≤ ((27 : Nat) : Int) + 5) = True := by and_intros <;> first | rfl | exact eq_true (by decide)
def ct_X12_promise : List (Nat × mj_Cs) := [(274, 0, 2, 12, 0, 0, c_X12_isVillage), (293, 0, 2, 12, 0, 0, c_X12_isSchool)]
theorem L_X12_promise : mj_lk ct_X12_promise 274 = some (0, 2, 12, 0, 0, c_X12_isVillage) ∧ mj_lk ct_X12_promise 293 = some (0, 2, 12, 0, 0, c_X12_isSchool) := ⟨rfl, rfl⟩
set_option maxHeartbeats 4000000 in
set_option maxRecDepth 20000 in
theorem g_X12_promise {k : Option Value → mj_H → Prop} {G : mj_K} (hG : mj_cl2 cX12_promise (TbX12 3 ((some FieldType.boolean)) ct_X12_promise) k G) {v1 : Int32} {v2 : Int32} {s : St} (hw : ok (F_X12_promise v1 v2 s) (fun p => k (some (.int p.1)) (mkMs p.2))) : G 0 [.ref 0, .int v1, .int v2] [] (mkMs s) 0 0 := by
  unfold F_X12_promise at hw
  refine mj_run hG.1 (fun pc => pc == 5 || pc == 13) 4000 ?_
  simp only [mj_step, mj_W_s, mj_fin, List.getElem?_cons_zero, List.getElem?_cons_succ, mj_go, Nat.reduceAdd, Nat.reduceSub, Nat.reduceLT, Nat.reduceLeDiff, Nat.zero_add, Nat.reduceEqDiff, Nat.reduceBEq, ↓reduceIte, Bool.false_eq_true, List.append_nil, List.nil_append, List.cons_append, Option.toList, and_true, true_and, true_or, or_true, reduceCtorEq, List.map_nil, bI_eq0, bI_eq1, bool_ft, pk_us, vnar0, vnar1, Bool.or_false, Bool.or_true, Bool.false_or, Bool.true_or, mj_kne, eq_self, Int32.reduceLT, Int32.reduceLE, Int32.reduceAdd, Int32.reduceSub, Int32.reduceMul, not_true_eq_false, not_false_eq_true, false_implies, true_implies, D_X12_promise, mj_F_aload_n_k, mj_F_dup2, mj_F_getfield_i, mj_F_iaload, mj_F_iand, mj_F_iastore, mj_F_iconst_n, mj_F_ifCond_eq_off, mj_F_if_icmp_ne_off, mj_F_iload_n_k, mj_F_invokevirtual_i, mj_F_ior, mj_F_ireturn, mj_F_ishl, mj_F_ishr, mj_c2, mj_kc, FT_X12, FT_X12_1, L_X12_promise, List.take_succ_cons, List.take_zero, List.drop_succ_cons, List.drop_zero, List.reverse_cons, List.reverse_nil, List.length_cons, List.length_nil, gS_M0, gMf_65, gS_M50, sS_Ma_50, J_X12_promise]
  refine c_X12_isVillage_in (ok_imp (ok_bind hw) ?_)
  intro p hw
  simp only [Option.toList, List.nil_append, List.cons_append, Nat.reduceSub]
  refine mj_run hG.1 (fun pc => pc == 5 || pc == 13) 4000 ?_
  simp only [mj_step, mj_W_s, mj_fin, List.getElem?_cons_zero, List.getElem?_cons_succ, mj_go, Nat.reduceAdd, Nat.reduceSub, Nat.reduceLT, Nat.reduceLeDiff, Nat.zero_add, Nat.reduceEqDiff, Nat.reduceBEq, ↓reduceIte, Bool.false_eq_true, List.append_nil, List.nil_append, List.cons_append, Option.toList, and_true, true_and, true_or, or_true, reduceCtorEq, List.map_nil, bI_eq0, bI_eq1, bool_ft, pk_us, vnar0, vnar1, Bool.or_false, Bool.or_true, Bool.false_or, Bool.true_or, mj_kne, eq_self, Int32.reduceLT, Int32.reduceLE, Int32.reduceAdd, Int32.reduceSub, Int32.reduceMul, not_true_eq_false, not_false_eq_true, false_implies, true_implies, D_X12_promise, mj_F_aload_n_k, mj_F_dup2, mj_F_getfield_i, mj_F_iaload, mj_F_iand, mj_F_iastore, mj_F_iconst_n, mj_F_ifCond_eq_off, mj_F_if_icmp_ne_off, mj_F_iload_n_k, mj_F_invokevirtual_i, mj_F_ior, mj_F_ireturn, mj_F_ishl, mj_F_ishr, mj_c2, mj_kc, FT_X12, FT_X12_1, L_X12_promise, List.take_succ_cons, List.take_zero, List.drop_succ_cons, List.drop_zero, List.reverse_cons, List.reverse_nil, List.length_cons, List.length_nil, gS_M0, gMf_65, gS_M50, sS_Ma_50, J_X12_promise]
  refine ⟨fun c => ?_, fun c => ?_⟩
  · replace hw := ok_t hw c
    exact (ok_some hw :)
  · replace hw := ok_f hw c
    refine c_X12_isSchool_in (ok_imp (ok_bind hw) ?_)
    intro p hw
    simp only [Option.toList, List.nil_append, List.cons_append, Nat.reduceSub]
    refine mj_run hG.1 (fun pc => pc == 5 || pc == 13) 4000 ?_
    simp only [mj_step, mj_W_s, mj_fin, List.getElem?_cons_zero, List.getElem?_cons_succ, mj_go, Nat.reduceAdd, Nat.reduceSub, Nat.reduceLT, Nat.reduceLeDiff, Nat.zero_add, Nat.reduceEqDiff, Nat.reduceBEq, ↓reduceIte, Bool.false_eq_true, List.append_nil, List.nil_append, List.cons_append, Option.toList, and_true, true_and, true_or, or_true, reduceCtorEq, List.map_nil, bI_eq0, bI_eq1, bool_ft, pk_us, vnar0, vnar1, Bool.or_false, Bool.or_true, Bool.false_or, Bool.true_or, mj_kne, eq_self, Int32.reduceLT, Int32.reduceLE, Int32.reduceAdd, Int32.reduceSub, Int32.reduceMul, not_true_eq_false, not_false_eq_true, false_implies, true_implies, D_X12_promise, mj_F_aload_n_k, mj_F_dup2, mj_F_getfield_i, mj_F_iaload, mj_F_iand, mj_F_iastore, mj_F_iconst_n, mj_F_ifCond_eq_off, mj_F_if_icmp_ne_off, mj_F_iload_n_k, mj_F_invokevirtual_i, mj_F_ior, mj_F_ireturn, mj_F_ishl, mj_F_ishr, mj_c2, mj_kc, FT_X12, FT_X12_1, L_X12_promise, List.take_succ_cons, List.take_zero, List.drop_succ_cons, List.drop_zero, List.reverse_cons, List.reverse_nil, List.length_cons, List.length_nil, gS_M0, gMf_65, gS_M50, sS_Ma_50, J_X12_promise]
    refine ⟨fun c => ?_, fun c => ?_⟩
    · replace hw := ok_t hw c
      exact (ok_some hw :)
    · replace hw := ok_f hw c
      refine ⟨(ok_rd hw).1, ?_⟩
      replace hw := (ok_rd hw).2
      refine ⟨fun c => ?_, fun c => ?_⟩
      · replace hw := ok_f hw c
        refine ⟨(ok_rd hw).1, ?_⟩
        replace hw := (ok_rd hw).2
        refine ⟨(ok_wr hw).1, ?_⟩
        replace hw := (ok_wr hw).2
        exact (ok_some hw :)
      · replace hw := ok_t hw c
        exact (ok_some hw :)

def c_X12_promise : mj_S := fun as h k => ∃ (v1 : Int32) (v2 : Int32) (s : St), as = [.ref 0, .int v1, .int v2] ∧ h = mkMs s ∧ ok (F_X12_promise v1 v2 s) (fun p => k (some (.int p.1)) (mkMs p.2))
theorem c_X12_promise_in {v1 : Int32} {v2 : Int32} {s : St} {k : Option Value → mj_H → Prop} (hw : ok (F_X12_promise v1 v2 s) (fun p => k (some (.int p.1)) (mkMs p.2))) : c_X12_promise [.ref 0, .int v1, .int v2] (mkMs s) k := ⟨v1, v2, s, rfl, rfl, hw⟩
theorem m_X12_promise (l : Launch) : mj_Met l yX12_promise cX12_promise 3 ((some FieldType.boolean)) 2 0 0 c_X12_promise := by
  refine mj_body2 false (TbX12 3 ((some FieldType.boolean)) ct_X12_promise) (by decide) rfl rfl (fun h => nomatch h) (tfX12 _ (List.forall_mem_cons.mpr ⟨cfX12_274 (m_X12_isVillage l) (by decide), List.forall_mem_cons.mpr ⟨cfX12_293 (m_X12_isSchool l) (by decide), fun _ h => nomatch h⟩⟩)) ?_
  rintro as h k ⟨v1, v2, s, rfl, rfl, hw⟩
  exact ⟨rfl, fun G hG => g_X12_promise hG hw⟩
def F_X12_give (v1 : Int32) (v2 : Int32) (v3 : Int32) (s : St) : Option (Int32 × St) :=
  (F_X12_isVillage v1 s).bind fun r1 =>
  if r1 = 0 then
    some (0, s)
  else
    (F_X12_isSchool v2 s).bind fun r2 =>
    if r2 = 0 then
      some (0, s)
    else
      if inb v3 1 1000 = false then
        some (0, s)
      else
        if (s.1 1267) = 200 then
          some (0, s)
        else
          (rd s 1266 480 ((20 * v1) + v2)).bind fun x3 =>
          (wr s 1266 480 ((20 * v1) + v2) (x3 + v3)).bind fun s4 =>
          (wI s4 1267 ((s4.1 1267) + 1)).bind fun s5 =>
          some (1, s5)
theorem J_X12_give : mj_t 5 32 = 37 ∧ mj_t 13 24 = 37 ∧ mj_t 24 13 = 37 ∧ mj_t 34 5 = 39 ∧ (0 ≤ ((5 : Nat) : Int) + 32) = True ∧ (0 ≤ ((13 : Nat) : Int) + 24) = True ∧ (0 ≤ ((24 : Nat) : Int) + 13) = True ∧ (0 ≤ ((34 : Nat) : Int) + 5) = True := by and_intros <;> first | rfl | exact eq_true (by decide)
def ct_X12_give : List (Nat × mj_Cs) := [(243, 2, 3, 12, 0, 0, c_in), (274, 0, 2, 12, 0, 0, c_X12_isVillage), (293, 0, 2, 12, 0, 0, c_X12_isSchool)]
theorem L_X12_give : mj_lk ct_X12_give 243 = some (2, 3, 12, 0, 0, c_in) ∧ mj_lk ct_X12_give 274 = some (0, 2, 12, 0, 0, c_X12_isVillage) ∧ mj_lk ct_X12_give 293 = some (0, 2, 12, 0, 0, c_X12_isSchool) := ⟨rfl, rfl, rfl⟩
set_option maxHeartbeats 4000000 in
set_option maxRecDepth 20000 in
theorem g_X12_give {k : Option Value → mj_H → Prop} {G : mj_K} (hG : mj_cl2 cX12_give (TbX12 4 ((some FieldType.boolean)) ct_X12_give) k G) {v1 : Int32} {v2 : Int32} {v3 : Int32} {s : St} (hw : ok (F_X12_give v1 v2 v3 s) (fun p => k (some (.int p.1)) (mkMs p.2))) : G 0 [.ref 0, .int v1, .int v2, .int v3] [] (mkMs s) 0 0 := by
  unfold F_X12_give at hw
  refine mj_run hG.1 (fun pc => pc == 5 || pc == 13) 4000 ?_
  simp only [mj_step, mj_W_s, mj_fin, List.getElem?_cons_zero, List.getElem?_cons_succ, mj_go, Nat.reduceAdd, Nat.reduceSub, Nat.reduceLT, Nat.reduceLeDiff, Nat.zero_add, Nat.reduceEqDiff, Nat.reduceBEq, ↓reduceIte, Bool.false_eq_true, List.append_nil, List.nil_append, List.cons_append, Option.toList, and_true, true_and, true_or, or_true, reduceCtorEq, List.map_nil, bI_eq0, bI_eq1, bool_ft, pk_us, vnar0, vnar1, Bool.or_false, Bool.or_true, Bool.false_or, Bool.true_or, mj_kne, eq_self, Int32.reduceLT, Int32.reduceLE, Int32.reduceAdd, Int32.reduceSub, Int32.reduceMul, not_true_eq_false, not_false_eq_true, false_implies, true_implies, D_X12_give, mj_F_aload_n_k, mj_F_bipush_n, mj_F_dup, mj_F_dup2, mj_F_getfield_i, mj_F_iadd, mj_F_iaload, mj_F_iastore, mj_F_iconst_n, mj_F_ifCond_eq_off, mj_F_if_icmp_ne_off, mj_F_iload_n_k, mj_F_imul, mj_F_invokestatic_i, mj_F_invokevirtual_i, mj_F_ireturn, mj_F_putfield_i, mj_F_sipush_n, mj_c2, mj_kc, FT_X12, FT_X12_1, PT_X12, L_X12_give, List.take_succ_cons, List.take_zero, List.drop_succ_cons, List.drop_zero, List.reverse_cons, List.reverse_nil, List.length_cons, List.length_nil, gS_M0, gMf_67, gMf_66, gS_M51, sS_Ma_51, sS_Mf_67, gMl, c_in_eq, J_X12_give]
  refine c_X12_isVillage_in (ok_imp (ok_bind hw) ?_)
  intro p hw
  simp only [Option.toList, List.nil_append, List.cons_append, Nat.reduceSub]
  refine mj_run hG.1 (fun pc => pc == 5 || pc == 13) 4000 ?_
  simp only [mj_step, mj_W_s, mj_fin, List.getElem?_cons_zero, List.getElem?_cons_succ, mj_go, Nat.reduceAdd, Nat.reduceSub, Nat.reduceLT, Nat.reduceLeDiff, Nat.zero_add, Nat.reduceEqDiff, Nat.reduceBEq, ↓reduceIte, Bool.false_eq_true, List.append_nil, List.nil_append, List.cons_append, Option.toList, and_true, true_and, true_or, or_true, reduceCtorEq, List.map_nil, bI_eq0, bI_eq1, bool_ft, pk_us, vnar0, vnar1, Bool.or_false, Bool.or_true, Bool.false_or, Bool.true_or, mj_kne, eq_self, Int32.reduceLT, Int32.reduceLE, Int32.reduceAdd, Int32.reduceSub, Int32.reduceMul, not_true_eq_false, not_false_eq_true, false_implies, true_implies, D_X12_give, mj_F_aload_n_k, mj_F_bipush_n, mj_F_dup, mj_F_dup2, mj_F_getfield_i, mj_F_iadd, mj_F_iaload, mj_F_iastore, mj_F_iconst_n, mj_F_ifCond_eq_off, mj_F_if_icmp_ne_off, mj_F_iload_n_k, mj_F_imul, mj_F_invokestatic_i, mj_F_invokevirtual_i, mj_F_ireturn, mj_F_putfield_i, mj_F_sipush_n, mj_c2, mj_kc, FT_X12, FT_X12_1, PT_X12, L_X12_give, List.take_succ_cons, List.take_zero, List.drop_succ_cons, List.drop_zero, List.reverse_cons, List.reverse_nil, List.length_cons, List.length_nil, gS_M0, gMf_67, gMf_66, gS_M51, sS_Ma_51, sS_Mf_67, gMl, c_in_eq, J_X12_give]
  refine ⟨fun c => ?_, fun c => ?_⟩
  · replace hw := ok_t hw c
    exact (ok_some hw :)
  · replace hw := ok_f hw c
    refine c_X12_isSchool_in (ok_imp (ok_bind hw) ?_)
    intro p hw
    simp only [Option.toList, List.nil_append, List.cons_append, Nat.reduceSub]
    refine mj_run hG.1 (fun pc => pc == 5 || pc == 13) 4000 ?_
    simp only [mj_step, mj_W_s, mj_fin, List.getElem?_cons_zero, List.getElem?_cons_succ, mj_go, Nat.reduceAdd, Nat.reduceSub, Nat.reduceLT, Nat.reduceLeDiff, Nat.zero_add, Nat.reduceEqDiff, Nat.reduceBEq, ↓reduceIte, Bool.false_eq_true, List.append_nil, List.nil_append, List.cons_append, Option.toList, and_true, true_and, true_or, or_true, reduceCtorEq, List.map_nil, bI_eq0, bI_eq1, bool_ft, pk_us, vnar0, vnar1, Bool.or_false, Bool.or_true, Bool.false_or, Bool.true_or, mj_kne, eq_self, Int32.reduceLT, Int32.reduceLE, Int32.reduceAdd, Int32.reduceSub, Int32.reduceMul, not_true_eq_false, not_false_eq_true, false_implies, true_implies, D_X12_give, mj_F_aload_n_k, mj_F_bipush_n, mj_F_dup, mj_F_dup2, mj_F_getfield_i, mj_F_iadd, mj_F_iaload, mj_F_iastore, mj_F_iconst_n, mj_F_ifCond_eq_off, mj_F_if_icmp_ne_off, mj_F_iload_n_k, mj_F_imul, mj_F_invokestatic_i, mj_F_invokevirtual_i, mj_F_ireturn, mj_F_putfield_i, mj_F_sipush_n, mj_c2, mj_kc, FT_X12, FT_X12_1, PT_X12, L_X12_give, List.take_succ_cons, List.take_zero, List.drop_succ_cons, List.drop_zero, List.reverse_cons, List.reverse_nil, List.length_cons, List.length_nil, gS_M0, gMf_67, gMf_66, gS_M51, sS_Ma_51, sS_Mf_67, gMl, c_in_eq, J_X12_give]
    refine ⟨fun c => ?_, fun c => ?_⟩
    · replace hw := ok_t hw c
      exact (ok_some hw :)
    · replace hw := ok_f hw c
      refine ⟨fun c => ?_, fun c => ?_⟩
      · replace hw := ok_t hw c
        exact (ok_some hw :)
      · replace hw := ok_f hw c
        refine ⟨fun c => ?_, fun c => ?_⟩
        · replace hw := ok_f hw c
          refine ⟨(ok_rd hw).1, ?_⟩
          replace hw := (ok_rd hw).2
          refine ⟨(ok_wr hw).1, ?_⟩
          replace hw := (ok_wr hw).2
          replace hw := ok_wI hw
          exact (ok_some hw :)
        · replace hw := ok_t hw c
          exact (ok_some hw :)

def c_X12_give : mj_S := fun as h k => ∃ (v1 : Int32) (v2 : Int32) (v3 : Int32) (s : St), as = [.ref 0, .int v1, .int v2, .int v3] ∧ h = mkMs s ∧ ok (F_X12_give v1 v2 v3 s) (fun p => k (some (.int p.1)) (mkMs p.2))
theorem c_X12_give_in {v1 : Int32} {v2 : Int32} {v3 : Int32} {s : St} {k : Option Value → mj_H → Prop} (hw : ok (F_X12_give v1 v2 v3 s) (fun p => k (some (.int p.1)) (mkMs p.2))) : c_X12_give [.ref 0, .int v1, .int v2, .int v3] (mkMs s) k := ⟨v1, v2, v3, s, rfl, rfl, hw⟩
theorem m_X12_give (l : Launch) : mj_Met l yX12_give cX12_give 4 ((some FieldType.boolean)) 2 0 0 c_X12_give := by
  refine mj_body2 false (TbX12 4 ((some FieldType.boolean)) ct_X12_give) (by decide) rfl rfl (fun h => nomatch h) (tfX12 _ (List.forall_mem_cons.mpr ⟨cfX12_243 (m_X12_in l) (by decide), List.forall_mem_cons.mpr ⟨cfX12_274 (m_X12_isVillage l) (by decide), List.forall_mem_cons.mpr ⟨cfX12_293 (m_X12_isSchool l) (by decide), fun _ h => nomatch h⟩⟩⟩)) ?_
  rintro as h k ⟨v1, v2, v3, s, rfl, rfl, hw⟩
  exact ⟨rfl, fun G hG => g_X12_give hG hw⟩
def B_X12_lacksKind_2 (v1 : Int32) (s : St) : Int32 → Option ((Int32) ⊕ ((Unit) ⊕ (Int32)))
  | v2 =>
  if 5 ≤ v2 then
    some (.inr (.inl ()))
  else
    (rd s 1222 100 ((5 * v1) + v2)).bind fun x1 =>
    if x1 ≤ 0 then
      some (.inl (v2 + 1))
    else
      some (.inr (.inr v2))
def F_X12_lacksKind_28 (s : St) : Option (Int32) :=
  some (-1)
def F_X12_lacksKind_20 (v2 : Int32) (s : St) : Option (Int32) :=
  some v2
def F_X12_lacksKind_2 (v1 : Int32) (v2 : Int32) (s : St) : Option (Int32) :=
  (lp (B_X12_lacksKind_2 v1 s) FU v2).bind (Sum.elim (fun _ => F_X12_lacksKind_28 s) (fun y => F_X12_lacksKind_20 y s))
def F_X12_lacksKind (v1 : Int32) (s : St) : Option (Int32) :=
  F_X12_lacksKind_2 v1 0 s
theorem J_X12_lacksKind : mj_t 4 24 = 28 ∧ mj_t 17 5 = 22 ∧ mj_t 25 (-23) = 2 ∧ (0 ≤ ((4 : Nat) : Int) + 24) = True ∧ (0 ≤ ((17 : Nat) : Int) + 5) = True ∧ (0 ≤ ((25 : Nat) : Int) + (-23)) = True := by and_intros <;> first | rfl | exact eq_true (by decide)
set_option maxHeartbeats 4000000 in
set_option maxRecDepth 20000 in
theorem b_X12_lacksKind_2 {k : Option Value → mj_H → Prop} {G : mj_K} (hG : mj_cl2 cX12_lacksKind (TbX12 3 ((some FieldType.int)) []) k G) {v1 : Int32} {s : St} {P : Int32 → Prop} {K : (Unit) ⊕ (Int32) → Prop} (hP : ∀ x, P x → G 2 [.ref 0, .int v1, .int x] [] (mkMs s) 0 0) (hK0 : ∀ y, K (.inl y) → G 28 [] [] (mkMs s) 0 0) (hK1 : ∀ y, K (.inr y) → G 20 [mj_unk, mj_unk, .int y] [] (mkMs s) 0 0) {v2 : Int32} (hw : ok (B_X12_lacksKind_2 v1 s v2) (Sum.elim P K)) : G 2 [.ref 0, .int v1, .int v2] [] (mkMs s) 0 0 := by
  unfold B_X12_lacksKind_2 at hw
  refine mj_run hG.1 (fun pc => pc == 2 || pc == 20 || pc == 28) 4000 ?_
  simp only [mj_step, mj_W_s, mj_fin, List.getElem?_cons_zero, List.getElem?_cons_succ, mj_go, Nat.reduceAdd, Nat.reduceSub, Nat.reduceLT, Nat.reduceLeDiff, Nat.zero_add, Nat.reduceEqDiff, Nat.reduceBEq, ↓reduceIte, Bool.false_eq_true, List.append_nil, List.nil_append, List.cons_append, Option.toList, and_true, true_and, true_or, or_true, reduceCtorEq, List.map_nil, bI_eq0, bI_eq1, bool_ft, pk_us, vnar0, vnar1, Bool.or_false, Bool.or_true, Bool.false_or, Bool.true_or, mj_kne, eq_self, Int32.reduceLT, Int32.reduceLE, Int32.reduceAdd, Int32.reduceSub, Int32.reduceMul, not_true_eq_false, not_false_eq_true, false_implies, true_implies, D_X12_lacksKind, mj_F_aload_n_k, mj_F_getfield_i, mj_F_goto_off, mj_F_iadd, mj_F_iaload, mj_F_iconst_n, mj_F_ifCond_le_off, mj_F_if_icmp_ge_off, mj_F_iinc_k_n, mj_F_iload_n_k, mj_F_imul, mj_F_ireturn, mj_F_istore_n_k, mj_set, mj_set0, mj_unk, mj_c2, mj_kc, FT_X12, FT_X12_1, gS_M0, gMf_22, gS_M20, sS_Ma_20, J_X12_lacksKind]
  refine ⟨fun c => ?_, fun c => ?_⟩
  · replace hw := ok_t hw c
    exact hG.2 _ _ _ _ _ _ _ _ _ (by exact trivial) (Nat.zero_le _) (Nat.zero_le _) (hK0 _ (ok_some hw :) :)
  · replace hw := ok_f hw c
    refine ⟨(ok_rd hw).1, ?_⟩
    replace hw := (ok_rd hw).2
    refine ⟨fun c => ?_, fun c => ?_⟩
    · replace hw := ok_t hw c
      exact hG.2 _ _ _ _ _ _ _ _ _ (by refine ⟨Or.inr rfl, ?_⟩; refine ⟨Or.inr rfl, ?_⟩; refine ⟨Or.inr rfl, ?_⟩; exact trivial) (Nat.zero_le _) (Nat.zero_le _) (hP _ (ok_some hw :) :)
    · replace hw := ok_f hw c
      exact hG.2 _ _ _ _ _ _ _ _ _ (by refine ⟨Or.inl rfl, ?_⟩; refine ⟨Or.inl rfl, ?_⟩; refine ⟨Or.inr rfl, ?_⟩; exact trivial) (Nat.zero_le _) (Nat.zero_le _) (hK1 _ (ok_some hw :) :)

set_option maxHeartbeats 4000000 in
set_option maxRecDepth 20000 in
theorem g_X12_lacksKind_28 {k : Option Value → mj_H → Prop} {G : mj_K} (hG : mj_cl2 cX12_lacksKind (TbX12 3 ((some FieldType.int)) []) k G)   {s : St} (hw : ok (F_X12_lacksKind_28 s) (fun p => k (some (.int p)) (mkMs s))) : G 28 [] [] (mkMs s) 0 0 := by
  unfold F_X12_lacksKind_28 at hw
  refine mj_run hG.1 (fun pc => pc == 2 || pc == 20 || pc == 28) 4000 ?_
  simp only [mj_step, mj_W_s, mj_fin, List.getElem?_cons_zero, List.getElem?_cons_succ, mj_go, Nat.reduceAdd, Nat.reduceSub, Nat.reduceLT, Nat.reduceLeDiff, Nat.zero_add, Nat.reduceEqDiff, Nat.reduceBEq, ↓reduceIte, Bool.false_eq_true, List.append_nil, List.nil_append, List.cons_append, Option.toList, and_true, true_and, true_or, or_true, reduceCtorEq, List.map_nil, bI_eq0, bI_eq1, bool_ft, pk_us, vnar0, vnar1, Bool.or_false, Bool.or_true, Bool.false_or, Bool.true_or, mj_kne, eq_self, Int32.reduceLT, Int32.reduceLE, Int32.reduceAdd, Int32.reduceSub, Int32.reduceMul, not_true_eq_false, not_false_eq_true, false_implies, true_implies, D_X12_lacksKind, mj_F_aload_n_k, mj_F_getfield_i, mj_F_goto_off, mj_F_iadd, mj_F_iaload, mj_F_iconst_n, mj_F_ifCond_le_off, mj_F_if_icmp_ge_off, mj_F_iinc_k_n, mj_F_iload_n_k, mj_F_imul, mj_F_ireturn, mj_F_istore_n_k, mj_set, mj_set0, mj_unk, mj_c2, mj_kc, FT_X12, FT_X12_1, gS_M0, gMf_22, gS_M20, sS_Ma_20, J_X12_lacksKind]
  exact (ok_some hw :)

set_option maxHeartbeats 4000000 in
set_option maxRecDepth 20000 in
theorem g_X12_lacksKind_20 {k : Option Value → mj_H → Prop} {G : mj_K} (hG : mj_cl2 cX12_lacksKind (TbX12 3 ((some FieldType.int)) []) k G)   {v2 : Int32} {s : St} (hw : ok (F_X12_lacksKind_20 v2 s) (fun p => k (some (.int p)) (mkMs s))) : G 20 [mj_unk, mj_unk, .int v2] [] (mkMs s) 0 0 := by
  unfold F_X12_lacksKind_20 at hw
  refine mj_run hG.1 (fun pc => pc == 2 || pc == 20 || pc == 28) 4000 ?_
  simp only [mj_step, mj_W_s, mj_fin, List.getElem?_cons_zero, List.getElem?_cons_succ, mj_go, Nat.reduceAdd, Nat.reduceSub, Nat.reduceLT, Nat.reduceLeDiff, Nat.zero_add, Nat.reduceEqDiff, Nat.reduceBEq, ↓reduceIte, Bool.false_eq_true, List.append_nil, List.nil_append, List.cons_append, Option.toList, and_true, true_and, true_or, or_true, reduceCtorEq, List.map_nil, bI_eq0, bI_eq1, bool_ft, pk_us, vnar0, vnar1, Bool.or_false, Bool.or_true, Bool.false_or, Bool.true_or, mj_kne, eq_self, Int32.reduceLT, Int32.reduceLE, Int32.reduceAdd, Int32.reduceSub, Int32.reduceMul, not_true_eq_false, not_false_eq_true, false_implies, true_implies, D_X12_lacksKind, mj_F_aload_n_k, mj_F_getfield_i, mj_F_goto_off, mj_F_iadd, mj_F_iaload, mj_F_iconst_n, mj_F_ifCond_le_off, mj_F_if_icmp_ge_off, mj_F_iinc_k_n, mj_F_iload_n_k, mj_F_imul, mj_F_ireturn, mj_F_istore_n_k, mj_set, mj_set0, mj_unk, mj_c2, mj_kc, FT_X12, FT_X12_1, gS_M0, gMf_22, gS_M20, sS_Ma_20, J_X12_lacksKind]
  exact (ok_some hw :)

set_option maxHeartbeats 4000000 in
theorem g_X12_lacksKind_2 {k : Option Value → mj_H → Prop} {G : mj_K} (hG : mj_cl2 cX12_lacksKind (TbX12 3 ((some FieldType.int)) []) k G)   {v1 : Int32} {v2 : Int32} {s : St} (hw : ok (F_X12_lacksKind_2 v1 v2 s) (fun p => k (some (.int p)) (mkMs s))) : G 2 [.ref 0, .int v1, .int v2] [] (mkMs s) 0 0 := by
  unfold F_X12_lacksKind_2 at hw
  refine lp_ok (B_X12_lacksKind_2 v1 s) (fun x => G 2 [.ref 0, .int v1, .int x] [] (mkMs s) 0 0) _ ?_ _ _ (ok_bind hw)
  rintro v2 hb
  exact b_X12_lacksKind_2 hG (fun _ z => z) (fun y hw => by exact hG.2 _ _ _ _ _ _ _ _ _ (by exact trivial) (Nat.zero_le _) (Nat.zero_le _) (g_X12_lacksKind_28 hG  hw :)) (fun y hw => by exact hG.2 _ _ _ _ _ _ _ _ _ (by refine ⟨Or.inl rfl, ?_⟩; refine ⟨Or.inl rfl, ?_⟩; refine ⟨Or.inr rfl, ?_⟩; exact trivial) (Nat.zero_le _) (Nat.zero_le _) (g_X12_lacksKind_20 hG  hw :)) hb

set_option maxHeartbeats 4000000 in
set_option maxRecDepth 20000 in
theorem g_X12_lacksKind {k : Option Value → mj_H → Prop} {G : mj_K} (hG : mj_cl2 cX12_lacksKind (TbX12 3 ((some FieldType.int)) []) k G) {v1 : Int32} {s : St} (hw : ok (F_X12_lacksKind v1 s) (fun p => k (some (.int p)) (mkMs s))) : G 0 [.ref 0, .int v1] [] (mkMs s) 0 0 := by
  unfold F_X12_lacksKind at hw
  refine mj_run hG.1 (fun pc => pc == 2 || pc == 20 || pc == 28) 4000 ?_
  simp only [mj_step, mj_W_s, mj_fin, List.getElem?_cons_zero, List.getElem?_cons_succ, mj_go, Nat.reduceAdd, Nat.reduceSub, Nat.reduceLT, Nat.reduceLeDiff, Nat.zero_add, Nat.reduceEqDiff, Nat.reduceBEq, ↓reduceIte, Bool.false_eq_true, List.append_nil, List.nil_append, List.cons_append, Option.toList, and_true, true_and, true_or, or_true, reduceCtorEq, List.map_nil, bI_eq0, bI_eq1, bool_ft, pk_us, vnar0, vnar1, Bool.or_false, Bool.or_true, Bool.false_or, Bool.true_or, mj_kne, eq_self, Int32.reduceLT, Int32.reduceLE, Int32.reduceAdd, Int32.reduceSub, Int32.reduceMul, not_true_eq_false, not_false_eq_true, false_implies, true_implies, D_X12_lacksKind, mj_F_aload_n_k, mj_F_getfield_i, mj_F_goto_off, mj_F_iadd, mj_F_iaload, mj_F_iconst_n, mj_F_ifCond_le_off, mj_F_if_icmp_ge_off, mj_F_iinc_k_n, mj_F_iload_n_k, mj_F_imul, mj_F_ireturn, mj_F_istore_n_k, mj_set, mj_set0, mj_unk, mj_c2, mj_kc, FT_X12, FT_X12_1, gS_M0, gMf_22, gS_M20, sS_Ma_20, J_X12_lacksKind]
  exact hG.2 _ _ _ _ _ _ _ _ _ (by refine ⟨Or.inr rfl, ?_⟩; refine ⟨Or.inr rfl, ?_⟩; refine ⟨Or.inr rfl, ?_⟩; exact trivial) (Nat.zero_le _) (Nat.zero_le _) (g_X12_lacksKind_2 hG  hw :)

def c_X12_lacksKind : mj_S := fun as h k => ∃ (v1 : Int32) (s : St), as = [.ref 0, .int v1] ∧ h = mkMs s ∧ ok (F_X12_lacksKind v1 s) (fun p => k (some (.int p)) (mkMs s))
theorem c_X12_lacksKind_in {v1 : Int32} {s : St} {k : Option Value → mj_H → Prop} (hw : ok (F_X12_lacksKind v1 s) (fun p => k (some (.int p)) (mkMs s))) : c_X12_lacksKind [.ref 0, .int v1] (mkMs s) k := ⟨v1, s, rfl, rfl, hw⟩
theorem m_X12_lacksKind (l : Launch) : mj_Met l yX12_lacksKind cX12_lacksKind 3 ((some FieldType.int)) 0 0 0 c_X12_lacksKind := by
  refine mj_body2 false (TbX12 3 ((some FieldType.int)) []) (by decide) rfl rfl (fun h => nomatch h) (tfX12 _ (fun _ h => nomatch h)) ?_
  rintro as h k ⟨v1, s, rfl, rfl, hw⟩
  exact ⟨rfl, fun G hG => g_X12_lacksKind hG hw⟩
def B_X12_isGiven_10 (v1 : Int32) (v2 : Int32) : Int32 × St → Option ((Int32 × St) ⊕ ((St) ⊕ (St)))
  | (v3, s) =>
  if (s.1 1212) ≤ v3 then
    some (.inr (.inl s))
  else
    (rd s 1265 20 v1).bind fun x1 =>
    if ((x1 >>> (v3 &&& 31)) &&& 1) = 0 then
      some (.inl ((v3 + 1), s))
    else
      (rd s 1205 24 v3).bind fun x2 =>
      (F_X12_children v3 v2 (s.1 1200) s).bind fun r3 =>
      (rd s 1206 24 v3).bind fun x4 =>
      (F_X12_tell v2 x2 r3 x4 0 0 s).bind fun s5 =>
      (rd s5 1266 480 ((20 * v3) + v1)).bind fun x6 =>
      (rd s5 1205 24 v3).bind fun x7 =>
      (F_X12_worthOf x7 v2 (s5.1 1200) 118 s5).bind fun r8 =>
      if r8.1 ≤ x6 then
        some (.inl ((v3 + 1), r8.2))
      else
        some (.inr (.inr r8.2))
def F_X12_isGiven_102 (s : St) : Option (Int32 × St) :=
  some (1, s)
def F_X12_isGiven_94 (s : St) : Option (Int32 × St) :=
  some (0, s)
def F_X12_isGiven_10 (v1 : Int32) (v2 : Int32) (v3 : Int32) (s : St) : Option (Int32 × St) :=
  (lp (B_X12_isGiven_10 v1 v2) FU (v3, s)).bind (Sum.elim (fun y => F_X12_isGiven_102 y) (fun y => F_X12_isGiven_94 y))
def F_X12_isGiven (v1 : Int32) (s : St) : Option (Int32 × St) :=
  F_X12_isGiven_10 v1 ((s.1 1200) / 52) 0 s
theorem J_X12_isGiven : mj_t 15 87 = 102 ∧ mj_t 28 6 = 34 ∧ mj_t 31 65 = 96 ∧ mj_t 91 5 = 96 ∧ mj_t 99 (-89) = 10 ∧ (0 ≤ ((15 : Nat) : Int) + 87) = True ∧ (0 ≤ ((28 : Nat) : Int) + 6) = True ∧ (0 ≤ ((31 : Nat) : Int) + 65) = True ∧ (0 ≤ ((91 : Nat) : Int) + 5) = True ∧ (0 ≤ ((99 : Nat) : Int) + (-89)) = True := by and_intros <;> first | rfl | exact eq_true (by decide)
def ct_X12_isGiven : List (Nat × mj_Cs) := [(426, 0, 7, 12, 0, 0, c_X12_tell), (430, 0, 5, 12, 0, 0, c_X12_worthOf), (444, 2, 1, 12, 0, 0, c_yearOf), (463, 0, 4, 12, 0, 0, c_X12_children)]
theorem L_X12_isGiven : mj_lk ct_X12_isGiven 426 = some (0, 7, 12, 0, 0, c_X12_tell) ∧ mj_lk ct_X12_isGiven 430 = some (0, 5, 12, 0, 0, c_X12_worthOf) ∧ mj_lk ct_X12_isGiven 444 = some (2, 1, 12, 0, 0, c_yearOf) ∧ mj_lk ct_X12_isGiven 463 = some (0, 4, 12, 0, 0, c_X12_children) := ⟨rfl, rfl, rfl, rfl⟩
set_option maxHeartbeats 4000000 in
set_option maxRecDepth 20000 in
theorem b_X12_isGiven_10 {k : Option Value → mj_H → Prop} {G : mj_K} (hG : mj_cl2 cX12_isGiven (TbX12 4 ((some FieldType.boolean)) ct_X12_isGiven) k G) {v1 : Int32} {v2 : Int32} {P : Int32 × St → Prop} {K : (St) ⊕ (St) → Prop} (hP : ∀ x, P x → G 10 [.ref 0, .int v1, .int v2, .int x.1] [] (mkMs x.2) 0 0) (hK0 : ∀ y, K (.inl y) → G 102 [] [] (mkMs y) 0 0) (hK1 : ∀ y, K (.inr y) → G 94 [] [] (mkMs y) 0 0) {v3 : Int32} {s : St} (hw : ok (B_X12_isGiven_10 v1 v2 (v3, s)) (Sum.elim P K)) : G 10 [.ref 0, .int v1, .int v2, .int v3] [] (mkMs s) 0 0 := by
  unfold B_X12_isGiven_10 at hw
  refine mj_run hG.1 (fun pc => pc == 10 || pc == 52 || pc == 63 || pc == 91 || pc == 94 || pc == 102) 4000 ?_
  simp only [mj_step, mj_W_s, mj_fin, List.getElem?_cons_zero, List.getElem?_cons_succ, mj_go, Nat.reduceAdd, Nat.reduceSub, Nat.reduceLT, Nat.reduceLeDiff, Nat.zero_add, Nat.reduceEqDiff, Nat.reduceBEq, ↓reduceIte, Bool.false_eq_true, List.append_nil, List.nil_append, List.cons_append, Option.toList, and_true, true_and, true_or, or_true, reduceCtorEq, List.map_nil, bI_eq0, bI_eq1, bool_ft, pk_us, vnar0, vnar1, Bool.or_false, Bool.or_true, Bool.false_or, Bool.true_or, mj_kne, eq_self, Int32.reduceLT, Int32.reduceLE, Int32.reduceAdd, Int32.reduceSub, Int32.reduceMul, not_true_eq_false, not_false_eq_true, false_implies, true_implies, D_X12_isGiven_0, D_X12_isGiven_1, mj_F_aload_n_k, mj_F_bipush_n, mj_F_getfield_i, mj_F_goto_off, mj_F_iadd, mj_F_iaload, mj_F_iand, mj_F_iconst_n, mj_F_ifCond_ne_off, mj_F_if_icmp_ge_off, mj_F_iinc_k_n, mj_F_iload_n_k, mj_F_imul, mj_F_invokestatic_i, mj_F_invokevirtual_i, mj_F_ireturn, mj_F_ishr, mj_F_istore_n_k, mj_set, mj_set0, mj_unk, mj_c2, mj_kc, FT_X12, FT_X12_1, L_X12_isGiven, List.take_succ_cons, List.take_zero, List.drop_succ_cons, List.drop_zero, List.reverse_cons, List.reverse_nil, List.length_cons, List.length_nil, gS_M0, gMf_0, gMf_12, gMf_65, gS_M50, sS_Ma_50, gMf_5, gS_M5, sS_Ma_5, gMf_6, gS_M6, sS_Ma_6, gMf_66, gS_M51, sS_Ma_51, c_yearOf_eq, J_X12_isGiven]
  refine ⟨fun c => ?_, fun c => ?_⟩
  · replace hw := ok_t hw c
    exact hG.2 _ _ _ _ _ _ _ _ _ (by exact trivial) (Nat.zero_le _) (Nat.zero_le _) (hK0 _ (ok_some hw :) :)
  · replace hw := ok_f hw c
    refine ⟨(ok_rd hw).1, ?_⟩
    replace hw := (ok_rd hw).2
    refine ⟨fun c => ?_, fun c => ?_⟩
    · replace hw := ok_f hw c
      refine ⟨(ok_rd hw).1, ?_⟩
      replace hw := (ok_rd hw).2
      refine c_X12_children_in (ok_imp (ok_bind hw) ?_)
      intro p hw
      simp only [Option.toList, List.nil_append, List.cons_append, Nat.reduceSub]
      refine mj_run hG.1 (fun pc => pc == 10 || pc == 52 || pc == 63 || pc == 91 || pc == 94 || pc == 102) 4000 ?_
      simp only [mj_step, mj_W_s, mj_fin, List.getElem?_cons_zero, List.getElem?_cons_succ, mj_go, Nat.reduceAdd, Nat.reduceSub, Nat.reduceLT, Nat.reduceLeDiff, Nat.zero_add, Nat.reduceEqDiff, Nat.reduceBEq, ↓reduceIte, Bool.false_eq_true, List.append_nil, List.nil_append, List.cons_append, Option.toList, and_true, true_and, true_or, or_true, reduceCtorEq, List.map_nil, bI_eq0, bI_eq1, bool_ft, pk_us, vnar0, vnar1, Bool.or_false, Bool.or_true, Bool.false_or, Bool.true_or, mj_kne, eq_self, Int32.reduceLT, Int32.reduceLE, Int32.reduceAdd, Int32.reduceSub, Int32.reduceMul, not_true_eq_false, not_false_eq_true, false_implies, true_implies, D_X12_isGiven_0, D_X12_isGiven_1, mj_F_aload_n_k, mj_F_bipush_n, mj_F_getfield_i, mj_F_goto_off, mj_F_iadd, mj_F_iaload, mj_F_iand, mj_F_iconst_n, mj_F_ifCond_ne_off, mj_F_if_icmp_ge_off, mj_F_iinc_k_n, mj_F_iload_n_k, mj_F_imul, mj_F_invokestatic_i, mj_F_invokevirtual_i, mj_F_ireturn, mj_F_ishr, mj_F_istore_n_k, mj_set, mj_set0, mj_unk, mj_c2, mj_kc, FT_X12, FT_X12_1, L_X12_isGiven, List.take_succ_cons, List.take_zero, List.drop_succ_cons, List.drop_zero, List.reverse_cons, List.reverse_nil, List.length_cons, List.length_nil, gS_M0, gMf_0, gMf_12, gMf_65, gS_M50, sS_Ma_50, gMf_5, gS_M5, sS_Ma_5, gMf_6, gS_M6, sS_Ma_6, gMf_66, gS_M51, sS_Ma_51, c_yearOf_eq, J_X12_isGiven]
      refine ⟨(ok_rd hw).1, ?_⟩
      replace hw := (ok_rd hw).2
      refine c_X12_tell_in (ok_imp (ok_bind hw) ?_)
      intro p hw
      simp only [Option.toList, List.nil_append, List.cons_append, Nat.reduceSub]
      refine mj_run hG.1 (fun pc => pc == 10 || pc == 52 || pc == 63 || pc == 91 || pc == 94 || pc == 102) 4000 ?_
      simp only [mj_step, mj_W_s, mj_fin, List.getElem?_cons_zero, List.getElem?_cons_succ, mj_go, Nat.reduceAdd, Nat.reduceSub, Nat.reduceLT, Nat.reduceLeDiff, Nat.zero_add, Nat.reduceEqDiff, Nat.reduceBEq, ↓reduceIte, Bool.false_eq_true, List.append_nil, List.nil_append, List.cons_append, Option.toList, and_true, true_and, true_or, or_true, reduceCtorEq, List.map_nil, bI_eq0, bI_eq1, bool_ft, pk_us, vnar0, vnar1, Bool.or_false, Bool.or_true, Bool.false_or, Bool.true_or, mj_kne, eq_self, Int32.reduceLT, Int32.reduceLE, Int32.reduceAdd, Int32.reduceSub, Int32.reduceMul, not_true_eq_false, not_false_eq_true, false_implies, true_implies, D_X12_isGiven_0, D_X12_isGiven_1, mj_F_aload_n_k, mj_F_bipush_n, mj_F_getfield_i, mj_F_goto_off, mj_F_iadd, mj_F_iaload, mj_F_iand, mj_F_iconst_n, mj_F_ifCond_ne_off, mj_F_if_icmp_ge_off, mj_F_iinc_k_n, mj_F_iload_n_k, mj_F_imul, mj_F_invokestatic_i, mj_F_invokevirtual_i, mj_F_ireturn, mj_F_ishr, mj_F_istore_n_k, mj_set, mj_set0, mj_unk, mj_c2, mj_kc, FT_X12, FT_X12_1, L_X12_isGiven, List.take_succ_cons, List.take_zero, List.drop_succ_cons, List.drop_zero, List.reverse_cons, List.reverse_nil, List.length_cons, List.length_nil, gS_M0, gMf_0, gMf_12, gMf_65, gS_M50, sS_Ma_50, gMf_5, gS_M5, sS_Ma_5, gMf_6, gS_M6, sS_Ma_6, gMf_66, gS_M51, sS_Ma_51, c_yearOf_eq, J_X12_isGiven]
      refine ⟨(ok_rd hw).1, ?_⟩
      replace hw := (ok_rd hw).2
      refine ⟨(ok_rd hw).1, ?_⟩
      replace hw := (ok_rd hw).2
      refine c_X12_worthOf_in (ok_imp (ok_bind hw) ?_)
      intro p hw
      simp only [Option.toList, List.nil_append, List.cons_append, Nat.reduceSub]
      refine mj_run hG.1 (fun pc => pc == 10 || pc == 52 || pc == 63 || pc == 91 || pc == 94 || pc == 102) 4000 ?_
      simp only [mj_step, mj_W_s, mj_fin, List.getElem?_cons_zero, List.getElem?_cons_succ, mj_go, Nat.reduceAdd, Nat.reduceSub, Nat.reduceLT, Nat.reduceLeDiff, Nat.zero_add, Nat.reduceEqDiff, Nat.reduceBEq, ↓reduceIte, Bool.false_eq_true, List.append_nil, List.nil_append, List.cons_append, Option.toList, and_true, true_and, true_or, or_true, reduceCtorEq, List.map_nil, bI_eq0, bI_eq1, bool_ft, pk_us, vnar0, vnar1, Bool.or_false, Bool.or_true, Bool.false_or, Bool.true_or, mj_kne, eq_self, Int32.reduceLT, Int32.reduceLE, Int32.reduceAdd, Int32.reduceSub, Int32.reduceMul, not_true_eq_false, not_false_eq_true, false_implies, true_implies, D_X12_isGiven_0, D_X12_isGiven_1, mj_F_aload_n_k, mj_F_bipush_n, mj_F_getfield_i, mj_F_goto_off, mj_F_iadd, mj_F_iaload, mj_F_iand, mj_F_iconst_n, mj_F_ifCond_ne_off, mj_F_if_icmp_ge_off, mj_F_iinc_k_n, mj_F_iload_n_k, mj_F_imul, mj_F_invokestatic_i, mj_F_invokevirtual_i, mj_F_ireturn, mj_F_ishr, mj_F_istore_n_k, mj_set, mj_set0, mj_unk, mj_c2, mj_kc, FT_X12, FT_X12_1, L_X12_isGiven, List.take_succ_cons, List.take_zero, List.drop_succ_cons, List.drop_zero, List.reverse_cons, List.reverse_nil, List.length_cons, List.length_nil, gS_M0, gMf_0, gMf_12, gMf_65, gS_M50, sS_Ma_50, gMf_5, gS_M5, sS_Ma_5, gMf_6, gS_M6, sS_Ma_6, gMf_66, gS_M51, sS_Ma_51, c_yearOf_eq, J_X12_isGiven]
      refine ⟨fun c => ?_, fun c => ?_⟩
      · replace hw := ok_t hw c
        exact hG.2 _ _ _ _ _ _ _ _ _ (by refine ⟨Or.inr rfl, ?_⟩; refine ⟨Or.inr rfl, ?_⟩; refine ⟨Or.inr rfl, ?_⟩; refine ⟨Or.inr rfl, ?_⟩; exact trivial) (Nat.zero_le _) (Nat.zero_le _) (hP _ (ok_some hw :) :)
      · replace hw := ok_f hw c
        exact hG.2 _ _ _ _ _ _ _ _ _ (by exact trivial) (Nat.zero_le _) (Nat.zero_le _) (hK1 _ (ok_some hw :) :)
    · replace hw := ok_t hw c
      exact hG.2 _ _ _ _ _ _ _ _ _ (by refine ⟨Or.inr rfl, ?_⟩; refine ⟨Or.inr rfl, ?_⟩; refine ⟨Or.inr rfl, ?_⟩; refine ⟨Or.inr rfl, ?_⟩; exact trivial) (Nat.zero_le _) (Nat.zero_le _) (hP _ (ok_some hw :) :)

set_option maxHeartbeats 4000000 in
set_option maxRecDepth 20000 in
theorem g_X12_isGiven_102 {k : Option Value → mj_H → Prop} {G : mj_K} (hG : mj_cl2 cX12_isGiven (TbX12 4 ((some FieldType.boolean)) ct_X12_isGiven) k G)   {s : St} (hw : ok (F_X12_isGiven_102 s) (fun p => k (some (.int p.1)) (mkMs p.2))) : G 102 [] [] (mkMs s) 0 0 := by
  unfold F_X12_isGiven_102 at hw
  refine mj_run hG.1 (fun pc => pc == 10 || pc == 52 || pc == 63 || pc == 91 || pc == 94 || pc == 102) 4000 ?_
  simp only [mj_step, mj_W_s, mj_fin, List.getElem?_cons_zero, List.getElem?_cons_succ, mj_go, Nat.reduceAdd, Nat.reduceSub, Nat.reduceLT, Nat.reduceLeDiff, Nat.zero_add, Nat.reduceEqDiff, Nat.reduceBEq, ↓reduceIte, Bool.false_eq_true, List.append_nil, List.nil_append, List.cons_append, Option.toList, and_true, true_and, true_or, or_true, reduceCtorEq, List.map_nil, bI_eq0, bI_eq1, bool_ft, pk_us, vnar0, vnar1, Bool.or_false, Bool.or_true, Bool.false_or, Bool.true_or, mj_kne, eq_self, Int32.reduceLT, Int32.reduceLE, Int32.reduceAdd, Int32.reduceSub, Int32.reduceMul, not_true_eq_false, not_false_eq_true, false_implies, true_implies, D_X12_isGiven_0, D_X12_isGiven_1, mj_F_aload_n_k, mj_F_bipush_n, mj_F_getfield_i, mj_F_goto_off, mj_F_iadd, mj_F_iaload, mj_F_iand, mj_F_iconst_n, mj_F_ifCond_ne_off, mj_F_if_icmp_ge_off, mj_F_iinc_k_n, mj_F_iload_n_k, mj_F_imul, mj_F_invokestatic_i, mj_F_invokevirtual_i, mj_F_ireturn, mj_F_ishr, mj_F_istore_n_k, mj_set, mj_set0, mj_unk, mj_c2, mj_kc, FT_X12, FT_X12_1, L_X12_isGiven, List.take_succ_cons, List.take_zero, List.drop_succ_cons, List.drop_zero, List.reverse_cons, List.reverse_nil, List.length_cons, List.length_nil, gS_M0, gMf_0, gMf_12, gMf_65, gS_M50, sS_Ma_50, gMf_5, gS_M5, sS_Ma_5, gMf_6, gS_M6, sS_Ma_6, gMf_66, gS_M51, sS_Ma_51, c_yearOf_eq, J_X12_isGiven]
  exact (ok_some hw :)

set_option maxHeartbeats 4000000 in
set_option maxRecDepth 20000 in
theorem g_X12_isGiven_94 {k : Option Value → mj_H → Prop} {G : mj_K} (hG : mj_cl2 cX12_isGiven (TbX12 4 ((some FieldType.boolean)) ct_X12_isGiven) k G)   {s : St} (hw : ok (F_X12_isGiven_94 s) (fun p => k (some (.int p.1)) (mkMs p.2))) : G 94 [] [] (mkMs s) 0 0 := by
  unfold F_X12_isGiven_94 at hw
  refine mj_run hG.1 (fun pc => pc == 10 || pc == 52 || pc == 63 || pc == 91 || pc == 94 || pc == 102) 4000 ?_
  simp only [mj_step, mj_W_s, mj_fin, List.getElem?_cons_zero, List.getElem?_cons_succ, mj_go, Nat.reduceAdd, Nat.reduceSub, Nat.reduceLT, Nat.reduceLeDiff, Nat.zero_add, Nat.reduceEqDiff, Nat.reduceBEq, ↓reduceIte, Bool.false_eq_true, List.append_nil, List.nil_append, List.cons_append, Option.toList, and_true, true_and, true_or, or_true, reduceCtorEq, List.map_nil, bI_eq0, bI_eq1, bool_ft, pk_us, vnar0, vnar1, Bool.or_false, Bool.or_true, Bool.false_or, Bool.true_or, mj_kne, eq_self, Int32.reduceLT, Int32.reduceLE, Int32.reduceAdd, Int32.reduceSub, Int32.reduceMul, not_true_eq_false, not_false_eq_true, false_implies, true_implies, D_X12_isGiven_0, D_X12_isGiven_1, mj_F_aload_n_k, mj_F_bipush_n, mj_F_getfield_i, mj_F_goto_off, mj_F_iadd, mj_F_iaload, mj_F_iand, mj_F_iconst_n, mj_F_ifCond_ne_off, mj_F_if_icmp_ge_off, mj_F_iinc_k_n, mj_F_iload_n_k, mj_F_imul, mj_F_invokestatic_i, mj_F_invokevirtual_i, mj_F_ireturn, mj_F_ishr, mj_F_istore_n_k, mj_set, mj_set0, mj_unk, mj_c2, mj_kc, FT_X12, FT_X12_1, L_X12_isGiven, List.take_succ_cons, List.take_zero, List.drop_succ_cons, List.drop_zero, List.reverse_cons, List.reverse_nil, List.length_cons, List.length_nil, gS_M0, gMf_0, gMf_12, gMf_65, gS_M50, sS_Ma_50, gMf_5, gS_M5, sS_Ma_5, gMf_6, gS_M6, sS_Ma_6, gMf_66, gS_M51, sS_Ma_51, c_yearOf_eq, J_X12_isGiven]
  exact (ok_some hw :)

set_option maxHeartbeats 4000000 in
theorem g_X12_isGiven_10 {k : Option Value → mj_H → Prop} {G : mj_K} (hG : mj_cl2 cX12_isGiven (TbX12 4 ((some FieldType.boolean)) ct_X12_isGiven) k G)   {v1 : Int32} {v2 : Int32} {v3 : Int32} {s : St} (hw : ok (F_X12_isGiven_10 v1 v2 v3 s) (fun p => k (some (.int p.1)) (mkMs p.2))) : G 10 [.ref 0, .int v1, .int v2, .int v3] [] (mkMs s) 0 0 := by
  unfold F_X12_isGiven_10 at hw
  refine lp_ok (B_X12_isGiven_10 v1 v2) (fun x => G 10 [.ref 0, .int v1, .int v2, .int x.1] [] (mkMs x.2) 0 0) _ ?_ _ _ (ok_bind hw)
  rintro ⟨v3, s⟩ hb
  exact b_X12_isGiven_10 hG (fun _ z => z) (fun y hw => by exact hG.2 _ _ _ _ _ _ _ _ _ (by exact trivial) (Nat.zero_le _) (Nat.zero_le _) (g_X12_isGiven_102 hG  hw :)) (fun y hw => by exact hG.2 _ _ _ _ _ _ _ _ _ (by exact trivial) (Nat.zero_le _) (Nat.zero_le _) (g_X12_isGiven_94 hG  hw :)) hb

set_option maxHeartbeats 4000000 in
set_option maxRecDepth 20000 in
theorem g_X12_isGiven {k : Option Value → mj_H → Prop} {G : mj_K} (hG : mj_cl2 cX12_isGiven (TbX12 4 ((some FieldType.boolean)) ct_X12_isGiven) k G) {v1 : Int32} {s : St} (hw : ok (F_X12_isGiven v1 s) (fun p => k (some (.int p.1)) (mkMs p.2))) : G 0 [.ref 0, .int v1] [] (mkMs s) 0 0 := by
  unfold F_X12_isGiven at hw
  refine mj_run hG.1 (fun pc => pc == 10 || pc == 52 || pc == 63 || pc == 91 || pc == 94 || pc == 102) 4000 ?_
  simp only [mj_step, mj_W_s, mj_fin, List.getElem?_cons_zero, List.getElem?_cons_succ, mj_go, Nat.reduceAdd, Nat.reduceSub, Nat.reduceLT, Nat.reduceLeDiff, Nat.zero_add, Nat.reduceEqDiff, Nat.reduceBEq, ↓reduceIte, Bool.false_eq_true, List.append_nil, List.nil_append, List.cons_append, Option.toList, and_true, true_and, true_or, or_true, reduceCtorEq, List.map_nil, bI_eq0, bI_eq1, bool_ft, pk_us, vnar0, vnar1, Bool.or_false, Bool.or_true, Bool.false_or, Bool.true_or, mj_kne, eq_self, Int32.reduceLT, Int32.reduceLE, Int32.reduceAdd, Int32.reduceSub, Int32.reduceMul, not_true_eq_false, not_false_eq_true, false_implies, true_implies, D_X12_isGiven_0, D_X12_isGiven_1, mj_F_aload_n_k, mj_F_bipush_n, mj_F_getfield_i, mj_F_goto_off, mj_F_iadd, mj_F_iaload, mj_F_iand, mj_F_iconst_n, mj_F_ifCond_ne_off, mj_F_if_icmp_ge_off, mj_F_iinc_k_n, mj_F_iload_n_k, mj_F_imul, mj_F_invokestatic_i, mj_F_invokevirtual_i, mj_F_ireturn, mj_F_ishr, mj_F_istore_n_k, mj_set, mj_set0, mj_unk, mj_c2, mj_kc, FT_X12, FT_X12_1, L_X12_isGiven, List.take_succ_cons, List.take_zero, List.drop_succ_cons, List.drop_zero, List.reverse_cons, List.reverse_nil, List.length_cons, List.length_nil, gS_M0, gMf_0, gMf_12, gMf_65, gS_M50, sS_Ma_50, gMf_5, gS_M5, sS_Ma_5, gMf_6, gS_M6, sS_Ma_6, gMf_66, gS_M51, sS_Ma_51, c_yearOf_eq, J_X12_isGiven]
  exact hG.2 _ _ _ _ _ _ _ _ _ (by refine ⟨Or.inr rfl, ?_⟩; refine ⟨Or.inr rfl, ?_⟩; refine ⟨Or.inr rfl, ?_⟩; refine ⟨Or.inr rfl, ?_⟩; exact trivial) (Nat.zero_le _) (Nat.zero_le _) (g_X12_isGiven_10 hG  hw :)

def c_X12_isGiven : mj_S := fun as h k => ∃ (v1 : Int32) (s : St), as = [.ref 0, .int v1] ∧ h = mkMs s ∧ ok (F_X12_isGiven v1 s) (fun p => k (some (.int p.1)) (mkMs p.2))
theorem c_X12_isGiven_in {v1 : Int32} {s : St} {k : Option Value → mj_H → Prop} (hw : ok (F_X12_isGiven v1 s) (fun p => k (some (.int p.1)) (mkMs p.2))) : c_X12_isGiven [.ref 0, .int v1] (mkMs s) k := ⟨v1, s, rfl, rfl, hw⟩
theorem m_X12_isGiven (l : Launch) : mj_Met l yX12_isGiven cX12_isGiven 4 ((some FieldType.boolean)) 7 0 0 c_X12_isGiven := by
  refine mj_body2 false (TbX12 4 ((some FieldType.boolean)) ct_X12_isGiven) (by decide) rfl rfl (fun h => nomatch h) (tfX12 _ (List.forall_mem_cons.mpr ⟨cfX12_426 (m_X12_tell l) (by decide), List.forall_mem_cons.mpr ⟨cfX12_430 (m_X12_worthOf l) (by decide), List.forall_mem_cons.mpr ⟨cfX12_444 (m_X12_yearOf l) (by decide), List.forall_mem_cons.mpr ⟨cfX12_463 (m_X12_children l) (by decide), fun _ h => nomatch h⟩⟩⟩⟩)) ?_
  rintro as h k ⟨v1, s, rfl, rfl, hw⟩
  exact ⟨rfl, fun G hG => g_X12_isGiven hG hw⟩
def F_X12_lack (v1 : Int32) (s : St) : Option (Int32 × St) :=
  (F_X12_isSchool v1 s).bind fun r1 =>
  if r1 = 0 then
    some ((-1), s)
  else
    (rd s 1220 20 v1).bind fun x2 =>
    if x2 = (-1) then
      (F_X12_lacksKind v1 s).bind fun r3 =>
      if r3 = (-1) then
        (F_X12_isGiven v1 s).bind fun r4 =>
        if r4.1 = 0 then
          some (5, r4.2)
        else
          some ((-1), r4.2)
      else
        some (r3, s)
    else
      some ((-1), s)
theorem J_X12_lack : mj_t 5 13 = 18 ∧ mj_t 15 5 = 20 ∧ mj_t 28 7 = 35 ∧ mj_t 32 16 = 48 ∧ mj_t 40 7 = 47 ∧ mj_t 44 4 = 48 ∧ (0 ≤ ((5 : Nat) : Int) + 13) = True ∧ (0 ≤ ((15 : Nat) : Int) + 5) = True ∧ (0 ≤ ((28 : Nat) : Int) + 7) = True ∧ (0 ≤ ((32 : Nat) : Int) + 16) = True ∧ (0 ≤ ((40 : Nat) : Int) + 7) = True ∧ (0 ≤ ((44 : Nat) : Int) + 4) = True := by and_intros <;> first | rfl | exact eq_true (by decide)
def ct_X12_lack : List (Nat × mj_Cs) := [(293, 0, 2, 12, 0, 0, c_X12_isSchool), (519, 0, 2, 12, 0, 0, c_X12_lacksKind), (522, 0, 2, 12, 0, 0, c_X12_isGiven)]
theorem L_X12_lack : mj_lk ct_X12_lack 293 = some (0, 2, 12, 0, 0, c_X12_isSchool) ∧ mj_lk ct_X12_lack 519 = some (0, 2, 12, 0, 0, c_X12_lacksKind) ∧ mj_lk ct_X12_lack 522 = some (0, 2, 12, 0, 0, c_X12_isGiven) := ⟨rfl, rfl, rfl⟩
set_option maxHeartbeats 4000000 in
set_option maxRecDepth 20000 in
theorem g_X12_lack {k : Option Value → mj_H → Prop} {G : mj_K} (hG : mj_cl2 cX12_lack (TbX12 3 ((some FieldType.int)) ct_X12_lack) k G) {v1 : Int32} {s : St} (hw : ok (F_X12_lack v1 s) (fun p => k (some (.int p.1)) (mkMs p.2))) : G 0 [.ref 0, .int v1] [] (mkMs s) 0 0 := by
  unfold F_X12_lack at hw
  refine mj_run hG.1 (fun pc => pc == 5 || pc == 25 || pc == 40) 4000 ?_
  simp only [mj_step, mj_W_s, mj_fin, List.getElem?_cons_zero, List.getElem?_cons_succ, mj_go, Nat.reduceAdd, Nat.reduceSub, Nat.reduceLT, Nat.reduceLeDiff, Nat.zero_add, Nat.reduceEqDiff, Nat.reduceBEq, ↓reduceIte, Bool.false_eq_true, List.append_nil, List.nil_append, List.cons_append, Option.toList, and_true, true_and, true_or, or_true, reduceCtorEq, List.map_nil, bI_eq0, bI_eq1, bool_ft, pk_us, vnar0, vnar1, Bool.or_false, Bool.or_true, Bool.false_or, Bool.true_or, mj_kne, eq_self, Int32.reduceLT, Int32.reduceLE, Int32.reduceAdd, Int32.reduceSub, Int32.reduceMul, not_true_eq_false, not_false_eq_true, false_implies, true_implies, D_X12_lack, mj_F_aload_n_k, mj_F_getfield_i, mj_F_goto_off, mj_F_iaload, mj_F_iconst_n, mj_F_ifCond_eq_off, mj_F_if_icmp_eq_off, mj_F_iload_n_k, mj_F_invokevirtual_i, mj_F_ireturn, mj_F_istore_n_k, mj_set, mj_set0, mj_unk, mj_c2, mj_kc, FT_X12, FT_X12_1, L_X12_lack, List.take_succ_cons, List.take_zero, List.drop_succ_cons, List.drop_zero, List.reverse_cons, List.reverse_nil, List.length_cons, List.length_nil, gS_M0, gMf_20, gS_M18, sS_Ma_18, J_X12_lack]
  refine c_X12_isSchool_in (ok_imp (ok_bind hw) ?_)
  intro p hw
  simp only [Option.toList, List.nil_append, List.cons_append, Nat.reduceSub]
  refine mj_run hG.1 (fun pc => pc == 5 || pc == 25 || pc == 40) 4000 ?_
  simp only [mj_step, mj_W_s, mj_fin, List.getElem?_cons_zero, List.getElem?_cons_succ, mj_go, Nat.reduceAdd, Nat.reduceSub, Nat.reduceLT, Nat.reduceLeDiff, Nat.zero_add, Nat.reduceEqDiff, Nat.reduceBEq, ↓reduceIte, Bool.false_eq_true, List.append_nil, List.nil_append, List.cons_append, Option.toList, and_true, true_and, true_or, or_true, reduceCtorEq, List.map_nil, bI_eq0, bI_eq1, bool_ft, pk_us, vnar0, vnar1, Bool.or_false, Bool.or_true, Bool.false_or, Bool.true_or, mj_kne, eq_self, Int32.reduceLT, Int32.reduceLE, Int32.reduceAdd, Int32.reduceSub, Int32.reduceMul, not_true_eq_false, not_false_eq_true, false_implies, true_implies, D_X12_lack, mj_F_aload_n_k, mj_F_getfield_i, mj_F_goto_off, mj_F_iaload, mj_F_iconst_n, mj_F_ifCond_eq_off, mj_F_if_icmp_eq_off, mj_F_iload_n_k, mj_F_invokevirtual_i, mj_F_ireturn, mj_F_istore_n_k, mj_set, mj_set0, mj_unk, mj_c2, mj_kc, FT_X12, FT_X12_1, L_X12_lack, List.take_succ_cons, List.take_zero, List.drop_succ_cons, List.drop_zero, List.reverse_cons, List.reverse_nil, List.length_cons, List.length_nil, gS_M0, gMf_20, gS_M18, sS_Ma_18, J_X12_lack]
  refine ⟨fun c => ?_, fun c => ?_⟩
  · replace hw := ok_t hw c
    exact (ok_some hw :)
  · replace hw := ok_f hw c
    refine ⟨(ok_rd hw).1, ?_⟩
    replace hw := (ok_rd hw).2
    refine ⟨fun c => ?_, fun c => ?_⟩
    · replace hw := ok_t hw c
      refine c_X12_lacksKind_in (ok_imp (ok_bind hw) ?_)
      intro p hw
      simp only [Option.toList, List.nil_append, List.cons_append, Nat.reduceSub]
      refine mj_run hG.1 (fun pc => pc == 5 || pc == 25 || pc == 40) 4000 ?_
      simp only [mj_step, mj_W_s, mj_fin, List.getElem?_cons_zero, List.getElem?_cons_succ, mj_go, Nat.reduceAdd, Nat.reduceSub, Nat.reduceLT, Nat.reduceLeDiff, Nat.zero_add, Nat.reduceEqDiff, Nat.reduceBEq, ↓reduceIte, Bool.false_eq_true, List.append_nil, List.nil_append, List.cons_append, Option.toList, and_true, true_and, true_or, or_true, reduceCtorEq, List.map_nil, bI_eq0, bI_eq1, bool_ft, pk_us, vnar0, vnar1, Bool.or_false, Bool.or_true, Bool.false_or, Bool.true_or, mj_kne, eq_self, Int32.reduceLT, Int32.reduceLE, Int32.reduceAdd, Int32.reduceSub, Int32.reduceMul, not_true_eq_false, not_false_eq_true, false_implies, true_implies, D_X12_lack, mj_F_aload_n_k, mj_F_getfield_i, mj_F_goto_off, mj_F_iaload, mj_F_iconst_n, mj_F_ifCond_eq_off, mj_F_if_icmp_eq_off, mj_F_iload_n_k, mj_F_invokevirtual_i, mj_F_ireturn, mj_F_istore_n_k, mj_set, mj_set0, mj_unk, mj_c2, mj_kc, FT_X12, FT_X12_1, L_X12_lack, List.take_succ_cons, List.take_zero, List.drop_succ_cons, List.drop_zero, List.reverse_cons, List.reverse_nil, List.length_cons, List.length_nil, gS_M0, gMf_20, gS_M18, sS_Ma_18, J_X12_lack]
      refine ⟨fun c => ?_, fun c => ?_⟩
      · replace hw := ok_t hw c
        refine c_X12_isGiven_in (ok_imp (ok_bind hw) ?_)
        intro p hw
        simp only [Option.toList, List.nil_append, List.cons_append, Nat.reduceSub]
        refine mj_run hG.1 (fun pc => pc == 5 || pc == 25 || pc == 40) 4000 ?_
        simp only [mj_step, mj_W_s, mj_fin, List.getElem?_cons_zero, List.getElem?_cons_succ, mj_go, Nat.reduceAdd, Nat.reduceSub, Nat.reduceLT, Nat.reduceLeDiff, Nat.zero_add, Nat.reduceEqDiff, Nat.reduceBEq, ↓reduceIte, Bool.false_eq_true, List.append_nil, List.nil_append, List.cons_append, Option.toList, and_true, true_and, true_or, or_true, reduceCtorEq, List.map_nil, bI_eq0, bI_eq1, bool_ft, pk_us, vnar0, vnar1, Bool.or_false, Bool.or_true, Bool.false_or, Bool.true_or, mj_kne, eq_self, Int32.reduceLT, Int32.reduceLE, Int32.reduceAdd, Int32.reduceSub, Int32.reduceMul, not_true_eq_false, not_false_eq_true, false_implies, true_implies, D_X12_lack, mj_F_aload_n_k, mj_F_getfield_i, mj_F_goto_off, mj_F_iaload, mj_F_iconst_n, mj_F_ifCond_eq_off, mj_F_if_icmp_eq_off, mj_F_iload_n_k, mj_F_invokevirtual_i, mj_F_ireturn, mj_F_istore_n_k, mj_set, mj_set0, mj_unk, mj_c2, mj_kc, FT_X12, FT_X12_1, L_X12_lack, List.take_succ_cons, List.take_zero, List.drop_succ_cons, List.drop_zero, List.reverse_cons, List.reverse_nil, List.length_cons, List.length_nil, gS_M0, gMf_20, gS_M18, sS_Ma_18, J_X12_lack]
        refine ⟨fun c => ?_, fun c => ?_⟩
        · replace hw := ok_t hw c
          exact (ok_some hw :)
        · replace hw := ok_f hw c
          exact (ok_some hw :)
      · replace hw := ok_f hw c
        exact (ok_some hw :)
    · replace hw := ok_f hw c
      exact (ok_some hw :)

def c_X12_lack : mj_S := fun as h k => ∃ (v1 : Int32) (s : St), as = [.ref 0, .int v1] ∧ h = mkMs s ∧ ok (F_X12_lack v1 s) (fun p => k (some (.int p.1)) (mkMs p.2))
theorem c_X12_lack_in {v1 : Int32} {s : St} {k : Option Value → mj_H → Prop} (hw : ok (F_X12_lack v1 s) (fun p => k (some (.int p.1)) (mkMs p.2))) : c_X12_lack [.ref 0, .int v1] (mkMs s) k := ⟨v1, s, rfl, rfl, hw⟩
theorem m_X12_lack (l : Launch) : mj_Met l yX12_lack cX12_lack 3 ((some FieldType.int)) 8 0 0 c_X12_lack := by
  refine mj_body2 false (TbX12 3 ((some FieldType.int)) ct_X12_lack) (by decide) rfl rfl (fun h => nomatch h) (tfX12 _ (List.forall_mem_cons.mpr ⟨cfX12_293 (m_X12_isSchool l) (by decide), List.forall_mem_cons.mpr ⟨cfX12_519 (m_X12_lacksKind l) (by decide), List.forall_mem_cons.mpr ⟨cfX12_522 (m_X12_isGiven l) (by decide), fun _ h => nomatch h⟩⟩⟩)) ?_
  rintro as h k ⟨v1, s, rfl, rfl, hw⟩
  exact ⟨rfl, fun G hG => g_X12_lack hG hw⟩
def B_X12_wants_42 (v1 : Int32) (s : St) : Int32 → Option ((Int32) ⊕ ((Unit) ⊕ (Unit)))
  | v2 =>
  if 5 ≤ v2 then
    some (.inr (.inl ()))
  else
    (rd s 1222 100 ((5 * v1) + v2)).bind fun x5 =>
    if x5 ≤ 0 then
      some (.inl (v2 + 1))
    else
      (rd s 1262 5 v2).bind fun x6 =>
      if x6 ≤ 0 then
        some (.inl (v2 + 1))
      else
        some (.inr (.inr ()))
def F_X12_wants_77 (s : St) : Option (Int32) :=
  some 0
def F_X12_wants_69 (s : St) : Option (Int32) :=
  some 1
def F_X12_wants_42 (v1 : Int32) (v2 : Int32) (s : St) : Option (Int32) :=
  (lp (B_X12_wants_42 v1 s) FU v2).bind (Sum.elim (fun _ => F_X12_wants_77 s) (fun _ => F_X12_wants_69 s))
def F_X12_wants (v1 : Int32) (s : St) : Option (Int32) :=
  (rd s 1202 601 (s.1 1200)).bind fun x1 =>
  if x1 = 0 then
    F_X12_wants_42 v1 0 s
  else
    (rd s 1221 20 v1).bind fun x2 =>
    if x2 = 0 then
      (rd s 1214 20 v1).bind fun x3 =>
      (rd s 1201 240 (120 + x3)).bind fun x4 =>
      if x4 = 0 then
        some 0
      else
        F_X12_wants_42 v1 0 s
    else
      some 0
theorem J_X12_wants : mj_t 9 31 = 40 ∧ mj_t 18 20 = 38 ∧ mj_t 35 5 = 40 ∧ mj_t 44 33 = 77 ∧ mj_t 57 14 = 71 ∧ mj_t 66 5 = 71 ∧ mj_t 74 (-32) = 42 ∧ (0 ≤ ((9 : Nat) : Int) + 31) = True ∧ (0 ≤ ((18 : Nat) : Int) + 20) = True ∧ (0 ≤ ((35 : Nat) : Int) + 5) = True ∧ (0 ≤ ((44 : Nat) : Int) + 33) = True ∧ (0 ≤ ((57 : Nat) : Int) + 14) = True ∧ (0 ≤ ((66 : Nat) : Int) + 5) = True ∧ (0 ≤ ((74 : Nat) : Int) + (-32)) = True := by and_intros <;> first | rfl | exact eq_true (by decide)
set_option maxHeartbeats 4000000 in
set_option maxRecDepth 20000 in
theorem b_X12_wants_42 {k : Option Value → mj_H → Prop} {G : mj_K} (hG : mj_cl2 cX12_wants (TbX12 3 ((some FieldType.boolean)) []) k G) {v1 : Int32} {s : St} {P : Int32 → Prop} {K : (Unit) ⊕ (Unit) → Prop} (hP : ∀ x, P x → G 42 [.ref 0, .int v1, .int x] [] (mkMs s) 0 0) (hK0 : ∀ y, K (.inl y) → G 77 [] [] (mkMs s) 0 0) (hK1 : ∀ y, K (.inr y) → G 69 [] [] (mkMs s) 0 0) {v2 : Int32} (hw : ok (B_X12_wants_42 v1 s v2) (Sum.elim P K)) : G 42 [.ref 0, .int v1, .int v2] [] (mkMs s) 0 0 := by
  unfold B_X12_wants_42 at hw
  refine mj_run hG.1 (fun pc => pc == 42 || pc == 69 || pc == 77) 4000 ?_
  simp only [mj_step, mj_W_s, mj_fin, List.getElem?_cons_zero, List.getElem?_cons_succ, mj_go, Nat.reduceAdd, Nat.reduceSub, Nat.reduceLT, Nat.reduceLeDiff, Nat.zero_add, Nat.reduceEqDiff, Nat.reduceBEq, ↓reduceIte, Bool.false_eq_true, List.append_nil, List.nil_append, List.cons_append, Option.toList, and_true, true_and, true_or, or_true, reduceCtorEq, List.map_nil, bI_eq0, bI_eq1, bool_ft, pk_us, vnar0, vnar1, Bool.or_false, Bool.or_true, Bool.false_or, Bool.true_or, mj_kne, eq_self, Int32.reduceLT, Int32.reduceLE, Int32.reduceAdd, Int32.reduceSub, Int32.reduceMul, not_true_eq_false, not_false_eq_true, false_implies, true_implies, D_X12_wants, mj_F_aload_n_k, mj_F_baload, mj_F_bipush_n, mj_F_getfield_i, mj_F_goto_off, mj_F_iadd, mj_F_iaload, mj_F_iconst_n, mj_F_ifCond_eq_off, mj_F_ifCond_le_off, mj_F_ifCond_ne_off, mj_F_if_icmp_ge_off, mj_F_iinc_k_n, mj_F_iload_n_k, mj_F_imul, mj_F_ireturn, mj_F_istore_n_k, mj_set, mj_set0, mj_unk, mj_c2, mj_kc, FT_X12, FT_X12_1, gS_M0, gMf_2, gS_M2, sS_Ma_2, gMf_0, gMf_21, gS_M19, sS_Ma_19, gMf_1, gS_M1, sS_Ma_1, gMf_14, gS_M12, sS_Ma_12, gMf_22, gS_M20, sS_Ma_20, gMf_62, gS_M49, sS_Ma_49, J_X12_wants]
  refine ⟨fun c => ?_, fun c => ?_⟩
  · replace hw := ok_t hw c
    exact hG.2 _ _ _ _ _ _ _ _ _ (by exact trivial) (Nat.zero_le _) (Nat.zero_le _) (hK0 _ (ok_some hw :) :)
  · replace hw := ok_f hw c
    refine ⟨(ok_rd hw).1, ?_⟩
    replace hw := (ok_rd hw).2
    refine ⟨fun c => ?_, fun c => ?_⟩
    · replace hw := ok_t hw c
      exact hG.2 _ _ _ _ _ _ _ _ _ (by refine ⟨Or.inr rfl, ?_⟩; refine ⟨Or.inr rfl, ?_⟩; refine ⟨Or.inr rfl, ?_⟩; exact trivial) (Nat.zero_le _) (Nat.zero_le _) (hP _ (ok_some hw :) :)
    · replace hw := ok_f hw c
      refine ⟨(ok_rd hw).1, ?_⟩
      replace hw := (ok_rd hw).2
      refine ⟨fun c => ?_, fun c => ?_⟩
      · replace hw := ok_t hw c
        exact hG.2 _ _ _ _ _ _ _ _ _ (by refine ⟨Or.inr rfl, ?_⟩; refine ⟨Or.inr rfl, ?_⟩; refine ⟨Or.inr rfl, ?_⟩; exact trivial) (Nat.zero_le _) (Nat.zero_le _) (hP _ (ok_some hw :) :)
      · replace hw := ok_f hw c
        exact hG.2 _ _ _ _ _ _ _ _ _ (by exact trivial) (Nat.zero_le _) (Nat.zero_le _) (hK1 _ (ok_some hw :) :)

set_option maxHeartbeats 4000000 in
set_option maxRecDepth 20000 in
theorem g_X12_wants_77 {k : Option Value → mj_H → Prop} {G : mj_K} (hG : mj_cl2 cX12_wants (TbX12 3 ((some FieldType.boolean)) []) k G)   {s : St} (hw : ok (F_X12_wants_77 s) (fun p => k (some (.int p)) (mkMs s))) : G 77 [] [] (mkMs s) 0 0 := by
  unfold F_X12_wants_77 at hw
  refine mj_run hG.1 (fun pc => pc == 42 || pc == 69 || pc == 77) 4000 ?_
  simp only [mj_step, mj_W_s, mj_fin, List.getElem?_cons_zero, List.getElem?_cons_succ, mj_go, Nat.reduceAdd, Nat.reduceSub, Nat.reduceLT, Nat.reduceLeDiff, Nat.zero_add, Nat.reduceEqDiff, Nat.reduceBEq, ↓reduceIte, Bool.false_eq_true, List.append_nil, List.nil_append, List.cons_append, Option.toList, and_true, true_and, true_or, or_true, reduceCtorEq, List.map_nil, bI_eq0, bI_eq1, bool_ft, pk_us, vnar0, vnar1, Bool.or_false, Bool.or_true, Bool.false_or, Bool.true_or, mj_kne, eq_self, Int32.reduceLT, Int32.reduceLE, Int32.reduceAdd, Int32.reduceSub, Int32.reduceMul, not_true_eq_false, not_false_eq_true, false_implies, true_implies, D_X12_wants, mj_F_aload_n_k, mj_F_baload, mj_F_bipush_n, mj_F_getfield_i, mj_F_goto_off, mj_F_iadd, mj_F_iaload, mj_F_iconst_n, mj_F_ifCond_eq_off, mj_F_ifCond_le_off, mj_F_ifCond_ne_off, mj_F_if_icmp_ge_off, mj_F_iinc_k_n, mj_F_iload_n_k, mj_F_imul, mj_F_ireturn, mj_F_istore_n_k, mj_set, mj_set0, mj_unk, mj_c2, mj_kc, FT_X12, FT_X12_1, gS_M0, gMf_2, gS_M2, sS_Ma_2, gMf_0, gMf_21, gS_M19, sS_Ma_19, gMf_1, gS_M1, sS_Ma_1, gMf_14, gS_M12, sS_Ma_12, gMf_22, gS_M20, sS_Ma_20, gMf_62, gS_M49, sS_Ma_49, J_X12_wants]
  exact (ok_some hw :)

set_option maxHeartbeats 4000000 in
set_option maxRecDepth 20000 in
theorem g_X12_wants_69 {k : Option Value → mj_H → Prop} {G : mj_K} (hG : mj_cl2 cX12_wants (TbX12 3 ((some FieldType.boolean)) []) k G)   {s : St} (hw : ok (F_X12_wants_69 s) (fun p => k (some (.int p)) (mkMs s))) : G 69 [] [] (mkMs s) 0 0 := by
  unfold F_X12_wants_69 at hw
  refine mj_run hG.1 (fun pc => pc == 42 || pc == 69 || pc == 77) 4000 ?_
  simp only [mj_step, mj_W_s, mj_fin, List.getElem?_cons_zero, List.getElem?_cons_succ, mj_go, Nat.reduceAdd, Nat.reduceSub, Nat.reduceLT, Nat.reduceLeDiff, Nat.zero_add, Nat.reduceEqDiff, Nat.reduceBEq, ↓reduceIte, Bool.false_eq_true, List.append_nil, List.nil_append, List.cons_append, Option.toList, and_true, true_and, true_or, or_true, reduceCtorEq, List.map_nil, bI_eq0, bI_eq1, bool_ft, pk_us, vnar0, vnar1, Bool.or_false, Bool.or_true, Bool.false_or, Bool.true_or, mj_kne, eq_self, Int32.reduceLT, Int32.reduceLE, Int32.reduceAdd, Int32.reduceSub, Int32.reduceMul, not_true_eq_false, not_false_eq_true, false_implies, true_implies, D_X12_wants, mj_F_aload_n_k, mj_F_baload, mj_F_bipush_n, mj_F_getfield_i, mj_F_goto_off, mj_F_iadd, mj_F_iaload, mj_F_iconst_n, mj_F_ifCond_eq_off, mj_F_ifCond_le_off, mj_F_ifCond_ne_off, mj_F_if_icmp_ge_off, mj_F_iinc_k_n, mj_F_iload_n_k, mj_F_imul, mj_F_ireturn, mj_F_istore_n_k, mj_set, mj_set0, mj_unk, mj_c2, mj_kc, FT_X12, FT_X12_1, gS_M0, gMf_2, gS_M2, sS_Ma_2, gMf_0, gMf_21, gS_M19, sS_Ma_19, gMf_1, gS_M1, sS_Ma_1, gMf_14, gS_M12, sS_Ma_12, gMf_22, gS_M20, sS_Ma_20, gMf_62, gS_M49, sS_Ma_49, J_X12_wants]
  exact (ok_some hw :)

set_option maxHeartbeats 4000000 in
theorem g_X12_wants_42 {k : Option Value → mj_H → Prop} {G : mj_K} (hG : mj_cl2 cX12_wants (TbX12 3 ((some FieldType.boolean)) []) k G)   {v1 : Int32} {v2 : Int32} {s : St} (hw : ok (F_X12_wants_42 v1 v2 s) (fun p => k (some (.int p)) (mkMs s))) : G 42 [.ref 0, .int v1, .int v2] [] (mkMs s) 0 0 := by
  unfold F_X12_wants_42 at hw
  refine lp_ok (B_X12_wants_42 v1 s) (fun x => G 42 [.ref 0, .int v1, .int x] [] (mkMs s) 0 0) _ ?_ _ _ (ok_bind hw)
  rintro v2 hb
  exact b_X12_wants_42 hG (fun _ z => z) (fun y hw => by exact hG.2 _ _ _ _ _ _ _ _ _ (by exact trivial) (Nat.zero_le _) (Nat.zero_le _) (g_X12_wants_77 hG  hw :)) (fun y hw => by exact hG.2 _ _ _ _ _ _ _ _ _ (by exact trivial) (Nat.zero_le _) (Nat.zero_le _) (g_X12_wants_69 hG  hw :)) hb

set_option maxHeartbeats 4000000 in
set_option maxRecDepth 20000 in
theorem g_X12_wants {k : Option Value → mj_H → Prop} {G : mj_K} (hG : mj_cl2 cX12_wants (TbX12 3 ((some FieldType.boolean)) []) k G) {v1 : Int32} {s : St} (hw : ok (F_X12_wants v1 s) (fun p => k (some (.int p)) (mkMs s))) : G 0 [.ref 0, .int v1] [] (mkMs s) 0 0 := by
  unfold F_X12_wants at hw
  refine mj_run hG.1 (fun pc => pc == 42 || pc == 69 || pc == 77) 4000 ?_
  simp only [mj_step, mj_W_s, mj_fin, List.getElem?_cons_zero, List.getElem?_cons_succ, mj_go, Nat.reduceAdd, Nat.reduceSub, Nat.reduceLT, Nat.reduceLeDiff, Nat.zero_add, Nat.reduceEqDiff, Nat.reduceBEq, ↓reduceIte, Bool.false_eq_true, List.append_nil, List.nil_append, List.cons_append, Option.toList, and_true, true_and, true_or, or_true, reduceCtorEq, List.map_nil, bI_eq0, bI_eq1, bool_ft, pk_us, vnar0, vnar1, Bool.or_false, Bool.or_true, Bool.false_or, Bool.true_or, mj_kne, eq_self, Int32.reduceLT, Int32.reduceLE, Int32.reduceAdd, Int32.reduceSub, Int32.reduceMul, not_true_eq_false, not_false_eq_true, false_implies, true_implies, D_X12_wants, mj_F_aload_n_k, mj_F_baload, mj_F_bipush_n, mj_F_getfield_i, mj_F_goto_off, mj_F_iadd, mj_F_iaload, mj_F_iconst_n, mj_F_ifCond_eq_off, mj_F_ifCond_le_off, mj_F_ifCond_ne_off, mj_F_if_icmp_ge_off, mj_F_iinc_k_n, mj_F_iload_n_k, mj_F_imul, mj_F_ireturn, mj_F_istore_n_k, mj_set, mj_set0, mj_unk, mj_c2, mj_kc, FT_X12, FT_X12_1, gS_M0, gMf_2, gS_M2, sS_Ma_2, gMf_0, gMf_21, gS_M19, sS_Ma_19, gMf_1, gS_M1, sS_Ma_1, gMf_14, gS_M12, sS_Ma_12, gMf_22, gS_M20, sS_Ma_20, gMf_62, gS_M49, sS_Ma_49, J_X12_wants]
  refine ⟨(ok_rd hw).1, ?_⟩
  replace hw := (ok_rd hw).2
  refine ⟨fun c => ?_, fun c => ?_⟩
  · replace hw := ok_t hw c
    exact hG.2 _ _ _ _ _ _ _ _ _ (by refine ⟨Or.inr rfl, ?_⟩; refine ⟨Or.inr rfl, ?_⟩; refine ⟨Or.inr rfl, ?_⟩; exact trivial) (Nat.zero_le _) (Nat.zero_le _) (g_X12_wants_42 hG  hw :)
  · replace hw := ok_f hw c
    refine ⟨(ok_rd hw).1, ?_⟩
    replace hw := (ok_rd hw).2
    refine ⟨fun c => ?_, fun c => ?_⟩
    · replace hw := ok_f hw c
      exact (ok_some hw :)
    · replace hw := ok_t hw c
      refine ⟨(ok_rd hw).1, ?_⟩
      replace hw := (ok_rd hw).2
      refine ⟨(ok_rd hw).1, ?_⟩
      replace hw := (ok_rd hw).2
      refine ⟨fun c => ?_, fun c => ?_⟩
      · replace hw := ok_f hw c
        exact hG.2 _ _ _ _ _ _ _ _ _ (by refine ⟨Or.inr rfl, ?_⟩; refine ⟨Or.inr rfl, ?_⟩; refine ⟨Or.inr rfl, ?_⟩; exact trivial) (Nat.zero_le _) (Nat.zero_le _) (g_X12_wants_42 hG  hw :)
      · replace hw := ok_t hw c
        exact (ok_some hw :)

def c_X12_wants : mj_S := fun as h k => ∃ (v1 : Int32) (s : St), as = [.ref 0, .int v1] ∧ h = mkMs s ∧ ok (F_X12_wants v1 s) (fun p => k (some (.int p)) (mkMs s))
theorem c_X12_wants_in {v1 : Int32} {s : St} {k : Option Value → mj_H → Prop} (hw : ok (F_X12_wants v1 s) (fun p => k (some (.int p)) (mkMs s))) : c_X12_wants [.ref 0, .int v1] (mkMs s) k := ⟨v1, s, rfl, rfl, hw⟩
theorem m_X12_wants (l : Launch) : mj_Met l yX12_wants cX12_wants 3 ((some FieldType.boolean)) 0 0 0 c_X12_wants := by
  refine mj_body2 false (TbX12 3 ((some FieldType.boolean)) []) (by decide) rfl rfl (fun h => nomatch h) (tfX12 _ (fun _ h => nomatch h)) ?_
  rintro as h k ⟨v1, s, rfl, rfl, hw⟩
  exact ⟨rfl, fun G hG => g_X12_wants hG hw⟩
def B_X12_drive_9 (v1 : Int32) (s : St) : Int32 × Int32 → Option ((Int32 × Int32) ⊕ ((Int32)))
  | (v2, v3) =>
  if v3 < 0 then
    some (.inr v2)
  else
    (F_X12_wants v3 s).bind fun r1 =>
    if r1 = 0 then
      some (.inl (v2, (v3 + (-1))))
    else
      some (.inl (v3, (v3 + (-1))))
def B_X12_drive_43 (v2 : Int32) : Int32 × Int32 × St → Option ((Int32 × Int32 × St) ⊕ ((St)))
  | (v3, v4, s) =>
  if 5 ≤ v4 then
    some (.inr s)
  else
    if v2 = (-1) then
      some (.inr s)
    else
      (rd s 1222 100 ((5 * v2) + v4)).bind fun x3 =>
      (rd s 1262 5 v4).bind fun x4 =>
      (rd s 1222 100 ((5 * v2) + v4)).bind fun x5 =>
      (wr s 1222 100 ((5 * v2) + v4) (x5 - (zmn v3 (zmn x3 x4)))).bind fun s6 =>
      (rd s6 1262 5 v4).bind fun x7 =>
      (wr s6 1262 5 v4 (x7 - (zmn v3 (zmn x3 x4)))).bind fun s8 =>
      some (.inl ((v3 - (zmn v3 (zmn x3 x4))), (v4 + 1), s8))
def F_X12_drive_120 (s : St) : Option (St) :=
  some s
def F_X12_drive_43 (v2 : Int32) (v3 : Int32) (v4 : Int32) (s : St) : Option (St) :=
  (lp (B_X12_drive_43 v2) FU (v3, v4, s)).bind (fun y => F_X12_drive_120 y)
def F_X12_drive_33 (v1 : Int32) (v2 : Int32) (s : St) : Option (St) :=
  (rd s 1261 10 v1).bind fun x2 =>
  F_X12_drive_43 v2 x2 0 s
def F_X12_drive_9 (v1 : Int32) (v2 : Int32) (v3 : Int32) (s : St) : Option (St) :=
  (lp (B_X12_drive_9 v1 s) FU (v2, v3)).bind (fun y => F_X12_drive_33 v1 y s)
def F_X12_drive (v1 : Int32) (s : St) : Option (St) :=
  F_X12_drive_9 v1 (-1) ((s.1 1223) - 1) s
theorem J_X12_drive : mj_t 10 23 = 33 ∧ mj_t 18 7 = 25 ∧ mj_t 22 4 = 26 ∧ mj_t 30 (-21) = 9 ∧ mj_t 46 74 = 120 ∧ mj_t 51 69 = 120 ∧ mj_t 117 (-74) = 43 ∧ (0 ≤ ((10 : Nat) : Int) + 23) = True ∧ (0 ≤ ((18 : Nat) : Int) + 7) = True ∧ (0 ≤ ((22 : Nat) : Int) + 4) = True ∧ (0 ≤ ((30 : Nat) : Int) + (-21)) = True ∧ (0 ≤ ((46 : Nat) : Int) + 74) = True ∧ (0 ≤ ((51 : Nat) : Int) + 69) = True ∧ (0 ≤ ((117 : Nat) : Int) + (-74)) = True := by and_intros <;> first | rfl | exact eq_true (by decide)
def ct_X12_drive : List (Nat × mj_Cs) := [(525, 0, 2, 12, 0, 0, c_X12_wants)]
theorem L_X12_drive : mj_lk ct_X12_drive 525 = some (0, 2, 12, 0, 0, c_X12_wants) := rfl
set_option maxHeartbeats 4000000 in
set_option maxRecDepth 20000 in
theorem b_X12_drive_9 {k : Option Value → mj_H → Prop} {G : mj_K} (hG : mj_cl2 cX12_drive (TbX12 6 (none) ct_X12_drive) k G) (hM : mj_ml cX12_drive yX12_drive.cls G) {v1 : Int32} {s : St} {P : Int32 × Int32 → Prop} {K : (Int32) → Prop} (hP : ∀ x, P x → G 9 [.ref 0, .int v1, .int x.1, .int x.2] [] (mkMs s) 0 0) (hK0 : ∀ y, K y → G 33 [.ref 0, .int v1, .int y] [] (mkMs s) 0 0) {v2 : Int32} {v3 : Int32} (hw : ok (B_X12_drive_9 v1 s (v2, v3)) (Sum.elim P K)) : G 9 [.ref 0, .int v1, .int v2, .int v3] [] (mkMs s) 0 0 := by
  unfold B_X12_drive_9 at hw
  refine mj_run hG.1 (fun pc => pc == 9 || pc == 18 || pc == 33 || pc == 43 || pc == 73 || pc == 76 || pc == 120) 4000 ?_
  simp only [mj_step, mj_W_s, mj_fin, List.getElem?_cons_zero, List.getElem?_cons_succ, mj_go, Nat.reduceAdd, Nat.reduceSub, Nat.reduceLT, Nat.reduceLeDiff, Nat.zero_add, Nat.reduceEqDiff, Nat.reduceBEq, ↓reduceIte, Bool.false_eq_true, List.append_nil, List.nil_append, List.cons_append, Option.toList, and_true, true_and, true_or, or_true, reduceCtorEq, List.map_nil, bI_eq0, bI_eq1, bool_ft, pk_us, vnar0, vnar1, Bool.or_false, Bool.or_true, Bool.false_or, Bool.true_or, mj_kne, eq_self, Int32.reduceLT, Int32.reduceLE, Int32.reduceAdd, Int32.reduceSub, Int32.reduceMul, not_true_eq_false, not_false_eq_true, false_implies, true_implies, D_X12_drive_0, D_X12_drive_1, mj_F_aload_n_k, mj_F_dup2, mj_F_getfield_i, mj_F_goto_off, mj_F_iadd, mj_F_iaload, mj_F_iastore, mj_F_iconst_n, mj_F_ifCond_eq_off, mj_F_ifCond_lt_off, mj_F_if_icmp_eq_off, mj_F_if_icmp_ge_off, mj_F_iinc_k_n, mj_F_iload_k, mj_F_iload_n_k, mj_F_imul, mj_F_invokestatic_i, mj_F_invokevirtual_i, mj_F_istore_k, mj_F_istore_n_k, mj_F_isub, mj_F_return_, mj_set, mj_set0, mj_unk, mj_c2, mj_kc, FT_X12, FT_X12_1, L_X12_drive, List.take_succ_cons, List.take_zero, List.drop_succ_cons, List.drop_zero, List.reverse_cons, List.reverse_nil, List.length_cons, List.length_nil, gS_M0, gMf_23, gMf_61, gS_M48, sS_Ma_48, gMf_22, gS_M20, sS_Ma_20, gMf_62, gS_M49, sS_Ma_49, J_X12_drive]
  refine ⟨fun c => ?_, fun c => ?_⟩
  · replace hw := ok_t hw c
    exact hG.2 _ _ _ _ _ _ _ _ _ (by refine ⟨Or.inr rfl, ?_⟩; refine ⟨Or.inr rfl, ?_⟩; refine ⟨Or.inr rfl, ?_⟩; exact trivial) (Nat.zero_le _) (Nat.zero_le _) (hK0 _ (ok_some hw :) :)
  · replace hw := ok_f hw c
    refine c_X12_wants_in (ok_imp (ok_bind hw) ?_)
    intro p hw
    simp only [Option.toList, List.nil_append, List.cons_append, Nat.reduceSub]
    refine mj_run hG.1 (fun pc => pc == 9 || pc == 18 || pc == 33 || pc == 43 || pc == 73 || pc == 76 || pc == 120) 4000 ?_
    simp only [mj_step, mj_W_s, mj_fin, List.getElem?_cons_zero, List.getElem?_cons_succ, mj_go, Nat.reduceAdd, Nat.reduceSub, Nat.reduceLT, Nat.reduceLeDiff, Nat.zero_add, Nat.reduceEqDiff, Nat.reduceBEq, ↓reduceIte, Bool.false_eq_true, List.append_nil, List.nil_append, List.cons_append, Option.toList, and_true, true_and, true_or, or_true, reduceCtorEq, List.map_nil, bI_eq0, bI_eq1, bool_ft, pk_us, vnar0, vnar1, Bool.or_false, Bool.or_true, Bool.false_or, Bool.true_or, mj_kne, eq_self, Int32.reduceLT, Int32.reduceLE, Int32.reduceAdd, Int32.reduceSub, Int32.reduceMul, not_true_eq_false, not_false_eq_true, false_implies, true_implies, D_X12_drive_0, D_X12_drive_1, mj_F_aload_n_k, mj_F_dup2, mj_F_getfield_i, mj_F_goto_off, mj_F_iadd, mj_F_iaload, mj_F_iastore, mj_F_iconst_n, mj_F_ifCond_eq_off, mj_F_ifCond_lt_off, mj_F_if_icmp_eq_off, mj_F_if_icmp_ge_off, mj_F_iinc_k_n, mj_F_iload_k, mj_F_iload_n_k, mj_F_imul, mj_F_invokestatic_i, mj_F_invokevirtual_i, mj_F_istore_k, mj_F_istore_n_k, mj_F_isub, mj_F_return_, mj_set, mj_set0, mj_unk, mj_c2, mj_kc, FT_X12, FT_X12_1, L_X12_drive, List.take_succ_cons, List.take_zero, List.drop_succ_cons, List.drop_zero, List.reverse_cons, List.reverse_nil, List.length_cons, List.length_nil, gS_M0, gMf_23, gMf_61, gS_M48, sS_Ma_48, gMf_22, gS_M20, sS_Ma_20, gMf_62, gS_M49, sS_Ma_49, J_X12_drive]
    refine ⟨fun c => ?_, fun c => ?_⟩
    · replace hw := ok_t hw c
      exact hG.2 _ _ _ _ _ _ _ _ _ (by refine ⟨Or.inr rfl, ?_⟩; refine ⟨Or.inr rfl, ?_⟩; refine ⟨Or.inr rfl, ?_⟩; refine ⟨Or.inr rfl, ?_⟩; exact trivial) (Nat.zero_le _) (Nat.zero_le _) (hP _ (ok_some hw :) :)
    · replace hw := ok_f hw c
      exact hG.2 _ _ _ _ _ _ _ _ _ (by refine ⟨Or.inr rfl, ?_⟩; refine ⟨Or.inr rfl, ?_⟩; refine ⟨Or.inr rfl, ?_⟩; refine ⟨Or.inr rfl, ?_⟩; exact trivial) (Nat.zero_le _) (Nat.zero_le _) (hP _ (ok_some hw :) :)

set_option maxHeartbeats 4000000 in
set_option maxRecDepth 20000 in
theorem b_X12_drive_43 {k : Option Value → mj_H → Prop} {G : mj_K} (hG : mj_cl2 cX12_drive (TbX12 6 (none) ct_X12_drive) k G) (hM : mj_ml cX12_drive yX12_drive.cls G) {v2 : Int32} {P : Int32 × Int32 × St → Prop} {K : (St) → Prop} (hP : ∀ x, P x → G 43 [.ref 0, mj_unk, .int v2, .int x.1, .int x.2.1] [] (mkMs x.2.2) 0 0) (hK0 : ∀ y, K y → G 120 [] [] (mkMs y) 0 0) {v3 : Int32} {v4 : Int32} {s : St} (hw : ok (B_X12_drive_43 v2 (v3, v4, s)) (Sum.elim P K)) : G 43 [.ref 0, mj_unk, .int v2, .int v3, .int v4] [] (mkMs s) 0 0 := by
  unfold B_X12_drive_43 at hw
  refine mj_run hG.1 (fun pc => pc == 9 || pc == 18 || pc == 33 || pc == 43 || pc == 73 || pc == 76 || pc == 120) 4000 ?_
  simp only [mj_step, mj_W_s, mj_fin, List.getElem?_cons_zero, List.getElem?_cons_succ, mj_go, Nat.reduceAdd, Nat.reduceSub, Nat.reduceLT, Nat.reduceLeDiff, Nat.zero_add, Nat.reduceEqDiff, Nat.reduceBEq, ↓reduceIte, Bool.false_eq_true, List.append_nil, List.nil_append, List.cons_append, Option.toList, and_true, true_and, true_or, or_true, reduceCtorEq, List.map_nil, bI_eq0, bI_eq1, bool_ft, pk_us, vnar0, vnar1, Bool.or_false, Bool.or_true, Bool.false_or, Bool.true_or, mj_kne, eq_self, Int32.reduceLT, Int32.reduceLE, Int32.reduceAdd, Int32.reduceSub, Int32.reduceMul, not_true_eq_false, not_false_eq_true, false_implies, true_implies, D_X12_drive_0, D_X12_drive_1, mj_F_aload_n_k, mj_F_dup2, mj_F_getfield_i, mj_F_goto_off, mj_F_iadd, mj_F_iaload, mj_F_iastore, mj_F_iconst_n, mj_F_ifCond_eq_off, mj_F_ifCond_lt_off, mj_F_if_icmp_eq_off, mj_F_if_icmp_ge_off, mj_F_iinc_k_n, mj_F_iload_k, mj_F_iload_n_k, mj_F_imul, mj_F_invokestatic_i, mj_F_invokevirtual_i, mj_F_istore_k, mj_F_istore_n_k, mj_F_isub, mj_F_return_, mj_set, mj_set0, mj_unk, mj_c2, mj_kc, FT_X12, FT_X12_1, L_X12_drive, List.take_succ_cons, List.take_zero, List.drop_succ_cons, List.drop_zero, List.reverse_cons, List.reverse_nil, List.length_cons, List.length_nil, gS_M0, gMf_23, gMf_61, gS_M48, sS_Ma_48, gMf_22, gS_M20, sS_Ma_20, gMf_62, gS_M49, sS_Ma_49, J_X12_drive]
  refine ⟨fun c => ?_, fun c => ?_⟩
  · replace hw := ok_t hw c
    exact hG.2 _ _ _ _ _ _ _ _ _ (by exact trivial) (Nat.zero_le _) (Nat.zero_le _) (hK0 _ (ok_some hw :) :)
  · replace hw := ok_f hw c
    refine ⟨fun c => ?_, fun c => ?_⟩
    · replace hw := ok_t hw c
      exact hG.2 _ _ _ _ _ _ _ _ _ (by exact trivial) (Nat.zero_le _) (Nat.zero_le _) (hK0 _ (ok_some hw :) :)
    · replace hw := ok_f hw c
      refine ⟨(ok_rd hw).1, ?_⟩
      replace hw := (ok_rd hw).2
      refine ⟨(ok_rd hw).1, ?_⟩
      replace hw := (ok_rd hw).2
      refine hM 73 449 0 _ _ _ _ _ _ _ _ (by simp only [D_X12_drive_0, D_X12_drive_1]) (lkX12_449) rfl (Nat.le_of_ble_eq_true rfl) ?_
      refine hM 76 449 0 _ _ _ _ _ _ _ _ (by simp only [D_X12_drive_0, D_X12_drive_1]) (lkX12_449) rfl (Nat.le_of_ble_eq_true rfl) ?_
      refine mj_run hG.1 (fun pc => pc == 9 || pc == 18 || pc == 33 || pc == 43 || pc == 73 || pc == 76 || pc == 120) 4000 ?_
      simp only [mj_step, mj_W_s, mj_fin, List.getElem?_cons_zero, List.getElem?_cons_succ, mj_go, Nat.reduceAdd, Nat.reduceSub, Nat.reduceLT, Nat.reduceLeDiff, Nat.zero_add, Nat.reduceEqDiff, Nat.reduceBEq, ↓reduceIte, Bool.false_eq_true, List.append_nil, List.nil_append, List.cons_append, Option.toList, and_true, true_and, true_or, or_true, reduceCtorEq, List.map_nil, bI_eq0, bI_eq1, bool_ft, pk_us, vnar0, vnar1, Bool.or_false, Bool.or_true, Bool.false_or, Bool.true_or, mj_kne, eq_self, Int32.reduceLT, Int32.reduceLE, Int32.reduceAdd, Int32.reduceSub, Int32.reduceMul, not_true_eq_false, not_false_eq_true, false_implies, true_implies, D_X12_drive_0, D_X12_drive_1, mj_F_aload_n_k, mj_F_dup2, mj_F_getfield_i, mj_F_goto_off, mj_F_iadd, mj_F_iaload, mj_F_iastore, mj_F_iconst_n, mj_F_ifCond_eq_off, mj_F_ifCond_lt_off, mj_F_if_icmp_eq_off, mj_F_if_icmp_ge_off, mj_F_iinc_k_n, mj_F_iload_k, mj_F_iload_n_k, mj_F_imul, mj_F_invokestatic_i, mj_F_invokevirtual_i, mj_F_istore_k, mj_F_istore_n_k, mj_F_isub, mj_F_return_, mj_set, mj_set0, mj_unk, mj_c2, mj_kc, FT_X12, FT_X12_1, L_X12_drive, List.take_succ_cons, List.take_zero, List.drop_succ_cons, List.drop_zero, List.reverse_cons, List.reverse_nil, List.length_cons, List.length_nil, gS_M0, gMf_23, gMf_61, gS_M48, sS_Ma_48, gMf_22, gS_M20, sS_Ma_20, gMf_62, gS_M49, sS_Ma_49, J_X12_drive]
      refine ⟨(ok_rd hw).1, ?_⟩
      replace hw := (ok_rd hw).2
      refine ⟨(ok_wr hw).1, ?_⟩
      replace hw := (ok_wr hw).2
      refine ⟨(ok_rd hw).1, ?_⟩
      replace hw := (ok_rd hw).2
      refine ⟨(ok_wr hw).1, ?_⟩
      replace hw := (ok_wr hw).2
      exact hG.2 _ _ _ _ _ _ _ _ _ (by refine ⟨Or.inr rfl, ?_⟩; refine ⟨Or.inl rfl, ?_⟩; refine ⟨Or.inr rfl, ?_⟩; refine ⟨Or.inr rfl, ?_⟩; refine ⟨Or.inr rfl, ?_⟩; exact trivial) (Nat.zero_le _) (Nat.zero_le _) (hP _ (ok_some hw :) :)

set_option maxHeartbeats 4000000 in
set_option maxRecDepth 20000 in
theorem g_X12_drive_120 {k : Option Value → mj_H → Prop} {G : mj_K} (hG : mj_cl2 cX12_drive (TbX12 6 (none) ct_X12_drive) k G) (hM : mj_ml cX12_drive yX12_drive.cls G)   {s : St} (hw : ok (F_X12_drive_120 s) (fun p => k none (mkMs p))) : G 120 [] [] (mkMs s) 0 0 := by
  unfold F_X12_drive_120 at hw
  refine mj_run hG.1 (fun pc => pc == 9 || pc == 18 || pc == 33 || pc == 43 || pc == 73 || pc == 76 || pc == 120) 4000 ?_
  simp only [mj_step, mj_W_s, mj_fin, List.getElem?_cons_zero, List.getElem?_cons_succ, mj_go, Nat.reduceAdd, Nat.reduceSub, Nat.reduceLT, Nat.reduceLeDiff, Nat.zero_add, Nat.reduceEqDiff, Nat.reduceBEq, ↓reduceIte, Bool.false_eq_true, List.append_nil, List.nil_append, List.cons_append, Option.toList, and_true, true_and, true_or, or_true, reduceCtorEq, List.map_nil, bI_eq0, bI_eq1, bool_ft, pk_us, vnar0, vnar1, Bool.or_false, Bool.or_true, Bool.false_or, Bool.true_or, mj_kne, eq_self, Int32.reduceLT, Int32.reduceLE, Int32.reduceAdd, Int32.reduceSub, Int32.reduceMul, not_true_eq_false, not_false_eq_true, false_implies, true_implies, D_X12_drive_0, D_X12_drive_1, mj_F_aload_n_k, mj_F_dup2, mj_F_getfield_i, mj_F_goto_off, mj_F_iadd, mj_F_iaload, mj_F_iastore, mj_F_iconst_n, mj_F_ifCond_eq_off, mj_F_ifCond_lt_off, mj_F_if_icmp_eq_off, mj_F_if_icmp_ge_off, mj_F_iinc_k_n, mj_F_iload_k, mj_F_iload_n_k, mj_F_imul, mj_F_invokestatic_i, mj_F_invokevirtual_i, mj_F_istore_k, mj_F_istore_n_k, mj_F_isub, mj_F_return_, mj_set, mj_set0, mj_unk, mj_c2, mj_kc, FT_X12, FT_X12_1, L_X12_drive, List.take_succ_cons, List.take_zero, List.drop_succ_cons, List.drop_zero, List.reverse_cons, List.reverse_nil, List.length_cons, List.length_nil, gS_M0, gMf_23, gMf_61, gS_M48, sS_Ma_48, gMf_22, gS_M20, sS_Ma_20, gMf_62, gS_M49, sS_Ma_49, J_X12_drive]
  exact (ok_some hw :)

set_option maxHeartbeats 4000000 in
theorem g_X12_drive_43 {k : Option Value → mj_H → Prop} {G : mj_K} (hG : mj_cl2 cX12_drive (TbX12 6 (none) ct_X12_drive) k G) (hM : mj_ml cX12_drive yX12_drive.cls G)   {v2 : Int32} {v3 : Int32} {v4 : Int32} {s : St} (hw : ok (F_X12_drive_43 v2 v3 v4 s) (fun p => k none (mkMs p))) : G 43 [.ref 0, mj_unk, .int v2, .int v3, .int v4] [] (mkMs s) 0 0 := by
  unfold F_X12_drive_43 at hw
  refine lp_ok (B_X12_drive_43 v2) (fun x => G 43 [.ref 0, mj_unk, .int v2, .int x.1, .int x.2.1] [] (mkMs x.2.2) 0 0) _ ?_ _ _ (ok_bind hw)
  rintro ⟨v3, v4, s⟩ hb
  exact b_X12_drive_43 hG hM (fun _ z => z) (fun y hw => by exact hG.2 _ _ _ _ _ _ _ _ _ (by exact trivial) (Nat.zero_le _) (Nat.zero_le _) (g_X12_drive_120 hG hM  hw :)) hb

set_option maxHeartbeats 4000000 in
set_option maxRecDepth 20000 in
theorem g_X12_drive_33 {k : Option Value → mj_H → Prop} {G : mj_K} (hG : mj_cl2 cX12_drive (TbX12 6 (none) ct_X12_drive) k G) (hM : mj_ml cX12_drive yX12_drive.cls G)   {v1 : Int32} {v2 : Int32} {s : St} (hw : ok (F_X12_drive_33 v1 v2 s) (fun p => k none (mkMs p))) : G 33 [.ref 0, .int v1, .int v2] [] (mkMs s) 0 0 := by
  unfold F_X12_drive_33 at hw
  refine mj_run hG.1 (fun pc => pc == 9 || pc == 18 || pc == 33 || pc == 43 || pc == 73 || pc == 76 || pc == 120) 4000 ?_
  simp only [mj_step, mj_W_s, mj_fin, List.getElem?_cons_zero, List.getElem?_cons_succ, mj_go, Nat.reduceAdd, Nat.reduceSub, Nat.reduceLT, Nat.reduceLeDiff, Nat.zero_add, Nat.reduceEqDiff, Nat.reduceBEq, ↓reduceIte, Bool.false_eq_true, List.append_nil, List.nil_append, List.cons_append, Option.toList, and_true, true_and, true_or, or_true, reduceCtorEq, List.map_nil, bI_eq0, bI_eq1, bool_ft, pk_us, vnar0, vnar1, Bool.or_false, Bool.or_true, Bool.false_or, Bool.true_or, mj_kne, eq_self, Int32.reduceLT, Int32.reduceLE, Int32.reduceAdd, Int32.reduceSub, Int32.reduceMul, not_true_eq_false, not_false_eq_true, false_implies, true_implies, D_X12_drive_0, D_X12_drive_1, mj_F_aload_n_k, mj_F_dup2, mj_F_getfield_i, mj_F_goto_off, mj_F_iadd, mj_F_iaload, mj_F_iastore, mj_F_iconst_n, mj_F_ifCond_eq_off, mj_F_ifCond_lt_off, mj_F_if_icmp_eq_off, mj_F_if_icmp_ge_off, mj_F_iinc_k_n, mj_F_iload_k, mj_F_iload_n_k, mj_F_imul, mj_F_invokestatic_i, mj_F_invokevirtual_i, mj_F_istore_k, mj_F_istore_n_k, mj_F_isub, mj_F_return_, mj_set, mj_set0, mj_unk, mj_c2, mj_kc, FT_X12, FT_X12_1, L_X12_drive, List.take_succ_cons, List.take_zero, List.drop_succ_cons, List.drop_zero, List.reverse_cons, List.reverse_nil, List.length_cons, List.length_nil, gS_M0, gMf_23, gMf_61, gS_M48, sS_Ma_48, gMf_22, gS_M20, sS_Ma_20, gMf_62, gS_M49, sS_Ma_49, J_X12_drive]
  refine ⟨(ok_rd hw).1, ?_⟩
  replace hw := (ok_rd hw).2
  exact hG.2 _ _ _ _ _ _ _ _ _ (by refine ⟨Or.inr rfl, ?_⟩; refine ⟨Or.inl rfl, ?_⟩; refine ⟨Or.inr rfl, ?_⟩; refine ⟨Or.inr rfl, ?_⟩; refine ⟨Or.inr rfl, ?_⟩; exact trivial) (Nat.zero_le _) (Nat.zero_le _) (g_X12_drive_43 hG hM  hw :)

set_option maxHeartbeats 4000000 in
theorem g_X12_drive_9 {k : Option Value → mj_H → Prop} {G : mj_K} (hG : mj_cl2 cX12_drive (TbX12 6 (none) ct_X12_drive) k G) (hM : mj_ml cX12_drive yX12_drive.cls G)   {v1 : Int32} {v2 : Int32} {v3 : Int32} {s : St} (hw : ok (F_X12_drive_9 v1 v2 v3 s) (fun p => k none (mkMs p))) : G 9 [.ref 0, .int v1, .int v2, .int v3] [] (mkMs s) 0 0 := by
  unfold F_X12_drive_9 at hw
  refine lp_ok (B_X12_drive_9 v1 s) (fun x => G 9 [.ref 0, .int v1, .int x.1, .int x.2] [] (mkMs s) 0 0) _ ?_ _ _ (ok_bind hw)
  rintro ⟨v2, v3⟩ hb
  exact b_X12_drive_9 hG hM (fun _ z => z) (fun y hw => by exact hG.2 _ _ _ _ _ _ _ _ _ (by refine ⟨Or.inr rfl, ?_⟩; refine ⟨Or.inr rfl, ?_⟩; refine ⟨Or.inr rfl, ?_⟩; exact trivial) (Nat.zero_le _) (Nat.zero_le _) (g_X12_drive_33 hG hM  hw :)) hb

set_option maxHeartbeats 4000000 in
set_option maxRecDepth 20000 in
theorem g_X12_drive {k : Option Value → mj_H → Prop} {G : mj_K} (hG : mj_cl2 cX12_drive (TbX12 6 (none) ct_X12_drive) k G) (hM : mj_ml cX12_drive yX12_drive.cls G) {v1 : Int32} {s : St} (hw : ok (F_X12_drive v1 s) (fun p => k none (mkMs p))) : G 0 [.ref 0, .int v1] [] (mkMs s) 0 0 := by
  unfold F_X12_drive at hw
  refine mj_run hG.1 (fun pc => pc == 9 || pc == 18 || pc == 33 || pc == 43 || pc == 73 || pc == 76 || pc == 120) 4000 ?_
  simp only [mj_step, mj_W_s, mj_fin, List.getElem?_cons_zero, List.getElem?_cons_succ, mj_go, Nat.reduceAdd, Nat.reduceSub, Nat.reduceLT, Nat.reduceLeDiff, Nat.zero_add, Nat.reduceEqDiff, Nat.reduceBEq, ↓reduceIte, Bool.false_eq_true, List.append_nil, List.nil_append, List.cons_append, Option.toList, and_true, true_and, true_or, or_true, reduceCtorEq, List.map_nil, bI_eq0, bI_eq1, bool_ft, pk_us, vnar0, vnar1, Bool.or_false, Bool.or_true, Bool.false_or, Bool.true_or, mj_kne, eq_self, Int32.reduceLT, Int32.reduceLE, Int32.reduceAdd, Int32.reduceSub, Int32.reduceMul, not_true_eq_false, not_false_eq_true, false_implies, true_implies, D_X12_drive_0, D_X12_drive_1, mj_F_aload_n_k, mj_F_dup2, mj_F_getfield_i, mj_F_goto_off, mj_F_iadd, mj_F_iaload, mj_F_iastore, mj_F_iconst_n, mj_F_ifCond_eq_off, mj_F_ifCond_lt_off, mj_F_if_icmp_eq_off, mj_F_if_icmp_ge_off, mj_F_iinc_k_n, mj_F_iload_k, mj_F_iload_n_k, mj_F_imul, mj_F_invokestatic_i, mj_F_invokevirtual_i, mj_F_istore_k, mj_F_istore_n_k, mj_F_isub, mj_F_return_, mj_set, mj_set0, mj_unk, mj_c2, mj_kc, FT_X12, FT_X12_1, L_X12_drive, List.take_succ_cons, List.take_zero, List.drop_succ_cons, List.drop_zero, List.reverse_cons, List.reverse_nil, List.length_cons, List.length_nil, gS_M0, gMf_23, gMf_61, gS_M48, sS_Ma_48, gMf_22, gS_M20, sS_Ma_20, gMf_62, gS_M49, sS_Ma_49, J_X12_drive]
  exact hG.2 _ _ _ _ _ _ _ _ _ (by refine ⟨Or.inr rfl, ?_⟩; refine ⟨Or.inr rfl, ?_⟩; refine ⟨Or.inr rfl, ?_⟩; refine ⟨Or.inr rfl, ?_⟩; exact trivial) (Nat.zero_le _) (Nat.zero_le _) (g_X12_drive_9 hG hM  hw :)

def c_X12_drive : mj_S := fun as h k => ∃ (v1 : Int32) (s : St), as = [.ref 0, .int v1] ∧ h = mkMs s ∧ ok (F_X12_drive v1 s) (fun p => k none (mkMs p))
theorem c_X12_drive_in {v1 : Int32} {s : St} {k : Option Value → mj_H → Prop} (hw : ok (F_X12_drive v1 s) (fun p => k none (mkMs p))) : c_X12_drive [.ref 0, .int v1] (mkMs s) k := ⟨v1, s, rfl, rfl, hw⟩
theorem m_X12_drive (l : Launch) : mj_Met l yX12_drive cX12_drive 6 (none) 1 0 0 c_X12_drive := by
  refine mj_body3 false (TbX12 6 (none) ct_X12_drive) (by decide) (by decide) rfl rfl (fun h => nomatch h) (tfX12 _ (List.forall_mem_cons.mpr ⟨cfX12_525 (m_X12_wants l) (by decide), fun _ h => nomatch h⟩)) ?_
  rintro as h k ⟨v1, s, rfl, rfl, hw⟩
  exact ⟨rfl, fun G hG hM => g_X12_drive hG hM hw⟩
def B_X12_weeks_43 (v1 : Int32) (v2 : Int32) : Int32 × St → Option ((Int32 × St) ⊕ ((St)))
  | (v3, s) =>
  if (s.1 1263) ≤ v3 then
    some (.inr s)
  else
    (rd s 1257 8 v3).bind fun x2 =>
    (rd s 1262 5 x2).bind fun x3 =>
    (rd s 1259 8 v3).bind fun x4 =>
    (rd s 1260 8 v3).bind fun x5 =>
    if inb (s.1 1200) x4 x5 = false then
      (wr s 1262 5 x2 (x3 + 0)).bind fun s6 =>
      some (.inl ((v3 + 1), s6))
    else
      (rd s 1258 8 v3).bind fun x7 =>
      (wr s 1262 5 x2 (x3 + x7)).bind fun s8 =>
      some (.inl ((v3 + 1), s8))
def B_X12_weeks_105 (v1 : Int32) (v2 : Int32) : Int32 × St → Option ((Int32 × St) ⊕ ((St)))
  | (v3, s) =>
  if (s.1 1264) ≤ v3 then
    some (.inr s)
  else
    (F_X12_drive v3 s).bind fun s9 =>
    some (.inl ((v3 + 1), s9))
def B_X12_weeks_126 (v1 : Int32) (v2 : Int32) : Int32 × St → Option ((Int32 × St) ⊕ ((St)))
  | (v3, s) =>
  if (s.1 1223) ≤ v3 then
    some (.inr s)
  else
    (rd s 1220 20 v3).bind fun x10 =>
    if x10 = (-1) then
      (F_X12_lacksKind v3 s).bind fun r11 =>
      if r11 = (-1) then
        (F_X12_isGiven v3 s).bind fun r12 =>
        if r12.1 = 0 then
          some (.inl ((v3 + 1), r12.2))
        else
          (wr r12.2 1220 20 v3 (r12.2.1 1200)).bind fun s13 =>
          some (.inl ((v3 + 1), s13))
      else
        some (.inl ((v3 + 1), s))
    else
      some (.inl ((v3 + 1), s))
def F_X12_weeks_177 (v1 : Int32) (v2 : Int32) (s : St) : Option ((Int32 × St) ⊕ ((St))) :=
  some (.inl ((v2 + 1), s))
def F_X12_weeks_126 (v1 : Int32) (v2 : Int32) (v3 : Int32) (s : St) : Option ((Int32 × St) ⊕ ((St))) :=
  (lp (B_X12_weeks_126 v1 v2) FU (v3, s)).bind (fun y => F_X12_weeks_177 v1 v2 y)
def F_X12_weeks_124 (v1 : Int32) (v2 : Int32) (s : St) : Option ((Int32 × St) ⊕ ((St))) :=
  F_X12_weeks_126 v1 v2 0 s
def F_X12_weeks_105 (v1 : Int32) (v2 : Int32) (v3 : Int32) (s : St) : Option ((Int32 × St) ⊕ ((St))) :=
  (lp (B_X12_weeks_105 v1 v2) FU (v3, s)).bind (fun y => F_X12_weeks_124 v1 v2 y)
def F_X12_weeks_103 (v1 : Int32) (v2 : Int32) (s : St) : Option ((Int32 × St) ⊕ ((St))) :=
  F_X12_weeks_105 v1 v2 0 s
def F_X12_weeks_43 (v1 : Int32) (v2 : Int32) (v3 : Int32) (s : St) : Option ((Int32 × St) ⊕ ((St))) :=
  (lp (B_X12_weeks_43 v1 v2) FU (v3, s)).bind (fun y => F_X12_weeks_103 v1 v2 y)
def B_X12_weeks_26 (v1 : Int32) : Int32 × St → Option ((Int32 × St) ⊕ ((St)))
  | (v2, s) =>
  if v1 ≤ v2 then
    some (.inr s)
  else
    (wI s 1200 ((s.1 1200) + 1)).bind fun s1 =>
    F_X12_weeks_43 v1 v2 0 s1
def F_X12_weeks_183 (s : St) : Option (Int32 × St) :=
  some ((s.1 1200), s)
def F_X12_weeks_26 (v1 : Int32) (v2 : Int32) (s : St) : Option (Int32 × St) :=
  (lp (B_X12_weeks_26 v1) FU (v2, s)).bind (fun y => F_X12_weeks_183 y)
def F_X12_weeks (v1 : Int32) (s : St) : Option (Int32 × St) :=
  if inb v1 0 104 = false then
    some ((-1), s)
  else
    if ((s.1 1200) + v1) ≤ 600 then
      F_X12_weeks_26 v1 0 s
    else
      some ((-1), s)
theorem J_X12_weeks : mj_t 7 15 = 22 ∧ mj_t 19 5 = 24 ∧ mj_t 28 155 = 183 ∧ mj_t 48 55 = 103 ∧ mj_t 82 12 = 94 ∧ mj_t 91 4 = 95 ∧ mj_t 100 (-57) = 43 ∧ mj_t 110 14 = 124 ∧ mj_t 121 (-16) = 105 ∧ mj_t 131 46 = 177 ∧ mj_t 141 30 = 171 ∧ mj_t 150 21 = 171 ∧ mj_t 158 13 = 171 ∧ mj_t 174 (-48) = 126 ∧ mj_t 180 (-154) = 26 ∧ (0 ≤ ((7 : Nat) : Int) + 15) = True ∧ (0 ≤ ((19 : Nat) : Int) + 5) = True ∧ (0 ≤ ((28 : Nat) : Int) + 155) = True ∧ (0 ≤ ((48 : Nat) : Int) + 55) = True ∧ (0 ≤ ((82 : Nat) : Int) + 12) = True ∧ (0 ≤ ((91 : Nat) : Int) + 4) = True ∧ (0 ≤ ((100 : Nat) : Int) + (-57)) = True ∧ (0 ≤ ((110 : Nat) : Int) + 14) = True ∧ (0 ≤ ((121 : Nat) : Int) + (-16)) = True ∧ (0 ≤ ((131 : Nat) : Int) + 46) = True ∧ (0 ≤ ((141 : Nat) : Int) + 30) = True ∧ (0 ≤ ((150 : Nat) : Int) + 21) = True ∧ (0 ≤ ((158 : Nat) : Int) + 13) = True ∧ (0 ≤ ((174 : Nat) : Int) + (-48)) = True ∧ (0 ≤ ((180 : Nat) : Int) + (-154)) = True := by and_intros <;> first | rfl | exact eq_true (by decide)
def ct_X12_weeks : List (Nat × mj_Cs) := [(243, 2, 3, 12, 0, 0, c_in), (519, 0, 2, 12, 0, 0, c_X12_lacksKind), (522, 0, 2, 12, 0, 0, c_X12_isGiven), (528, 0, 2, 12, 0, 0, c_X12_drive)]
theorem L_X12_weeks : mj_lk ct_X12_weeks 243 = some (2, 3, 12, 0, 0, c_in) ∧ mj_lk ct_X12_weeks 519 = some (0, 2, 12, 0, 0, c_X12_lacksKind) ∧ mj_lk ct_X12_weeks 522 = some (0, 2, 12, 0, 0, c_X12_isGiven) ∧ mj_lk ct_X12_weeks 528 = some (0, 2, 12, 0, 0, c_X12_drive) := ⟨rfl, rfl, rfl, rfl⟩
set_option maxHeartbeats 4000000 in
set_option maxRecDepth 20000 in
theorem b_X12_weeks_43 {k : Option Value → mj_H → Prop} {G : mj_K} (hG : mj_cl2 cX12_weeks (TbX12 4 ((some FieldType.int)) ct_X12_weeks) k G) {v1 : Int32} {v2 : Int32} {P : Int32 × St → Prop} {K : (St) → Prop} (hP : ∀ x, P x → G 43 [.ref 0, .int v1, .int v2, .int x.1] [] (mkMs x.2) 0 0) (hK0 : ∀ y, K y → G 103 [.ref 0, .int v1, .int v2] [] (mkMs y) 0 0) {v3 : Int32} {s : St} (hw : ok (B_X12_weeks_43 v1 v2 (v3, s)) (Sum.elim P K)) : G 43 [.ref 0, .int v1, .int v2, .int v3] [] (mkMs s) 0 0 := by
  unfold B_X12_weeks_43 at hw
  refine mj_run hG.1 (fun pc => pc == 26 || pc == 43 || pc == 103 || pc == 105 || pc == 118 || pc == 124 || pc == 126 || pc == 149 || pc == 158 || pc == 177 || pc == 183) 4000 ?_
  simp only [mj_step, mj_W_s, mj_fin, List.getElem?_cons_zero, List.getElem?_cons_succ, mj_go, Nat.reduceAdd, Nat.reduceSub, Nat.reduceLT, Nat.reduceLeDiff, Nat.zero_add, Nat.reduceEqDiff, Nat.reduceBEq, ↓reduceIte, Bool.false_eq_true, List.append_nil, List.nil_append, List.cons_append, Option.toList, and_true, true_and, true_or, or_true, reduceCtorEq, List.map_nil, bI_eq0, bI_eq1, bool_ft, pk_us, vnar0, vnar1, Bool.or_false, Bool.or_true, Bool.false_or, Bool.true_or, mj_kne, eq_self, Int32.reduceLT, Int32.reduceLE, Int32.reduceAdd, Int32.reduceSub, Int32.reduceMul, not_true_eq_false, not_false_eq_true, false_implies, true_implies, D_X12_weeks_0, D_X12_weeks_1, D_X12_weeks_2, mj_F_aload_n_k, mj_F_bipush_n, mj_F_dup, mj_F_dup2, mj_F_getfield_i, mj_F_goto_off, mj_F_iadd, mj_F_iaload, mj_F_iastore, mj_F_iconst_n, mj_F_ifCond_eq_off, mj_F_if_icmp_ge_off, mj_F_if_icmp_le_off, mj_F_if_icmp_ne_off, mj_F_iinc_k_n, mj_F_iload_n_k, mj_F_invokestatic_i, mj_F_invokevirtual_i, mj_F_ireturn, mj_F_istore_n_k, mj_F_putfield_i, mj_F_sipush_n, mj_set, mj_set0, mj_unk, mj_c2, mj_kc, FT_X12, FT_X12_1, PT_X12, L_X12_weeks, List.take_succ_cons, List.take_zero, List.drop_succ_cons, List.drop_zero, List.reverse_cons, List.reverse_nil, List.length_cons, List.length_nil, gS_M0, gMf_0, sS_Mf_0, gMl, gMf_63, gMf_62, gS_M49, sS_Ma_49, gMf_57, gS_M44, sS_Ma_44, gMf_59, gS_M46, sS_Ma_46, gMf_60, gS_M47, sS_Ma_47, gMf_58, gS_M45, sS_Ma_45, gMf_64, gMf_23, gMf_20, gS_M18, sS_Ma_18, c_in_eq, J_X12_weeks]
  refine ⟨fun c => ?_, fun c => ?_⟩
  · replace hw := ok_t hw c
    exact hG.2 _ _ _ _ _ _ _ _ _ (by refine ⟨Or.inr rfl, ?_⟩; refine ⟨Or.inr rfl, ?_⟩; refine ⟨Or.inr rfl, ?_⟩; exact trivial) (Nat.zero_le _) (Nat.zero_le _) (hK0 _ (ok_some hw :) :)
  · replace hw := ok_f hw c
    refine ⟨(ok_rd hw).1, ?_⟩
    replace hw := (ok_rd hw).2
    refine ⟨(ok_rd hw).1, ?_⟩
    replace hw := (ok_rd hw).2
    refine ⟨(ok_rd hw).1, ?_⟩
    replace hw := (ok_rd hw).2
    refine ⟨(ok_rd hw).1, ?_⟩
    replace hw := (ok_rd hw).2
    refine ⟨fun c => ?_, fun c => ?_⟩
    · replace hw := ok_t hw c
      refine ⟨(ok_wr hw).1, ?_⟩
      replace hw := (ok_wr hw).2
      exact hG.2 _ _ _ _ _ _ _ _ _ (by refine ⟨Or.inr rfl, ?_⟩; refine ⟨Or.inr rfl, ?_⟩; refine ⟨Or.inr rfl, ?_⟩; refine ⟨Or.inr rfl, ?_⟩; exact trivial) (Nat.zero_le _) (Nat.zero_le _) (hP _ (ok_some hw :) :)
    · replace hw := ok_f hw c
      refine ⟨(ok_rd hw).1, ?_⟩
      replace hw := (ok_rd hw).2
      refine ⟨(ok_wr hw).1, ?_⟩
      replace hw := (ok_wr hw).2
      exact hG.2 _ _ _ _ _ _ _ _ _ (by refine ⟨Or.inr rfl, ?_⟩; refine ⟨Or.inr rfl, ?_⟩; refine ⟨Or.inr rfl, ?_⟩; refine ⟨Or.inr rfl, ?_⟩; exact trivial) (Nat.zero_le _) (Nat.zero_le _) (hP _ (ok_some hw :) :)

set_option maxHeartbeats 4000000 in
set_option maxRecDepth 20000 in
theorem b_X12_weeks_105 {k : Option Value → mj_H → Prop} {G : mj_K} (hG : mj_cl2 cX12_weeks (TbX12 4 ((some FieldType.int)) ct_X12_weeks) k G) {v1 : Int32} {v2 : Int32} {P : Int32 × St → Prop} {K : (St) → Prop} (hP : ∀ x, P x → G 105 [.ref 0, .int v1, .int v2, .int x.1] [] (mkMs x.2) 0 0) (hK0 : ∀ y, K y → G 124 [.ref 0, .int v1, .int v2] [] (mkMs y) 0 0) {v3 : Int32} {s : St} (hw : ok (B_X12_weeks_105 v1 v2 (v3, s)) (Sum.elim P K)) : G 105 [.ref 0, .int v1, .int v2, .int v3] [] (mkMs s) 0 0 := by
  unfold B_X12_weeks_105 at hw
  refine mj_run hG.1 (fun pc => pc == 26 || pc == 43 || pc == 103 || pc == 105 || pc == 118 || pc == 124 || pc == 126 || pc == 149 || pc == 158 || pc == 177 || pc == 183) 4000 ?_
  simp only [mj_step, mj_W_s, mj_fin, List.getElem?_cons_zero, List.getElem?_cons_succ, mj_go, Nat.reduceAdd, Nat.reduceSub, Nat.reduceLT, Nat.reduceLeDiff, Nat.zero_add, Nat.reduceEqDiff, Nat.reduceBEq, ↓reduceIte, Bool.false_eq_true, List.append_nil, List.nil_append, List.cons_append, Option.toList, and_true, true_and, true_or, or_true, reduceCtorEq, List.map_nil, bI_eq0, bI_eq1, bool_ft, pk_us, vnar0, vnar1, Bool.or_false, Bool.or_true, Bool.false_or, Bool.true_or, mj_kne, eq_self, Int32.reduceLT, Int32.reduceLE, Int32.reduceAdd, Int32.reduceSub, Int32.reduceMul, not_true_eq_false, not_false_eq_true, false_implies, true_implies, D_X12_weeks_0, D_X12_weeks_1, D_X12_weeks_2, mj_F_aload_n_k, mj_F_bipush_n, mj_F_dup, mj_F_dup2, mj_F_getfield_i, mj_F_goto_off, mj_F_iadd, mj_F_iaload, mj_F_iastore, mj_F_iconst_n, mj_F_ifCond_eq_off, mj_F_if_icmp_ge_off, mj_F_if_icmp_le_off, mj_F_if_icmp_ne_off, mj_F_iinc_k_n, mj_F_iload_n_k, mj_F_invokestatic_i, mj_F_invokevirtual_i, mj_F_ireturn, mj_F_istore_n_k, mj_F_putfield_i, mj_F_sipush_n, mj_set, mj_set0, mj_unk, mj_c2, mj_kc, FT_X12, FT_X12_1, PT_X12, L_X12_weeks, List.take_succ_cons, List.take_zero, List.drop_succ_cons, List.drop_zero, List.reverse_cons, List.reverse_nil, List.length_cons, List.length_nil, gS_M0, gMf_0, sS_Mf_0, gMl, gMf_63, gMf_62, gS_M49, sS_Ma_49, gMf_57, gS_M44, sS_Ma_44, gMf_59, gS_M46, sS_Ma_46, gMf_60, gS_M47, sS_Ma_47, gMf_58, gS_M45, sS_Ma_45, gMf_64, gMf_23, gMf_20, gS_M18, sS_Ma_18, c_in_eq, J_X12_weeks]
  refine ⟨fun c => ?_, fun c => ?_⟩
  · replace hw := ok_t hw c
    exact hG.2 _ _ _ _ _ _ _ _ _ (by refine ⟨Or.inr rfl, ?_⟩; refine ⟨Or.inr rfl, ?_⟩; refine ⟨Or.inr rfl, ?_⟩; exact trivial) (Nat.zero_le _) (Nat.zero_le _) (hK0 _ (ok_some hw :) :)
  · replace hw := ok_f hw c
    refine c_X12_drive_in (ok_imp (ok_bind hw) ?_)
    intro p hw
    simp only [Option.toList, List.nil_append, List.cons_append, Nat.reduceSub]
    refine mj_run hG.1 (fun pc => pc == 26 || pc == 43 || pc == 103 || pc == 105 || pc == 118 || pc == 124 || pc == 126 || pc == 149 || pc == 158 || pc == 177 || pc == 183) 4000 ?_
    simp only [mj_step, mj_W_s, mj_fin, List.getElem?_cons_zero, List.getElem?_cons_succ, mj_go, Nat.reduceAdd, Nat.reduceSub, Nat.reduceLT, Nat.reduceLeDiff, Nat.zero_add, Nat.reduceEqDiff, Nat.reduceBEq, ↓reduceIte, Bool.false_eq_true, List.append_nil, List.nil_append, List.cons_append, Option.toList, and_true, true_and, true_or, or_true, reduceCtorEq, List.map_nil, bI_eq0, bI_eq1, bool_ft, pk_us, vnar0, vnar1, Bool.or_false, Bool.or_true, Bool.false_or, Bool.true_or, mj_kne, eq_self, Int32.reduceLT, Int32.reduceLE, Int32.reduceAdd, Int32.reduceSub, Int32.reduceMul, not_true_eq_false, not_false_eq_true, false_implies, true_implies, D_X12_weeks_0, D_X12_weeks_1, D_X12_weeks_2, mj_F_aload_n_k, mj_F_bipush_n, mj_F_dup, mj_F_dup2, mj_F_getfield_i, mj_F_goto_off, mj_F_iadd, mj_F_iaload, mj_F_iastore, mj_F_iconst_n, mj_F_ifCond_eq_off, mj_F_if_icmp_ge_off, mj_F_if_icmp_le_off, mj_F_if_icmp_ne_off, mj_F_iinc_k_n, mj_F_iload_n_k, mj_F_invokestatic_i, mj_F_invokevirtual_i, mj_F_ireturn, mj_F_istore_n_k, mj_F_putfield_i, mj_F_sipush_n, mj_set, mj_set0, mj_unk, mj_c2, mj_kc, FT_X12, FT_X12_1, PT_X12, L_X12_weeks, List.take_succ_cons, List.take_zero, List.drop_succ_cons, List.drop_zero, List.reverse_cons, List.reverse_nil, List.length_cons, List.length_nil, gS_M0, gMf_0, sS_Mf_0, gMl, gMf_63, gMf_62, gS_M49, sS_Ma_49, gMf_57, gS_M44, sS_Ma_44, gMf_59, gS_M46, sS_Ma_46, gMf_60, gS_M47, sS_Ma_47, gMf_58, gS_M45, sS_Ma_45, gMf_64, gMf_23, gMf_20, gS_M18, sS_Ma_18, c_in_eq, J_X12_weeks]
    exact hG.2 _ _ _ _ _ _ _ _ _ (by refine ⟨Or.inr rfl, ?_⟩; refine ⟨Or.inr rfl, ?_⟩; refine ⟨Or.inr rfl, ?_⟩; refine ⟨Or.inr rfl, ?_⟩; exact trivial) (Nat.zero_le _) (Nat.zero_le _) (hP _ (ok_some hw :) :)

set_option maxHeartbeats 4000000 in
set_option maxRecDepth 20000 in
theorem b_X12_weeks_126 {k : Option Value → mj_H → Prop} {G : mj_K} (hG : mj_cl2 cX12_weeks (TbX12 4 ((some FieldType.int)) ct_X12_weeks) k G) {v1 : Int32} {v2 : Int32} {P : Int32 × St → Prop} {K : (St) → Prop} (hP : ∀ x, P x → G 126 [.ref 0, .int v1, .int v2, .int x.1] [] (mkMs x.2) 0 0) (hK0 : ∀ y, K y → G 177 [.ref 0, .int v1, .int v2] [] (mkMs y) 0 0) {v3 : Int32} {s : St} (hw : ok (B_X12_weeks_126 v1 v2 (v3, s)) (Sum.elim P K)) : G 126 [.ref 0, .int v1, .int v2, .int v3] [] (mkMs s) 0 0 := by
  unfold B_X12_weeks_126 at hw
  refine mj_run hG.1 (fun pc => pc == 26 || pc == 43 || pc == 103 || pc == 105 || pc == 118 || pc == 124 || pc == 126 || pc == 149 || pc == 158 || pc == 177 || pc == 183) 4000 ?_
  simp only [mj_step, mj_W_s, mj_fin, List.getElem?_cons_zero, List.getElem?_cons_succ, mj_go, Nat.reduceAdd, Nat.reduceSub, Nat.reduceLT, Nat.reduceLeDiff, Nat.zero_add, Nat.reduceEqDiff, Nat.reduceBEq, ↓reduceIte, Bool.false_eq_true, List.append_nil, List.nil_append, List.cons_append, Option.toList, and_true, true_and, true_or, or_true, reduceCtorEq, List.map_nil, bI_eq0, bI_eq1, bool_ft, pk_us, vnar0, vnar1, Bool.or_false, Bool.or_true, Bool.false_or, Bool.true_or, mj_kne, eq_self, Int32.reduceLT, Int32.reduceLE, Int32.reduceAdd, Int32.reduceSub, Int32.reduceMul, not_true_eq_false, not_false_eq_true, false_implies, true_implies, D_X12_weeks_0, D_X12_weeks_1, D_X12_weeks_2, mj_F_aload_n_k, mj_F_bipush_n, mj_F_dup, mj_F_dup2, mj_F_getfield_i, mj_F_goto_off, mj_F_iadd, mj_F_iaload, mj_F_iastore, mj_F_iconst_n, mj_F_ifCond_eq_off, mj_F_if_icmp_ge_off, mj_F_if_icmp_le_off, mj_F_if_icmp_ne_off, mj_F_iinc_k_n, mj_F_iload_n_k, mj_F_invokestatic_i, mj_F_invokevirtual_i, mj_F_ireturn, mj_F_istore_n_k, mj_F_putfield_i, mj_F_sipush_n, mj_set, mj_set0, mj_unk, mj_c2, mj_kc, FT_X12, FT_X12_1, PT_X12, L_X12_weeks, List.take_succ_cons, List.take_zero, List.drop_succ_cons, List.drop_zero, List.reverse_cons, List.reverse_nil, List.length_cons, List.length_nil, gS_M0, gMf_0, sS_Mf_0, gMl, gMf_63, gMf_62, gS_M49, sS_Ma_49, gMf_57, gS_M44, sS_Ma_44, gMf_59, gS_M46, sS_Ma_46, gMf_60, gS_M47, sS_Ma_47, gMf_58, gS_M45, sS_Ma_45, gMf_64, gMf_23, gMf_20, gS_M18, sS_Ma_18, c_in_eq, J_X12_weeks]
  refine ⟨fun c => ?_, fun c => ?_⟩
  · replace hw := ok_t hw c
    exact hG.2 _ _ _ _ _ _ _ _ _ (by refine ⟨Or.inr rfl, ?_⟩; refine ⟨Or.inr rfl, ?_⟩; refine ⟨Or.inr rfl, ?_⟩; exact trivial) (Nat.zero_le _) (Nat.zero_le _) (hK0 _ (ok_some hw :) :)
  · replace hw := ok_f hw c
    refine ⟨(ok_rd hw).1, ?_⟩
    replace hw := (ok_rd hw).2
    refine ⟨fun c => ?_, fun c => ?_⟩
    · replace hw := ok_f hw c
      exact hG.2 _ _ _ _ _ _ _ _ _ (by refine ⟨Or.inr rfl, ?_⟩; refine ⟨Or.inr rfl, ?_⟩; refine ⟨Or.inr rfl, ?_⟩; refine ⟨Or.inr rfl, ?_⟩; exact trivial) (Nat.zero_le _) (Nat.zero_le _) (hP _ (ok_some hw :) :)
    · replace hw := ok_t hw c
      refine c_X12_lacksKind_in (ok_imp (ok_bind hw) ?_)
      intro p hw
      simp only [Option.toList, List.nil_append, List.cons_append, Nat.reduceSub]
      refine mj_run hG.1 (fun pc => pc == 26 || pc == 43 || pc == 103 || pc == 105 || pc == 118 || pc == 124 || pc == 126 || pc == 149 || pc == 158 || pc == 177 || pc == 183) 4000 ?_
      simp only [mj_step, mj_W_s, mj_fin, List.getElem?_cons_zero, List.getElem?_cons_succ, mj_go, Nat.reduceAdd, Nat.reduceSub, Nat.reduceLT, Nat.reduceLeDiff, Nat.zero_add, Nat.reduceEqDiff, Nat.reduceBEq, ↓reduceIte, Bool.false_eq_true, List.append_nil, List.nil_append, List.cons_append, Option.toList, and_true, true_and, true_or, or_true, reduceCtorEq, List.map_nil, bI_eq0, bI_eq1, bool_ft, pk_us, vnar0, vnar1, Bool.or_false, Bool.or_true, Bool.false_or, Bool.true_or, mj_kne, eq_self, Int32.reduceLT, Int32.reduceLE, Int32.reduceAdd, Int32.reduceSub, Int32.reduceMul, not_true_eq_false, not_false_eq_true, false_implies, true_implies, D_X12_weeks_0, D_X12_weeks_1, D_X12_weeks_2, mj_F_aload_n_k, mj_F_bipush_n, mj_F_dup, mj_F_dup2, mj_F_getfield_i, mj_F_goto_off, mj_F_iadd, mj_F_iaload, mj_F_iastore, mj_F_iconst_n, mj_F_ifCond_eq_off, mj_F_if_icmp_ge_off, mj_F_if_icmp_le_off, mj_F_if_icmp_ne_off, mj_F_iinc_k_n, mj_F_iload_n_k, mj_F_invokestatic_i, mj_F_invokevirtual_i, mj_F_ireturn, mj_F_istore_n_k, mj_F_putfield_i, mj_F_sipush_n, mj_set, mj_set0, mj_unk, mj_c2, mj_kc, FT_X12, FT_X12_1, PT_X12, L_X12_weeks, List.take_succ_cons, List.take_zero, List.drop_succ_cons, List.drop_zero, List.reverse_cons, List.reverse_nil, List.length_cons, List.length_nil, gS_M0, gMf_0, sS_Mf_0, gMl, gMf_63, gMf_62, gS_M49, sS_Ma_49, gMf_57, gS_M44, sS_Ma_44, gMf_59, gS_M46, sS_Ma_46, gMf_60, gS_M47, sS_Ma_47, gMf_58, gS_M45, sS_Ma_45, gMf_64, gMf_23, gMf_20, gS_M18, sS_Ma_18, c_in_eq, J_X12_weeks]
      refine ⟨fun c => ?_, fun c => ?_⟩
      · replace hw := ok_f hw c
        exact hG.2 _ _ _ _ _ _ _ _ _ (by refine ⟨Or.inr rfl, ?_⟩; refine ⟨Or.inr rfl, ?_⟩; refine ⟨Or.inr rfl, ?_⟩; refine ⟨Or.inr rfl, ?_⟩; exact trivial) (Nat.zero_le _) (Nat.zero_le _) (hP _ (ok_some hw :) :)
      · replace hw := ok_t hw c
        refine c_X12_isGiven_in (ok_imp (ok_bind hw) ?_)
        intro p hw
        simp only [Option.toList, List.nil_append, List.cons_append, Nat.reduceSub]
        refine mj_run hG.1 (fun pc => pc == 26 || pc == 43 || pc == 103 || pc == 105 || pc == 118 || pc == 124 || pc == 126 || pc == 149 || pc == 158 || pc == 177 || pc == 183) 4000 ?_
        simp only [mj_step, mj_W_s, mj_fin, List.getElem?_cons_zero, List.getElem?_cons_succ, mj_go, Nat.reduceAdd, Nat.reduceSub, Nat.reduceLT, Nat.reduceLeDiff, Nat.zero_add, Nat.reduceEqDiff, Nat.reduceBEq, ↓reduceIte, Bool.false_eq_true, List.append_nil, List.nil_append, List.cons_append, Option.toList, and_true, true_and, true_or, or_true, reduceCtorEq, List.map_nil, bI_eq0, bI_eq1, bool_ft, pk_us, vnar0, vnar1, Bool.or_false, Bool.or_true, Bool.false_or, Bool.true_or, mj_kne, eq_self, Int32.reduceLT, Int32.reduceLE, Int32.reduceAdd, Int32.reduceSub, Int32.reduceMul, not_true_eq_false, not_false_eq_true, false_implies, true_implies, D_X12_weeks_0, D_X12_weeks_1, D_X12_weeks_2, mj_F_aload_n_k, mj_F_bipush_n, mj_F_dup, mj_F_dup2, mj_F_getfield_i, mj_F_goto_off, mj_F_iadd, mj_F_iaload, mj_F_iastore, mj_F_iconst_n, mj_F_ifCond_eq_off, mj_F_if_icmp_ge_off, mj_F_if_icmp_le_off, mj_F_if_icmp_ne_off, mj_F_iinc_k_n, mj_F_iload_n_k, mj_F_invokestatic_i, mj_F_invokevirtual_i, mj_F_ireturn, mj_F_istore_n_k, mj_F_putfield_i, mj_F_sipush_n, mj_set, mj_set0, mj_unk, mj_c2, mj_kc, FT_X12, FT_X12_1, PT_X12, L_X12_weeks, List.take_succ_cons, List.take_zero, List.drop_succ_cons, List.drop_zero, List.reverse_cons, List.reverse_nil, List.length_cons, List.length_nil, gS_M0, gMf_0, sS_Mf_0, gMl, gMf_63, gMf_62, gS_M49, sS_Ma_49, gMf_57, gS_M44, sS_Ma_44, gMf_59, gS_M46, sS_Ma_46, gMf_60, gS_M47, sS_Ma_47, gMf_58, gS_M45, sS_Ma_45, gMf_64, gMf_23, gMf_20, gS_M18, sS_Ma_18, c_in_eq, J_X12_weeks]
        refine ⟨fun c => ?_, fun c => ?_⟩
        · replace hw := ok_t hw c
          exact hG.2 _ _ _ _ _ _ _ _ _ (by refine ⟨Or.inr rfl, ?_⟩; refine ⟨Or.inr rfl, ?_⟩; refine ⟨Or.inr rfl, ?_⟩; refine ⟨Or.inr rfl, ?_⟩; exact trivial) (Nat.zero_le _) (Nat.zero_le _) (hP _ (ok_some hw :) :)
        · replace hw := ok_f hw c
          refine ⟨(ok_wr hw).1, ?_⟩
          replace hw := (ok_wr hw).2
          exact hG.2 _ _ _ _ _ _ _ _ _ (by refine ⟨Or.inr rfl, ?_⟩; refine ⟨Or.inr rfl, ?_⟩; refine ⟨Or.inr rfl, ?_⟩; refine ⟨Or.inr rfl, ?_⟩; exact trivial) (Nat.zero_le _) (Nat.zero_le _) (hP _ (ok_some hw :) :)

set_option maxHeartbeats 4000000 in
set_option maxRecDepth 20000 in
theorem g_X12_weeks_177 {k : Option Value → mj_H → Prop} {G : mj_K} (hG : mj_cl2 cX12_weeks (TbX12 4 ((some FieldType.int)) ct_X12_weeks) k G) {v1 : Int32} {P : Int32 × St → Prop} {K : (St) → Prop} (hP : ∀ x, P x → G 26 [.ref 0, .int v1, .int x.1] [] (mkMs x.2) 0 0) (hK0 : ∀ y, K y → G 183 [.ref 0] [] (mkMs y) 0 0) {v2 : Int32} {s : St} (hw : ok (F_X12_weeks_177 v1 v2 s) (Sum.elim P K)) : G 177 [.ref 0, .int v1, .int v2] [] (mkMs s) 0 0 := by
  unfold F_X12_weeks_177 at hw
  refine mj_run hG.1 (fun pc => pc == 26 || pc == 43 || pc == 103 || pc == 105 || pc == 118 || pc == 124 || pc == 126 || pc == 149 || pc == 158 || pc == 177 || pc == 183) 4000 ?_
  simp only [mj_step, mj_W_s, mj_fin, List.getElem?_cons_zero, List.getElem?_cons_succ, mj_go, Nat.reduceAdd, Nat.reduceSub, Nat.reduceLT, Nat.reduceLeDiff, Nat.zero_add, Nat.reduceEqDiff, Nat.reduceBEq, ↓reduceIte, Bool.false_eq_true, List.append_nil, List.nil_append, List.cons_append, Option.toList, and_true, true_and, true_or, or_true, reduceCtorEq, List.map_nil, bI_eq0, bI_eq1, bool_ft, pk_us, vnar0, vnar1, Bool.or_false, Bool.or_true, Bool.false_or, Bool.true_or, mj_kne, eq_self, Int32.reduceLT, Int32.reduceLE, Int32.reduceAdd, Int32.reduceSub, Int32.reduceMul, not_true_eq_false, not_false_eq_true, false_implies, true_implies, D_X12_weeks_0, D_X12_weeks_1, D_X12_weeks_2, mj_F_aload_n_k, mj_F_bipush_n, mj_F_dup, mj_F_dup2, mj_F_getfield_i, mj_F_goto_off, mj_F_iadd, mj_F_iaload, mj_F_iastore, mj_F_iconst_n, mj_F_ifCond_eq_off, mj_F_if_icmp_ge_off, mj_F_if_icmp_le_off, mj_F_if_icmp_ne_off, mj_F_iinc_k_n, mj_F_iload_n_k, mj_F_invokestatic_i, mj_F_invokevirtual_i, mj_F_ireturn, mj_F_istore_n_k, mj_F_putfield_i, mj_F_sipush_n, mj_set, mj_set0, mj_unk, mj_c2, mj_kc, FT_X12, FT_X12_1, PT_X12, L_X12_weeks, List.take_succ_cons, List.take_zero, List.drop_succ_cons, List.drop_zero, List.reverse_cons, List.reverse_nil, List.length_cons, List.length_nil, gS_M0, gMf_0, sS_Mf_0, gMl, gMf_63, gMf_62, gS_M49, sS_Ma_49, gMf_57, gS_M44, sS_Ma_44, gMf_59, gS_M46, sS_Ma_46, gMf_60, gS_M47, sS_Ma_47, gMf_58, gS_M45, sS_Ma_45, gMf_64, gMf_23, gMf_20, gS_M18, sS_Ma_18, c_in_eq, J_X12_weeks]
  exact hG.2 _ _ _ _ _ _ _ _ _ (by refine ⟨Or.inr rfl, ?_⟩; refine ⟨Or.inr rfl, ?_⟩; refine ⟨Or.inr rfl, ?_⟩; exact trivial) (Nat.zero_le _) (Nat.zero_le _) (hP _ (ok_some hw :) :)

set_option maxHeartbeats 4000000 in
theorem g_X12_weeks_126 {k : Option Value → mj_H → Prop} {G : mj_K} (hG : mj_cl2 cX12_weeks (TbX12 4 ((some FieldType.int)) ct_X12_weeks) k G) {v1 : Int32} {P : Int32 × St → Prop} {K : (St) → Prop} (hP : ∀ x, P x → G 26 [.ref 0, .int v1, .int x.1] [] (mkMs x.2) 0 0) (hK0 : ∀ y, K y → G 183 [.ref 0] [] (mkMs y) 0 0) {v2 : Int32} {v3 : Int32} {s : St} (hw : ok (F_X12_weeks_126 v1 v2 v3 s) (Sum.elim P K)) : G 126 [.ref 0, .int v1, .int v2, .int v3] [] (mkMs s) 0 0 := by
  unfold F_X12_weeks_126 at hw
  refine lp_ok (B_X12_weeks_126 v1 v2) (fun x => G 126 [.ref 0, .int v1, .int v2, .int x.1] [] (mkMs x.2) 0 0) _ ?_ _ _ (ok_bind hw)
  rintro ⟨v3, s⟩ hb
  exact b_X12_weeks_126 hG (fun _ z => z) (fun y hw => by exact hG.2 _ _ _ _ _ _ _ _ _ (by refine ⟨Or.inr rfl, ?_⟩; refine ⟨Or.inr rfl, ?_⟩; refine ⟨Or.inr rfl, ?_⟩; exact trivial) (Nat.zero_le _) (Nat.zero_le _) (g_X12_weeks_177 hG hP hK0  hw :)) hb

set_option maxHeartbeats 4000000 in
set_option maxRecDepth 20000 in
theorem g_X12_weeks_124 {k : Option Value → mj_H → Prop} {G : mj_K} (hG : mj_cl2 cX12_weeks (TbX12 4 ((some FieldType.int)) ct_X12_weeks) k G) {v1 : Int32} {P : Int32 × St → Prop} {K : (St) → Prop} (hP : ∀ x, P x → G 26 [.ref 0, .int v1, .int x.1] [] (mkMs x.2) 0 0) (hK0 : ∀ y, K y → G 183 [.ref 0] [] (mkMs y) 0 0) {v2 : Int32} {s : St} (hw : ok (F_X12_weeks_124 v1 v2 s) (Sum.elim P K)) : G 124 [.ref 0, .int v1, .int v2] [] (mkMs s) 0 0 := by
  unfold F_X12_weeks_124 at hw
  refine mj_run hG.1 (fun pc => pc == 26 || pc == 43 || pc == 103 || pc == 105 || pc == 118 || pc == 124 || pc == 126 || pc == 149 || pc == 158 || pc == 177 || pc == 183) 4000 ?_
  simp only [mj_step, mj_W_s, mj_fin, List.getElem?_cons_zero, List.getElem?_cons_succ, mj_go, Nat.reduceAdd, Nat.reduceSub, Nat.reduceLT, Nat.reduceLeDiff, Nat.zero_add, Nat.reduceEqDiff, Nat.reduceBEq, ↓reduceIte, Bool.false_eq_true, List.append_nil, List.nil_append, List.cons_append, Option.toList, and_true, true_and, true_or, or_true, reduceCtorEq, List.map_nil, bI_eq0, bI_eq1, bool_ft, pk_us, vnar0, vnar1, Bool.or_false, Bool.or_true, Bool.false_or, Bool.true_or, mj_kne, eq_self, Int32.reduceLT, Int32.reduceLE, Int32.reduceAdd, Int32.reduceSub, Int32.reduceMul, not_true_eq_false, not_false_eq_true, false_implies, true_implies, D_X12_weeks_0, D_X12_weeks_1, D_X12_weeks_2, mj_F_aload_n_k, mj_F_bipush_n, mj_F_dup, mj_F_dup2, mj_F_getfield_i, mj_F_goto_off, mj_F_iadd, mj_F_iaload, mj_F_iastore, mj_F_iconst_n, mj_F_ifCond_eq_off, mj_F_if_icmp_ge_off, mj_F_if_icmp_le_off, mj_F_if_icmp_ne_off, mj_F_iinc_k_n, mj_F_iload_n_k, mj_F_invokestatic_i, mj_F_invokevirtual_i, mj_F_ireturn, mj_F_istore_n_k, mj_F_putfield_i, mj_F_sipush_n, mj_set, mj_set0, mj_unk, mj_c2, mj_kc, FT_X12, FT_X12_1, PT_X12, L_X12_weeks, List.take_succ_cons, List.take_zero, List.drop_succ_cons, List.drop_zero, List.reverse_cons, List.reverse_nil, List.length_cons, List.length_nil, gS_M0, gMf_0, sS_Mf_0, gMl, gMf_63, gMf_62, gS_M49, sS_Ma_49, gMf_57, gS_M44, sS_Ma_44, gMf_59, gS_M46, sS_Ma_46, gMf_60, gS_M47, sS_Ma_47, gMf_58, gS_M45, sS_Ma_45, gMf_64, gMf_23, gMf_20, gS_M18, sS_Ma_18, c_in_eq, J_X12_weeks]
  exact hG.2 _ _ _ _ _ _ _ _ _ (by refine ⟨Or.inr rfl, ?_⟩; refine ⟨Or.inr rfl, ?_⟩; refine ⟨Or.inr rfl, ?_⟩; refine ⟨Or.inr rfl, ?_⟩; exact trivial) (Nat.zero_le _) (Nat.zero_le _) (g_X12_weeks_126 hG hP hK0  hw :)

set_option maxHeartbeats 4000000 in
theorem g_X12_weeks_105 {k : Option Value → mj_H → Prop} {G : mj_K} (hG : mj_cl2 cX12_weeks (TbX12 4 ((some FieldType.int)) ct_X12_weeks) k G) {v1 : Int32} {P : Int32 × St → Prop} {K : (St) → Prop} (hP : ∀ x, P x → G 26 [.ref 0, .int v1, .int x.1] [] (mkMs x.2) 0 0) (hK0 : ∀ y, K y → G 183 [.ref 0] [] (mkMs y) 0 0) {v2 : Int32} {v3 : Int32} {s : St} (hw : ok (F_X12_weeks_105 v1 v2 v3 s) (Sum.elim P K)) : G 105 [.ref 0, .int v1, .int v2, .int v3] [] (mkMs s) 0 0 := by
  unfold F_X12_weeks_105 at hw
  refine lp_ok (B_X12_weeks_105 v1 v2) (fun x => G 105 [.ref 0, .int v1, .int v2, .int x.1] [] (mkMs x.2) 0 0) _ ?_ _ _ (ok_bind hw)
  rintro ⟨v3, s⟩ hb
  exact b_X12_weeks_105 hG (fun _ z => z) (fun y hw => by exact hG.2 _ _ _ _ _ _ _ _ _ (by refine ⟨Or.inr rfl, ?_⟩; refine ⟨Or.inr rfl, ?_⟩; refine ⟨Or.inr rfl, ?_⟩; exact trivial) (Nat.zero_le _) (Nat.zero_le _) (g_X12_weeks_124 hG hP hK0  hw :)) hb

set_option maxHeartbeats 4000000 in
set_option maxRecDepth 20000 in
theorem g_X12_weeks_103 {k : Option Value → mj_H → Prop} {G : mj_K} (hG : mj_cl2 cX12_weeks (TbX12 4 ((some FieldType.int)) ct_X12_weeks) k G) {v1 : Int32} {P : Int32 × St → Prop} {K : (St) → Prop} (hP : ∀ x, P x → G 26 [.ref 0, .int v1, .int x.1] [] (mkMs x.2) 0 0) (hK0 : ∀ y, K y → G 183 [.ref 0] [] (mkMs y) 0 0) {v2 : Int32} {s : St} (hw : ok (F_X12_weeks_103 v1 v2 s) (Sum.elim P K)) : G 103 [.ref 0, .int v1, .int v2] [] (mkMs s) 0 0 := by
  unfold F_X12_weeks_103 at hw
  refine mj_run hG.1 (fun pc => pc == 26 || pc == 43 || pc == 103 || pc == 105 || pc == 118 || pc == 124 || pc == 126 || pc == 149 || pc == 158 || pc == 177 || pc == 183) 4000 ?_
  simp only [mj_step, mj_W_s, mj_fin, List.getElem?_cons_zero, List.getElem?_cons_succ, mj_go, Nat.reduceAdd, Nat.reduceSub, Nat.reduceLT, Nat.reduceLeDiff, Nat.zero_add, Nat.reduceEqDiff, Nat.reduceBEq, ↓reduceIte, Bool.false_eq_true, List.append_nil, List.nil_append, List.cons_append, Option.toList, and_true, true_and, true_or, or_true, reduceCtorEq, List.map_nil, bI_eq0, bI_eq1, bool_ft, pk_us, vnar0, vnar1, Bool.or_false, Bool.or_true, Bool.false_or, Bool.true_or, mj_kne, eq_self, Int32.reduceLT, Int32.reduceLE, Int32.reduceAdd, Int32.reduceSub, Int32.reduceMul, not_true_eq_false, not_false_eq_true, false_implies, true_implies, D_X12_weeks_0, D_X12_weeks_1, D_X12_weeks_2, mj_F_aload_n_k, mj_F_bipush_n, mj_F_dup, mj_F_dup2, mj_F_getfield_i, mj_F_goto_off, mj_F_iadd, mj_F_iaload, mj_F_iastore, mj_F_iconst_n, mj_F_ifCond_eq_off, mj_F_if_icmp_ge_off, mj_F_if_icmp_le_off, mj_F_if_icmp_ne_off, mj_F_iinc_k_n, mj_F_iload_n_k, mj_F_invokestatic_i, mj_F_invokevirtual_i, mj_F_ireturn, mj_F_istore_n_k, mj_F_putfield_i, mj_F_sipush_n, mj_set, mj_set0, mj_unk, mj_c2, mj_kc, FT_X12, FT_X12_1, PT_X12, L_X12_weeks, List.take_succ_cons, List.take_zero, List.drop_succ_cons, List.drop_zero, List.reverse_cons, List.reverse_nil, List.length_cons, List.length_nil, gS_M0, gMf_0, sS_Mf_0, gMl, gMf_63, gMf_62, gS_M49, sS_Ma_49, gMf_57, gS_M44, sS_Ma_44, gMf_59, gS_M46, sS_Ma_46, gMf_60, gS_M47, sS_Ma_47, gMf_58, gS_M45, sS_Ma_45, gMf_64, gMf_23, gMf_20, gS_M18, sS_Ma_18, c_in_eq, J_X12_weeks]
  exact hG.2 _ _ _ _ _ _ _ _ _ (by refine ⟨Or.inr rfl, ?_⟩; refine ⟨Or.inr rfl, ?_⟩; refine ⟨Or.inr rfl, ?_⟩; refine ⟨Or.inr rfl, ?_⟩; exact trivial) (Nat.zero_le _) (Nat.zero_le _) (g_X12_weeks_105 hG hP hK0  hw :)

set_option maxHeartbeats 4000000 in
theorem g_X12_weeks_43 {k : Option Value → mj_H → Prop} {G : mj_K} (hG : mj_cl2 cX12_weeks (TbX12 4 ((some FieldType.int)) ct_X12_weeks) k G) {v1 : Int32} {P : Int32 × St → Prop} {K : (St) → Prop} (hP : ∀ x, P x → G 26 [.ref 0, .int v1, .int x.1] [] (mkMs x.2) 0 0) (hK0 : ∀ y, K y → G 183 [.ref 0] [] (mkMs y) 0 0) {v2 : Int32} {v3 : Int32} {s : St} (hw : ok (F_X12_weeks_43 v1 v2 v3 s) (Sum.elim P K)) : G 43 [.ref 0, .int v1, .int v2, .int v3] [] (mkMs s) 0 0 := by
  unfold F_X12_weeks_43 at hw
  refine lp_ok (B_X12_weeks_43 v1 v2) (fun x => G 43 [.ref 0, .int v1, .int v2, .int x.1] [] (mkMs x.2) 0 0) _ ?_ _ _ (ok_bind hw)
  rintro ⟨v3, s⟩ hb
  exact b_X12_weeks_43 hG (fun _ z => z) (fun y hw => by exact hG.2 _ _ _ _ _ _ _ _ _ (by refine ⟨Or.inr rfl, ?_⟩; refine ⟨Or.inr rfl, ?_⟩; refine ⟨Or.inr rfl, ?_⟩; exact trivial) (Nat.zero_le _) (Nat.zero_le _) (g_X12_weeks_103 hG hP hK0  hw :)) hb

set_option maxHeartbeats 4000000 in
set_option maxRecDepth 20000 in
theorem b_X12_weeks_26 {k : Option Value → mj_H → Prop} {G : mj_K} (hG : mj_cl2 cX12_weeks (TbX12 4 ((some FieldType.int)) ct_X12_weeks) k G) {v1 : Int32} {P : Int32 × St → Prop} {K : (St) → Prop} (hP : ∀ x, P x → G 26 [.ref 0, .int v1, .int x.1] [] (mkMs x.2) 0 0) (hK0 : ∀ y, K y → G 183 [.ref 0] [] (mkMs y) 0 0) {v2 : Int32} {s : St} (hw : ok (B_X12_weeks_26 v1 (v2, s)) (Sum.elim P K)) : G 26 [.ref 0, .int v1, .int v2] [] (mkMs s) 0 0 := by
  unfold B_X12_weeks_26 at hw
  refine mj_run hG.1 (fun pc => pc == 26 || pc == 43 || pc == 103 || pc == 105 || pc == 118 || pc == 124 || pc == 126 || pc == 149 || pc == 158 || pc == 177 || pc == 183) 4000 ?_
  simp only [mj_step, mj_W_s, mj_fin, List.getElem?_cons_zero, List.getElem?_cons_succ, mj_go, Nat.reduceAdd, Nat.reduceSub, Nat.reduceLT, Nat.reduceLeDiff, Nat.zero_add, Nat.reduceEqDiff, Nat.reduceBEq, ↓reduceIte, Bool.false_eq_true, List.append_nil, List.nil_append, List.cons_append, Option.toList, and_true, true_and, true_or, or_true, reduceCtorEq, List.map_nil, bI_eq0, bI_eq1, bool_ft, pk_us, vnar0, vnar1, Bool.or_false, Bool.or_true, Bool.false_or, Bool.true_or, mj_kne, eq_self, Int32.reduceLT, Int32.reduceLE, Int32.reduceAdd, Int32.reduceSub, Int32.reduceMul, not_true_eq_false, not_false_eq_true, false_implies, true_implies, D_X12_weeks_0, D_X12_weeks_1, D_X12_weeks_2, mj_F_aload_n_k, mj_F_bipush_n, mj_F_dup, mj_F_dup2, mj_F_getfield_i, mj_F_goto_off, mj_F_iadd, mj_F_iaload, mj_F_iastore, mj_F_iconst_n, mj_F_ifCond_eq_off, mj_F_if_icmp_ge_off, mj_F_if_icmp_le_off, mj_F_if_icmp_ne_off, mj_F_iinc_k_n, mj_F_iload_n_k, mj_F_invokestatic_i, mj_F_invokevirtual_i, mj_F_ireturn, mj_F_istore_n_k, mj_F_putfield_i, mj_F_sipush_n, mj_set, mj_set0, mj_unk, mj_c2, mj_kc, FT_X12, FT_X12_1, PT_X12, L_X12_weeks, List.take_succ_cons, List.take_zero, List.drop_succ_cons, List.drop_zero, List.reverse_cons, List.reverse_nil, List.length_cons, List.length_nil, gS_M0, gMf_0, sS_Mf_0, gMl, gMf_63, gMf_62, gS_M49, sS_Ma_49, gMf_57, gS_M44, sS_Ma_44, gMf_59, gS_M46, sS_Ma_46, gMf_60, gS_M47, sS_Ma_47, gMf_58, gS_M45, sS_Ma_45, gMf_64, gMf_23, gMf_20, gS_M18, sS_Ma_18, c_in_eq, J_X12_weeks]
  refine ⟨fun c => ?_, fun c => ?_⟩
  · replace hw := ok_t hw c
    exact hG.2 _ _ _ _ _ _ _ _ _ (by refine ⟨Or.inr rfl, ?_⟩; exact trivial) (Nat.zero_le _) (Nat.zero_le _) (hK0 _ (ok_some hw :) :)
  · replace hw := ok_f hw c
    replace hw := ok_wI hw
    exact hG.2 _ _ _ _ _ _ _ _ _ (by refine ⟨Or.inr rfl, ?_⟩; refine ⟨Or.inr rfl, ?_⟩; refine ⟨Or.inr rfl, ?_⟩; refine ⟨Or.inr rfl, ?_⟩; exact trivial) (Nat.zero_le _) (Nat.zero_le _) (g_X12_weeks_43 hG hP hK0  hw :)

set_option maxHeartbeats 4000000 in
set_option maxRecDepth 20000 in
theorem g_X12_weeks_183 {k : Option Value → mj_H → Prop} {G : mj_K} (hG : mj_cl2 cX12_weeks (TbX12 4 ((some FieldType.int)) ct_X12_weeks) k G)   {s : St} (hw : ok (F_X12_weeks_183 s) (fun p => k (some (.int p.1)) (mkMs p.2))) : G 183 [.ref 0] [] (mkMs s) 0 0 := by
  unfold F_X12_weeks_183 at hw
  refine mj_run hG.1 (fun pc => pc == 26 || pc == 43 || pc == 103 || pc == 105 || pc == 118 || pc == 124 || pc == 126 || pc == 149 || pc == 158 || pc == 177 || pc == 183) 4000 ?_
  simp only [mj_step, mj_W_s, mj_fin, List.getElem?_cons_zero, List.getElem?_cons_succ, mj_go, Nat.reduceAdd, Nat.reduceSub, Nat.reduceLT, Nat.reduceLeDiff, Nat.zero_add, Nat.reduceEqDiff, Nat.reduceBEq, ↓reduceIte, Bool.false_eq_true, List.append_nil, List.nil_append, List.cons_append, Option.toList, and_true, true_and, true_or, or_true, reduceCtorEq, List.map_nil, bI_eq0, bI_eq1, bool_ft, pk_us, vnar0, vnar1, Bool.or_false, Bool.or_true, Bool.false_or, Bool.true_or, mj_kne, eq_self, Int32.reduceLT, Int32.reduceLE, Int32.reduceAdd, Int32.reduceSub, Int32.reduceMul, not_true_eq_false, not_false_eq_true, false_implies, true_implies, D_X12_weeks_0, D_X12_weeks_1, D_X12_weeks_2, mj_F_aload_n_k, mj_F_bipush_n, mj_F_dup, mj_F_dup2, mj_F_getfield_i, mj_F_goto_off, mj_F_iadd, mj_F_iaload, mj_F_iastore, mj_F_iconst_n, mj_F_ifCond_eq_off, mj_F_if_icmp_ge_off, mj_F_if_icmp_le_off, mj_F_if_icmp_ne_off, mj_F_iinc_k_n, mj_F_iload_n_k, mj_F_invokestatic_i, mj_F_invokevirtual_i, mj_F_ireturn, mj_F_istore_n_k, mj_F_putfield_i, mj_F_sipush_n, mj_set, mj_set0, mj_unk, mj_c2, mj_kc, FT_X12, FT_X12_1, PT_X12, L_X12_weeks, List.take_succ_cons, List.take_zero, List.drop_succ_cons, List.drop_zero, List.reverse_cons, List.reverse_nil, List.length_cons, List.length_nil, gS_M0, gMf_0, sS_Mf_0, gMl, gMf_63, gMf_62, gS_M49, sS_Ma_49, gMf_57, gS_M44, sS_Ma_44, gMf_59, gS_M46, sS_Ma_46, gMf_60, gS_M47, sS_Ma_47, gMf_58, gS_M45, sS_Ma_45, gMf_64, gMf_23, gMf_20, gS_M18, sS_Ma_18, c_in_eq, J_X12_weeks]
  exact (ok_some hw :)

set_option maxHeartbeats 4000000 in
theorem g_X12_weeks_26 {k : Option Value → mj_H → Prop} {G : mj_K} (hG : mj_cl2 cX12_weeks (TbX12 4 ((some FieldType.int)) ct_X12_weeks) k G)   {v1 : Int32} {v2 : Int32} {s : St} (hw : ok (F_X12_weeks_26 v1 v2 s) (fun p => k (some (.int p.1)) (mkMs p.2))) : G 26 [.ref 0, .int v1, .int v2] [] (mkMs s) 0 0 := by
  unfold F_X12_weeks_26 at hw
  refine lp_ok (B_X12_weeks_26 v1) (fun x => G 26 [.ref 0, .int v1, .int x.1] [] (mkMs x.2) 0 0) _ ?_ _ _ (ok_bind hw)
  rintro ⟨v2, s⟩ hb
  exact b_X12_weeks_26 hG (fun _ z => z) (fun y hw => by exact hG.2 _ _ _ _ _ _ _ _ _ (by refine ⟨Or.inr rfl, ?_⟩; exact trivial) (Nat.zero_le _) (Nat.zero_le _) (g_X12_weeks_183 hG  hw :)) hb

set_option maxHeartbeats 4000000 in
set_option maxRecDepth 20000 in
theorem g_X12_weeks {k : Option Value → mj_H → Prop} {G : mj_K} (hG : mj_cl2 cX12_weeks (TbX12 4 ((some FieldType.int)) ct_X12_weeks) k G) {v1 : Int32} {s : St} (hw : ok (F_X12_weeks v1 s) (fun p => k (some (.int p.1)) (mkMs p.2))) : G 0 [.ref 0, .int v1] [] (mkMs s) 0 0 := by
  unfold F_X12_weeks at hw
  refine mj_run hG.1 (fun pc => pc == 26 || pc == 43 || pc == 103 || pc == 105 || pc == 118 || pc == 124 || pc == 126 || pc == 149 || pc == 158 || pc == 177 || pc == 183) 4000 ?_
  simp only [mj_step, mj_W_s, mj_fin, List.getElem?_cons_zero, List.getElem?_cons_succ, mj_go, Nat.reduceAdd, Nat.reduceSub, Nat.reduceLT, Nat.reduceLeDiff, Nat.zero_add, Nat.reduceEqDiff, Nat.reduceBEq, ↓reduceIte, Bool.false_eq_true, List.append_nil, List.nil_append, List.cons_append, Option.toList, and_true, true_and, true_or, or_true, reduceCtorEq, List.map_nil, bI_eq0, bI_eq1, bool_ft, pk_us, vnar0, vnar1, Bool.or_false, Bool.or_true, Bool.false_or, Bool.true_or, mj_kne, eq_self, Int32.reduceLT, Int32.reduceLE, Int32.reduceAdd, Int32.reduceSub, Int32.reduceMul, not_true_eq_false, not_false_eq_true, false_implies, true_implies, D_X12_weeks_0, D_X12_weeks_1, D_X12_weeks_2, mj_F_aload_n_k, mj_F_bipush_n, mj_F_dup, mj_F_dup2, mj_F_getfield_i, mj_F_goto_off, mj_F_iadd, mj_F_iaload, mj_F_iastore, mj_F_iconst_n, mj_F_ifCond_eq_off, mj_F_if_icmp_ge_off, mj_F_if_icmp_le_off, mj_F_if_icmp_ne_off, mj_F_iinc_k_n, mj_F_iload_n_k, mj_F_invokestatic_i, mj_F_invokevirtual_i, mj_F_ireturn, mj_F_istore_n_k, mj_F_putfield_i, mj_F_sipush_n, mj_set, mj_set0, mj_unk, mj_c2, mj_kc, FT_X12, FT_X12_1, PT_X12, L_X12_weeks, List.take_succ_cons, List.take_zero, List.drop_succ_cons, List.drop_zero, List.reverse_cons, List.reverse_nil, List.length_cons, List.length_nil, gS_M0, gMf_0, sS_Mf_0, gMl, gMf_63, gMf_62, gS_M49, sS_Ma_49, gMf_57, gS_M44, sS_Ma_44, gMf_59, gS_M46, sS_Ma_46, gMf_60, gS_M47, sS_Ma_47, gMf_58, gS_M45, sS_Ma_45, gMf_64, gMf_23, gMf_20, gS_M18, sS_Ma_18, c_in_eq, J_X12_weeks]
  refine ⟨fun c => ?_, fun c => ?_⟩
  · replace hw := ok_t hw c
    exact (ok_some hw :)
  · replace hw := ok_f hw c
    refine ⟨fun c => ?_, fun c => ?_⟩
    · replace hw := ok_t hw c
      exact hG.2 _ _ _ _ _ _ _ _ _ (by refine ⟨Or.inr rfl, ?_⟩; refine ⟨Or.inr rfl, ?_⟩; refine ⟨Or.inr rfl, ?_⟩; exact trivial) (Nat.zero_le _) (Nat.zero_le _) (g_X12_weeks_26 hG  hw :)
    · replace hw := ok_f hw c
      exact (ok_some hw :)

def c_X12_weeks : mj_S := fun as h k => ∃ (v1 : Int32) (s : St), as = [.ref 0, .int v1] ∧ h = mkMs s ∧ ok (F_X12_weeks v1 s) (fun p => k (some (.int p.1)) (mkMs p.2))
theorem c_X12_weeks_in {v1 : Int32} {s : St} {k : Option Value → mj_H → Prop} (hw : ok (F_X12_weeks v1 s) (fun p => k (some (.int p.1)) (mkMs p.2))) : c_X12_weeks [.ref 0, .int v1] (mkMs s) k := ⟨v1, s, rfl, rfl, hw⟩
theorem m_X12_weeks (l : Launch) : mj_Met l yX12_weeks cX12_weeks 4 ((some FieldType.int)) 8 0 0 c_X12_weeks := by
  refine mj_body2 false (TbX12 4 ((some FieldType.int)) ct_X12_weeks) (by decide) rfl rfl (fun h => nomatch h) (tfX12 _ (List.forall_mem_cons.mpr ⟨cfX12_243 (m_X12_in l) (by decide), List.forall_mem_cons.mpr ⟨cfX12_519 (m_X12_lacksKind l) (by decide), List.forall_mem_cons.mpr ⟨cfX12_522 (m_X12_isGiven l) (by decide), List.forall_mem_cons.mpr ⟨cfX12_528 (m_X12_drive l) (by decide), fun _ h => nomatch h⟩⟩⟩⟩)) ?_
  rintro as h k ⟨v1, s, rfl, rfl, hw⟩
  exact ⟨rfl, fun G hG => g_X12_weeks hG hw⟩
def F_X12_teacher (v1 : Int32) (v2 : Int32) (v3 : Int32) (v4 : Int32) (s : St) : Option (Int32 × St) :=
  if inb v1 0 11 = false then
    some ((-1), s)
  else
    if inb v2 0 9 = false then
      some ((-1), s)
    else
      if inb v3 1 255 = false then
        some ((-1), s)
      else
        if inb v4 (v1 + 1) 12 = false then
          some ((-1), s)
        else
          if (s.1 1275) = 40 then
            some ((-1), s)
          else
            (wr s 1268 40 (s.1 1275) v1).bind fun s1 =>
            (wr s1 1269 40 (s1.1 1275) v2).bind fun s2 =>
            (wr s2 1270 40 (s2.1 1275) v3).bind fun s3 =>
            (wr s3 1271 40 (s3.1 1275) v4).bind fun s4 =>
            (wr s4 1272 40 (s4.1 1275) (s4.1 1200)).bind fun s5 =>
            (wI s5 1275 ((s5.1 1275) + 1)).bind fun s6 =>
            some (((s6.1 1275) - 1), s6)
theorem J_X12_teacher : mj_t 4 46 = 50 ∧ mj_t 14 36 = 50 ∧ mj_t 25 25 = 50 ∧ mj_t 38 12 = 50 ∧ mj_t 47 5 = 52 ∧ (0 ≤ ((4 : Nat) : Int) + 46) = True ∧ (0 ≤ ((14 : Nat) : Int) + 36) = True ∧ (0 ≤ ((25 : Nat) : Int) + 25) = True ∧ (0 ≤ ((38 : Nat) : Int) + 12) = True ∧ (0 ≤ ((47 : Nat) : Int) + 5) = True := by and_intros <;> first | rfl | exact eq_true (by decide)
def ct_X12_teacher : List (Nat × mj_Cs) := [(243, 2, 3, 12, 0, 0, c_in), (277, 2, 1, 12, 0, 0, c_isYear)]
theorem L_X12_teacher : mj_lk ct_X12_teacher 243 = some (2, 3, 12, 0, 0, c_in) ∧ mj_lk ct_X12_teacher 277 = some (2, 1, 12, 0, 0, c_isYear) := ⟨rfl, rfl⟩
set_option maxHeartbeats 4000000 in
set_option maxRecDepth 20000 in
theorem g_X12_teacher {k : Option Value → mj_H → Prop} {G : mj_K} (hG : mj_cl2 cX12_teacher (TbX12 5 ((some FieldType.int)) ct_X12_teacher) k G) {v1 : Int32} {v2 : Int32} {v3 : Int32} {v4 : Int32} {s : St} (hw : ok (F_X12_teacher v1 v2 v3 v4 s) (fun p => k (some (.int p.1)) (mkMs p.2))) : G 0 [.ref 0, .int v1, .int v2, .int v3, .int v4] [] (mkMs s) 0 0 := by
  unfold F_X12_teacher at hw
  refine mj_run hG.1 (fun _ => false) 4000 ?_
  simp only [mj_step, mj_W_s, mj_fin, List.getElem?_cons_zero, List.getElem?_cons_succ, mj_go, Nat.reduceAdd, Nat.reduceSub, Nat.reduceLT, Nat.reduceLeDiff, Nat.zero_add, Nat.reduceEqDiff, Nat.reduceBEq, ↓reduceIte, Bool.false_eq_true, List.append_nil, List.nil_append, List.cons_append, Option.toList, and_true, true_and, true_or, or_true, reduceCtorEq, List.map_nil, bI_eq0, bI_eq1, bool_ft, pk_us, vnar0, vnar1, Bool.or_false, Bool.or_true, Bool.false_or, Bool.true_or, mj_kne, eq_self, Int32.reduceLT, Int32.reduceLE, Int32.reduceAdd, Int32.reduceSub, Int32.reduceMul, not_true_eq_false, not_false_eq_true, false_implies, true_implies, D_X12_teacher_0, D_X12_teacher_1, mj_F_aload_n_k, mj_F_bipush_n, mj_F_dup, mj_F_getfield_i, mj_F_iadd, mj_F_iastore, mj_F_iconst_n, mj_F_ifCond_eq_off, mj_F_if_icmp_ne_off, mj_F_iload_k, mj_F_iload_n_k, mj_F_invokestatic_i, mj_F_ireturn, mj_F_isub, mj_F_putfield_i, mj_F_sipush_n, mj_c2, mj_kc, FT_X12, FT_X12_1, PT_X12, L_X12_teacher, List.take_succ_cons, List.take_zero, List.drop_succ_cons, List.drop_zero, List.reverse_cons, List.reverse_nil, List.length_cons, List.length_nil, gS_M0, gMf_75, gMf_68, gS_M52, sS_Ma_52, gMf_69, gS_M53, sS_Ma_53, gMf_70, gS_M54, sS_Ma_54, gMf_71, gS_M55, sS_Ma_55, gMf_72, gS_M56, sS_Ma_56, gMf_0, sS_Mf_75, gMl, c_isYear_eq, c_in_eq, J_X12_teacher]
  refine ⟨fun c => ?_, fun c => ?_⟩
  · replace hw := ok_t hw c
    exact (ok_some hw :)
  · replace hw := ok_f hw c
    refine ⟨fun c => ?_, fun c => ?_⟩
    · replace hw := ok_t hw c
      exact (ok_some hw :)
    · replace hw := ok_f hw c
      refine ⟨fun c => ?_, fun c => ?_⟩
      · replace hw := ok_t hw c
        exact (ok_some hw :)
      · replace hw := ok_f hw c
        refine ⟨fun c => ?_, fun c => ?_⟩
        · replace hw := ok_t hw c
          exact (ok_some hw :)
        · replace hw := ok_f hw c
          refine ⟨fun c => ?_, fun c => ?_⟩
          · replace hw := ok_f hw c
            refine ⟨(ok_wr hw).1, ?_⟩
            replace hw := (ok_wr hw).2
            refine ⟨(ok_wr hw).1, ?_⟩
            replace hw := (ok_wr hw).2
            refine ⟨(ok_wr hw).1, ?_⟩
            replace hw := (ok_wr hw).2
            refine ⟨(ok_wr hw).1, ?_⟩
            replace hw := (ok_wr hw).2
            refine ⟨(ok_wr hw).1, ?_⟩
            replace hw := (ok_wr hw).2
            replace hw := ok_wI hw
            exact (ok_some hw :)
          · replace hw := ok_t hw c
            exact (ok_some hw :)

def c_X12_teacher : mj_S := fun as h k => ∃ (v1 : Int32) (v2 : Int32) (v3 : Int32) (v4 : Int32) (s : St), as = [.ref 0, .int v1, .int v2, .int v3, .int v4] ∧ h = mkMs s ∧ ok (F_X12_teacher v1 v2 v3 v4 s) (fun p => k (some (.int p.1)) (mkMs p.2))
theorem c_X12_teacher_in {v1 : Int32} {v2 : Int32} {v3 : Int32} {v4 : Int32} {s : St} {k : Option Value → mj_H → Prop} (hw : ok (F_X12_teacher v1 v2 v3 v4 s) (fun p => k (some (.int p.1)) (mkMs p.2))) : c_X12_teacher [.ref 0, .int v1, .int v2, .int v3, .int v4] (mkMs s) k := ⟨v1, v2, v3, v4, s, rfl, rfl, hw⟩
theorem m_X12_teacher (l : Launch) : mj_Met l yX12_teacher cX12_teacher 5 ((some FieldType.int)) 2 0 0 c_X12_teacher := by
  refine mj_body2 false (TbX12 5 ((some FieldType.int)) ct_X12_teacher) (by decide) rfl rfl (fun h => nomatch h) (tfX12 _ (List.forall_mem_cons.mpr ⟨cfX12_243 (m_X12_in l) (by decide), List.forall_mem_cons.mpr ⟨cfX12_277 (m_X12_isYear l) (by decide), fun _ h => nomatch h⟩⟩)) ?_
  rintro as h k ⟨v1, v2, v3, v4, s, rfl, rfl, hw⟩
  exact ⟨rfl, fun G hG => g_X12_teacher hG hw⟩
def B_X12_mayTeach_9 (v1 : Int32) (v2 : Int32) (v4 : Int32) (v5 : Int32) : Int32 × St → Option ((Int32 × St) ⊕ ((St) ⊕ (St)))
  | (v6, s) =>
  if 8 ≤ v6 then
    some (.inr (.inl s))
  else
    (rd s 1270 40 v1).bind fun x1 =>
    (rd s 1218 20 v2).bind fun x2 =>
    if ((x1 &&& x2) &&& (1 <<< (v6 &&& 31))) = 0 then
      some (.inl ((v6 + 1), s))
    else
      (rd s 1215 20 v2).bind fun x3 =>
      (rd s 1268 40 v1).bind fun x4 =>
      (rd s 1269 40 v1).bind fun x5 =>
      (F_X12_tell v5 x3 0 v6 (v5 - x4) x5 s).bind fun s6 =>
      (rd s6 1215 20 v2).bind fun x7 =>
      (F_X12_worthOf x7 v5 v4 116 s6).bind fun r8 =>
      if r8.1 = 0 then
        some (.inl ((v6 + 1), r8.2))
      else
        some (.inr (.inr r8.2))
def F_X12_mayTeach_94 (s : St) : Option (Int32 × St) :=
  some (0, s)
def F_X12_mayTeach_86 (s : St) : Option (Int32 × St) :=
  some (1, s)
def F_X12_mayTeach_9 (v1 : Int32) (v2 : Int32) (v4 : Int32) (v5 : Int32) (v6 : Int32) (s : St) : Option (Int32 × St) :=
  (lp (B_X12_mayTeach_9 v1 v2 v4 v5) FU (v6, s)).bind (Sum.elim (fun y => F_X12_mayTeach_94 y) (fun y => F_X12_mayTeach_86 y))
def F_X12_mayTeach (v1 : Int32) (v2 : Int32) (v3 : Int32) (v4 : Int32) (s : St) : Option (Int32 × St) :=
  F_X12_mayTeach_9 v1 v2 v4 (v3 / 52) 0 s
theorem J_X12_mayTeach : mj_t 13 81 = 94 ∧ mj_t 34 54 = 88 ∧ mj_t 83 5 = 88 ∧ mj_t 91 (-82) = 9 ∧ (0 ≤ ((13 : Nat) : Int) + 81) = True ∧ (0 ≤ ((34 : Nat) : Int) + 54) = True ∧ (0 ≤ ((83 : Nat) : Int) + 5) = True ∧ (0 ≤ ((91 : Nat) : Int) + (-82)) = True := by and_intros <;> first | rfl | exact eq_true (by decide)
def ct_X12_mayTeach : List (Nat × mj_Cs) := [(426, 0, 7, 12, 0, 0, c_X12_tell), (430, 0, 5, 12, 0, 0, c_X12_worthOf), (444, 2, 1, 12, 0, 0, c_yearOf)]
theorem L_X12_mayTeach : mj_lk ct_X12_mayTeach 426 = some (0, 7, 12, 0, 0, c_X12_tell) ∧ mj_lk ct_X12_mayTeach 430 = some (0, 5, 12, 0, 0, c_X12_worthOf) ∧ mj_lk ct_X12_mayTeach 444 = some (2, 1, 12, 0, 0, c_yearOf) := ⟨rfl, rfl, rfl⟩
set_option maxHeartbeats 4000000 in
set_option maxRecDepth 20000 in
theorem b_X12_mayTeach_9 {k : Option Value → mj_H → Prop} {G : mj_K} (hG : mj_cl2 cX12_mayTeach (TbX12 7 ((some FieldType.boolean)) ct_X12_mayTeach) k G) {v1 : Int32} {v2 : Int32} {v4 : Int32} {v5 : Int32} {P : Int32 × St → Prop} {K : (St) ⊕ (St) → Prop} (hP : ∀ x, P x → G 9 [.ref 0, .int v1, .int v2, mj_unk, .int v4, .int v5, .int x.1] [] (mkMs x.2) 0 0) (hK0 : ∀ y, K (.inl y) → G 94 [] [] (mkMs y) 0 0) (hK1 : ∀ y, K (.inr y) → G 86 [] [] (mkMs y) 0 0) {v6 : Int32} {s : St} (hw : ok (B_X12_mayTeach_9 v1 v2 v4 v5 (v6, s)) (Sum.elim P K)) : G 9 [.ref 0, .int v1, .int v2, mj_unk, .int v4, .int v5, .int v6] [] (mkMs s) 0 0 := by
  unfold B_X12_mayTeach_9 at hw
  refine mj_run hG.1 (fun pc => pc == 9 || pc == 67 || pc == 83 || pc == 86 || pc == 94) 4000 ?_
  simp only [mj_step, mj_W_s, mj_fin, List.getElem?_cons_zero, List.getElem?_cons_succ, mj_go, Nat.reduceAdd, Nat.reduceSub, Nat.reduceLT, Nat.reduceLeDiff, Nat.zero_add, Nat.reduceEqDiff, Nat.reduceBEq, ↓reduceIte, Bool.false_eq_true, List.append_nil, List.nil_append, List.cons_append, Option.toList, and_true, true_and, true_or, or_true, reduceCtorEq, List.map_nil, bI_eq0, bI_eq1, bool_ft, pk_us, vnar0, vnar1, Bool.or_false, Bool.or_true, Bool.false_or, Bool.true_or, mj_kne, eq_self, Int32.reduceLT, Int32.reduceLE, Int32.reduceAdd, Int32.reduceSub, Int32.reduceMul, not_true_eq_false, not_false_eq_true, false_implies, true_implies, D_X12_mayTeach_0, D_X12_mayTeach_1, mj_F_aload_n_k, mj_F_bipush_n, mj_F_getfield_i, mj_F_goto_off, mj_F_iaload, mj_F_iand, mj_F_iconst_n, mj_F_ifCond_eq_off, mj_F_if_icmp_ge_off, mj_F_iinc_k_n, mj_F_iload_k, mj_F_iload_n_k, mj_F_invokestatic_i, mj_F_invokevirtual_i, mj_F_ireturn, mj_F_ishl, mj_F_istore_k, mj_F_isub, mj_set, mj_set0, mj_unk, mj_c2, mj_kc, FT_X12, FT_X12_1, L_X12_mayTeach, List.take_succ_cons, List.take_zero, List.drop_succ_cons, List.drop_zero, List.reverse_cons, List.reverse_nil, List.length_cons, List.length_nil, gS_M0, gMf_70, gS_M54, sS_Ma_54, gMf_18, gS_M16, sS_Ma_16, gMf_15, gS_M13, sS_Ma_13, gMf_68, gS_M52, sS_Ma_52, gMf_69, gS_M53, sS_Ma_53, c_yearOf_eq, J_X12_mayTeach]
  refine ⟨fun c => ?_, fun c => ?_⟩
  · replace hw := ok_t hw c
    exact hG.2 _ _ _ _ _ _ _ _ _ (by exact trivial) (Nat.zero_le _) (Nat.zero_le _) (hK0 _ (ok_some hw :) :)
  · replace hw := ok_f hw c
    refine ⟨(ok_rd hw).1, ?_⟩
    replace hw := (ok_rd hw).2
    refine ⟨(ok_rd hw).1, ?_⟩
    replace hw := (ok_rd hw).2
    refine ⟨fun c => ?_, fun c => ?_⟩
    · replace hw := ok_t hw c
      exact hG.2 _ _ _ _ _ _ _ _ _ (by refine ⟨Or.inr rfl, ?_⟩; refine ⟨Or.inr rfl, ?_⟩; refine ⟨Or.inr rfl, ?_⟩; refine ⟨Or.inl rfl, ?_⟩; refine ⟨Or.inr rfl, ?_⟩; refine ⟨Or.inr rfl, ?_⟩; refine ⟨Or.inr rfl, ?_⟩; exact trivial) (Nat.zero_le _) (Nat.zero_le _) (hP _ (ok_some hw :) :)
    · replace hw := ok_f hw c
      refine ⟨(ok_rd hw).1, ?_⟩
      replace hw := (ok_rd hw).2
      refine ⟨(ok_rd hw).1, ?_⟩
      replace hw := (ok_rd hw).2
      refine ⟨(ok_rd hw).1, ?_⟩
      replace hw := (ok_rd hw).2
      refine c_X12_tell_in (ok_imp (ok_bind hw) ?_)
      intro p hw
      simp only [Option.toList, List.nil_append, List.cons_append, Nat.reduceSub]
      refine mj_run hG.1 (fun pc => pc == 9 || pc == 67 || pc == 83 || pc == 86 || pc == 94) 4000 ?_
      simp only [mj_step, mj_W_s, mj_fin, List.getElem?_cons_zero, List.getElem?_cons_succ, mj_go, Nat.reduceAdd, Nat.reduceSub, Nat.reduceLT, Nat.reduceLeDiff, Nat.zero_add, Nat.reduceEqDiff, Nat.reduceBEq, ↓reduceIte, Bool.false_eq_true, List.append_nil, List.nil_append, List.cons_append, Option.toList, and_true, true_and, true_or, or_true, reduceCtorEq, List.map_nil, bI_eq0, bI_eq1, bool_ft, pk_us, vnar0, vnar1, Bool.or_false, Bool.or_true, Bool.false_or, Bool.true_or, mj_kne, eq_self, Int32.reduceLT, Int32.reduceLE, Int32.reduceAdd, Int32.reduceSub, Int32.reduceMul, not_true_eq_false, not_false_eq_true, false_implies, true_implies, D_X12_mayTeach_0, D_X12_mayTeach_1, mj_F_aload_n_k, mj_F_bipush_n, mj_F_getfield_i, mj_F_goto_off, mj_F_iaload, mj_F_iand, mj_F_iconst_n, mj_F_ifCond_eq_off, mj_F_if_icmp_ge_off, mj_F_iinc_k_n, mj_F_iload_k, mj_F_iload_n_k, mj_F_invokestatic_i, mj_F_invokevirtual_i, mj_F_ireturn, mj_F_ishl, mj_F_istore_k, mj_F_isub, mj_set, mj_set0, mj_unk, mj_c2, mj_kc, FT_X12, FT_X12_1, L_X12_mayTeach, List.take_succ_cons, List.take_zero, List.drop_succ_cons, List.drop_zero, List.reverse_cons, List.reverse_nil, List.length_cons, List.length_nil, gS_M0, gMf_70, gS_M54, sS_Ma_54, gMf_18, gS_M16, sS_Ma_16, gMf_15, gS_M13, sS_Ma_13, gMf_68, gS_M52, sS_Ma_52, gMf_69, gS_M53, sS_Ma_53, c_yearOf_eq, J_X12_mayTeach]
      refine ⟨(ok_rd hw).1, ?_⟩
      replace hw := (ok_rd hw).2
      refine c_X12_worthOf_in (ok_imp (ok_bind hw) ?_)
      intro p hw
      simp only [Option.toList, List.nil_append, List.cons_append, Nat.reduceSub]
      refine mj_run hG.1 (fun pc => pc == 9 || pc == 67 || pc == 83 || pc == 86 || pc == 94) 4000 ?_
      simp only [mj_step, mj_W_s, mj_fin, List.getElem?_cons_zero, List.getElem?_cons_succ, mj_go, Nat.reduceAdd, Nat.reduceSub, Nat.reduceLT, Nat.reduceLeDiff, Nat.zero_add, Nat.reduceEqDiff, Nat.reduceBEq, ↓reduceIte, Bool.false_eq_true, List.append_nil, List.nil_append, List.cons_append, Option.toList, and_true, true_and, true_or, or_true, reduceCtorEq, List.map_nil, bI_eq0, bI_eq1, bool_ft, pk_us, vnar0, vnar1, Bool.or_false, Bool.or_true, Bool.false_or, Bool.true_or, mj_kne, eq_self, Int32.reduceLT, Int32.reduceLE, Int32.reduceAdd, Int32.reduceSub, Int32.reduceMul, not_true_eq_false, not_false_eq_true, false_implies, true_implies, D_X12_mayTeach_0, D_X12_mayTeach_1, mj_F_aload_n_k, mj_F_bipush_n, mj_F_getfield_i, mj_F_goto_off, mj_F_iaload, mj_F_iand, mj_F_iconst_n, mj_F_ifCond_eq_off, mj_F_if_icmp_ge_off, mj_F_iinc_k_n, mj_F_iload_k, mj_F_iload_n_k, mj_F_invokestatic_i, mj_F_invokevirtual_i, mj_F_ireturn, mj_F_ishl, mj_F_istore_k, mj_F_isub, mj_set, mj_set0, mj_unk, mj_c2, mj_kc, FT_X12, FT_X12_1, L_X12_mayTeach, List.take_succ_cons, List.take_zero, List.drop_succ_cons, List.drop_zero, List.reverse_cons, List.reverse_nil, List.length_cons, List.length_nil, gS_M0, gMf_70, gS_M54, sS_Ma_54, gMf_18, gS_M16, sS_Ma_16, gMf_15, gS_M13, sS_Ma_13, gMf_68, gS_M52, sS_Ma_52, gMf_69, gS_M53, sS_Ma_53, c_yearOf_eq, J_X12_mayTeach]
      refine ⟨fun c => ?_, fun c => ?_⟩
      · replace hw := ok_t hw c
        exact hG.2 _ _ _ _ _ _ _ _ _ (by refine ⟨Or.inr rfl, ?_⟩; refine ⟨Or.inr rfl, ?_⟩; refine ⟨Or.inr rfl, ?_⟩; refine ⟨Or.inl rfl, ?_⟩; refine ⟨Or.inr rfl, ?_⟩; refine ⟨Or.inr rfl, ?_⟩; refine ⟨Or.inr rfl, ?_⟩; exact trivial) (Nat.zero_le _) (Nat.zero_le _) (hP _ (ok_some hw :) :)
      · replace hw := ok_f hw c
        exact hG.2 _ _ _ _ _ _ _ _ _ (by exact trivial) (Nat.zero_le _) (Nat.zero_le _) (hK1 _ (ok_some hw :) :)

set_option maxHeartbeats 4000000 in
set_option maxRecDepth 20000 in
theorem g_X12_mayTeach_94 {k : Option Value → mj_H → Prop} {G : mj_K} (hG : mj_cl2 cX12_mayTeach (TbX12 7 ((some FieldType.boolean)) ct_X12_mayTeach) k G)   {s : St} (hw : ok (F_X12_mayTeach_94 s) (fun p => k (some (.int p.1)) (mkMs p.2))) : G 94 [] [] (mkMs s) 0 0 := by
  unfold F_X12_mayTeach_94 at hw
  refine mj_run hG.1 (fun pc => pc == 9 || pc == 67 || pc == 83 || pc == 86 || pc == 94) 4000 ?_
  simp only [mj_step, mj_W_s, mj_fin, List.getElem?_cons_zero, List.getElem?_cons_succ, mj_go, Nat.reduceAdd, Nat.reduceSub, Nat.reduceLT, Nat.reduceLeDiff, Nat.zero_add, Nat.reduceEqDiff, Nat.reduceBEq, ↓reduceIte, Bool.false_eq_true, List.append_nil, List.nil_append, List.cons_append, Option.toList, and_true, true_and, true_or, or_true, reduceCtorEq, List.map_nil, bI_eq0, bI_eq1, bool_ft, pk_us, vnar0, vnar1, Bool.or_false, Bool.or_true, Bool.false_or, Bool.true_or, mj_kne, eq_self, Int32.reduceLT, Int32.reduceLE, Int32.reduceAdd, Int32.reduceSub, Int32.reduceMul, not_true_eq_false, not_false_eq_true, false_implies, true_implies, D_X12_mayTeach_0, D_X12_mayTeach_1, mj_F_aload_n_k, mj_F_bipush_n, mj_F_getfield_i, mj_F_goto_off, mj_F_iaload, mj_F_iand, mj_F_iconst_n, mj_F_ifCond_eq_off, mj_F_if_icmp_ge_off, mj_F_iinc_k_n, mj_F_iload_k, mj_F_iload_n_k, mj_F_invokestatic_i, mj_F_invokevirtual_i, mj_F_ireturn, mj_F_ishl, mj_F_istore_k, mj_F_isub, mj_set, mj_set0, mj_unk, mj_c2, mj_kc, FT_X12, FT_X12_1, L_X12_mayTeach, List.take_succ_cons, List.take_zero, List.drop_succ_cons, List.drop_zero, List.reverse_cons, List.reverse_nil, List.length_cons, List.length_nil, gS_M0, gMf_70, gS_M54, sS_Ma_54, gMf_18, gS_M16, sS_Ma_16, gMf_15, gS_M13, sS_Ma_13, gMf_68, gS_M52, sS_Ma_52, gMf_69, gS_M53, sS_Ma_53, c_yearOf_eq, J_X12_mayTeach]
  exact (ok_some hw :)

set_option maxHeartbeats 4000000 in
set_option maxRecDepth 20000 in
theorem g_X12_mayTeach_86 {k : Option Value → mj_H → Prop} {G : mj_K} (hG : mj_cl2 cX12_mayTeach (TbX12 7 ((some FieldType.boolean)) ct_X12_mayTeach) k G)   {s : St} (hw : ok (F_X12_mayTeach_86 s) (fun p => k (some (.int p.1)) (mkMs p.2))) : G 86 [] [] (mkMs s) 0 0 := by
  unfold F_X12_mayTeach_86 at hw
  refine mj_run hG.1 (fun pc => pc == 9 || pc == 67 || pc == 83 || pc == 86 || pc == 94) 4000 ?_
  simp only [mj_step, mj_W_s, mj_fin, List.getElem?_cons_zero, List.getElem?_cons_succ, mj_go, Nat.reduceAdd, Nat.reduceSub, Nat.reduceLT, Nat.reduceLeDiff, Nat.zero_add, Nat.reduceEqDiff, Nat.reduceBEq, ↓reduceIte, Bool.false_eq_true, List.append_nil, List.nil_append, List.cons_append, Option.toList, and_true, true_and, true_or, or_true, reduceCtorEq, List.map_nil, bI_eq0, bI_eq1, bool_ft, pk_us, vnar0, vnar1, Bool.or_false, Bool.or_true, Bool.false_or, Bool.true_or, mj_kne, eq_self, Int32.reduceLT, Int32.reduceLE, Int32.reduceAdd, Int32.reduceSub, Int32.reduceMul, not_true_eq_false, not_false_eq_true, false_implies, true_implies, D_X12_mayTeach_0, D_X12_mayTeach_1, mj_F_aload_n_k, mj_F_bipush_n, mj_F_getfield_i, mj_F_goto_off, mj_F_iaload, mj_F_iand, mj_F_iconst_n, mj_F_ifCond_eq_off, mj_F_if_icmp_ge_off, mj_F_iinc_k_n, mj_F_iload_k, mj_F_iload_n_k, mj_F_invokestatic_i, mj_F_invokevirtual_i, mj_F_ireturn, mj_F_ishl, mj_F_istore_k, mj_F_isub, mj_set, mj_set0, mj_unk, mj_c2, mj_kc, FT_X12, FT_X12_1, L_X12_mayTeach, List.take_succ_cons, List.take_zero, List.drop_succ_cons, List.drop_zero, List.reverse_cons, List.reverse_nil, List.length_cons, List.length_nil, gS_M0, gMf_70, gS_M54, sS_Ma_54, gMf_18, gS_M16, sS_Ma_16, gMf_15, gS_M13, sS_Ma_13, gMf_68, gS_M52, sS_Ma_52, gMf_69, gS_M53, sS_Ma_53, c_yearOf_eq, J_X12_mayTeach]
  exact (ok_some hw :)

set_option maxHeartbeats 4000000 in
theorem g_X12_mayTeach_9 {k : Option Value → mj_H → Prop} {G : mj_K} (hG : mj_cl2 cX12_mayTeach (TbX12 7 ((some FieldType.boolean)) ct_X12_mayTeach) k G)   {v1 : Int32} {v2 : Int32} {v4 : Int32} {v5 : Int32} {v6 : Int32} {s : St} (hw : ok (F_X12_mayTeach_9 v1 v2 v4 v5 v6 s) (fun p => k (some (.int p.1)) (mkMs p.2))) : G 9 [.ref 0, .int v1, .int v2, mj_unk, .int v4, .int v5, .int v6] [] (mkMs s) 0 0 := by
  unfold F_X12_mayTeach_9 at hw
  refine lp_ok (B_X12_mayTeach_9 v1 v2 v4 v5) (fun x => G 9 [.ref 0, .int v1, .int v2, mj_unk, .int v4, .int v5, .int x.1] [] (mkMs x.2) 0 0) _ ?_ _ _ (ok_bind hw)
  rintro ⟨v6, s⟩ hb
  exact b_X12_mayTeach_9 hG (fun _ z => z) (fun y hw => by exact hG.2 _ _ _ _ _ _ _ _ _ (by exact trivial) (Nat.zero_le _) (Nat.zero_le _) (g_X12_mayTeach_94 hG  hw :)) (fun y hw => by exact hG.2 _ _ _ _ _ _ _ _ _ (by exact trivial) (Nat.zero_le _) (Nat.zero_le _) (g_X12_mayTeach_86 hG  hw :)) hb

set_option maxHeartbeats 4000000 in
set_option maxRecDepth 20000 in
theorem g_X12_mayTeach {k : Option Value → mj_H → Prop} {G : mj_K} (hG : mj_cl2 cX12_mayTeach (TbX12 7 ((some FieldType.boolean)) ct_X12_mayTeach) k G) {v1 : Int32} {v2 : Int32} {v3 : Int32} {v4 : Int32} {s : St} (hw : ok (F_X12_mayTeach v1 v2 v3 v4 s) (fun p => k (some (.int p.1)) (mkMs p.2))) : G 0 [.ref 0, .int v1, .int v2, .int v3, .int v4] [] (mkMs s) 0 0 := by
  unfold F_X12_mayTeach at hw
  refine mj_run hG.1 (fun pc => pc == 9 || pc == 67 || pc == 83 || pc == 86 || pc == 94) 4000 ?_
  simp only [mj_step, mj_W_s, mj_fin, List.getElem?_cons_zero, List.getElem?_cons_succ, mj_go, Nat.reduceAdd, Nat.reduceSub, Nat.reduceLT, Nat.reduceLeDiff, Nat.zero_add, Nat.reduceEqDiff, Nat.reduceBEq, ↓reduceIte, Bool.false_eq_true, List.append_nil, List.nil_append, List.cons_append, Option.toList, and_true, true_and, true_or, or_true, reduceCtorEq, List.map_nil, bI_eq0, bI_eq1, bool_ft, pk_us, vnar0, vnar1, Bool.or_false, Bool.or_true, Bool.false_or, Bool.true_or, mj_kne, eq_self, Int32.reduceLT, Int32.reduceLE, Int32.reduceAdd, Int32.reduceSub, Int32.reduceMul, not_true_eq_false, not_false_eq_true, false_implies, true_implies, D_X12_mayTeach_0, D_X12_mayTeach_1, mj_F_aload_n_k, mj_F_bipush_n, mj_F_getfield_i, mj_F_goto_off, mj_F_iaload, mj_F_iand, mj_F_iconst_n, mj_F_ifCond_eq_off, mj_F_if_icmp_ge_off, mj_F_iinc_k_n, mj_F_iload_k, mj_F_iload_n_k, mj_F_invokestatic_i, mj_F_invokevirtual_i, mj_F_ireturn, mj_F_ishl, mj_F_istore_k, mj_F_isub, mj_set, mj_set0, mj_unk, mj_c2, mj_kc, FT_X12, FT_X12_1, L_X12_mayTeach, List.take_succ_cons, List.take_zero, List.drop_succ_cons, List.drop_zero, List.reverse_cons, List.reverse_nil, List.length_cons, List.length_nil, gS_M0, gMf_70, gS_M54, sS_Ma_54, gMf_18, gS_M16, sS_Ma_16, gMf_15, gS_M13, sS_Ma_13, gMf_68, gS_M52, sS_Ma_52, gMf_69, gS_M53, sS_Ma_53, c_yearOf_eq, J_X12_mayTeach]
  exact hG.2 _ _ _ _ _ _ _ _ _ (by refine ⟨Or.inr rfl, ?_⟩; refine ⟨Or.inr rfl, ?_⟩; refine ⟨Or.inr rfl, ?_⟩; refine ⟨Or.inl rfl, ?_⟩; refine ⟨Or.inr rfl, ?_⟩; refine ⟨Or.inr rfl, ?_⟩; refine ⟨Or.inr rfl, ?_⟩; exact trivial) (Nat.zero_le _) (Nat.zero_le _) (g_X12_mayTeach_9 hG  hw :)

def c_X12_mayTeach : mj_S := fun as h k => ∃ (v1 : Int32) (v2 : Int32) (v3 : Int32) (v4 : Int32) (s : St), as = [.ref 0, .int v1, .int v2, .int v3, .int v4] ∧ h = mkMs s ∧ ok (F_X12_mayTeach v1 v2 v3 v4 s) (fun p => k (some (.int p.1)) (mkMs p.2))
theorem c_X12_mayTeach_in {v1 : Int32} {v2 : Int32} {v3 : Int32} {v4 : Int32} {s : St} {k : Option Value → mj_H → Prop} (hw : ok (F_X12_mayTeach v1 v2 v3 v4 s) (fun p => k (some (.int p.1)) (mkMs p.2))) : c_X12_mayTeach [.ref 0, .int v1, .int v2, .int v3, .int v4] (mkMs s) k := ⟨v1, v2, v3, v4, s, rfl, rfl, hw⟩
theorem m_X12_mayTeach (l : Launch) : mj_Met l yX12_mayTeach cX12_mayTeach 7 ((some FieldType.boolean)) 7 0 0 c_X12_mayTeach := by
  refine mj_body2 false (TbX12 7 ((some FieldType.boolean)) ct_X12_mayTeach) (by decide) rfl rfl (fun h => nomatch h) (tfX12 _ (List.forall_mem_cons.mpr ⟨cfX12_426 (m_X12_tell l) (by decide), List.forall_mem_cons.mpr ⟨cfX12_430 (m_X12_worthOf l) (by decide), List.forall_mem_cons.mpr ⟨cfX12_444 (m_X12_yearOf l) (by decide), fun _ h => nomatch h⟩⟩⟩)) ?_
  rintro as h k ⟨v1, v2, v3, v4, s, rfl, rfl, hw⟩
  exact ⟨rfl, fun G hG => g_X12_mayTeach hG hw⟩
