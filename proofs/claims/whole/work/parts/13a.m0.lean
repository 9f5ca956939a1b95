/-! functional pictures, and that the bytecode keeps them (m0) -/
def F_J6_bitCount_0f7a4 (v0 : Int32) : Option (Int32) :=
  some ((((((((v0 - ((Int32.toUInt32 v0 >>> (Int32.toUInt32 1 &&& Int32.toUInt32 31)).toInt32 &&& 1431655765)) &&& 858993459) + ((Int32.toUInt32 (v0 - ((Int32.toUInt32 v0 >>> (Int32.toUInt32 1 &&& Int32.toUInt32 31)).toInt32 &&& 1431655765)) >>> (Int32.toUInt32 2 &&& Int32.toUInt32 31)).toInt32 &&& 858993459)) + (Int32.toUInt32 (((v0 - ((Int32.toUInt32 v0 >>> (Int32.toUInt32 1 &&& Int32.toUInt32 31)).toInt32 &&& 1431655765)) &&& 858993459) + ((Int32.toUInt32 (v0 - ((Int32.toUInt32 v0 >>> (Int32.toUInt32 1 &&& Int32.toUInt32 31)).toInt32 &&& 1431655765)) >>> (Int32.toUInt32 2 &&& Int32.toUInt32 31)).toInt32 &&& 858993459)) >>> (Int32.toUInt32 4 &&& Int32.toUInt32 31)).toInt32) &&& 252645135) + (Int32.toUInt32 (((((v0 - ((Int32.toUInt32 v0 >>> (Int32.toUInt32 1 &&& Int32.toUInt32 31)).toInt32 &&& 1431655765)) &&& 858993459) + ((Int32.toUInt32 (v0 - ((Int32.toUInt32 v0 >>> (Int32.toUInt32 1 &&& Int32.toUInt32 31)).toInt32 &&& 1431655765)) >>> (Int32.toUInt32 2 &&& Int32.toUInt32 31)).toInt32 &&& 858993459)) + (Int32.toUInt32 (((v0 - ((Int32.toUInt32 v0 >>> (Int32.toUInt32 1 &&& Int32.toUInt32 31)).toInt32 &&& 1431655765)) &&& 858993459) + ((Int32.toUInt32 (v0 - ((Int32.toUInt32 v0 >>> (Int32.toUInt32 1 &&& Int32.toUInt32 31)).toInt32 &&& 1431655765)) >>> (Int32.toUInt32 2 &&& Int32.toUInt32 31)).toInt32 &&& 858993459)) >>> (Int32.toUInt32 4 &&& Int32.toUInt32 31)).toInt32) &&& 252645135) >>> (Int32.toUInt32 8 &&& Int32.toUInt32 31)).toInt32) + (Int32.toUInt32 ((((((v0 - ((Int32.toUInt32 v0 >>> (Int32.toUInt32 1 &&& Int32.toUInt32 31)).toInt32 &&& 1431655765)) &&& 858993459) + ((Int32.toUInt32 (v0 - ((Int32.toUInt32 v0 >>> (Int32.toUInt32 1 &&& Int32.toUInt32 31)).toInt32 &&& 1431655765)) >>> (Int32.toUInt32 2 &&& Int32.toUInt32 31)).toInt32 &&& 858993459)) + (Int32.toUInt32 (((v0 - ((Int32.toUInt32 v0 >>> (Int32.toUInt32 1 &&& Int32.toUInt32 31)).toInt32 &&& 1431655765)) &&& 858993459) + ((Int32.toUInt32 (v0 - ((Int32.toUInt32 v0 >>> (Int32.toUInt32 1 &&& Int32.toUInt32 31)).toInt32 &&& 1431655765)) >>> (Int32.toUInt32 2 &&& Int32.toUInt32 31)).toInt32 &&& 858993459)) >>> (Int32.toUInt32 4 &&& Int32.toUInt32 31)).toInt32) &&& 252645135) + (Int32.toUInt32 (((((v0 - ((Int32.toUInt32 v0 >>> (Int32.toUInt32 1 &&& Int32.toUInt32 31)).toInt32 &&& 1431655765)) &&& 858993459) + ((Int32.toUInt32 (v0 - ((Int32.toUInt32 v0 >>> (Int32.toUInt32 1 &&& Int32.toUInt32 31)).toInt32 &&& 1431655765)) >>> (Int32.toUInt32 2 &&& Int32.toUInt32 31)).toInt32 &&& 858993459)) + (Int32.toUInt32 (((v0 - ((Int32.toUInt32 v0 >>> (Int32.toUInt32 1 &&& Int32.toUInt32 31)).toInt32 &&& 1431655765)) &&& 858993459) + ((Int32.toUInt32 (v0 - ((Int32.toUInt32 v0 >>> (Int32.toUInt32 1 &&& Int32.toUInt32 31)).toInt32 &&& 1431655765)) >>> (Int32.toUInt32 2 &&& Int32.toUInt32 31)).toInt32 &&& 858993459)) >>> (Int32.toUInt32 4 &&& Int32.toUInt32 31)).toInt32) &&& 252645135) >>> (Int32.toUInt32 8 &&& Int32.toUInt32 31)).toInt32) >>> (Int32.toUInt32 16 &&& Int32.toUInt32 31)).toInt32) &&& 63)
set_option maxHeartbeats 4000000 in
set_option maxRecDepth 20000 in
theorem g_J6_bitCount_0f7a4 {k : Option Value → mj_H → Prop} {G : mj_K} (hG : mj_cl2 cJ6_bitCount_0f7a4 (mj_TJ6 1 ((some FieldType.int))) k G) {h : mj_H} {v0 : Int32} (hw : ok (F_J6_bitCount_0f7a4 v0) (fun p => k (some (.int p)) h)) : G 0 [.int v0] [] h 0 0 := by
  unfold F_J6_bitCount_0f7a4 at hw
  refine mj_run hG.1 (fun _ => false) 4000 ?_
  simp only [mj_step, mj_W_s, mj_fin, List.getElem?_cons_zero, List.getElem?_cons_succ, mj_go, Nat.reduceAdd, Nat.reduceSub, Nat.reduceLT, Nat.reduceLeDiff, Nat.zero_add, Nat.reduceEqDiff, Nat.reduceBEq, ↓reduceIte, Bool.false_eq_true, List.append_nil, List.nil_append, List.cons_append, Option.toList, and_true, true_and, true_or, or_true, reduceCtorEq, List.map_nil, bI_eq0, bI_eq1, bool_ft, pk_us, vnar0, vnar1, Bool.or_false, Bool.or_true, Bool.false_or, Bool.true_or, mj_kne, eq_self, Int32.reduceLT, Int32.reduceLE, Int32.reduceAdd, Int32.reduceSub, Int32.reduceMul, not_true_eq_false, not_false_eq_true, false_implies, true_implies, D_J6_bitCount_0f7a4, mj_F_bipush_n, mj_F_iadd, mj_F_iand, mj_F_iconst_n, mj_F_iload_n_k, mj_F_ireturn, mj_F_istore_n_k, mj_F_isub, mj_F_iushr, mj_F_ldc_w_i, mj_set, mj_set0, mj_unk, mj_c2, mj_kc, KT_J6]
  exact (ok_some hw :)

def c_J6_bitCount_0f7a4 : mj_S := fun as h k => ∃ (v0 : Int32), as = [.int v0] ∧ ok (F_J6_bitCount_0f7a4 v0) (fun p => k (some (.int p)) h)
theorem c_J6_bitCount_0f7a4_in {v0 : Int32} {h : mj_H} {k : Option Value → mj_H → Prop} (hw : ok (F_J6_bitCount_0f7a4 v0) (fun p => k (some (.int p)) h)) : c_J6_bitCount_0f7a4 [.int v0] h k := ⟨v0, rfl, hw⟩
theorem m_J6_bitCount_0f7a4 (l : Launch) : mj_Met l yJ6_bitCount_0f7a4 cJ6_bitCount_0f7a4 1 ((some FieldType.int)) 0 0 0 c_J6_bitCount_0f7a4 := by
  refine mj_body2 false (mj_TJ6 1 ((some FieldType.int))) (by decide) rfl rfl (fun h => nomatch h) (tfJ6) ?_
  rintro as h k ⟨v0, rfl, hw⟩
  exact ⟨rfl, fun G hG => g_J6_bitCount_0f7a4 hG hw⟩
def B_X12_draw_84 (v1 : Int32) (v2 : Int32) (v3 : Int32) (v4 : Int32) (v5 : Int32) (v6 : Int32) (v7 : Int32) : Int32 × St → Option ((Int32 × St) ⊕ ((St)))
  | (v8, s) =>
  if (v1 + v3) ≤ v8 then
    some (.inr s)
  else
    (wr s 1201 240 ((12 * v7) + v8) v5).bind fun s1 =>
    (wr s1 1201 240 ((120 + (12 * v7)) + v8) v6).bind fun s2 =>
    some (.inl ((v8 + 1), s2))
def F_X12_draw_131 (v1 : Int32) (v2 : Int32) (v3 : Int32) (v4 : Int32) (v5 : Int32) (v6 : Int32) (v7 : Int32) (s : St) : Option ((Int32 × St) ⊕ ((St))) :=
  some (.inl ((v7 + 1), s))
def F_X12_draw_84 (v1 : Int32) (v2 : Int32) (v3 : Int32) (v4 : Int32) (v5 : Int32) (v6 : Int32) (v7 : Int32) (v8 : Int32) (s : St) : Option ((Int32 × St) ⊕ ((St))) :=
  (lp (B_X12_draw_84 v1 v2 v3 v4 v5 v6 v7) FU (v8, s)).bind (fun y => F_X12_draw_131 v1 v2 v3 v4 v5 v6 v7 y)
def B_X12_draw_72 (v1 : Int32) (v2 : Int32) (v3 : Int32) (v4 : Int32) (v5 : Int32) (v6 : Int32) : Int32 × St → Option ((Int32 × St) ⊕ ((St)))
  | (v7, s) =>
  if (v2 + v4) ≤ v7 then
    some (.inr s)
  else
    F_X12_draw_84 v1 v2 v3 v4 v5 v6 v7 v1 s
def F_X12_draw_137 (s : St) : Option (Int32 × St) :=
  some (1, s)
def F_X12_draw_72 (v1 : Int32) (v2 : Int32) (v3 : Int32) (v4 : Int32) (v5 : Int32) (v6 : Int32) (v7 : Int32) (s : St) : Option (Int32 × St) :=
  (lp (B_X12_draw_72 v1 v2 v3 v4 v5 v6) FU (v7, s)).bind (fun y => F_X12_draw_137 y)
def F_X12_draw (v1 : Int32) (v2 : Int32) (v3 : Int32) (v4 : Int32) (v5 : Int32) (v6 : Int32) (s : St) : Option (Int32 × St) :=
  if inb v1 0 11 = false then
    some (0, s)
  else
    if inb v2 0 9 = false then
      some (0, s)
    else
      if inb v3 1 (12 - v1) = false then
        some (0, s)
      else
        if inb v4 1 (10 - v2) = false then
          some (0, s)
        else
          if inb v5 1 99 = false then
            some (0, s)
          else
            if inb v6 0 99 = false then
              some (0, s)
            else
              F_X12_draw_72 v1 v2 v3 v4 v5 v6 v2 s
theorem J_X12_draw : mj_t 7 60 = 67 ∧ mj_t 17 50 = 67 ∧ mj_t 29 38 = 67 ∧ mj_t 42 25 = 67 ∧ mj_t 53 14 = 67 ∧ mj_t 64 5 = 69 ∧ mj_t 78 59 = 137 ∧ mj_t 89 42 = 131 ∧ mj_t 128 (-44) = 84 ∧ mj_t 134 (-62) = 72 ∧ (0 ≤ ((7 : Nat) : Int) + 60) = True ∧ (0 ≤ ((17 : Nat) : Int) + 50) = True ∧ (0 ≤ ((29 : Nat) : Int) + 38) = True ∧ (0 ≤ ((42 : Nat) : Int) + 25) = True ∧ (0 ≤ ((53 : Nat) : Int) + 14) = True ∧ (0 ≤ ((64 : Nat) : Int) + 5) = True ∧ (0 ≤ ((78 : Nat) : Int) + 59) = True ∧ (0 ≤ ((89 : Nat) : Int) + 42) = True ∧ (0 ≤ ((128 : Nat) : Int) + (-44)) = True ∧ (0 ≤ ((134 : Nat) : Int) + (-62)) = True := by and_intros <;> first | rfl | exact eq_true (by decide)
def ct_X12_draw : List (Nat × mj_Cs) := [(243, 2, 3, 12, 0, 0, c_in)]
theorem L_X12_draw : mj_lk ct_X12_draw 243 = some (2, 3, 12, 0, 0, c_in) := rfl
set_option maxHeartbeats 4000000 in
set_option maxRecDepth 20000 in
theorem b_X12_draw_84 {k : Option Value → mj_H → Prop} {G : mj_K} (hG : mj_cl2 cX12_draw (TbX12 9 ((some FieldType.boolean)) ct_X12_draw) k G) {v1 : Int32} {v2 : Int32} {v3 : Int32} {v4 : Int32} {v5 : Int32} {v6 : Int32} {v7 : Int32} {P : Int32 × St → Prop} {K : (St) → Prop} (hP : ∀ x, P x → G 84 [.ref 0, .int v1, .int v2, .int v3, .int v4, .int v5, .int v6, .int v7, .int x.1] [] (mkMs x.2) 0 0) (hK0 : ∀ y, K y → G 131 [.ref 0, .int v1, .int v2, .int v3, .int v4, .int v5, .int v6, .int v7] [] (mkMs y) 0 0) {v8 : Int32} {s : St} (hw : ok (B_X12_draw_84 v1 v2 v3 v4 v5 v6 v7 (v8, s)) (Sum.elim P K)) : G 84 [.ref 0, .int v1, .int v2, .int v3, .int v4, .int v5, .int v6, .int v7, .int v8] [] (mkMs s) 0 0 := by
  unfold B_X12_draw_84 at hw
  refine mj_run hG.1 (fun pc => pc == 72 || pc == 84 || pc == 131 || pc == 137) 4000 ?_
  simp only [mj_step, mj_W_s, mj_fin, List.getElem?_cons_zero, List.getElem?_cons_succ, mj_go, Nat.reduceAdd, Nat.reduceSub, Nat.reduceLT, Nat.reduceLeDiff, Nat.zero_add, Nat.reduceEqDiff, Nat.reduceBEq, ↓reduceIte, Bool.false_eq_true, List.append_nil, List.nil_append, List.cons_append, Option.toList, and_true, true_and, true_or, or_true, reduceCtorEq, List.map_nil, bI_eq0, bI_eq1, bool_ft, pk_us, vnar0, vnar1, Bool.or_false, Bool.or_true, Bool.false_or, Bool.true_or, mj_kne, eq_self, Int32.reduceLT, Int32.reduceLE, Int32.reduceAdd, Int32.reduceSub, Int32.reduceMul, not_true_eq_false, not_false_eq_true, false_implies, true_implies, D_X12_draw_0, D_X12_draw_1, mj_F_aload_n_k, mj_F_bipush_n, mj_F_getfield_i, mj_F_goto_off, mj_F_iadd, mj_F_iastore, mj_F_iconst_n, mj_F_ifCond_eq_off, mj_F_ifCond_ne_off, mj_F_if_icmp_ge_off, mj_F_iinc_k_n, mj_F_iload_k, mj_F_iload_n_k, mj_F_imul, mj_F_invokestatic_i, mj_F_ireturn, mj_F_istore_k, mj_F_isub, mj_set, mj_set0, mj_unk, mj_c2, mj_kc, FT_X12, FT_X12_1, L_X12_draw, List.take_succ_cons, List.take_zero, List.drop_succ_cons, List.drop_zero, List.reverse_cons, List.reverse_nil, List.length_cons, List.length_nil, gS_M0, gMf_1, gS_M1, sS_Ma_1, c_in_eq, J_X12_draw]
  refine ⟨fun c => ?_, fun c => ?_⟩
  · replace hw := ok_t hw c
    exact hG.2 _ _ _ _ _ _ _ _ _ (by refine ⟨Or.inr rfl, ?_⟩; refine ⟨Or.inr rfl, ?_⟩; refine ⟨Or.inr rfl, ?_⟩; refine ⟨Or.inr rfl, ?_⟩; refine ⟨Or.inr rfl, ?_⟩; refine ⟨Or.inr rfl, ?_⟩; refine ⟨Or.inr rfl, ?_⟩; refine ⟨Or.inr rfl, ?_⟩; exact trivial) (Nat.zero_le _) (Nat.zero_le _) (hK0 _ (ok_some hw :) :)
  · replace hw := ok_f hw c
    refine ⟨(ok_wr hw).1, ?_⟩
    replace hw := (ok_wr hw).2
    refine ⟨(ok_wr hw).1, ?_⟩
    replace hw := (ok_wr hw).2
    exact hG.2 _ _ _ _ _ _ _ _ _ (by refine ⟨Or.inr rfl, ?_⟩; refine ⟨Or.inr rfl, ?_⟩; refine ⟨Or.inr rfl, ?_⟩; refine ⟨Or.inr rfl, ?_⟩; refine ⟨Or.inr rfl, ?_⟩; refine ⟨Or.inr rfl, ?_⟩; refine ⟨Or.inr rfl, ?_⟩; refine ⟨Or.inr rfl, ?_⟩; refine ⟨Or.inr rfl, ?_⟩; exact trivial) (Nat.zero_le _) (Nat.zero_le _) (hP _ (ok_some hw :) :)

set_option maxHeartbeats 4000000 in
set_option maxRecDepth 20000 in
theorem g_X12_draw_131 {k : Option Value → mj_H → Prop} {G : mj_K} (hG : mj_cl2 cX12_draw (TbX12 9 ((some FieldType.boolean)) ct_X12_draw) k G) {v1 : Int32} {v2 : Int32} {v3 : Int32} {v4 : Int32} {v5 : Int32} {v6 : Int32} {P : Int32 × St → Prop} {K : (St) → Prop} (hP : ∀ x, P x → G 72 [.ref 0, .int v1, .int v2, .int v3, .int v4, .int v5, .int v6, .int x.1] [] (mkMs x.2) 0 0) (hK0 : ∀ y, K y → G 137 [] [] (mkMs y) 0 0) {v7 : Int32} {s : St} (hw : ok (F_X12_draw_131 v1 v2 v3 v4 v5 v6 v7 s) (Sum.elim P K)) : G 131 [.ref 0, .int v1, .int v2, .int v3, .int v4, .int v5, .int v6, .int v7] [] (mkMs s) 0 0 := by
  unfold F_X12_draw_131 at hw
  refine mj_run hG.1 (fun pc => pc == 72 || pc == 84 || pc == 131 || pc == 137) 4000 ?_
  simp only [mj_step, mj_W_s, mj_fin, List.getElem?_cons_zero, List.getElem?_cons_succ, mj_go, Nat.reduceAdd, Nat.reduceSub, Nat.reduceLT, Nat.reduceLeDiff, Nat.zero_add, Nat.reduceEqDiff, Nat.reduceBEq, ↓reduceIte, Bool.false_eq_true, List.append_nil, List.nil_append, List.cons_append, Option.toList, and_true, true_and, true_or, or_true, reduceCtorEq, List.map_nil, bI_eq0, bI_eq1, bool_ft, pk_us, vnar0, vnar1, Bool.or_false, Bool.or_true, Bool.false_or, Bool.true_or, mj_kne, eq_self, Int32.reduceLT, Int32.reduceLE, Int32.reduceAdd, Int32.reduceSub, Int32.reduceMul, not_true_eq_false, not_false_eq_true, false_implies, true_implies, D_X12_draw_0, D_X12_draw_1, mj_F_aload_n_k, mj_F_bipush_n, mj_F_getfield_i, mj_F_goto_off, mj_F_iadd, mj_F_iastore, mj_F_iconst_n, mj_F_ifCond_eq_off, mj_F_ifCond_ne_off, mj_F_if_icmp_ge_off, mj_F_iinc_k_n, mj_F_iload_k, mj_F_iload_n_k, mj_F_imul, mj_F_invokestatic_i, mj_F_ireturn, mj_F_istore_k, mj_F_isub, mj_set, mj_set0, mj_unk, mj_c2, mj_kc, FT_X12, FT_X12_1, L_X12_draw, List.take_succ_cons, List.take_zero, List.drop_succ_cons, List.drop_zero, List.reverse_cons, List.reverse_nil, List.length_cons, List.length_nil, gS_M0, gMf_1, gS_M1, sS_Ma_1, c_in_eq, J_X12_draw]
  exact hG.2 _ _ _ _ _ _ _ _ _ (by refine ⟨Or.inr rfl, ?_⟩; refine ⟨Or.inr rfl, ?_⟩; refine ⟨Or.inr rfl, ?_⟩; refine ⟨Or.inr rfl, ?_⟩; refine ⟨Or.inr rfl, ?_⟩; refine ⟨Or.inr rfl, ?_⟩; refine ⟨Or.inr rfl, ?_⟩; refine ⟨Or.inr rfl, ?_⟩; exact trivial) (Nat.zero_le _) (Nat.zero_le _) (hP _ (ok_some hw :) :)

set_option maxHeartbeats 4000000 in
theorem g_X12_draw_84 {k : Option Value → mj_H → Prop} {G : mj_K} (hG : mj_cl2 cX12_draw (TbX12 9 ((some FieldType.boolean)) ct_X12_draw) k G) {v1 : Int32} {v2 : Int32} {v3 : Int32} {v4 : Int32} {v5 : Int32} {v6 : Int32} {P : Int32 × St → Prop} {K : (St) → Prop} (hP : ∀ x, P x → G 72 [.ref 0, .int v1, .int v2, .int v3, .int v4, .int v5, .int v6, .int x.1] [] (mkMs x.2) 0 0) (hK0 : ∀ y, K y → G 137 [] [] (mkMs y) 0 0) {v7 : Int32} {v8 : Int32} {s : St} (hw : ok (F_X12_draw_84 v1 v2 v3 v4 v5 v6 v7 v8 s) (Sum.elim P K)) : G 84 [.ref 0, .int v1, .int v2, .int v3, .int v4, .int v5, .int v6, .int v7, .int v8] [] (mkMs s) 0 0 := by
  unfold F_X12_draw_84 at hw
  refine lp_ok (B_X12_draw_84 v1 v2 v3 v4 v5 v6 v7) (fun x => G 84 [.ref 0, .int v1, .int v2, .int v3, .int v4, .int v5, .int v6, .int v7, .int x.1] [] (mkMs x.2) 0 0) _ ?_ _ _ (ok_bind hw)
  rintro ⟨v8, s⟩ hb
  exact b_X12_draw_84 hG (fun _ z => z) (fun y hw => by exact hG.2 _ _ _ _ _ _ _ _ _ (by refine ⟨Or.inr rfl, ?_⟩; refine ⟨Or.inr rfl, ?_⟩; refine ⟨Or.inr rfl, ?_⟩; refine ⟨Or.inr rfl, ?_⟩; refine ⟨Or.inr rfl, ?_⟩; refine ⟨Or.inr rfl, ?_⟩; refine ⟨Or.inr rfl, ?_⟩; refine ⟨Or.inr rfl, ?_⟩; exact trivial) (Nat.zero_le _) (Nat.zero_le _) (g_X12_draw_131 hG hP hK0  hw :)) hb

set_option maxHeartbeats 4000000 in
set_option maxRecDepth 20000 in
theorem b_X12_draw_72 {k : Option Value → mj_H → Prop} {G : mj_K} (hG : mj_cl2 cX12_draw (TbX12 9 ((some FieldType.boolean)) ct_X12_draw) k G) {v1 : Int32} {v2 : Int32} {v3 : Int32} {v4 : Int32} {v5 : Int32} {v6 : Int32} {P : Int32 × St → Prop} {K : (St) → Prop} (hP : ∀ x, P x → G 72 [.ref 0, .int v1, .int v2, .int v3, .int v4, .int v5, .int v6, .int x.1] [] (mkMs x.2) 0 0) (hK0 : ∀ y, K y → G 137 [] [] (mkMs y) 0 0) {v7 : Int32} {s : St} (hw : ok (B_X12_draw_72 v1 v2 v3 v4 v5 v6 (v7, s)) (Sum.elim P K)) : G 72 [.ref 0, .int v1, .int v2, .int v3, .int v4, .int v5, .int v6, .int v7] [] (mkMs s) 0 0 := by
  unfold B_X12_draw_72 at hw
  refine mj_run hG.1 (fun pc => pc == 72 || pc == 84 || pc == 131 || pc == 137) 4000 ?_
  simp only [mj_step, mj_W_s, mj_fin, List.getElem?_cons_zero, List.getElem?_cons_succ, mj_go, Nat.reduceAdd, Nat.reduceSub, Nat.reduceLT, Nat.reduceLeDiff, Nat.zero_add, Nat.reduceEqDiff, Nat.reduceBEq, ↓reduceIte, Bool.false_eq_true, List.append_nil, List.nil_append, List.cons_append, Option.toList, and_true, true_and, true_or, or_true, reduceCtorEq, List.map_nil, bI_eq0, bI_eq1, bool_ft, pk_us, vnar0, vnar1, Bool.or_false, Bool.or_true, Bool.false_or, Bool.true_or, mj_kne, eq_self, Int32.reduceLT, Int32.reduceLE, Int32.reduceAdd, Int32.reduceSub, Int32.reduceMul, not_true_eq_false, not_false_eq_true, false_implies, true_implies, D_X12_draw_0, D_X12_draw_1, mj_F_aload_n_k, mj_F_bipush_n, mj_F_getfield_i, mj_F_goto_off, mj_F_iadd, mj_F_iastore, mj_F_iconst_n, mj_F_ifCond_eq_off, mj_F_ifCond_ne_off, mj_F_if_icmp_ge_off, mj_F_iinc_k_n, mj_F_iload_k, mj_F_iload_n_k, mj_F_imul, mj_F_invokestatic_i, mj_F_ireturn, mj_F_istore_k, mj_F_isub, mj_set, mj_set0, mj_unk, mj_c2, mj_kc, FT_X12, FT_X12_1, L_X12_draw, List.take_succ_cons, List.take_zero, List.drop_succ_cons, List.drop_zero, List.reverse_cons, List.reverse_nil, List.length_cons, List.length_nil, gS_M0, gMf_1, gS_M1, sS_Ma_1, c_in_eq, J_X12_draw]
  refine ⟨fun c => ?_, fun c => ?_⟩
  · replace hw := ok_t hw c
    exact hG.2 _ _ _ _ _ _ _ _ _ (by exact trivial) (Nat.zero_le _) (Nat.zero_le _) (hK0 _ (ok_some hw :) :)
  · replace hw := ok_f hw c
    exact hG.2 _ _ _ _ _ _ _ _ _ (by refine ⟨Or.inr rfl, ?_⟩; refine ⟨Or.inr rfl, ?_⟩; refine ⟨Or.inr rfl, ?_⟩; refine ⟨Or.inr rfl, ?_⟩; refine ⟨Or.inr rfl, ?_⟩; refine ⟨Or.inr rfl, ?_⟩; refine ⟨Or.inr rfl, ?_⟩; refine ⟨Or.inr rfl, ?_⟩; refine ⟨Or.inr rfl, ?_⟩; exact trivial) (Nat.zero_le _) (Nat.zero_le _) (g_X12_draw_84 hG hP hK0  hw :)

set_option maxHeartbeats 4000000 in
set_option maxRecDepth 20000 in
theorem g_X12_draw_137 {k : Option Value → mj_H → Prop} {G : mj_K} (hG : mj_cl2 cX12_draw (TbX12 9 ((some FieldType.boolean)) ct_X12_draw) k G)   {s : St} (hw : ok (F_X12_draw_137 s) (fun p => k (some (.int p.1)) (mkMs p.2))) : G 137 [] [] (mkMs s) 0 0 := by
  unfold F_X12_draw_137 at hw
  refine mj_run hG.1 (fun pc => pc == 72 || pc == 84 || pc == 131 || pc == 137) 4000 ?_
  simp only [mj_step, mj_W_s, mj_fin, List.getElem?_cons_zero, List.getElem?_cons_succ, mj_go, Nat.reduceAdd, Nat.reduceSub, Nat.reduceLT, Nat.reduceLeDiff, Nat.zero_add, Nat.reduceEqDiff, Nat.reduceBEq, ↓reduceIte, Bool.false_eq_true, List.append_nil, List.nil_append, List.cons_append, Option.toList, and_true, true_and, true_or, or_true, reduceCtorEq, List.map_nil, bI_eq0, bI_eq1, bool_ft, pk_us, vnar0, vnar1, Bool.or_false, Bool.or_true, Bool.false_or, Bool.true_or, mj_kne, eq_self, Int32.reduceLT, Int32.reduceLE, Int32.reduceAdd, Int32.reduceSub, Int32.reduceMul, not_true_eq_false, not_false_eq_true, false_implies, true_implies, D_X12_draw_0, D_X12_draw_1, mj_F_aload_n_k, mj_F_bipush_n, mj_F_getfield_i, mj_F_goto_off, mj_F_iadd, mj_F_iastore, mj_F_iconst_n, mj_F_ifCond_eq_off, mj_F_ifCond_ne_off, mj_F_if_icmp_ge_off, mj_F_iinc_k_n, mj_F_iload_k, mj_F_iload_n_k, mj_F_imul, mj_F_invokestatic_i, mj_F_ireturn, mj_F_istore_k, mj_F_isub, mj_set, mj_set0, mj_unk, mj_c2, mj_kc, FT_X12, FT_X12_1, L_X12_draw, List.take_succ_cons, List.take_zero, List.drop_succ_cons, List.drop_zero, List.reverse_cons, List.reverse_nil, List.length_cons, List.length_nil, gS_M0, gMf_1, gS_M1, sS_Ma_1, c_in_eq, J_X12_draw]
  exact (ok_some hw :)

set_option maxHeartbeats 4000000 in
theorem g_X12_draw_72 {k : Option Value → mj_H → Prop} {G : mj_K} (hG : mj_cl2 cX12_draw (TbX12 9 ((some FieldType.boolean)) ct_X12_draw) k G)   {v1 : Int32} {v2 : Int32} {v3 : Int32} {v4 : Int32} {v5 : Int32} {v6 : Int32} {v7 : Int32} {s : St} (hw : ok (F_X12_draw_72 v1 v2 v3 v4 v5 v6 v7 s) (fun p => k (some (.int p.1)) (mkMs p.2))) : G 72 [.ref 0, .int v1, .int v2, .int v3, .int v4, .int v5, .int v6, .int v7] [] (mkMs s) 0 0 := by
  unfold F_X12_draw_72 at hw
  refine lp_ok (B_X12_draw_72 v1 v2 v3 v4 v5 v6) (fun x => G 72 [.ref 0, .int v1, .int v2, .int v3, .int v4, .int v5, .int v6, .int x.1] [] (mkMs x.2) 0 0) _ ?_ _ _ (ok_bind hw)
  rintro ⟨v7, s⟩ hb
  exact b_X12_draw_72 hG (fun _ z => z) (fun y hw => by exact hG.2 _ _ _ _ _ _ _ _ _ (by exact trivial) (Nat.zero_le _) (Nat.zero_le _) (g_X12_draw_137 hG  hw :)) hb

set_option maxHeartbeats 4000000 in
set_option maxRecDepth 20000 in
theorem g_X12_draw {k : Option Value → mj_H → Prop} {G : mj_K} (hG : mj_cl2 cX12_draw (TbX12 9 ((some FieldType.boolean)) ct_X12_draw) k G) {v1 : Int32} {v2 : Int32} {v3 : Int32} {v4 : Int32} {v5 : Int32} {v6 : Int32} {s : St} (hw : ok (F_X12_draw v1 v2 v3 v4 v5 v6 s) (fun p => k (some (.int p.1)) (mkMs p.2))) : G 0 [.ref 0, .int v1, .int v2, .int v3, .int v4, .int v5, .int v6] [] (mkMs s) 0 0 := by
  unfold F_X12_draw at hw
  refine mj_run hG.1 (fun pc => pc == 72 || pc == 84 || pc == 131 || pc == 137) 4000 ?_
  simp only [mj_step, mj_W_s, mj_fin, List.getElem?_cons_zero, List.getElem?_cons_succ, mj_go, Nat.reduceAdd, Nat.reduceSub, Nat.reduceLT, Nat.reduceLeDiff, Nat.zero_add, Nat.reduceEqDiff, Nat.reduceBEq, ↓reduceIte, Bool.false_eq_true, List.append_nil, List.nil_append, List.cons_append, Option.toList, and_true, true_and, true_or, or_true, reduceCtorEq, List.map_nil, bI_eq0, bI_eq1, bool_ft, pk_us, vnar0, vnar1, Bool.or_false, Bool.or_true, Bool.false_or, Bool.true_or, mj_kne, eq_self, Int32.reduceLT, Int32.reduceLE, Int32.reduceAdd, Int32.reduceSub, Int32.reduceMul, not_true_eq_false, not_false_eq_true, false_implies, true_implies, D_X12_draw_0, D_X12_draw_1, mj_F_aload_n_k, mj_F_bipush_n, mj_F_getfield_i, mj_F_goto_off, mj_F_iadd, mj_F_iastore, mj_F_iconst_n, mj_F_ifCond_eq_off, mj_F_ifCond_ne_off, mj_F_if_icmp_ge_off, mj_F_iinc_k_n, mj_F_iload_k, mj_F_iload_n_k, mj_F_imul, mj_F_invokestatic_i, mj_F_ireturn, mj_F_istore_k, mj_F_isub, mj_set, mj_set0, mj_unk, mj_c2, mj_kc, FT_X12, FT_X12_1, L_X12_draw, List.take_succ_cons, List.take_zero, List.drop_succ_cons, List.drop_zero, List.reverse_cons, List.reverse_nil, List.length_cons, List.length_nil, gS_M0, gMf_1, gS_M1, sS_Ma_1, c_in_eq, J_X12_draw]
  refine ⟨fun c => ?_, fun c => ?_⟩
  · replace hw := ok_t hw c
    exact (ok_some hw :)
  · replace hw := ok_f hw c
    refine ⟨fun c => ?_, fun c => ?_⟩
    · replace hw := ok_t hw c
      exact (ok_some hw :)
    · replace hw := ok_f hw c
      refine ⟨fun c => ?_, fun c => ?_⟩
      · replace hw := ok_t hw c
        exact (ok_some hw :)
      · replace hw := ok_f hw c
        refine ⟨fun c => ?_, fun c => ?_⟩
        · replace hw := ok_t hw c
          exact (ok_some hw :)
        · replace hw := ok_f hw c
          refine ⟨fun c => ?_, fun c => ?_⟩
          · replace hw := ok_t hw c
            exact (ok_some hw :)
          · replace hw := ok_f hw c
            refine ⟨fun c => ?_, fun c => ?_⟩
            · replace hw := ok_f hw c
              exact hG.2 _ _ _ _ _ _ _ _ _ (by refine ⟨Or.inr rfl, ?_⟩; refine ⟨Or.inr rfl, ?_⟩; refine ⟨Or.inr rfl, ?_⟩; refine ⟨Or.inr rfl, ?_⟩; refine ⟨Or.inr rfl, ?_⟩; refine ⟨Or.inr rfl, ?_⟩; refine ⟨Or.inr rfl, ?_⟩; refine ⟨Or.inr rfl, ?_⟩; exact trivial) (Nat.zero_le _) (Nat.zero_le _) (g_X12_draw_72 hG  hw :)
            · replace hw := ok_t hw c
              exact (ok_some hw :)

def c_X12_draw : mj_S := fun as h k => ∃ (v1 : Int32) (v2 : Int32) (v3 : Int32) (v4 : Int32) (v5 : Int32) (v6 : Int32) (s : St), as = [.ref 0, .int v1, .int v2, .int v3, .int v4, .int v5, .int v6] ∧ h = mkMs s ∧ ok (F_X12_draw v1 v2 v3 v4 v5 v6 s) (fun p => k (some (.int p.1)) (mkMs p.2))
theorem c_X12_draw_in {v1 : Int32} {v2 : Int32} {v3 : Int32} {v4 : Int32} {v5 : Int32} {v6 : Int32} {s : St} {k : Option Value → mj_H → Prop} (hw : ok (F_X12_draw v1 v2 v3 v4 v5 v6 s) (fun p => k (some (.int p.1)) (mkMs p.2))) : c_X12_draw [.ref 0, .int v1, .int v2, .int v3, .int v4, .int v5, .int v6] (mkMs s) k := ⟨v1, v2, v3, v4, v5, v6, s, rfl, rfl, hw⟩
theorem m_X12_draw (l : Launch) : mj_Met l yX12_draw cX12_draw 9 ((some FieldType.boolean)) 1 0 0 c_X12_draw := by
  refine mj_body2 false (TbX12 9 ((some FieldType.boolean)) ct_X12_draw) (by decide) rfl rfl (fun h => nomatch h) (tfX12 _ (List.forall_mem_cons.mpr ⟨cfX12_243 (m_X12_in l) (by decide), fun _ h => nomatch h⟩)) ?_
  rintro as h k ⟨v1, v2, v3, v4, v5, v6, s, rfl, rfl, hw⟩
  exact ⟨rfl, fun G hG => g_X12_draw hG hw⟩
def F_X12_beside (v0 : Int32) (v1 : Int32) : Option (Int32) :=
  if v1 = 1 then
    if v1 = 2 then
      if inb ((v0 - v0 / 12 * 12) + 1) 0 11 = false then
        some (-1)
      else
        if inb ((v0 / 12) + 1) 0 9 = false then
          some (-1)
        else
          some ((12 * ((v0 / 12) + 1)) + ((v0 - v0 / 12 * 12) + 1))
    else
      if v1 = 0 then
        if inb ((v0 - v0 / 12 * 12) + 1) 0 11 = false then
          some (-1)
        else
          if inb ((v0 / 12) + (-1)) 0 9 = false then
            some (-1)
          else
            some ((12 * ((v0 / 12) + (-1))) + ((v0 - v0 / 12 * 12) + 1))
      else
        if inb ((v0 - v0 / 12 * 12) + 1) 0 11 = false then
          some (-1)
        else
          if inb ((v0 / 12) + 0) 0 9 = false then
            some (-1)
          else
            some ((12 * ((v0 / 12) + 0)) + ((v0 - v0 / 12 * 12) + 1))
  else
    if v1 = 3 then
      if v1 = 2 then
        if inb ((v0 - v0 / 12 * 12) + (-1)) 0 11 = false then
          some (-1)
        else
          if inb ((v0 / 12) + 1) 0 9 = false then
            some (-1)
          else
            some ((12 * ((v0 / 12) + 1)) + ((v0 - v0 / 12 * 12) + (-1)))
      else
        if v1 = 0 then
          if inb ((v0 - v0 / 12 * 12) + (-1)) 0 11 = false then
            some (-1)
          else
            if inb ((v0 / 12) + (-1)) 0 9 = false then
              some (-1)
            else
              some ((12 * ((v0 / 12) + (-1))) + ((v0 - v0 / 12 * 12) + (-1)))
        else
          if inb ((v0 - v0 / 12 * 12) + (-1)) 0 11 = false then
            some (-1)
          else
            if inb ((v0 / 12) + 0) 0 9 = false then
              some (-1)
            else
              some ((12 * ((v0 / 12) + 0)) + ((v0 - v0 / 12 * 12) + (-1)))
    else
      if v1 = 2 then
        if inb ((v0 - v0 / 12 * 12) + 0) 0 11 = false then
          some (-1)
        else
          if inb ((v0 / 12) + 1) 0 9 = false then
            some (-1)
          else
            some ((12 * ((v0 / 12) + 1)) + ((v0 - v0 / 12 * 12) + 0))
      else
        if v1 = 0 then
          if inb ((v0 - v0 / 12 * 12) + 0) 0 11 = false then
            some (-1)
          else
            if inb ((v0 / 12) + (-1)) 0 9 = false then
              some (-1)
            else
              some ((12 * ((v0 / 12) + (-1))) + ((v0 - v0 / 12 * 12) + 0))
        else
          if inb ((v0 - v0 / 12 * 12) + 0) 0 11 = false then
            some (-1)
          else
            if inb ((v0 / 12) + 0) 0 9 = false then
              some (-1)
            else
              some ((12 * ((v0 / 12) + 0)) + ((v0 - v0 / 12 * 12) + 0))
theorem J_X12_beside : mj_t 6 7 = 13 ∧ mj_t 10 13 = 23 ∧ mj_t 15 7 = 22 ∧ mj_t 19 4 = 23 ∧ mj_t 31 7 = 38 ∧ mj_t 35 12 = 47 ∧ mj_t 39 7 = 46 ∧ mj_t 43 4 = 47 ∧ mj_t 56 22 = 78 ∧ mj_t 66 12 = 78 ∧ mj_t 75 4 = 79 ∧ (0 ≤ ((6 : Nat) : Int) + 7) = True ∧ (0 ≤ ((10 : Nat) : Int) + 13) = True ∧ (0 ≤ ((15 : Nat) : Int) + 7) = True ∧ (0 ≤ ((19 : Nat) : Int) + 4) = True ∧ (0 ≤ ((31 : Nat) : Int) + 7) = True ∧ (0 ≤ ((35 : Nat) : Int) + 12) = True ∧ (0 ≤ ((39 : Nat) : Int) + 7) = True ∧ (0 ≤ ((43 : Nat) : Int) + 4) = True ∧ (0 ≤ ((56 : Nat) : Int) + 22) = True ∧ (0 ≤ ((66 : Nat) : Int) + 12) = True ∧ (0 ≤ ((75 : Nat) : Int) + 4) = True := by and_intros <;> first | rfl | exact eq_true (by decide)
def ct_X12_beside : List (Nat × mj_Cs) := [(243, 2, 3, 12, 0, 0, c_in)]
theorem L_X12_beside : mj_lk ct_X12_beside 243 = some (2, 3, 12, 0, 0, c_in) := rfl
set_option maxHeartbeats 4000000 in
set_option maxRecDepth 20000 in
theorem g_X12_beside {k : Option Value → mj_H → Prop} {G : mj_K} (hG : mj_cl2 cX12_beside (TbX12 4 ((some FieldType.int)) ct_X12_beside) k G) {h : mj_H} {v0 : Int32} {v1 : Int32} (hw : ok (F_X12_beside v0 v1) (fun p => k (some (.int p)) h)) : G 0 [.int v0, .int v1] [] h 0 0 := by
  unfold F_X12_beside at hw
  refine mj_run hG.1 (fun _ => false) 4000 ?_
  simp only [mj_step, mj_W_s, mj_fin, List.getElem?_cons_zero, List.getElem?_cons_succ, mj_go, Nat.reduceAdd, Nat.reduceSub, Nat.reduceLT, Nat.reduceLeDiff, Nat.zero_add, Nat.reduceEqDiff, Nat.reduceBEq, ↓reduceIte, Bool.false_eq_true, List.append_nil, List.nil_append, List.cons_append, Option.toList, and_true, true_and, true_or, or_true, reduceCtorEq, List.map_nil, bI_eq0, bI_eq1, bool_ft, pk_us, vnar0, vnar1, Bool.or_false, Bool.or_true, Bool.false_or, Bool.true_or, mj_kne, eq_self, Int32.reduceLT, Int32.reduceLE, Int32.reduceAdd, Int32.reduceSub, Int32.reduceMul, not_true_eq_false, not_false_eq_true, false_implies, true_implies, D_X12_beside, mj_F_bipush_n, mj_F_goto_off, mj_F_iadd, mj_F_iconst_n, mj_F_idiv, mj_F_ifCond_eq_off, mj_F_ifCond_ne_off, mj_F_if_icmp_ne_off, mj_F_iload_n_k, mj_F_imul, mj_F_invokestatic_i, mj_F_irem, mj_F_ireturn, mj_F_istore_n_k, mj_set, mj_set0, mj_unk, mj_c2, mj_kc, L_X12_beside, List.take_succ_cons, List.take_zero, List.drop_succ_cons, List.drop_zero, List.reverse_cons, List.reverse_nil, List.length_cons, List.length_nil, c_in_eq, J_X12_beside]
  refine ⟨fun c => ?_, fun c => ?_⟩
  · replace hw := ok_f hw c
    refine ⟨fun c => ?_, fun c => ?_⟩
    · replace hw := ok_f hw c
      refine ⟨fun c => ?_, fun c => ?_⟩
      · replace hw := ok_f hw c
        refine ⟨fun c => ?_, fun c => ?_⟩
        · replace hw := ok_f hw c
          refine ⟨fun c => ?_, fun c => ?_⟩
          · replace hw := ok_t hw c
            exact (ok_some hw :)
          · replace hw := ok_f hw c
            refine ⟨fun c => ?_, fun c => ?_⟩
            · replace hw := ok_t hw c
              exact (ok_some hw :)
            · replace hw := ok_f hw c
              exact (ok_some hw :)
        · replace hw := ok_t hw c
          refine ⟨fun c => ?_, fun c => ?_⟩
          · replace hw := ok_t hw c
            exact (ok_some hw :)
          · replace hw := ok_f hw c
            refine ⟨fun c => ?_, fun c => ?_⟩
            · replace hw := ok_t hw c
              exact (ok_some hw :)
            · replace hw := ok_f hw c
              exact (ok_some hw :)
      · replace hw := ok_t hw c
        refine ⟨fun c => ?_, fun c => ?_⟩
        · replace hw := ok_t hw c
          exact (ok_some hw :)
        · replace hw := ok_f hw c
          refine ⟨fun c => ?_, fun c => ?_⟩
          · replace hw := ok_t hw c
            exact (ok_some hw :)
          · replace hw := ok_f hw c
            exact (ok_some hw :)
    · replace hw := ok_t hw c
      refine ⟨fun c => ?_, fun c => ?_⟩
      · replace hw := ok_f hw c
        refine ⟨fun c => ?_, fun c => ?_⟩
        · replace hw := ok_f hw c
          refine ⟨fun c => ?_, fun c => ?_⟩
          · replace hw := ok_t hw c
            exact (ok_some hw :)
          · replace hw := ok_f hw c
            refine ⟨fun c => ?_, fun c => ?_⟩
            · replace hw := ok_t hw c
              exact (ok_some hw :)
            · replace hw := ok_f hw c
              exact (ok_some hw :)
        · replace hw := ok_t hw c
          refine ⟨fun c => ?_, fun c => ?_⟩
          · replace hw := ok_t hw c
            exact (ok_some hw :)
          · replace hw := ok_f hw c
            refine ⟨fun c => ?_, fun c => ?_⟩
            · replace hw := ok_t hw c
              exact (ok_some hw :)
            · replace hw := ok_f hw c
              exact (ok_some hw :)
      · replace hw := ok_t hw c
        refine ⟨fun c => ?_, fun c => ?_⟩
        · replace hw := ok_t hw c
          exact (ok_some hw :)
        · replace hw := ok_f hw c
          refine ⟨fun c => ?_, fun c => ?_⟩
          · replace hw := ok_t hw c
            exact (ok_some hw :)
          · replace hw := ok_f hw c
            exact (ok_some hw :)
  · replace hw := ok_t hw c
    refine ⟨fun c => ?_, fun c => ?_⟩
    · replace hw := ok_f hw c
      refine ⟨fun c => ?_, fun c => ?_⟩
      · replace hw := ok_f hw c
        refine ⟨fun c => ?_, fun c => ?_⟩
        · replace hw := ok_t hw c
          exact (ok_some hw :)
        · replace hw := ok_f hw c
          refine ⟨fun c => ?_, fun c => ?_⟩
          · replace hw := ok_t hw c
            exact (ok_some hw :)
          · replace hw := ok_f hw c
            exact (ok_some hw :)
      · replace hw := ok_t hw c
        refine ⟨fun c => ?_, fun c => ?_⟩
        · replace hw := ok_t hw c
          exact (ok_some hw :)
        · replace hw := ok_f hw c
          refine ⟨fun c => ?_, fun c => ?_⟩
          · replace hw := ok_t hw c
            exact (ok_some hw :)
          · replace hw := ok_f hw c
            exact (ok_some hw :)
    · replace hw := ok_t hw c
      refine ⟨fun c => ?_, fun c => ?_⟩
      · replace hw := ok_t hw c
        exact (ok_some hw :)
      · replace hw := ok_f hw c
        refine ⟨fun c => ?_, fun c => ?_⟩
        · replace hw := ok_t hw c
          exact (ok_some hw :)
        · replace hw := ok_f hw c
          exact (ok_some hw :)

def c_X12_beside : mj_S := fun as h k => ∃ (v0 : Int32) (v1 : Int32), as = [.int v0, .int v1] ∧ ok (F_X12_beside v0 v1) (fun p => k (some (.int p)) h)
theorem c_X12_beside_in {v0 : Int32} {v1 : Int32} {h : mj_H} {k : Option Value → mj_H → Prop} (hw : ok (F_X12_beside v0 v1) (fun p => k (some (.int p)) h)) : c_X12_beside [.int v0, .int v1] h k := ⟨v0, v1, rfl, hw⟩
theorem m_X12_beside (l : Launch) : mj_Met l yX12_beside cX12_beside 4 ((some FieldType.int)) 1 0 0 c_X12_beside := by
  refine mj_body2 false (TbX12 4 ((some FieldType.int)) ct_X12_beside) (by decide) rfl rfl (fun h => nomatch h) (tfX12 _ (List.forall_mem_cons.mpr ⟨cfX12_243 (m_X12_in l) (by decide), fun _ h => nomatch h⟩)) ?_
  rintro as h k ⟨v0, v1, rfl, hw⟩
  exact ⟨rfl, fun G hG => g_X12_beside hG hw⟩
def B_X12_spread_2 (v1 : Int32) (v2 : Int32) : Int32 × St → Option ((Int32 × St) ⊕ ((St)))
  | (v3, s) =>
  if 120 ≤ v3 then
    some (.inr s)
  else
    if v3 = v1 then
      (wr s 1203 120 v3 0).bind fun s2 =>
      some (.inl ((v3 + 1), s2))
    else
      (wr s 1203 120 v3 1000000).bind fun s1 =>
      some (.inl ((v3 + 1), s1))
def F_X12_spread_145 (v2 : Int32) (v3 : Int32) (v4 : Int32) (s : St) : Option ((Int32 × Int32 × St) ⊕ ((Int32 × St))) :=
  some (.inl (v3, (v4 + 1), s))
def B_X12_spread_79 (v2 : Int32) (v4 : Int32) (v5 : Int32) : Int32 × Int32 × St → Option ((Int32 × Int32 × St) ⊕ ((Int32 × St)))
  | (v3, v6, s) =>
  if 4 ≤ v6 then
    some (.inr (v3, s))
  else
    (F_X12_beside v4 v6).bind fun r4 =>
    if r4 = (-1) then
      some (.inl (v3, (v6 + 1), s))
    else
      (rd s 1203 120 r4).bind fun x5 =>
      (rd s 1203 120 v4).bind fun x6 =>
      if x6 ≤ (x5 + v5) then
        some (.inl (v3, (v6 + 1), s))
      else
        (rd s 1203 120 r4).bind fun x7 =>
        (wr s 1203 120 v4 (x7 + v5)).bind fun s8 =>
        some (.inl (1, (v6 + 1), s8))
def F_X12_spread_79 (v2 : Int32) (v3 : Int32) (v4 : Int32) (v5 : Int32) (v6 : Int32) (s : St) : Option ((Int32 × Int32 × St) ⊕ ((Int32 × St))) :=
  (lp (B_X12_spread_79 v2 v4 v5) FU (v3, v6, s)).bind (fun y => F_X12_spread_145 v2 y.1 v4 y.2)
def B_X12_spread_42 (v2 : Int32) : Int32 × Int32 × St → Option ((Int32 × Int32 × St) ⊕ ((Int32 × St)))
  | (v3, v4, s) =>
  if 120 ≤ v4 then
    some (.inr (v3, s))
  else
    (rd s 1201 240 ((120 * v2) + v4)).bind fun x3 =>
    if v2 = 1 then
      if x3 = 0 then
        F_X12_spread_145 v2 v3 v4 s
      else
        F_X12_spread_79 v2 v3 v4 x3 0 s
    else
      F_X12_spread_79 v2 v3 v4 x3 0 s
def F_X12_spread_151 (v2 : Int32) (v3 : Int32) (s : St) : Option ((Int32 × St) ⊕ ((St))) :=
  some (.inl (v3, s))
def F_X12_spread_42 (v2 : Int32) (v3 : Int32) (v4 : Int32) (s : St) : Option ((Int32 × St) ⊕ ((St))) :=
  (lp (B_X12_spread_42 v2) FU (v3, v4, s)).bind (fun y => F_X12_spread_151 v2 y.1 y.2)
def B_X12_spread_33 (v2 : Int32) : Int32 × St → Option ((Int32 × St) ⊕ ((St)))
  | (v3, s) =>
  if v3 = 0 then
    some (.inr s)
  else
    F_X12_spread_42 v2 0 0 s
def F_X12_spread_154 (s : St) : Option (St) :=
  some s
def F_X12_spread_33 (v2 : Int32) (v3 : Int32) (s : St) : Option (St) :=
  (lp (B_X12_spread_33 v2) FU (v3, s)).bind (fun y => F_X12_spread_154 y)
def F_X12_spread_31 (v2 : Int32) (s : St) : Option (St) :=
  F_X12_spread_33 v2 1 s
def F_X12_spread_2 (v1 : Int32) (v2 : Int32) (v3 : Int32) (s : St) : Option (St) :=
  (lp (B_X12_spread_2 v1 v2) FU (v3, s)).bind (fun y => F_X12_spread_31 v2 y)
def F_X12_spread (v1 : Int32) (v2 : Int32) (s : St) : Option (St) :=
  F_X12_spread_2 v1 v2 0 s
theorem J_X12_spread : mj_t 5 26 = 31 ∧ mj_t 15 7 = 22 ∧ mj_t 19 5 = 24 ∧ mj_t 28 (-26) = 2 ∧ mj_t 34 120 = 154 ∧ mj_t 46 105 = 151 ∧ mj_t 65 11 = 76 ∧ mj_t 70 6 = 76 ∧ mj_t 73 72 = 145 ∧ mj_t 82 63 = 145 ∧ mj_t 97 42 = 139 ∧ mj_t 117 22 = 139 ∧ mj_t 142 (-63) = 79 ∧ mj_t 148 (-106) = 42 ∧ mj_t 151 (-118) = 33 ∧ (0 ≤ ((5 : Nat) : Int) + 26) = True ∧ (0 ≤ ((15 : Nat) : Int) + 7) = True ∧ (0 ≤ ((19 : Nat) : Int) + 5) = True ∧ (0 ≤ ((28 : Nat) : Int) + (-26)) = True ∧ (0 ≤ ((34 : Nat) : Int) + 120) = True ∧ (0 ≤ ((46 : Nat) : Int) + 105) = True ∧ (0 ≤ ((65 : Nat) : Int) + 11) = True ∧ (0 ≤ ((70 : Nat) : Int) + 6) = True ∧ (0 ≤ ((73 : Nat) : Int) + 72) = True ∧ (0 ≤ ((82 : Nat) : Int) + 63) = True ∧ (0 ≤ ((97 : Nat) : Int) + 42) = True ∧ (0 ≤ ((117 : Nat) : Int) + 22) = True ∧ (0 ≤ ((142 : Nat) : Int) + (-63)) = True ∧ (0 ≤ ((148 : Nat) : Int) + (-106)) = True ∧ (0 ≤ ((151 : Nat) : Int) + (-118)) = True := by and_intros <;> first | rfl | exact eq_true (by decide)
def ct_X12_spread : List (Nat × mj_Cs) := [(256, 2, 2, 12, 0, 0, c_X12_beside)]
theorem L_X12_spread : mj_lk ct_X12_spread 256 = some (2, 2, 12, 0, 0, c_X12_beside) := rfl
set_option maxHeartbeats 4000000 in
set_option maxRecDepth 20000 in
theorem b_X12_spread_2 {k : Option Value → mj_H → Prop} {G : mj_K} (hG : mj_cl2 cX12_spread (TbX12 8 (none) ct_X12_spread) k G) {v1 : Int32} {v2 : Int32} {P : Int32 × St → Prop} {K : (St) → Prop} (hP : ∀ x, P x → G 2 [.ref 0, .int v1, .int v2, .int x.1] [] (mkMs x.2) 0 0) (hK0 : ∀ y, K y → G 31 [.ref 0, mj_unk, .int v2] [] (mkMs y) 0 0) {v3 : Int32} {s : St} (hw : ok (B_X12_spread_2 v1 v2 (v3, s)) (Sum.elim P K)) : G 2 [.ref 0, .int v1, .int v2, .int v3] [] (mkMs s) 0 0 := by
  unfold B_X12_spread_2 at hw
  refine mj_run hG.1 (fun pc => pc == 2 || pc == 31 || pc == 33 || pc == 42 || pc == 79 || pc == 92 || pc == 145 || pc == 151 || pc == 154) 4000 ?_
  simp only [mj_step, mj_W_s, mj_fin, List.getElem?_cons_zero, List.getElem?_cons_succ, mj_go, Nat.reduceAdd, Nat.reduceSub, Nat.reduceLT, Nat.reduceLeDiff, Nat.zero_add, Nat.reduceEqDiff, Nat.reduceBEq, ↓reduceIte, Bool.false_eq_true, List.append_nil, List.nil_append, List.cons_append, Option.toList, and_true, true_and, true_or, or_true, reduceCtorEq, List.map_nil, bI_eq0, bI_eq1, bool_ft, pk_us, vnar0, vnar1, Bool.or_false, Bool.or_true, Bool.false_or, Bool.true_or, mj_kne, eq_self, Int32.reduceLT, Int32.reduceLE, Int32.reduceAdd, Int32.reduceSub, Int32.reduceMul, not_true_eq_false, not_false_eq_true, false_implies, true_implies, D_X12_spread_0, D_X12_spread_1, mj_F_aload_n_k, mj_F_bipush_n, mj_F_getfield_i, mj_F_goto_off, mj_F_iadd, mj_F_iaload, mj_F_iastore, mj_F_iconst_n, mj_F_ifCond_eq_off, mj_F_ifCond_ne_off, mj_F_if_icmp_eq_off, mj_F_if_icmp_ge_off, mj_F_if_icmp_ne_off, mj_F_iinc_k_n, mj_F_iload_k, mj_F_iload_n_k, mj_F_imul, mj_F_invokestatic_i, mj_F_istore_k, mj_F_istore_n_k, mj_F_ldc_i, mj_F_return_, mj_set, mj_set0, mj_unk, mj_c2, mj_kc, FT_X12, FT_X12_1, KT_X12, L_X12_spread, List.take_succ_cons, List.take_zero, List.drop_succ_cons, List.drop_zero, List.reverse_cons, List.reverse_nil, List.length_cons, List.length_nil, gS_M0, gMf_3, gS_M3, sS_Ma_3, gMf_1, gS_M1, sS_Ma_1, J_X12_spread]
  refine ⟨fun c => ?_, fun c => ?_⟩
  · replace hw := ok_t hw c
    exact hG.2 _ _ _ _ _ _ _ _ _ (by refine ⟨Or.inr rfl, ?_⟩; refine ⟨Or.inl rfl, ?_⟩; refine ⟨Or.inr rfl, ?_⟩; exact trivial) (Nat.zero_le _) (Nat.zero_le _) (hK0 _ (ok_some hw :) :)
  · replace hw := ok_f hw c
    refine ⟨fun c => ?_, fun c => ?_⟩
    · replace hw := ok_f hw c
      refine ⟨(ok_wr hw).1, ?_⟩
      replace hw := (ok_wr hw).2
      exact hG.2 _ _ _ _ _ _ _ _ _ (by refine ⟨Or.inr rfl, ?_⟩; refine ⟨Or.inr rfl, ?_⟩; refine ⟨Or.inr rfl, ?_⟩; refine ⟨Or.inr rfl, ?_⟩; exact trivial) (Nat.zero_le _) (Nat.zero_le _) (hP _ (ok_some hw :) :)
    · replace hw := ok_t hw c
      refine ⟨(ok_wr hw).1, ?_⟩
      replace hw := (ok_wr hw).2
      exact hG.2 _ _ _ _ _ _ _ _ _ (by refine ⟨Or.inr rfl, ?_⟩; refine ⟨Or.inr rfl, ?_⟩; refine ⟨Or.inr rfl, ?_⟩; refine ⟨Or.inr rfl, ?_⟩; exact trivial) (Nat.zero_le _) (Nat.zero_le _) (hP _ (ok_some hw :) :)

set_option maxHeartbeats 4000000 in
set_option maxRecDepth 20000 in
theorem g_X12_spread_145 {k : Option Value → mj_H → Prop} {G : mj_K} (hG : mj_cl2 cX12_spread (TbX12 8 (none) ct_X12_spread) k G) {v2 : Int32} {P : Int32 × Int32 × St → Prop} {K : (Int32 × St) → Prop} (hP : ∀ x, P x → G 42 [.ref 0, mj_unk, .int v2, .int x.1, .int x.2.1] [] (mkMs x.2.2) 0 0) (hK0 : ∀ y, K y → G 151 [.ref 0, mj_unk, .int v2, .int y.1] [] (mkMs y.2) 0 0) {v3 : Int32} {v4 : Int32} {s : St} (hw : ok (F_X12_spread_145 v2 v3 v4 s) (Sum.elim P K)) : G 145 [.ref 0, mj_unk, .int v2, .int v3, .int v4] [] (mkMs s) 0 0 := by
  unfold F_X12_spread_145 at hw
  refine mj_run hG.1 (fun pc => pc == 2 || pc == 31 || pc == 33 || pc == 42 || pc == 79 || pc == 92 || pc == 145 || pc == 151 || pc == 154) 4000 ?_
  simp only [mj_step, mj_W_s, mj_fin, List.getElem?_cons_zero, List.getElem?_cons_succ, mj_go, Nat.reduceAdd, Nat.reduceSub, Nat.reduceLT, Nat.reduceLeDiff, Nat.zero_add, Nat.reduceEqDiff, Nat.reduceBEq, ↓reduceIte, Bool.false_eq_true, List.append_nil, List.nil_append, List.cons_append, Option.toList, and_true, true_and, true_or, or_true, reduceCtorEq, List.map_nil, bI_eq0, bI_eq1, bool_ft, pk_us, vnar0, vnar1, Bool.or_false, Bool.or_true, Bool.false_or, Bool.true_or, mj_kne, eq_self, Int32.reduceLT, Int32.reduceLE, Int32.reduceAdd, Int32.reduceSub, Int32.reduceMul, not_true_eq_false, not_false_eq_true, false_implies, true_implies, D_X12_spread_0, D_X12_spread_1, mj_F_aload_n_k, mj_F_bipush_n, mj_F_getfield_i, mj_F_goto_off, mj_F_iadd, mj_F_iaload, mj_F_iastore, mj_F_iconst_n, mj_F_ifCond_eq_off, mj_F_ifCond_ne_off, mj_F_if_icmp_eq_off, mj_F_if_icmp_ge_off, mj_F_if_icmp_ne_off, mj_F_iinc_k_n, mj_F_iload_k, mj_F_iload_n_k, mj_F_imul, mj_F_invokestatic_i, mj_F_istore_k, mj_F_istore_n_k, mj_F_ldc_i, mj_F_return_, mj_set, mj_set0, mj_unk, mj_c2, mj_kc, FT_X12, FT_X12_1, KT_X12, L_X12_spread, List.take_succ_cons, List.take_zero, List.drop_succ_cons, List.drop_zero, List.reverse_cons, List.reverse_nil, List.length_cons, List.length_nil, gS_M0, gMf_3, gS_M3, sS_Ma_3, gMf_1, gS_M1, sS_Ma_1, J_X12_spread]
  exact hG.2 _ _ _ _ _ _ _ _ _ (by refine ⟨Or.inr rfl, ?_⟩; refine ⟨Or.inl rfl, ?_⟩; refine ⟨Or.inr rfl, ?_⟩; refine ⟨Or.inr rfl, ?_⟩; refine ⟨Or.inr rfl, ?_⟩; exact trivial) (Nat.zero_le _) (Nat.zero_le _) (hP _ (ok_some hw :) :)

set_option maxHeartbeats 4000000 in
set_option maxRecDepth 20000 in
theorem b_X12_spread_79 {k : Option Value → mj_H → Prop} {G : mj_K} (hG : mj_cl2 cX12_spread (TbX12 8 (none) ct_X12_spread) k G) {v2 : Int32} {v4 : Int32} {v5 : Int32} {P : Int32 × Int32 × St → Prop} {K : (Int32 × St) → Prop} (hP : ∀ x, P x → G 79 [.ref 0, mj_unk, .int v2, .int x.1, .int v4, .int v5, .int x.2.1] [] (mkMs x.2.2) 0 0) (hK0 : ∀ y, K y → G 145 [.ref 0, mj_unk, .int v2, .int y.1, .int v4] [] (mkMs y.2) 0 0) {v3 : Int32} {v6 : Int32} {s : St} (hw : ok (B_X12_spread_79 v2 v4 v5 (v3, v6, s)) (Sum.elim P K)) : G 79 [.ref 0, mj_unk, .int v2, .int v3, .int v4, .int v5, .int v6] [] (mkMs s) 0 0 := by
  unfold B_X12_spread_79 at hw
  refine mj_run hG.1 (fun pc => pc == 2 || pc == 31 || pc == 33 || pc == 42 || pc == 79 || pc == 92 || pc == 145 || pc == 151 || pc == 154) 4000 ?_
  simp only [mj_step, mj_W_s, mj_fin, List.getElem?_cons_zero, List.getElem?_cons_succ, mj_go, Nat.reduceAdd, Nat.reduceSub, Nat.reduceLT, Nat.reduceLeDiff, Nat.zero_add, Nat.reduceEqDiff, Nat.reduceBEq, ↓reduceIte, Bool.false_eq_true, List.append_nil, List.nil_append, List.cons_append, Option.toList, and_true, true_and, true_or, or_true, reduceCtorEq, List.map_nil, bI_eq0, bI_eq1, bool_ft, pk_us, vnar0, vnar1, Bool.or_false, Bool.or_true, Bool.false_or, Bool.true_or, mj_kne, eq_self, Int32.reduceLT, Int32.reduceLE, Int32.reduceAdd, Int32.reduceSub, Int32.reduceMul, not_true_eq_false, not_false_eq_true, false_implies, true_implies, D_X12_spread_0, D_X12_spread_1, mj_F_aload_n_k, mj_F_bipush_n, mj_F_getfield_i, mj_F_goto_off, mj_F_iadd, mj_F_iaload, mj_F_iastore, mj_F_iconst_n, mj_F_ifCond_eq_off, mj_F_ifCond_ne_off, mj_F_if_icmp_eq_off, mj_F_if_icmp_ge_off, mj_F_if_icmp_ne_off, mj_F_iinc_k_n, mj_F_iload_k, mj_F_iload_n_k, mj_F_imul, mj_F_invokestatic_i, mj_F_istore_k, mj_F_istore_n_k, mj_F_ldc_i, mj_F_return_, mj_set, mj_set0, mj_unk, mj_c2, mj_kc, FT_X12, FT_X12_1, KT_X12, L_X12_spread, List.take_succ_cons, List.take_zero, List.drop_succ_cons, List.drop_zero, List.reverse_cons, List.reverse_nil, List.length_cons, List.length_nil, gS_M0, gMf_3, gS_M3, sS_Ma_3, gMf_1, gS_M1, sS_Ma_1, J_X12_spread]
  refine ⟨fun c => ?_, fun c => ?_⟩
  · replace hw := ok_t hw c
    exact hG.2 _ _ _ _ _ _ _ _ _ (by refine ⟨Or.inr rfl, ?_⟩; refine ⟨Or.inl rfl, ?_⟩; refine ⟨Or.inr rfl, ?_⟩; refine ⟨Or.inr rfl, ?_⟩; refine ⟨Or.inr rfl, ?_⟩; exact trivial) (Nat.zero_le _) (Nat.zero_le _) (hK0 _ (ok_some hw :) :)
  · replace hw := ok_f hw c
    refine c_X12_beside_in (ok_imp (ok_bind hw) ?_)
    intro p hw
    simp only [Option.toList, List.nil_append, List.cons_append, Nat.reduceSub]
    refine mj_run hG.1 (fun pc => pc == 2 || pc == 31 || pc == 33 || pc == 42 || pc == 79 || pc == 92 || pc == 145 || pc == 151 || pc == 154) 4000 ?_
    simp only [mj_step, mj_W_s, mj_fin, List.getElem?_cons_zero, List.getElem?_cons_succ, mj_go, Nat.reduceAdd, Nat.reduceSub, Nat.reduceLT, Nat.reduceLeDiff, Nat.zero_add, Nat.reduceEqDiff, Nat.reduceBEq, ↓reduceIte, Bool.false_eq_true, List.append_nil, List.nil_append, List.cons_append, Option.toList, and_true, true_and, true_or, or_true, reduceCtorEq, List.map_nil, bI_eq0, bI_eq1, bool_ft, pk_us, vnar0, vnar1, Bool.or_false, Bool.or_true, Bool.false_or, Bool.true_or, mj_kne, eq_self, Int32.reduceLT, Int32.reduceLE, Int32.reduceAdd, Int32.reduceSub, Int32.reduceMul, not_true_eq_false, not_false_eq_true, false_implies, true_implies, D_X12_spread_0, D_X12_spread_1, mj_F_aload_n_k, mj_F_bipush_n, mj_F_getfield_i, mj_F_goto_off, mj_F_iadd, mj_F_iaload, mj_F_iastore, mj_F_iconst_n, mj_F_ifCond_eq_off, mj_F_ifCond_ne_off, mj_F_if_icmp_eq_off, mj_F_if_icmp_ge_off, mj_F_if_icmp_ne_off, mj_F_iinc_k_n, mj_F_iload_k, mj_F_iload_n_k, mj_F_imul, mj_F_invokestatic_i, mj_F_istore_k, mj_F_istore_n_k, mj_F_ldc_i, mj_F_return_, mj_set, mj_set0, mj_unk, mj_c2, mj_kc, FT_X12, FT_X12_1, KT_X12, L_X12_spread, List.take_succ_cons, List.take_zero, List.drop_succ_cons, List.drop_zero, List.reverse_cons, List.reverse_nil, List.length_cons, List.length_nil, gS_M0, gMf_3, gS_M3, sS_Ma_3, gMf_1, gS_M1, sS_Ma_1, J_X12_spread]
    refine ⟨fun c => ?_, fun c => ?_⟩
    · replace hw := ok_t hw c
      exact hG.2 _ _ _ _ _ _ _ _ _ (by refine ⟨Or.inr rfl, ?_⟩; refine ⟨Or.inl rfl, ?_⟩; refine ⟨Or.inr rfl, ?_⟩; refine ⟨Or.inr rfl, ?_⟩; refine ⟨Or.inr rfl, ?_⟩; refine ⟨Or.inr rfl, ?_⟩; refine ⟨Or.inr rfl, ?_⟩; exact trivial) (Nat.zero_le _) (Nat.zero_le _) (hP _ (ok_some hw :) :)
    · replace hw := ok_f hw c
      refine ⟨(ok_rd hw).1, ?_⟩
      replace hw := (ok_rd hw).2
      refine ⟨(ok_rd hw).1, ?_⟩
      replace hw := (ok_rd hw).2
      refine ⟨fun c => ?_, fun c => ?_⟩
      · replace hw := ok_t hw c
        exact hG.2 _ _ _ _ _ _ _ _ _ (by refine ⟨Or.inr rfl, ?_⟩; refine ⟨Or.inl rfl, ?_⟩; refine ⟨Or.inr rfl, ?_⟩; refine ⟨Or.inr rfl, ?_⟩; refine ⟨Or.inr rfl, ?_⟩; refine ⟨Or.inr rfl, ?_⟩; refine ⟨Or.inr rfl, ?_⟩; exact trivial) (Nat.zero_le _) (Nat.zero_le _) (hP _ (ok_some hw :) :)
      · replace hw := ok_f hw c
        refine ⟨(ok_rd hw).1, ?_⟩
        replace hw := (ok_rd hw).2
        refine ⟨(ok_wr hw).1, ?_⟩
        replace hw := (ok_wr hw).2
        exact hG.2 _ _ _ _ _ _ _ _ _ (by refine ⟨Or.inr rfl, ?_⟩; refine ⟨Or.inl rfl, ?_⟩; refine ⟨Or.inr rfl, ?_⟩; refine ⟨Or.inr rfl, ?_⟩; refine ⟨Or.inr rfl, ?_⟩; refine ⟨Or.inr rfl, ?_⟩; refine ⟨Or.inr rfl, ?_⟩; exact trivial) (Nat.zero_le _) (Nat.zero_le _) (hP _ (ok_some hw :) :)

set_option maxHeartbeats 4000000 in
theorem g_X12_spread_79 {k : Option Value → mj_H → Prop} {G : mj_K} (hG : mj_cl2 cX12_spread (TbX12 8 (none) ct_X12_spread) k G) {v2 : Int32} {P : Int32 × Int32 × St → Prop} {K : (Int32 × St) → Prop} (hP : ∀ x, P x → G 42 [.ref 0, mj_unk, .int v2, .int x.1, .int x.2.1] [] (mkMs x.2.2) 0 0) (hK0 : ∀ y, K y → G 151 [.ref 0, mj_unk, .int v2, .int y.1] [] (mkMs y.2) 0 0) {v3 : Int32} {v4 : Int32} {v5 : Int32} {v6 : Int32} {s : St} (hw : ok (F_X12_spread_79 v2 v3 v4 v5 v6 s) (Sum.elim P K)) : G 79 [.ref 0, mj_unk, .int v2, .int v3, .int v4, .int v5, .int v6] [] (mkMs s) 0 0 := by
  unfold F_X12_spread_79 at hw
  refine lp_ok (B_X12_spread_79 v2 v4 v5) (fun x => G 79 [.ref 0, mj_unk, .int v2, .int x.1, .int v4, .int v5, .int x.2.1] [] (mkMs x.2.2) 0 0) _ ?_ _ _ (ok_bind hw)
  rintro ⟨v3, v6, s⟩ hb
  exact b_X12_spread_79 hG (fun _ z => z) (fun y hw => by exact hG.2 _ _ _ _ _ _ _ _ _ (by refine ⟨Or.inr rfl, ?_⟩; refine ⟨Or.inl rfl, ?_⟩; refine ⟨Or.inr rfl, ?_⟩; refine ⟨Or.inr rfl, ?_⟩; refine ⟨Or.inr rfl, ?_⟩; exact trivial) (Nat.zero_le _) (Nat.zero_le _) (g_X12_spread_145 hG hP hK0  hw :)) hb

set_option maxHeartbeats 4000000 in
set_option maxRecDepth 20000 in
theorem b_X12_spread_42 {k : Option Value → mj_H → Prop} {G : mj_K} (hG : mj_cl2 cX12_spread (TbX12 8 (none) ct_X12_spread) k G) {v2 : Int32} {P : Int32 × Int32 × St → Prop} {K : (Int32 × St) → Prop} (hP : ∀ x, P x → G 42 [.ref 0, mj_unk, .int v2, .int x.1, .int x.2.1] [] (mkMs x.2.2) 0 0) (hK0 : ∀ y, K y → G 151 [.ref 0, mj_unk, .int v2, .int y.1] [] (mkMs y.2) 0 0) {v3 : Int32} {v4 : Int32} {s : St} (hw : ok (B_X12_spread_42 v2 (v3, v4, s)) (Sum.elim P K)) : G 42 [.ref 0, mj_unk, .int v2, .int v3, .int v4] [] (mkMs s) 0 0 := by
  unfold B_X12_spread_42 at hw
  refine mj_run hG.1 (fun pc => pc == 2 || pc == 31 || pc == 33 || pc == 42 || pc == 79 || pc == 92 || pc == 145 || pc == 151 || pc == 154) 4000 ?_
  simp only [mj_step, mj_W_s, mj_fin, List.getElem?_cons_zero, List.getElem?_cons_succ, mj_go, Nat.reduceAdd, Nat.reduceSub, Nat.reduceLT, Nat.reduceLeDiff, Nat.zero_add, Nat.reduceEqDiff, Nat.reduceBEq, ↓reduceIte, Bool.false_eq_true, List.append_nil, List.nil_append, List.cons_append, Option.toList, and_true, true_and, true_or, or_true, reduceCtorEq, List.map_nil, bI_eq0, bI_eq1, bool_ft, pk_us, vnar0, vnar1, Bool.or_false, Bool.or_true, Bool.false_or, Bool.true_or, mj_kne, eq_self, Int32.reduceLT, Int32.reduceLE, Int32.reduceAdd, Int32.reduceSub, Int32.reduceMul, not_true_eq_false, not_false_eq_true, false_implies, true_implies, D_X12_spread_0, D_X12_spread_1, mj_F_aload_n_k, mj_F_bipush_n, mj_F_getfield_i, mj_F_goto_off, mj_F_iadd, mj_F_iaload, mj_F_iastore, mj_F_iconst_n, mj_F_ifCond_eq_off, mj_F_ifCond_ne_off, mj_F_if_icmp_eq_off, mj_F_if_icmp_ge_off, mj_F_if_icmp_ne_off, mj_F_iinc_k_n, mj_F_iload_k, mj_F_iload_n_k, mj_F_imul, mj_F_invokestatic_i, mj_F_istore_k, mj_F_istore_n_k, mj_F_ldc_i, mj_F_return_, mj_set, mj_set0, mj_unk, mj_c2, mj_kc, FT_X12, FT_X12_1, KT_X12, L_X12_spread, List.take_succ_cons, List.take_zero, List.drop_succ_cons, List.drop_zero, List.reverse_cons, List.reverse_nil, List.length_cons, List.length_nil, gS_M0, gMf_3, gS_M3, sS_Ma_3, gMf_1, gS_M1, sS_Ma_1, J_X12_spread]
  refine ⟨fun c => ?_, fun c => ?_⟩
  · replace hw := ok_t hw c
    exact hG.2 _ _ _ _ _ _ _ _ _ (by refine ⟨Or.inr rfl, ?_⟩; refine ⟨Or.inl rfl, ?_⟩; refine ⟨Or.inr rfl, ?_⟩; refine ⟨Or.inr rfl, ?_⟩; exact trivial) (Nat.zero_le _) (Nat.zero_le _) (hK0 _ (ok_some hw :) :)
  · replace hw := ok_f hw c
    refine ⟨(ok_rd hw).1, ?_⟩
    replace hw := (ok_rd hw).2
    refine ⟨fun c => ?_, fun c => ?_⟩
    · replace hw := ok_f hw c
      exact hG.2 _ _ _ _ _ _ _ _ _ (by refine ⟨Or.inr rfl, ?_⟩; refine ⟨Or.inl rfl, ?_⟩; refine ⟨Or.inr rfl, ?_⟩; refine ⟨Or.inr rfl, ?_⟩; refine ⟨Or.inr rfl, ?_⟩; refine ⟨Or.inr rfl, ?_⟩; refine ⟨Or.inr rfl, ?_⟩; exact trivial) (Nat.zero_le _) (Nat.zero_le _) (g_X12_spread_79 hG hP hK0  hw :)
    · replace hw := ok_t hw c
      refine ⟨fun c => ?_, fun c => ?_⟩
      · replace hw := ok_f hw c
        exact hG.2 _ _ _ _ _ _ _ _ _ (by refine ⟨Or.inr rfl, ?_⟩; refine ⟨Or.inl rfl, ?_⟩; refine ⟨Or.inr rfl, ?_⟩; refine ⟨Or.inr rfl, ?_⟩; refine ⟨Or.inr rfl, ?_⟩; refine ⟨Or.inr rfl, ?_⟩; refine ⟨Or.inr rfl, ?_⟩; exact trivial) (Nat.zero_le _) (Nat.zero_le _) (g_X12_spread_79 hG hP hK0  hw :)
      · replace hw := ok_t hw c
        exact hG.2 _ _ _ _ _ _ _ _ _ (by refine ⟨Or.inr rfl, ?_⟩; refine ⟨Or.inl rfl, ?_⟩; refine ⟨Or.inr rfl, ?_⟩; refine ⟨Or.inr rfl, ?_⟩; refine ⟨Or.inr rfl, ?_⟩; exact trivial) (Nat.zero_le _) (Nat.zero_le _) (g_X12_spread_145 hG hP hK0  hw :)

set_option maxHeartbeats 4000000 in
set_option maxRecDepth 20000 in
theorem g_X12_spread_151 {k : Option Value → mj_H → Prop} {G : mj_K} (hG : mj_cl2 cX12_spread (TbX12 8 (none) ct_X12_spread) k G) {v2 : Int32} {P : Int32 × St → Prop} {K : (St) → Prop} (hP : ∀ x, P x → G 33 [.ref 0, mj_unk, .int v2, .int x.1] [] (mkMs x.2) 0 0) (hK0 : ∀ y, K y → G 154 [] [] (mkMs y) 0 0) {v3 : Int32} {s : St} (hw : ok (F_X12_spread_151 v2 v3 s) (Sum.elim P K)) : G 151 [.ref 0, mj_unk, .int v2, .int v3] [] (mkMs s) 0 0 := by
  unfold F_X12_spread_151 at hw
  refine mj_run hG.1 (fun pc => pc == 2 || pc == 31 || pc == 33 || pc == 42 || pc == 79 || pc == 92 || pc == 145 || pc == 151 || pc == 154) 4000 ?_
  simp only [mj_step, mj_W_s, mj_fin, List.getElem?_cons_zero, List.getElem?_cons_succ, mj_go, Nat.reduceAdd, Nat.reduceSub, Nat.reduceLT, Nat.reduceLeDiff, Nat.zero_add, Nat.reduceEqDiff, Nat.reduceBEq, ↓reduceIte, Bool.false_eq_true, List.append_nil, List.nil_append, List.cons_append, Option.toList, and_true, true_and, true_or, or_true, reduceCtorEq, List.map_nil, bI_eq0, bI_eq1, bool_ft, pk_us, vnar0, vnar1, Bool.or_false, Bool.or_true, Bool.false_or, Bool.true_or, mj_kne, eq_self, Int32.reduceLT, Int32.reduceLE, Int32.reduceAdd, Int32.reduceSub, Int32.reduceMul, not_true_eq_false, not_false_eq_true, false_implies, true_implies, D_X12_spread_0, D_X12_spread_1, mj_F_aload_n_k, mj_F_bipush_n, mj_F_getfield_i, mj_F_goto_off, mj_F_iadd, mj_F_iaload, mj_F_iastore, mj_F_iconst_n, mj_F_ifCond_eq_off, mj_F_ifCond_ne_off, mj_F_if_icmp_eq_off, mj_F_if_icmp_ge_off, mj_F_if_icmp_ne_off, mj_F_iinc_k_n, mj_F_iload_k, mj_F_iload_n_k, mj_F_imul, mj_F_invokestatic_i, mj_F_istore_k, mj_F_istore_n_k, mj_F_ldc_i, mj_F_return_, mj_set, mj_set0, mj_unk, mj_c2, mj_kc, FT_X12, FT_X12_1, KT_X12, L_X12_spread, List.take_succ_cons, List.take_zero, List.drop_succ_cons, List.drop_zero, List.reverse_cons, List.reverse_nil, List.length_cons, List.length_nil, gS_M0, gMf_3, gS_M3, sS_Ma_3, gMf_1, gS_M1, sS_Ma_1, J_X12_spread]
  exact hG.2 _ _ _ _ _ _ _ _ _ (by refine ⟨Or.inr rfl, ?_⟩; refine ⟨Or.inl rfl, ?_⟩; refine ⟨Or.inr rfl, ?_⟩; refine ⟨Or.inr rfl, ?_⟩; exact trivial) (Nat.zero_le _) (Nat.zero_le _) (hP _ (ok_some hw :) :)

set_option maxHeartbeats 4000000 in
theorem g_X12_spread_42 {k : Option Value → mj_H → Prop} {G : mj_K} (hG : mj_cl2 cX12_spread (TbX12 8 (none) ct_X12_spread) k G) {v2 : Int32} {P : Int32 × St → Prop} {K : (St) → Prop} (hP : ∀ x, P x → G 33 [.ref 0, mj_unk, .int v2, .int x.1] [] (mkMs x.2) 0 0) (hK0 : ∀ y, K y → G 154 [] [] (mkMs y) 0 0) {v3 : Int32} {v4 : Int32} {s : St} (hw : ok (F_X12_spread_42 v2 v3 v4 s) (Sum.elim P K)) : G 42 [.ref 0, mj_unk, .int v2, .int v3, .int v4] [] (mkMs s) 0 0 := by
  unfold F_X12_spread_42 at hw
  refine lp_ok (B_X12_spread_42 v2) (fun x => G 42 [.ref 0, mj_unk, .int v2, .int x.1, .int x.2.1] [] (mkMs x.2.2) 0 0) _ ?_ _ _ (ok_bind hw)
  rintro ⟨v3, v4, s⟩ hb
  exact b_X12_spread_42 hG (fun _ z => z) (fun y hw => by exact hG.2 _ _ _ _ _ _ _ _ _ (by refine ⟨Or.inr rfl, ?_⟩; refine ⟨Or.inl rfl, ?_⟩; refine ⟨Or.inr rfl, ?_⟩; refine ⟨Or.inr rfl, ?_⟩; exact trivial) (Nat.zero_le _) (Nat.zero_le _) (g_X12_spread_151 hG hP hK0  hw :)) hb

set_option maxHeartbeats 4000000 in
set_option maxRecDepth 20000 in
theorem b_X12_spread_33 {k : Option Value → mj_H → Prop} {G : mj_K} (hG : mj_cl2 cX12_spread (TbX12 8 (none) ct_X12_spread) k G) {v2 : Int32} {P : Int32 × St → Prop} {K : (St) → Prop} (hP : ∀ x, P x → G 33 [.ref 0, mj_unk, .int v2, .int x.1] [] (mkMs x.2) 0 0) (hK0 : ∀ y, K y → G 154 [] [] (mkMs y) 0 0) {v3 : Int32} {s : St} (hw : ok (B_X12_spread_33 v2 (v3, s)) (Sum.elim P K)) : G 33 [.ref 0, mj_unk, .int v2, .int v3] [] (mkMs s) 0 0 := by
  unfold B_X12_spread_33 at hw
  refine mj_run hG.1 (fun pc => pc == 2 || pc == 31 || pc == 33 || pc == 42 || pc == 79 || pc == 92 || pc == 145 || pc == 151 || pc == 154) 4000 ?_
  simp only [mj_step, mj_W_s, mj_fin, List.getElem?_cons_zero, List.getElem?_cons_succ, mj_go, Nat.reduceAdd, Nat.reduceSub, Nat.reduceLT, Nat.reduceLeDiff, Nat.zero_add, Nat.reduceEqDiff, Nat.reduceBEq, ↓reduceIte, Bool.false_eq_true, List.append_nil, List.nil_append, List.cons_append, Option.toList, and_true, true_and, true_or, or_true, reduceCtorEq, List.map_nil, bI_eq0, bI_eq1, bool_ft, pk_us, vnar0, vnar1, Bool.or_false, Bool.or_true, Bool.false_or, Bool.true_or, mj_kne, eq_self, Int32.reduceLT, Int32.reduceLE, Int32.reduceAdd, Int32.reduceSub, Int32.reduceMul, not_true_eq_false, not_false_eq_true, false_implies, true_implies, D_X12_spread_0, D_X12_spread_1, mj_F_aload_n_k, mj_F_bipush_n, mj_F_getfield_i, mj_F_goto_off, mj_F_iadd, mj_F_iaload, mj_F_iastore, mj_F_iconst_n, mj_F_ifCond_eq_off, mj_F_ifCond_ne_off, mj_F_if_icmp_eq_off, mj_F_if_icmp_ge_off, mj_F_if_icmp_ne_off, mj_F_iinc_k_n, mj_F_iload_k, mj_F_iload_n_k, mj_F_imul, mj_F_invokestatic_i, mj_F_istore_k, mj_F_istore_n_k, mj_F_ldc_i, mj_F_return_, mj_set, mj_set0, mj_unk, mj_c2, mj_kc, FT_X12, FT_X12_1, KT_X12, L_X12_spread, List.take_succ_cons, List.take_zero, List.drop_succ_cons, List.drop_zero, List.reverse_cons, List.reverse_nil, List.length_cons, List.length_nil, gS_M0, gMf_3, gS_M3, sS_Ma_3, gMf_1, gS_M1, sS_Ma_1, J_X12_spread]
  refine ⟨fun c => ?_, fun c => ?_⟩
  · replace hw := ok_t hw c
    exact hG.2 _ _ _ _ _ _ _ _ _ (by exact trivial) (Nat.zero_le _) (Nat.zero_le _) (hK0 _ (ok_some hw :) :)
  · replace hw := ok_f hw c
    exact hG.2 _ _ _ _ _ _ _ _ _ (by refine ⟨Or.inr rfl, ?_⟩; refine ⟨Or.inl rfl, ?_⟩; refine ⟨Or.inr rfl, ?_⟩; refine ⟨Or.inr rfl, ?_⟩; refine ⟨Or.inr rfl, ?_⟩; exact trivial) (Nat.zero_le _) (Nat.zero_le _) (g_X12_spread_42 hG hP hK0  hw :)

set_option maxHeartbeats 4000000 in
set_option maxRecDepth 20000 in
theorem g_X12_spread_154 {k : Option Value → mj_H → Prop} {G : mj_K} (hG : mj_cl2 cX12_spread (TbX12 8 (none) ct_X12_spread) k G)   {s : St} (hw : ok (F_X12_spread_154 s) (fun p => k none (mkMs p))) : G 154 [] [] (mkMs s) 0 0 := by
  unfold F_X12_spread_154 at hw
  refine mj_run hG.1 (fun pc => pc == 2 || pc == 31 || pc == 33 || pc == 42 || pc == 79 || pc == 92 || pc == 145 || pc == 151 || pc == 154) 4000 ?_
  simp only [mj_step, mj_W_s, mj_fin, List.getElem?_cons_zero, List.getElem?_cons_succ, mj_go, Nat.reduceAdd, Nat.reduceSub, Nat.reduceLT, Nat.reduceLeDiff, Nat.zero_add, Nat.reduceEqDiff, Nat.reduceBEq, ↓reduceIte, Bool.false_eq_true, List.append_nil, List.nil_append, List.cons_append, Option.toList, and_true, true_and, true_or, or_true, reduceCtorEq, List.map_nil, bI_eq0, bI_eq1, bool_ft, pk_us, vnar0, vnar1, Bool.or_false, Bool.or_true, Bool.false_or, Bool.true_or, mj_kne, eq_self, Int32.reduceLT, Int32.reduceLE, Int32.reduceAdd, Int32.reduceSub, Int32.reduceMul, not_true_eq_false, not_false_eq_true, false_implies, true_implies, D_X12_spread_0, D_X12_spread_1, mj_F_aload_n_k, mj_F_bipush_n, mj_F_getfield_i, mj_F_goto_off, mj_F_iadd, mj_F_iaload, mj_F_iastore, mj_F_iconst_n, mj_F_ifCond_eq_off, mj_F_ifCond_ne_off, mj_F_if_icmp_eq_off, mj_F_if_icmp_ge_off, mj_F_if_icmp_ne_off, mj_F_iinc_k_n, mj_F_iload_k, mj_F_iload_n_k, mj_F_imul, mj_F_invokestatic_i, mj_F_istore_k, mj_F_istore_n_k, mj_F_ldc_i, mj_F_return_, mj_set, mj_set0, mj_unk, mj_c2, mj_kc, FT_X12, FT_X12_1, KT_X12, L_X12_spread, List.take_succ_cons, List.take_zero, List.drop_succ_cons, List.drop_zero, List.reverse_cons, List.reverse_nil, List.length_cons, List.length_nil, gS_M0, gMf_3, gS_M3, sS_Ma_3, gMf_1, gS_M1, sS_Ma_1, J_X12_spread]
  exact (ok_some hw :)

set_option maxHeartbeats 4000000 in
theorem g_X12_spread_33 {k : Option Value → mj_H → Prop} {G : mj_K} (hG : mj_cl2 cX12_spread (TbX12 8 (none) ct_X12_spread) k G)   {v2 : Int32} {v3 : Int32} {s : St} (hw : ok (F_X12_spread_33 v2 v3 s) (fun p => k none (mkMs p))) : G 33 [.ref 0, mj_unk, .int v2, .int v3] [] (mkMs s) 0 0 := by
  unfold F_X12_spread_33 at hw
  refine lp_ok (B_X12_spread_33 v2) (fun x => G 33 [.ref 0, mj_unk, .int v2, .int x.1] [] (mkMs x.2) 0 0) _ ?_ _ _ (ok_bind hw)
  rintro ⟨v3, s⟩ hb
  exact b_X12_spread_33 hG (fun _ z => z) (fun y hw => by exact hG.2 _ _ _ _ _ _ _ _ _ (by exact trivial) (Nat.zero_le _) (Nat.zero_le _) (g_X12_spread_154 hG  hw :)) hb

set_option maxHeartbeats 4000000 in
set_option maxRecDepth 20000 in
theorem g_X12_spread_31 {k : Option Value → mj_H → Prop} {G : mj_K} (hG : mj_cl2 cX12_spread (TbX12 8 (none) ct_X12_spread) k G)   {v2 : Int32} {s : St} (hw : ok (F_X12_spread_31 v2 s) (fun p => k none (mkMs p))) : G 31 [.ref 0, mj_unk, .int v2] [] (mkMs s) 0 0 := by
  unfold F_X12_spread_31 at hw
  refine mj_run hG.1 (fun pc => pc == 2 || pc == 31 || pc == 33 || pc == 42 || pc == 79 || pc == 92 || pc == 145 || pc == 151 || pc == 154) 4000 ?_
  simp only [mj_step, mj_W_s, mj_fin, List.getElem?_cons_zero, List.getElem?_cons_succ, mj_go, Nat.reduceAdd, Nat.reduceSub, Nat.reduceLT, Nat.reduceLeDiff, Nat.zero_add, Nat.reduceEqDiff, Nat.reduceBEq, ↓reduceIte, Bool.false_eq_true, List.append_nil, List.nil_append, List.cons_append, Option.toList, and_true, true_and, true_or, or_true, reduceCtorEq, List.map_nil, bI_eq0, bI_eq1, bool_ft, pk_us, vnar0, vnar1, Bool.or_false, Bool.or_true, Bool.false_or, Bool.true_or, mj_kne, eq_self, Int32.reduceLT, Int32.reduceLE, Int32.reduceAdd, Int32.reduceSub, Int32.reduceMul, not_true_eq_false, not_false_eq_true, false_implies, true_implies, D_X12_spread_0, D_X12_spread_1, mj_F_aload_n_k, mj_F_bipush_n, mj_F_getfield_i, mj_F_goto_off, mj_F_iadd, mj_F_iaload, mj_F_iastore, mj_F_iconst_n, mj_F_ifCond_eq_off, mj_F_ifCond_ne_off, mj_F_if_icmp_eq_off, mj_F_if_icmp_ge_off, mj_F_if_icmp_ne_off, mj_F_iinc_k_n, mj_F_iload_k, mj_F_iload_n_k, mj_F_imul, mj_F_invokestatic_i, mj_F_istore_k, mj_F_istore_n_k, mj_F_ldc_i, mj_F_return_, mj_set, mj_set0, mj_unk, mj_c2, mj_kc, FT_X12, FT_X12_1, KT_X12, L_X12_spread, List.take_succ_cons, List.take_zero, List.drop_succ_cons, List.drop_zero, List.reverse_cons, List.reverse_nil, List.length_cons, List.length_nil, gS_M0, gMf_3, gS_M3, sS_Ma_3, gMf_1, gS_M1, sS_Ma_1, J_X12_spread]
  exact hG.2 _ _ _ _ _ _ _ _ _ (by refine ⟨Or.inr rfl, ?_⟩; refine ⟨Or.inl rfl, ?_⟩; refine ⟨Or.inr rfl, ?_⟩; refine ⟨Or.inr rfl, ?_⟩; exact trivial) (Nat.zero_le _) (Nat.zero_le _) (g_X12_spread_33 hG  hw :)

set_option maxHeartbeats 4000000 in
theorem g_X12_spread_2 {k : Option Value → mj_H → Prop} {G : mj_K} (hG : mj_cl2 cX12_spread (TbX12 8 (none) ct_X12_spread) k G)   {v1 : Int32} {v2 : Int32} {v3 : Int32} {s : St} (hw : ok (F_X12_spread_2 v1 v2 v3 s) (fun p => k none (mkMs p))) : G 2 [.ref 0, .int v1, .int v2, .int v3] [] (mkMs s) 0 0 := by
  unfold F_X12_spread_2 at hw
  refine lp_ok (B_X12_spread_2 v1 v2) (fun x => G 2 [.ref 0, .int v1, .int v2, .int x.1] [] (mkMs x.2) 0 0) _ ?_ _ _ (ok_bind hw)
  rintro ⟨v3, s⟩ hb
  exact b_X12_spread_2 hG (fun _ z => z) (fun y hw => by exact hG.2 _ _ _ _ _ _ _ _ _ (by refine ⟨Or.inr rfl, ?_⟩; refine ⟨Or.inl rfl, ?_⟩; refine ⟨Or.inr rfl, ?_⟩; exact trivial) (Nat.zero_le _) (Nat.zero_le _) (g_X12_spread_31 hG  hw :)) hb

set_option maxHeartbeats 4000000 in
set_option maxRecDepth 20000 in
theorem g_X12_spread {k : Option Value → mj_H → Prop} {G : mj_K} (hG : mj_cl2 cX12_spread (TbX12 8 (none) ct_X12_spread) k G) {v1 : Int32} {v2 : Int32} {s : St} (hw : ok (F_X12_spread v1 v2 s) (fun p => k none (mkMs p))) : G 0 [.ref 0, .int v1, .int v2] [] (mkMs s) 0 0 := by
  unfold F_X12_spread at hw
  refine mj_run hG.1 (fun pc => pc == 2 || pc == 31 || pc == 33 || pc == 42 || pc == 79 || pc == 92 || pc == 145 || pc == 151 || pc == 154) 4000 ?_
  simp only [mj_step, mj_W_s, mj_fin, List.getElem?_cons_zero, List.getElem?_cons_succ, mj_go, Nat.reduceAdd, Nat.reduceSub, Nat.reduceLT, Nat.reduceLeDiff, Nat.zero_add, Nat.reduceEqDiff, Nat.reduceBEq, ↓reduceIte, Bool.false_eq_true, List.append_nil, List.nil_append, List.cons_append, Option.toList, and_true, true_and, true_or, or_true, reduceCtorEq, List.map_nil, bI_eq0, bI_eq1, bool_ft, pk_us, vnar0, vnar1, Bool.or_false, Bool.or_true, Bool.false_or, Bool.true_or, mj_kne, eq_self, Int32.reduceLT, Int32.reduceLE, Int32.reduceAdd, Int32.reduceSub, Int32.reduceMul, not_true_eq_false, not_false_eq_true, false_implies, true_implies, D_X12_spread_0, D_X12_spread_1, mj_F_aload_n_k, mj_F_bipush_n, mj_F_getfield_i, mj_F_goto_off, mj_F_iadd, mj_F_iaload, mj_F_iastore, mj_F_iconst_n, mj_F_ifCond_eq_off, mj_F_ifCond_ne_off, mj_F_if_icmp_eq_off, mj_F_if_icmp_ge_off, mj_F_if_icmp_ne_off, mj_F_iinc_k_n, mj_F_iload_k, mj_F_iload_n_k, mj_F_imul, mj_F_invokestatic_i, mj_F_istore_k, mj_F_istore_n_k, mj_F_ldc_i, mj_F_return_, mj_set, mj_set0, mj_unk, mj_c2, mj_kc, FT_X12, FT_X12_1, KT_X12, L_X12_spread, List.take_succ_cons, List.take_zero, List.drop_succ_cons, List.drop_zero, List.reverse_cons, List.reverse_nil, List.length_cons, List.length_nil, gS_M0, gMf_3, gS_M3, sS_Ma_3, gMf_1, gS_M1, sS_Ma_1, J_X12_spread]
  exact hG.2 _ _ _ _ _ _ _ _ _ (by refine ⟨Or.inr rfl, ?_⟩; refine ⟨Or.inr rfl, ?_⟩; refine ⟨Or.inr rfl, ?_⟩; refine ⟨Or.inr rfl, ?_⟩; exact trivial) (Nat.zero_le _) (Nat.zero_le _) (g_X12_spread_2 hG  hw :)

def c_X12_spread : mj_S := fun as h k => ∃ (v1 : Int32) (v2 : Int32) (s : St), as = [.ref 0, .int v1, .int v2] ∧ h = mkMs s ∧ ok (F_X12_spread v1 v2 s) (fun p => k none (mkMs p))
theorem c_X12_spread_in {v1 : Int32} {v2 : Int32} {s : St} {k : Option Value → mj_H → Prop} (hw : ok (F_X12_spread v1 v2 s) (fun p => k none (mkMs p))) : c_X12_spread [.ref 0, .int v1, .int v2] (mkMs s) k := ⟨v1, v2, s, rfl, rfl, hw⟩
theorem m_X12_spread (l : Launch) : mj_Met l yX12_spread cX12_spread 8 (none) 2 0 0 c_X12_spread := by
  refine mj_body2 false (TbX12 8 (none) ct_X12_spread) (by decide) rfl rfl (fun h => nomatch h) (tfX12 _ (List.forall_mem_cons.mpr ⟨cfX12_256 (m_X12_beside l) (by decide), fun _ h => nomatch h⟩)) ?_
  rintro as h k ⟨v1, v2, s, rfl, rfl, hw⟩
  exact ⟨rfl, fun G hG => g_X12_spread hG hw⟩
def F_X12_walkedTo (v1 : Int32) (s : St) : Option (Int32) :=
  (rd s 1203 120 v1).bind fun x1 =>
  if x1 < 1000000 then
    (rd s 1203 120 v1).bind fun x2 =>
    some x2
  else
    some (-1)
theorem J_X12_walkedTo : mj_t 8 7 = 15 ∧ mj_t 12 9 = 21 ∧ (0 ≤ ((8 : Nat) : Int) + 7) = True ∧ (0 ≤ ((12 : Nat) : Int) + 9) = True := by and_intros <;> first | rfl | exact eq_true (by decide)
set_option maxHeartbeats 4000000 in
set_option maxRecDepth 20000 in
theorem g_X12_walkedTo {k : Option Value → mj_H → Prop} {G : mj_K} (hG : mj_cl2 cX12_walkedTo (TbX12 2 ((some FieldType.int)) []) k G) {v1 : Int32} {s : St} (hw : ok (F_X12_walkedTo v1 s) (fun p => k (some (.int p)) (mkMs s))) : G 0 [.ref 0, .int v1] [] (mkMs s) 0 0 := by
  unfold F_X12_walkedTo at hw
  refine mj_run hG.1 (fun _ => false) 4000 ?_
  simp only [mj_step, mj_W_s, mj_fin, List.getElem?_cons_zero, List.getElem?_cons_succ, mj_go, Nat.reduceAdd, Nat.reduceSub, Nat.reduceLT, Nat.reduceLeDiff, Nat.zero_add, Nat.reduceEqDiff, Nat.reduceBEq, ↓reduceIte, Bool.false_eq_true, List.append_nil, List.nil_append, List.cons_append, Option.toList, and_true, true_and, true_or, or_true, reduceCtorEq, List.map_nil, bI_eq0, bI_eq1, bool_ft, pk_us, vnar0, vnar1, Bool.or_false, Bool.or_true, Bool.false_or, Bool.true_or, mj_kne, eq_self, Int32.reduceLT, Int32.reduceLE, Int32.reduceAdd, Int32.reduceSub, Int32.reduceMul, not_true_eq_false, not_false_eq_true, false_implies, true_implies, D_X12_walkedTo, mj_F_aload_n_k, mj_F_getfield_i, mj_F_goto_off, mj_F_iaload, mj_F_iconst_n, mj_F_if_icmp_lt_off, mj_F_iload_n_k, mj_F_ireturn, mj_F_ldc_i, mj_kc, FT_X12, FT_X12_1, KT_X12, gS_M0, gMf_3, gS_M3, sS_Ma_3, J_X12_walkedTo]
  refine ⟨(ok_rd hw).1, ?_⟩
  replace hw := (ok_rd hw).2
  refine ⟨fun c => ?_, fun c => ?_⟩
  · replace hw := ok_t hw c
    refine ⟨(ok_rd hw).1, ?_⟩
    replace hw := (ok_rd hw).2
    exact (ok_some hw :)
  · replace hw := ok_f hw c
    exact (ok_some hw :)

def c_X12_walkedTo : mj_S := fun as h k => ∃ (v1 : Int32) (s : St), as = [.ref 0, .int v1] ∧ h = mkMs s ∧ ok (F_X12_walkedTo v1 s) (fun p => k (some (.int p)) (mkMs s))
theorem c_X12_walkedTo_in {v1 : Int32} {s : St} {k : Option Value → mj_H → Prop} (hw : ok (F_X12_walkedTo v1 s) (fun p => k (some (.int p)) (mkMs s))) : c_X12_walkedTo [.ref 0, .int v1] (mkMs s) k := ⟨v1, s, rfl, rfl, hw⟩
theorem m_X12_walkedTo (l : Launch) : mj_Met l yX12_walkedTo cX12_walkedTo 2 ((some FieldType.int)) 0 0 0 c_X12_walkedTo := by
  refine mj_body2 false (TbX12 2 ((some FieldType.int)) []) (by decide) rfl rfl (fun h => nomatch h) (tfX12 _ (fun _ h => nomatch h)) ?_
  rintro as h k ⟨v1, s, rfl, rfl, hw⟩
  exact ⟨rfl, fun G hG => g_X12_walkedTo hG hw⟩
def F_X12_walkOf (v1 : Int32) (v2 : Int32) (v3 : Int32) (s : St) : Option (Int32 × St) :=
  (F_X12_spread v1 v3 s).bind fun s1 =>
  (F_X12_walkedTo v2 s1).bind fun r2 =>
  some (r2, s1)
def ct_X12_walkOf : List (Nat × mj_Cs) := [(247, 0, 3, 12, 0, 0, c_X12_spread), (251, 0, 2, 12, 0, 0, c_X12_walkedTo)]
theorem L_X12_walkOf : mj_lk ct_X12_walkOf 247 = some (0, 3, 12, 0, 0, c_X12_spread) ∧ mj_lk ct_X12_walkOf 251 = some (0, 2, 12, 0, 0, c_X12_walkedTo) := ⟨rfl, rfl⟩
set_option maxHeartbeats 4000000 in
set_option maxRecDepth 20000 in
theorem g_X12_walkOf {k : Option Value → mj_H → Prop} {G : mj_K} (hG : mj_cl2 cX12_walkOf (TbX12 4 ((some FieldType.int)) ct_X12_walkOf) k G) {v1 : Int32} {v2 : Int32} {v3 : Int32} {s : St} (hw : ok (F_X12_walkOf v1 v2 v3 s) (fun p => k (some (.int p.1)) (mkMs p.2))) : G 0 [.ref 0, .int v1, .int v2, .int v3] [] (mkMs s) 0 0 := by
  unfold F_X12_walkOf at hw
  refine mj_run hG.1 (fun pc => pc == 6 || pc == 11) 4000 ?_
  simp only [mj_step, mj_W_s, mj_fin, List.getElem?_cons_zero, List.getElem?_cons_succ, mj_go, Nat.reduceAdd, Nat.reduceSub, Nat.reduceLT, Nat.reduceLeDiff, Nat.zero_add, Nat.reduceEqDiff, Nat.reduceBEq, ↓reduceIte, Bool.false_eq_true, List.append_nil, List.nil_append, List.cons_append, Option.toList, and_true, true_and, true_or, or_true, reduceCtorEq, List.map_nil, bI_eq0, bI_eq1, bool_ft, pk_us, vnar0, vnar1, Bool.or_false, Bool.or_true, Bool.false_or, Bool.true_or, mj_kne, eq_self, Int32.reduceLT, Int32.reduceLE, Int32.reduceAdd, Int32.reduceSub, Int32.reduceMul, not_true_eq_false, not_false_eq_true, false_implies, true_implies, D_X12_walkOf, mj_F_aload_n_k, mj_F_iload_n_k, mj_F_invokevirtual_i, mj_F_ireturn, L_X12_walkOf, List.take_succ_cons, List.take_zero, List.drop_succ_cons, List.drop_zero, List.reverse_cons, List.reverse_nil, List.length_cons, List.length_nil, gS_M0]
  refine c_X12_spread_in (ok_imp (ok_bind hw) ?_)
  intro p hw
  simp only [Option.toList, List.nil_append, List.cons_append, Nat.reduceSub]
  refine mj_run hG.1 (fun pc => pc == 6 || pc == 11) 4000 ?_
  simp only [mj_step, mj_W_s, mj_fin, List.getElem?_cons_zero, List.getElem?_cons_succ, mj_go, Nat.reduceAdd, Nat.reduceSub, Nat.reduceLT, Nat.reduceLeDiff, Nat.zero_add, Nat.reduceEqDiff, Nat.reduceBEq, ↓reduceIte, Bool.false_eq_true, List.append_nil, List.nil_append, List.cons_append, Option.toList, and_true, true_and, true_or, or_true, reduceCtorEq, List.map_nil, bI_eq0, bI_eq1, bool_ft, pk_us, vnar0, vnar1, Bool.or_false, Bool.or_true, Bool.false_or, Bool.true_or, mj_kne, eq_self, Int32.reduceLT, Int32.reduceLE, Int32.reduceAdd, Int32.reduceSub, Int32.reduceMul, not_true_eq_false, not_false_eq_true, false_implies, true_implies, D_X12_walkOf, mj_F_aload_n_k, mj_F_iload_n_k, mj_F_invokevirtual_i, mj_F_ireturn, L_X12_walkOf, List.take_succ_cons, List.take_zero, List.drop_succ_cons, List.drop_zero, List.reverse_cons, List.reverse_nil, List.length_cons, List.length_nil, gS_M0]
  refine c_X12_walkedTo_in (ok_imp (ok_bind hw) ?_)
  intro p hw
  simp only [Option.toList, List.nil_append, List.cons_append, Nat.reduceSub]
  refine mj_run hG.1 (fun pc => pc == 6 || pc == 11) 4000 ?_
  simp only [mj_step, mj_W_s, mj_fin, List.getElem?_cons_zero, List.getElem?_cons_succ, mj_go, Nat.reduceAdd, Nat.reduceSub, Nat.reduceLT, Nat.reduceLeDiff, Nat.zero_add, Nat.reduceEqDiff, Nat.reduceBEq, ↓reduceIte, Bool.false_eq_true, List.append_nil, List.nil_append, List.cons_append, Option.toList, and_true, true_and, true_or, or_true, reduceCtorEq, List.map_nil, bI_eq0, bI_eq1, bool_ft, pk_us, vnar0, vnar1, Bool.or_false, Bool.or_true, Bool.false_or, Bool.true_or, mj_kne, eq_self, Int32.reduceLT, Int32.reduceLE, Int32.reduceAdd, Int32.reduceSub, Int32.reduceMul, not_true_eq_false, not_false_eq_true, false_implies, true_implies, D_X12_walkOf, mj_F_aload_n_k, mj_F_iload_n_k, mj_F_invokevirtual_i, mj_F_ireturn, L_X12_walkOf, List.take_succ_cons, List.take_zero, List.drop_succ_cons, List.drop_zero, List.reverse_cons, List.reverse_nil, List.length_cons, List.length_nil, gS_M0]
  exact (ok_some hw :)

def c_X12_walkOf : mj_S := fun as h k => ∃ (v1 : Int32) (v2 : Int32) (v3 : Int32) (s : St), as = [.ref 0, .int v1, .int v2, .int v3] ∧ h = mkMs s ∧ ok (F_X12_walkOf v1 v2 v3 s) (fun p => k (some (.int p.1)) (mkMs p.2))
theorem c_X12_walkOf_in {v1 : Int32} {v2 : Int32} {v3 : Int32} {s : St} {k : Option Value → mj_H → Prop} (hw : ok (F_X12_walkOf v1 v2 v3 s) (fun p => k (some (.int p.1)) (mkMs p.2))) : c_X12_walkOf [.ref 0, .int v1, .int v2, .int v3] (mkMs s) k := ⟨v1, v2, v3, s, rfl, rfl, hw⟩
theorem m_X12_walkOf (l : Launch) : mj_Met l yX12_walkOf cX12_walkOf 4 ((some FieldType.int)) 3 0 0 c_X12_walkOf := by
  refine mj_body2 false (TbX12 4 ((some FieldType.int)) ct_X12_walkOf) (by decide) rfl rfl (fun h => nomatch h) (tfX12 _ (List.forall_mem_cons.mpr ⟨cfX12_247 (m_X12_spread l) (by decide), List.forall_mem_cons.mpr ⟨cfX12_251 (m_X12_walkedTo l) (by decide), fun _ h => nomatch h⟩⟩)) ?_
  rintro as h k ⟨v1, v2, v3, s, rfl, rfl, hw⟩
  exact ⟨rfl, fun G hG => g_X12_walkOf hG hw⟩
def F_X12_walk (v1 : Int32) (v2 : Int32) (v3 : Int32) (s : St) : Option (Int32 × St) :=
  if inb v1 0 119 = false then
    some ((-1), s)
  else
    if inb v2 0 119 = false then
      some ((-1), s)
    else
      if inb v3 0 1 = false then
        some ((-1), s)
      else
        (F_X12_walkOf v1 v2 v3 s).bind fun r1 =>
        some (r1.1, r1.2)
theorem J_X12_walk : mj_t 4 29 = 33 ∧ mj_t 11 22 = 33 ∧ mj_t 20 13 = 33 ∧ mj_t 30 4 = 34 ∧ (0 ≤ ((4 : Nat) : Int) + 29) = True ∧ (0 ≤ ((11 : Nat) : Int) + 22) = True ∧ (0 ≤ ((20 : Nat) : Int) + 13) = True ∧ (0 ≤ ((30 : Nat) : Int) + 4) = True := by and_intros <;> first | rfl | exact eq_true (by decide)
def ct_X12_walk : List (Nat × mj_Cs) := [(243, 2, 3, 12, 0, 0, c_in), (260, 2, 1, 12, 0, 0, c_isCell), (264, 0, 4, 12, 0, 0, c_X12_walkOf)]
theorem L_X12_walk : mj_lk ct_X12_walk 243 = some (2, 3, 12, 0, 0, c_in) ∧ mj_lk ct_X12_walk 260 = some (2, 1, 12, 0, 0, c_isCell) ∧ mj_lk ct_X12_walk 264 = some (0, 4, 12, 0, 0, c_X12_walkOf) := ⟨rfl, rfl, rfl⟩
set_option maxHeartbeats 4000000 in
set_option maxRecDepth 20000 in
theorem g_X12_walk {k : Option Value → mj_H → Prop} {G : mj_K} (hG : mj_cl2 cX12_walk (TbX12 4 ((some FieldType.int)) ct_X12_walk) k G) {v1 : Int32} {v2 : Int32} {v3 : Int32} {s : St} (hw : ok (F_X12_walk v1 v2 v3 s) (fun p => k (some (.int p.1)) (mkMs p.2))) : G 0 [.ref 0, .int v1, .int v2, .int v3] [] (mkMs s) 0 0 := by
  unfold F_X12_walk at hw
  refine mj_run hG.1 (fun pc => pc == 30) 4000 ?_
  simp only [mj_step, mj_W_s, mj_fin, List.getElem?_cons_zero, List.getElem?_cons_succ, mj_go, Nat.reduceAdd, Nat.reduceSub, Nat.reduceLT, Nat.reduceLeDiff, Nat.zero_add, Nat.reduceEqDiff, Nat.reduceBEq, ↓reduceIte, Bool.false_eq_true, List.append_nil, List.nil_append, List.cons_append, Option.toList, and_true, true_and, true_or, or_true, reduceCtorEq, List.map_nil, bI_eq0, bI_eq1, bool_ft, pk_us, vnar0, vnar1, Bool.or_false, Bool.or_true, Bool.false_or, Bool.true_or, mj_kne, eq_self, Int32.reduceLT, Int32.reduceLE, Int32.reduceAdd, Int32.reduceSub, Int32.reduceMul, not_true_eq_false, not_false_eq_true, false_implies, true_implies, D_X12_walk, mj_F_aload_n_k, mj_F_goto_off, mj_F_iconst_n, mj_F_ifCond_eq_off, mj_F_iload_n_k, mj_F_invokestatic_i, mj_F_invokevirtual_i, mj_F_ireturn, mj_kc, L_X12_walk, List.take_succ_cons, List.take_zero, List.drop_succ_cons, List.drop_zero, List.reverse_cons, List.reverse_nil, List.length_cons, List.length_nil, c_isCell_eq, c_in_eq, gS_M0, J_X12_walk]
  refine ⟨fun c => ?_, fun c => ?_⟩
  · replace hw := ok_t hw c
    exact (ok_some hw :)
  · replace hw := ok_f hw c
    refine ⟨fun c => ?_, fun c => ?_⟩
    · replace hw := ok_t hw c
      exact (ok_some hw :)
    · replace hw := ok_f hw c
      refine ⟨fun c => ?_, fun c => ?_⟩
      · replace hw := ok_t hw c
        exact (ok_some hw :)
      · replace hw := ok_f hw c
        refine c_X12_walkOf_in (ok_imp (ok_bind hw) ?_)
        intro p hw
        simp only [Option.toList, List.nil_append, List.cons_append, Nat.reduceSub]
        refine mj_run hG.1 (fun pc => pc == 30) 4000 ?_
        simp only [mj_step, mj_W_s, mj_fin, List.getElem?_cons_zero, List.getElem?_cons_succ, mj_go, Nat.reduceAdd, Nat.reduceSub, Nat.reduceLT, Nat.reduceLeDiff, Nat.zero_add, Nat.reduceEqDiff, Nat.reduceBEq, ↓reduceIte, Bool.false_eq_true, List.append_nil, List.nil_append, List.cons_append, Option.toList, and_true, true_and, true_or, or_true, reduceCtorEq, List.map_nil, bI_eq0, bI_eq1, bool_ft, pk_us, vnar0, vnar1, Bool.or_false, Bool.or_true, Bool.false_or, Bool.true_or, mj_kne, eq_self, Int32.reduceLT, Int32.reduceLE, Int32.reduceAdd, Int32.reduceSub, Int32.reduceMul, not_true_eq_false, not_false_eq_true, false_implies, true_implies, D_X12_walk, mj_F_aload_n_k, mj_F_goto_off, mj_F_iconst_n, mj_F_ifCond_eq_off, mj_F_iload_n_k, mj_F_invokestatic_i, mj_F_invokevirtual_i, mj_F_ireturn, mj_kc, L_X12_walk, List.take_succ_cons, List.take_zero, List.drop_succ_cons, List.drop_zero, List.reverse_cons, List.reverse_nil, List.length_cons, List.length_nil, c_isCell_eq, c_in_eq, gS_M0, J_X12_walk]
        exact (ok_some hw :)

def c_X12_walk : mj_S := fun as h k => ∃ (v1 : Int32) (v2 : Int32) (v3 : Int32) (s : St), as = [.ref 0, .int v1, .int v2, .int v3] ∧ h = mkMs s ∧ ok (F_X12_walk v1 v2 v3 s) (fun p => k (some (.int p.1)) (mkMs p.2))
theorem c_X12_walk_in {v1 : Int32} {v2 : Int32} {v3 : Int32} {s : St} {k : Option Value → mj_H → Prop} (hw : ok (F_X12_walk v1 v2 v3 s) (fun p => k (some (.int p.1)) (mkMs p.2))) : c_X12_walk [.ref 0, .int v1, .int v2, .int v3] (mkMs s) k := ⟨v1, v2, v3, s, rfl, rfl, hw⟩
theorem m_X12_walk (l : Launch) : mj_Met l yX12_walk cX12_walk 4 ((some FieldType.int)) 4 0 0 c_X12_walk := by
  refine mj_body2 false (TbX12 4 ((some FieldType.int)) ct_X12_walk) (by decide) rfl rfl (fun h => nomatch h) (tfX12 _ (List.forall_mem_cons.mpr ⟨cfX12_243 (m_X12_in l) (by decide), List.forall_mem_cons.mpr ⟨cfX12_260 (m_X12_isCell l) (by decide), List.forall_mem_cons.mpr ⟨cfX12_264 (m_X12_walkOf l) (by decide), fun _ h => nomatch h⟩⟩⟩)) ?_
  rintro as h k ⟨v1, v2, v3, s, rfl, rfl, hw⟩
  exact ⟨rfl, fun G hG => g_X12_walk hG hw⟩
def B_X12_rain_27 (v2 : Int32) (v3 : Int32) : Int32 × St → Option ((Int32 × St) ⊕ ((St)))
  | (v4, s) =>
  if v2 < v4 then
    some (.inr s)
  else
    (wr s 1202 601 v4 (vp_nar .boolean v3)).bind fun s1 =>
    some (.inl ((v4 + 1), s1))
def F_X12_rain_47 (s : St) : Option (Int32 × St) :=
  some (1, s)
def F_X12_rain_27 (v2 : Int32) (v3 : Int32) (v4 : Int32) (s : St) : Option (Int32 × St) :=
  (lp (B_X12_rain_27 v2 v3) FU (v4, s)).bind (fun y => F_X12_rain_47 y)
def F_X12_rain (v1 : Int32) (v2 : Int32) (v3 : Int32) (s : St) : Option (Int32 × St) :=
  if inb v1 0 600 = false then
    some (0, s)
  else
    if inb v2 v1 600 = false then
      some (0, s)
    else
      F_X12_rain_27 v2 v3 v1 s
theorem J_X12_rain : mj_t 8 14 = 22 ∧ mj_t 19 5 = 24 ∧ mj_t 30 17 = 47 ∧ mj_t 44 (-17) = 27 ∧ (0 ≤ ((8 : Nat) : Int) + 14) = True ∧ (0 ≤ ((19 : Nat) : Int) + 5) = True ∧ (0 ≤ ((30 : Nat) : Int) + 17) = True ∧ (0 ≤ ((44 : Nat) : Int) + (-17)) = True := by and_intros <;> first | rfl | exact eq_true (by decide)
def ct_X12_rain : List (Nat × mj_Cs) := [(243, 2, 3, 12, 0, 0, c_in)]
theorem L_X12_rain : mj_lk ct_X12_rain 243 = some (2, 3, 12, 0, 0, c_in) := rfl
set_option maxHeartbeats 4000000 in
set_option maxRecDepth 20000 in
theorem b_X12_rain_27 {k : Option Value → mj_H → Prop} {G : mj_K} (hG : mj_cl2 cX12_rain (TbX12 5 ((some FieldType.boolean)) ct_X12_rain) k G) {v2 : Int32} {v3 : Int32} {P : Int32 × St → Prop} {K : (St) → Prop} (hP : ∀ x, P x → G 27 [.ref 0, mj_unk, .int v2, .int v3, .int x.1] [] (mkMs x.2) 0 0) (hK0 : ∀ y, K y → G 47 [] [] (mkMs y) 0 0) {v4 : Int32} {s : St} (hw : ok (B_X12_rain_27 v2 v3 (v4, s)) (Sum.elim P K)) : G 27 [.ref 0, mj_unk, .int v2, .int v3, .int v4] [] (mkMs s) 0 0 := by
  unfold B_X12_rain_27 at hw
  refine mj_run hG.1 (fun pc => pc == 27 || pc == 47) 4000 ?_
  simp only [mj_step, mj_W_s, mj_fin, List.getElem?_cons_zero, List.getElem?_cons_succ, mj_go, Nat.reduceAdd, Nat.reduceSub, Nat.reduceLT, Nat.reduceLeDiff, Nat.zero_add, Nat.reduceEqDiff, Nat.reduceBEq, ↓reduceIte, Bool.false_eq_true, List.append_nil, List.nil_append, List.cons_append, Option.toList, and_true, true_and, true_or, or_true, reduceCtorEq, List.map_nil, bI_eq0, bI_eq1, bool_ft, pk_us, vnar0, vnar1, Bool.or_false, Bool.or_true, Bool.false_or, Bool.true_or, mj_kne, eq_self, Int32.reduceLT, Int32.reduceLE, Int32.reduceAdd, Int32.reduceSub, Int32.reduceMul, not_true_eq_false, not_false_eq_true, false_implies, true_implies, D_X12_rain, mj_F_aload_n_k, mj_F_bastore, mj_F_getfield_i, mj_F_goto_off, mj_F_iconst_n, mj_F_ifCond_eq_off, mj_F_ifCond_ne_off, mj_F_if_icmp_gt_off, mj_F_iinc_k_n, mj_F_iload_k, mj_F_iload_n_k, mj_F_invokestatic_i, mj_F_ireturn, mj_F_istore_k, mj_F_sipush_n, mj_set, mj_set0, mj_unk, mj_c2, mj_kc, FT_X12, FT_X12_1, L_X12_rain, List.take_succ_cons, List.take_zero, List.drop_succ_cons, List.drop_zero, List.reverse_cons, List.reverse_nil, List.length_cons, List.length_nil, gS_M0, gMf_2, gS_M2, sS_Ma_2, c_in_eq, J_X12_rain]
  refine ⟨fun c => ?_, fun c => ?_⟩
  · replace hw := ok_t hw c
    exact hG.2 _ _ _ _ _ _ _ _ _ (by exact trivial) (Nat.zero_le _) (Nat.zero_le _) (hK0 _ (ok_some hw :) :)
  · replace hw := ok_f hw c
    refine ⟨(ok_wr hw).1, ?_⟩
    replace hw := (ok_wr hw).2
    exact hG.2 _ _ _ _ _ _ _ _ _ (by refine ⟨Or.inr rfl, ?_⟩; refine ⟨Or.inl rfl, ?_⟩; refine ⟨Or.inr rfl, ?_⟩; refine ⟨Or.inr rfl, ?_⟩; refine ⟨Or.inr rfl, ?_⟩; exact trivial) (Nat.zero_le _) (Nat.zero_le _) (hP _ (ok_some hw :) :)

set_option maxHeartbeats 4000000 in
set_option maxRecDepth 20000 in
theorem g_X12_rain_47 {k : Option Value → mj_H → Prop} {G : mj_K} (hG : mj_cl2 cX12_rain (TbX12 5 ((some FieldType.boolean)) ct_X12_rain) k G)   {s : St} (hw : ok (F_X12_rain_47 s) (fun p => k (some (.int p.1)) (mkMs p.2))) : G 47 [] [] (mkMs s) 0 0 := by
  unfold F_X12_rain_47 at hw
  refine mj_run hG.1 (fun pc => pc == 27 || pc == 47) 4000 ?_
  simp only [mj_step, mj_W_s, mj_fin, List.getElem?_cons_zero, List.getElem?_cons_succ, mj_go, Nat.reduceAdd, Nat.reduceSub, Nat.reduceLT, Nat.reduceLeDiff, Nat.zero_add, Nat.reduceEqDiff, Nat.reduceBEq, ↓reduceIte, Bool.false_eq_true, List.append_nil, List.nil_append, List.cons_append, Option.toList, and_true, true_and, true_or, or_true, reduceCtorEq, List.map_nil, bI_eq0, bI_eq1, bool_ft, pk_us, vnar0, vnar1, Bool.or_false, Bool.or_true, Bool.false_or, Bool.true_or, mj_kne, eq_self, Int32.reduceLT, Int32.reduceLE, Int32.reduceAdd, Int32.reduceSub, Int32.reduceMul, not_true_eq_false, not_false_eq_true, false_implies, true_implies, D_X12_rain, mj_F_aload_n_k, mj_F_bastore, mj_F_getfield_i, mj_F_goto_off, mj_F_iconst_n, mj_F_ifCond_eq_off, mj_F_ifCond_ne_off, mj_F_if_icmp_gt_off, mj_F_iinc_k_n, mj_F_iload_k, mj_F_iload_n_k, mj_F_invokestatic_i, mj_F_ireturn, mj_F_istore_k, mj_F_sipush_n, mj_set, mj_set0, mj_unk, mj_c2, mj_kc, FT_X12, FT_X12_1, L_X12_rain, List.take_succ_cons, List.take_zero, List.drop_succ_cons, List.drop_zero, List.reverse_cons, List.reverse_nil, List.length_cons, List.length_nil, gS_M0, gMf_2, gS_M2, sS_Ma_2, c_in_eq, J_X12_rain]
  exact (ok_some hw :)

set_option maxHeartbeats 4000000 in
theorem g_X12_rain_27 {k : Option Value → mj_H → Prop} {G : mj_K} (hG : mj_cl2 cX12_rain (TbX12 5 ((some FieldType.boolean)) ct_X12_rain) k G)   {v2 : Int32} {v3 : Int32} {v4 : Int32} {s : St} (hw : ok (F_X12_rain_27 v2 v3 v4 s) (fun p => k (some (.int p.1)) (mkMs p.2))) : G 27 [.ref 0, mj_unk, .int v2, .int v3, .int v4] [] (mkMs s) 0 0 := by
  unfold F_X12_rain_27 at hw
  refine lp_ok (B_X12_rain_27 v2 v3) (fun x => G 27 [.ref 0, mj_unk, .int v2, .int v3, .int x.1] [] (mkMs x.2) 0 0) _ ?_ _ _ (ok_bind hw)
  rintro ⟨v4, s⟩ hb
  exact b_X12_rain_27 hG (fun _ z => z) (fun y hw => by exact hG.2 _ _ _ _ _ _ _ _ _ (by exact trivial) (Nat.zero_le _) (Nat.zero_le _) (g_X12_rain_47 hG  hw :)) hb

set_option maxHeartbeats 4000000 in
set_option maxRecDepth 20000 in
theorem g_X12_rain {k : Option Value → mj_H → Prop} {G : mj_K} (hG : mj_cl2 cX12_rain (TbX12 5 ((some FieldType.boolean)) ct_X12_rain) k G) {v1 : Int32} {v2 : Int32} {v3 : Int32} {s : St} (hw : ok (F_X12_rain v1 v2 v3 s) (fun p => k (some (.int p.1)) (mkMs p.2))) : G 0 [.ref 0, .int v1, .int v2, .int v3] [] (mkMs s) 0 0 := by
  unfold F_X12_rain at hw
  refine mj_run hG.1 (fun pc => pc == 27 || pc == 47) 4000 ?_
  simp only [mj_step, mj_W_s, mj_fin, List.getElem?_cons_zero, List.getElem?_cons_succ, mj_go, Nat.reduceAdd, Nat.reduceSub, Nat.reduceLT, Nat.reduceLeDiff, Nat.zero_add, Nat.reduceEqDiff, Nat.reduceBEq, ↓reduceIte, Bool.false_eq_true, List.append_nil, List.nil_append, List.cons_append, Option.toList, and_true, true_and, true_or, or_true, reduceCtorEq, List.map_nil, bI_eq0, bI_eq1, bool_ft, pk_us, vnar0, vnar1, Bool.or_false, Bool.or_true, Bool.false_or, Bool.true_or, mj_kne, eq_self, Int32.reduceLT, Int32.reduceLE, Int32.reduceAdd, Int32.reduceSub, Int32.reduceMul, not_true_eq_false, not_false_eq_true, false_implies, true_implies, D_X12_rain, mj_F_aload_n_k, mj_F_bastore, mj_F_getfield_i, mj_F_goto_off, mj_F_iconst_n, mj_F_ifCond_eq_off, mj_F_ifCond_ne_off, mj_F_if_icmp_gt_off, mj_F_iinc_k_n, mj_F_iload_k, mj_F_iload_n_k, mj_F_invokestatic_i, mj_F_ireturn, mj_F_istore_k, mj_F_sipush_n, mj_set, mj_set0, mj_unk, mj_c2, mj_kc, FT_X12, FT_X12_1, L_X12_rain, List.take_succ_cons, List.take_zero, List.drop_succ_cons, List.drop_zero, List.reverse_cons, List.reverse_nil, List.length_cons, List.length_nil, gS_M0, gMf_2, gS_M2, sS_Ma_2, c_in_eq, J_X12_rain]
  refine ⟨fun c => ?_, fun c => ?_⟩
  · replace hw := ok_t hw c
    exact (ok_some hw :)
  · replace hw := ok_f hw c
    refine ⟨fun c => ?_, fun c => ?_⟩
    · replace hw := ok_f hw c
      exact hG.2 _ _ _ _ _ _ _ _ _ (by refine ⟨Or.inr rfl, ?_⟩; refine ⟨Or.inl rfl, ?_⟩; refine ⟨Or.inr rfl, ?_⟩; refine ⟨Or.inr rfl, ?_⟩; refine ⟨Or.inr rfl, ?_⟩; exact trivial) (Nat.zero_le _) (Nat.zero_le _) (g_X12_rain_27 hG  hw :)
    · replace hw := ok_t hw c
      exact (ok_some hw :)

def c_X12_rain : mj_S := fun as h k => ∃ (v1 : Int32) (v2 : Int32) (v3 : Int32) (s : St), as = [.ref 0, .int v1, .int v2, .int v3] ∧ h = mkMs s ∧ ok (F_X12_rain v1 v2 v3 s) (fun p => k (some (.int p.1)) (mkMs p.2))
theorem c_X12_rain_in {v1 : Int32} {v2 : Int32} {v3 : Int32} {s : St} {k : Option Value → mj_H → Prop} (hw : ok (F_X12_rain v1 v2 v3 s) (fun p => k (some (.int p.1)) (mkMs p.2))) : c_X12_rain [.ref 0, .int v1, .int v2, .int v3] (mkMs s) k := ⟨v1, v2, v3, s, rfl, rfl, hw⟩
theorem m_X12_rain (l : Launch) : mj_Met l yX12_rain cX12_rain 5 ((some FieldType.boolean)) 1 0 0 c_X12_rain := by
  refine mj_body2 false (TbX12 5 ((some FieldType.boolean)) ct_X12_rain) (by decide) rfl rfl (fun h => nomatch h) (tfX12 _ (List.forall_mem_cons.mpr ⟨cfX12_243 (m_X12_in l) (by decide), fun _ h => nomatch h⟩)) ?_
  rintro as h k ⟨v1, v2, v3, s, rfl, rfl, hw⟩
  exact ⟨rfl, fun G hG => g_X12_rain hG hw⟩
def F_X12_village (v1 : Int32) (v2 : Int32) (v3 : Int32) (s : St) : Option (Int32 × St) :=
  if inb v1 0 119 = false then
    some ((-1), s)
  else
    if inb v2 0 3 = false then
      some ((-1), s)
    else
      if inb v3 0 7 = false then
        some ((-1), s)
      else
        if (s.1 1212) = 24 then
          some ((-1), s)
        else
          (wr s 1204 24 (s.1 1212) v1).bind fun s1 =>
          (wr s1 1205 24 (s1.1 1212) v2).bind fun s2 =>
          (wr s2 1206 24 (s2.1 1212) v3).bind fun s3 =>
          (wI s3 1212 ((s3.1 1212) + 1)).bind fun s4 =>
          some (((s4.1 1212) - 1), s4)
theorem J_X12_village : mj_t 4 29 = 33 ∧ mj_t 11 22 = 33 ∧ mj_t 21 12 = 33 ∧ mj_t 30 5 = 35 ∧ (0 ≤ ((4 : Nat) : Int) + 29) = True ∧ (0 ≤ ((11 : Nat) : Int) + 22) = True ∧ (0 ≤ ((21 : Nat) : Int) + 12) = True ∧ (0 ≤ ((30 : Nat) : Int) + 5) = True := by and_intros <;> first | rfl | exact eq_true (by decide)
def ct_X12_village : List (Nat × mj_Cs) := [(243, 2, 3, 12, 0, 0, c_in), (260, 2, 1, 12, 0, 0, c_isCell), (271, 2, 1, 12, 0, 0, c_isShire)]
theorem L_X12_village : mj_lk ct_X12_village 243 = some (2, 3, 12, 0, 0, c_in) ∧ mj_lk ct_X12_village 260 = some (2, 1, 12, 0, 0, c_isCell) ∧ mj_lk ct_X12_village 271 = some (2, 1, 12, 0, 0, c_isShire) := ⟨rfl, rfl, rfl⟩
set_option maxHeartbeats 4000000 in
set_option maxRecDepth 20000 in
theorem g_X12_village {k : Option Value → mj_H → Prop} {G : mj_K} (hG : mj_cl2 cX12_village (TbX12 4 ((some FieldType.int)) ct_X12_village) k G) {v1 : Int32} {v2 : Int32} {v3 : Int32} {s : St} (hw : ok (F_X12_village v1 v2 v3 s) (fun p => k (some (.int p.1)) (mkMs p.2))) : G 0 [.ref 0, .int v1, .int v2, .int v3] [] (mkMs s) 0 0 := by
  unfold F_X12_village at hw
  refine mj_run hG.1 (fun _ => false) 4000 ?_
  simp only [mj_step, mj_W_s, mj_fin, List.getElem?_cons_zero, List.getElem?_cons_succ, mj_go, Nat.reduceAdd, Nat.reduceSub, Nat.reduceLT, Nat.reduceLeDiff, Nat.zero_add, Nat.reduceEqDiff, Nat.reduceBEq, ↓reduceIte, Bool.false_eq_true, List.append_nil, List.nil_append, List.cons_append, Option.toList, and_true, true_and, true_or, or_true, reduceCtorEq, List.map_nil, bI_eq0, bI_eq1, bool_ft, pk_us, vnar0, vnar1, Bool.or_false, Bool.or_true, Bool.false_or, Bool.true_or, mj_kne, eq_self, Int32.reduceLT, Int32.reduceLE, Int32.reduceAdd, Int32.reduceSub, Int32.reduceMul, not_true_eq_false, not_false_eq_true, false_implies, true_implies, D_X12_village, mj_F_aload_n_k, mj_F_bipush_n, mj_F_dup, mj_F_getfield_i, mj_F_iadd, mj_F_iastore, mj_F_iconst_n, mj_F_ifCond_eq_off, mj_F_if_icmp_ne_off, mj_F_iload_n_k, mj_F_invokestatic_i, mj_F_ireturn, mj_F_isub, mj_F_putfield_i, mj_c2, mj_kc, FT_X12, FT_X12_1, PT_X12, L_X12_village, List.take_succ_cons, List.take_zero, List.drop_succ_cons, List.drop_zero, List.reverse_cons, List.reverse_nil, List.length_cons, List.length_nil, gS_M0, gMf_12, gMf_4, gS_M4, sS_Ma_4, gMf_5, gS_M5, sS_Ma_5, gMf_6, gS_M6, sS_Ma_6, sS_Mf_12, gMl, c_isCell_eq, c_isShire_eq, c_in_eq, J_X12_village]
  refine ⟨fun c => ?_, fun c => ?_⟩
  · replace hw := ok_t hw c
    exact (ok_some hw :)
  · replace hw := ok_f hw c
    refine ⟨fun c => ?_, fun c => ?_⟩
    · replace hw := ok_t hw c
      exact (ok_some hw :)
    · replace hw := ok_f hw c
      refine ⟨fun c => ?_, fun c => ?_⟩
      · replace hw := ok_t hw c
        exact (ok_some hw :)
      · replace hw := ok_f hw c
        refine ⟨fun c => ?_, fun c => ?_⟩
        · replace hw := ok_f hw c
          refine ⟨(ok_wr hw).1, ?_⟩
          replace hw := (ok_wr hw).2
          refine ⟨(ok_wr hw).1, ?_⟩
          replace hw := (ok_wr hw).2
          refine ⟨(ok_wr hw).1, ?_⟩
          replace hw := (ok_wr hw).2
          replace hw := ok_wI hw
          exact (ok_some hw :)
        · replace hw := ok_t hw c
          exact (ok_some hw :)

def c_X12_village : mj_S := fun as h k => ∃ (v1 : Int32) (v2 : Int32) (v3 : Int32) (s : St), as = [.ref 0, .int v1, .int v2, .int v3] ∧ h = mkMs s ∧ ok (F_X12_village v1 v2 v3 s) (fun p => k (some (.int p.1)) (mkMs p.2))
theorem c_X12_village_in {v1 : Int32} {v2 : Int32} {v3 : Int32} {s : St} {k : Option Value → mj_H → Prop} (hw : ok (F_X12_village v1 v2 v3 s) (fun p => k (some (.int p.1)) (mkMs p.2))) : c_X12_village [.ref 0, .int v1, .int v2, .int v3] (mkMs s) k := ⟨v1, v2, v3, s, rfl, rfl, hw⟩
theorem m_X12_village (l : Launch) : mj_Met l yX12_village cX12_village 4 ((some FieldType.int)) 2 0 0 c_X12_village := by
  refine mj_body2 false (TbX12 4 ((some FieldType.int)) ct_X12_village) (by decide) rfl rfl (fun h => nomatch h) (tfX12 _ (List.forall_mem_cons.mpr ⟨cfX12_243 (m_X12_in l) (by decide), List.forall_mem_cons.mpr ⟨cfX12_260 (m_X12_isCell l) (by decide), List.forall_mem_cons.mpr ⟨cfX12_271 (m_X12_isShire l) (by decide), fun _ h => nomatch h⟩⟩⟩)) ?_
  rintro as h k ⟨v1, v2, v3, s, rfl, rfl, hw⟩
  exact ⟨rfl, fun G hG => g_X12_village hG hw⟩
def F_X12_isVillage (v1 : Int32) (s : St) : Option (Int32) :=
  some (bI (inb v1 0 ((s.1 1212) - 1)))
def ct_X12_isVillage : List (Nat × mj_Cs) := [(243, 2, 3, 12, 0, 0, c_in)]
theorem L_X12_isVillage : mj_lk ct_X12_isVillage 243 = some (2, 3, 12, 0, 0, c_in) := rfl
set_option maxHeartbeats 4000000 in
set_option maxRecDepth 20000 in
theorem g_X12_isVillage {k : Option Value → mj_H → Prop} {G : mj_K} (hG : mj_cl2 cX12_isVillage (TbX12 2 ((some FieldType.boolean)) ct_X12_isVillage) k G) {v1 : Int32} {s : St} (hw : ok (F_X12_isVillage v1 s) (fun p => k (some (.int p)) (mkMs s))) : G 0 [.ref 0, .int v1] [] (mkMs s) 0 0 := by
  unfold F_X12_isVillage at hw
  refine mj_run hG.1 (fun _ => false) 4000 ?_
  simp only [mj_step, mj_W_s, mj_fin, List.getElem?_cons_zero, List.getElem?_cons_succ, mj_go, Nat.reduceAdd, Nat.reduceSub, Nat.reduceLT, Nat.reduceLeDiff, Nat.zero_add, Nat.reduceEqDiff, Nat.reduceBEq, ↓reduceIte, Bool.false_eq_true, List.append_nil, List.nil_append, List.cons_append, Option.toList, and_true, true_and, true_or, or_true, reduceCtorEq, List.map_nil, bI_eq0, bI_eq1, bool_ft, pk_us, vnar0, vnar1, Bool.or_false, Bool.or_true, Bool.false_or, Bool.true_or, mj_kne, eq_self, Int32.reduceLT, Int32.reduceLE, Int32.reduceAdd, Int32.reduceSub, Int32.reduceMul, not_true_eq_false, not_false_eq_true, false_implies, true_implies, D_X12_isVillage, mj_F_aload_n_k, mj_F_getfield_i, mj_F_iconst_n, mj_F_iload_n_k, mj_F_invokestatic_i, mj_F_ireturn, mj_F_isub, mj_kc, FT_X12, FT_X12_1, L_X12_isVillage, List.take_succ_cons, List.take_zero, List.drop_succ_cons, List.drop_zero, List.reverse_cons, List.reverse_nil, List.length_cons, List.length_nil, gS_M0, gMf_12, c_in_eq]
  exact (ok_some hw :)

def c_X12_isVillage : mj_S := fun as h k => ∃ (v1 : Int32) (s : St), as = [.ref 0, .int v1] ∧ h = mkMs s ∧ ok (F_X12_isVillage v1 s) (fun p => k (some (.int p)) (mkMs s))
theorem c_X12_isVillage_in {v1 : Int32} {s : St} {k : Option Value → mj_H → Prop} (hw : ok (F_X12_isVillage v1 s) (fun p => k (some (.int p)) (mkMs s))) : c_X12_isVillage [.ref 0, .int v1] (mkMs s) k := ⟨v1, s, rfl, rfl, hw⟩
theorem m_X12_isVillage (l : Launch) : mj_Met l yX12_isVillage cX12_isVillage 2 ((some FieldType.boolean)) 1 0 0 c_X12_isVillage := by
  refine mj_body2 false (TbX12 2 ((some FieldType.boolean)) ct_X12_isVillage) (by decide) rfl rfl (fun h => nomatch h) (tfX12 _ (List.forall_mem_cons.mpr ⟨cfX12_243 (m_X12_in l) (by decide), fun _ h => nomatch h⟩)) ?_
  rintro as h k ⟨v1, s, rfl, rfl, hw⟩
  exact ⟨rfl, fun G hG => g_X12_isVillage hG hw⟩
def F_X12_count (v1 : Int32) (v2 : Int32) (v3 : Int32) (v4 : Int32) (s : St) : Option (Int32 × St) :=
  (F_X12_isVillage v1 s).bind fun r1 =>
  if r1 = 0 then
    some (0, s)
  else
    if inb v2 0 11 = false then
      some (0, s)
    else
      if inb v3 0 999 = false then
        some (0, s)
      else
        if inb v4 0 999 = false then
          some (0, s)
        else
          if (s.1 1213) = 200 then
            some (0, s)
          else
            (wr s 1207 200 (s.1 1213) v1).bind fun s2 =>
            (wr s2 1208 200 (s2.1 1213) v2).bind fun s3 =>
            (wr s3 1209 200 (s3.1 1213) v3).bind fun s4 =>
            (wr s4 1210 200 (s4.1 1213) v4).bind fun s5 =>
            (wr s5 1211 200 (s5.1 1213) (s5.1 1200)).bind fun s6 =>
            (wI s6 1213 ((s6.1 1213) + 1)).bind fun s7 =>
            some (1, s7)
theorem J_X12_count : mj_t 5 43 = 48 ∧ mj_t 12 36 = 48 ∧ mj_t 23 25 = 48 ∧ mj_t 35 13 = 48 ∧ mj_t 45 5 = 50 ∧ (0 ≤ ((5 : Nat) : Int) + 43) = True ∧ (0 ≤ ((12 : Nat) : Int) + 36) = True ∧ (0 ≤ ((23 : Nat) : Int) + 25) = True ∧ (0 ≤ ((35 : Nat) : Int) + 13) = True ∧ (0 ≤ ((45 : Nat) : Int) + 5) = True := by and_intros <;> first | rfl | exact eq_true (by decide)
def ct_X12_count : List (Nat × mj_Cs) := [(243, 2, 3, 12, 0, 0, c_in), (274, 0, 2, 12, 0, 0, c_X12_isVillage), (277, 2, 1, 12, 0, 0, c_isYear)]
theorem L_X12_count : mj_lk ct_X12_count 243 = some (2, 3, 12, 0, 0, c_in) ∧ mj_lk ct_X12_count 274 = some (0, 2, 12, 0, 0, c_X12_isVillage) ∧ mj_lk ct_X12_count 277 = some (2, 1, 12, 0, 0, c_isYear) := ⟨rfl, rfl, rfl⟩
set_option maxHeartbeats 4000000 in
set_option maxRecDepth 20000 in
theorem g_X12_count {k : Option Value → mj_H → Prop} {G : mj_K} (hG : mj_cl2 cX12_count (TbX12 5 ((some FieldType.boolean)) ct_X12_count) k G) {v1 : Int32} {v2 : Int32} {v3 : Int32} {v4 : Int32} {s : St} (hw : ok (F_X12_count v1 v2 v3 v4 s) (fun p => k (some (.int p.1)) (mkMs p.2))) : G 0 [.ref 0, .int v1, .int v2, .int v3, .int v4] [] (mkMs s) 0 0 := by
  unfold F_X12_count at hw
  refine mj_run hG.1 (fun pc => pc == 5) 4000 ?_
  simp only [mj_step, mj_W_s, mj_fin, List.getElem?_cons_zero, List.getElem?_cons_succ, mj_go, Nat.reduceAdd, Nat.reduceSub, Nat.reduceLT, Nat.reduceLeDiff, Nat.zero_add, Nat.reduceEqDiff, Nat.reduceBEq, ↓reduceIte, Bool.false_eq_true, List.append_nil, List.nil_append, List.cons_append, Option.toList, and_true, true_and, true_or, or_true, reduceCtorEq, List.map_nil, bI_eq0, bI_eq1, bool_ft, pk_us, vnar0, vnar1, Bool.or_false, Bool.or_true, Bool.false_or, Bool.true_or, mj_kne, eq_self, Int32.reduceLT, Int32.reduceLE, Int32.reduceAdd, Int32.reduceSub, Int32.reduceMul, not_true_eq_false, not_false_eq_true, false_implies, true_implies, D_X12_count_0, D_X12_count_1, mj_F_aload_n_k, mj_F_dup, mj_F_getfield_i, mj_F_iadd, mj_F_iastore, mj_F_iconst_n, mj_F_ifCond_eq_off, mj_F_if_icmp_ne_off, mj_F_iload_k, mj_F_iload_n_k, mj_F_invokestatic_i, mj_F_invokevirtual_i, mj_F_ireturn, mj_F_putfield_i, mj_F_sipush_n, mj_c2, mj_kc, FT_X12, FT_X12_1, PT_X12, L_X12_count, List.take_succ_cons, List.take_zero, List.drop_succ_cons, List.drop_zero, List.reverse_cons, List.reverse_nil, List.length_cons, List.length_nil, gS_M0, gMf_13, gMf_7, gS_M7, sS_Ma_7, gMf_8, gS_M8, sS_Ma_8, gMf_9, gS_M9, sS_Ma_9, gMf_10, gS_M10, sS_Ma_10, gMf_11, gS_M11, sS_Ma_11, gMf_0, sS_Mf_13, gMl, c_isYear_eq, c_in_eq, J_X12_count]
  refine c_X12_isVillage_in (ok_imp (ok_bind hw) ?_)
  intro p hw
  simp only [Option.toList, List.nil_append, List.cons_append, Nat.reduceSub]
  refine mj_run hG.1 (fun pc => pc == 5) 4000 ?_
  simp only [mj_step, mj_W_s, mj_fin, List.getElem?_cons_zero, List.getElem?_cons_succ, mj_go, Nat.reduceAdd, Nat.reduceSub, Nat.reduceLT, Nat.reduceLeDiff, Nat.zero_add, Nat.reduceEqDiff, Nat.reduceBEq, ↓reduceIte, Bool.false_eq_true, List.append_nil, List.nil_append, List.cons_append, Option.toList, and_true, true_and, true_or, or_true, reduceCtorEq, List.map_nil, bI_eq0, bI_eq1, bool_ft, pk_us, vnar0, vnar1, Bool.or_false, Bool.or_true, Bool.false_or, Bool.true_or, mj_kne, eq_self, Int32.reduceLT, Int32.reduceLE, Int32.reduceAdd, Int32.reduceSub, Int32.reduceMul, not_true_eq_false, not_false_eq_true, false_implies, true_implies, D_X12_count_0, D_X12_count_1, mj_F_aload_n_k, mj_F_dup, mj_F_getfield_i, mj_F_iadd, mj_F_iastore, mj_F_iconst_n, mj_F_ifCond_eq_off, mj_F_if_icmp_ne_off, mj_F_iload_k, mj_F_iload_n_k, mj_F_invokestatic_i, mj_F_invokevirtual_i, mj_F_ireturn, mj_F_putfield_i, mj_F_sipush_n, mj_c2, mj_kc, FT_X12, FT_X12_1, PT_X12, L_X12_count, List.take_succ_cons, List.take_zero, List.drop_succ_cons, List.drop_zero, List.reverse_cons, List.reverse_nil, List.length_cons, List.length_nil, gS_M0, gMf_13, gMf_7, gS_M7, sS_Ma_7, gMf_8, gS_M8, sS_Ma_8, gMf_9, gS_M9, sS_Ma_9, gMf_10, gS_M10, sS_Ma_10, gMf_11, gS_M11, sS_Ma_11, gMf_0, sS_Mf_13, gMl, c_isYear_eq, c_in_eq, J_X12_count]
  refine ⟨fun c => ?_, fun c => ?_⟩
  · replace hw := ok_t hw c
    exact (ok_some hw :)
  · replace hw := ok_f hw c
    refine ⟨fun c => ?_, fun c => ?_⟩
    · replace hw := ok_t hw c
      exact (ok_some hw :)
    · replace hw := ok_f hw c
      refine ⟨fun c => ?_, fun c => ?_⟩
      · replace hw := ok_t hw c
        exact (ok_some hw :)
      · replace hw := ok_f hw c
        refine ⟨fun c => ?_, fun c => ?_⟩
        · replace hw := ok_t hw c
          exact (ok_some hw :)
        · replace hw := ok_f hw c
          refine ⟨fun c => ?_, fun c => ?_⟩
          · replace hw := ok_f hw c
            refine ⟨(ok_wr hw).1, ?_⟩
            replace hw := (ok_wr hw).2
            refine ⟨(ok_wr hw).1, ?_⟩
            replace hw := (ok_wr hw).2
            refine ⟨(ok_wr hw).1, ?_⟩
            replace hw := (ok_wr hw).2
            refine ⟨(ok_wr hw).1, ?_⟩
            replace hw := (ok_wr hw).2
            refine ⟨(ok_wr hw).1, ?_⟩
            replace hw := (ok_wr hw).2
            replace hw := ok_wI hw
            exact (ok_some hw :)
          · replace hw := ok_t hw c
            exact (ok_some hw :)

def c_X12_count : mj_S := fun as h k => ∃ (v1 : Int32) (v2 : Int32) (v3 : Int32) (v4 : Int32) (s : St), as = [.ref 0, .int v1, .int v2, .int v3, .int v4] ∧ h = mkMs s ∧ ok (F_X12_count v1 v2 v3 v4 s) (fun p => k (some (.int p.1)) (mkMs p.2))
theorem c_X12_count_in {v1 : Int32} {v2 : Int32} {v3 : Int32} {v4 : Int32} {s : St} {k : Option Value → mj_H → Prop} (hw : ok (F_X12_count v1 v2 v3 v4 s) (fun p => k (some (.int p.1)) (mkMs p.2))) : c_X12_count [.ref 0, .int v1, .int v2, .int v3, .int v4] (mkMs s) k := ⟨v1, v2, v3, v4, s, rfl, rfl, hw⟩
theorem m_X12_count (l : Launch) : mj_Met l yX12_count cX12_count 5 ((some FieldType.boolean)) 2 0 0 c_X12_count := by
  refine mj_body2 false (TbX12 5 ((some FieldType.boolean)) ct_X12_count) (by decide) rfl rfl (fun h => nomatch h) (tfX12 _ (List.forall_mem_cons.mpr ⟨cfX12_243 (m_X12_in l) (by decide), List.forall_mem_cons.mpr ⟨cfX12_274 (m_X12_isVillage l) (by decide), List.forall_mem_cons.mpr ⟨cfX12_277 (m_X12_isYear l) (by decide), fun _ h => nomatch h⟩⟩⟩)) ?_
  rintro as h k ⟨v1, v2, v3, v4, s, rfl, rfl, hw⟩
  exact ⟨rfl, fun G hG => g_X12_count hG hw⟩
def B_X12_childOf_6 (v1 : Int32) (v2 : Int32) (v3 : Int32) (v4 : Int32) (s : St) : Int32 × Int32 → Option ((Int32 × Int32) ⊕ ((Int32)))
  | (v5, v6) =>
  if (s.1 1213) ≤ v6 then
    some (.inr v5)
  else
    (rd s 1207 200 v6).bind fun x1 =>
    if x1 = v1 then
      (rd s 1211 200 v6).bind fun x2 =>
      if v3 < x2 then
        some (.inl (v5, (v6 + 1)))
      else
        (rd s 1208 200 v6).bind fun x3 =>
        if v2 < x3 then
          some (.inl (v5, (v6 + 1)))
        else
          if v5 = (-1) then
            some (.inl (v6, (v6 + 1)))
          else
            (rd s 1208 200 v6).bind fun x4 =>
            (rd s 1208 200 v5).bind fun x5 =>
            if x4 < x5 then
              some (.inl (v5, (v6 + 1)))
            else
              some (.inl (v6, (v6 + 1)))
    else
      some (.inl (v5, (v6 + 1)))
def F_X12_childOf_81 (v4 : Int32) (v5 : Int32) (s : St) : Option (Int32) :=
  if v5 = (-1) then
    some 0
  else
    if v4 = 0 then
      (rd s 1209 200 v5).bind fun x7 =>
      some x7
    else
      (rd s 1210 200 v5).bind fun x6 =>
      some x6
def F_X12_childOf_6 (v1 : Int32) (v2 : Int32) (v3 : Int32) (v4 : Int32) (v5 : Int32) (v6 : Int32) (s : St) : Option (Int32) :=
  (lp (B_X12_childOf_6 v1 v2 v3 v4 s) FU (v5, v6)).bind (fun y => F_X12_childOf_81 v4 y s)
def F_X12_childOf (v1 : Int32) (v2 : Int32) (v3 : Int32) (v4 : Int32) (s : St) : Option (Int32) :=
  F_X12_childOf_6 v1 v2 v3 v4 (-1) 0 s
theorem J_X12_childOf : mj_t 12 69 = 81 ∧ mj_t 23 52 = 75 ∧ mj_t 34 41 = 75 ∧ mj_t 45 30 = 75 ∧ mj_t 51 20 = 71 ∧ mj_t 68 7 = 75 ∧ mj_t 78 (-72) = 6 ∧ mj_t 84 7 = 91 ∧ mj_t 88 25 = 113 ∧ mj_t 93 13 = 106 ∧ mj_t 103 10 = 113 ∧ (0 ≤ ((12 : Nat) : Int) + 69) = True ∧ (0 ≤ ((23 : Nat) : Int) + 52) = True ∧ (0 ≤ ((34 : Nat) : Int) + 41) = True ∧ (0 ≤ ((45 : Nat) : Int) + 30) = True ∧ (0 ≤ ((51 : Nat) : Int) + 20) = True ∧ (0 ≤ ((68 : Nat) : Int) + 7) = True ∧ (0 ≤ ((78 : Nat) : Int) + (-72)) = True ∧ (0 ≤ ((84 : Nat) : Int) + 7) = True ∧ (0 ≤ ((88 : Nat) : Int) + 25) = True ∧ (0 ≤ ((93 : Nat) : Int) + 13) = True ∧ (0 ≤ ((103 : Nat) : Int) + 10) = True := by and_intros <;> first | rfl | exact eq_true (by decide)
set_option maxHeartbeats 4000000 in
set_option maxRecDepth 20000 in
theorem b_X12_childOf_6 {k : Option Value → mj_H → Prop} {G : mj_K} (hG : mj_cl2 cX12_childOf (TbX12 7 ((some FieldType.int)) []) k G) {v1 : Int32} {v2 : Int32} {v3 : Int32} {v4 : Int32} {s : St} {P : Int32 × Int32 → Prop} {K : (Int32) → Prop} (hP : ∀ x, P x → G 6 [.ref 0, .int v1, .int v2, .int v3, .int v4, .int x.1, .int x.2] [] (mkMs s) 0 0) (hK0 : ∀ y, K y → G 81 [.ref 0, mj_unk, mj_unk, mj_unk, .int v4, .int y] [] (mkMs s) 0 0) {v5 : Int32} {v6 : Int32} (hw : ok (B_X12_childOf_6 v1 v2 v3 v4 s (v5, v6)) (Sum.elim P K)) : G 6 [.ref 0, .int v1, .int v2, .int v3, .int v4, .int v5, .int v6] [] (mkMs s) 0 0 := by
  unfold B_X12_childOf_6 at hw
  refine mj_run hG.1 (fun pc => pc == 6 || pc == 81) 4000 ?_
  simp only [mj_step, mj_W_s, mj_fin, List.getElem?_cons_zero, List.getElem?_cons_succ, mj_go, Nat.reduceAdd, Nat.reduceSub, Nat.reduceLT, Nat.reduceLeDiff, Nat.zero_add, Nat.reduceEqDiff, Nat.reduceBEq, ↓reduceIte, Bool.false_eq_true, List.append_nil, List.nil_append, List.cons_append, Option.toList, and_true, true_and, true_or, or_true, reduceCtorEq, List.map_nil, bI_eq0, bI_eq1, bool_ft, pk_us, vnar0, vnar1, Bool.or_false, Bool.or_true, Bool.false_or, Bool.true_or, mj_kne, eq_self, Int32.reduceLT, Int32.reduceLE, Int32.reduceAdd, Int32.reduceSub, Int32.reduceMul, not_true_eq_false, not_false_eq_true, false_implies, true_implies, D_X12_childOf_0, D_X12_childOf_1, mj_F_aload_n_k, mj_F_getfield_i, mj_F_goto_off, mj_F_iaload, mj_F_iconst_n, mj_F_ifCond_ne_off, mj_F_if_icmp_eq_off, mj_F_if_icmp_ge_off, mj_F_if_icmp_gt_off, mj_F_if_icmp_lt_off, mj_F_if_icmp_ne_off, mj_F_iinc_k_n, mj_F_iload_k, mj_F_iload_n_k, mj_F_ireturn, mj_F_istore_k, mj_set, mj_set0, mj_unk, mj_c2, mj_kc, FT_X12, FT_X12_1, gS_M0, gMf_13, gMf_7, gS_M7, sS_Ma_7, gMf_11, gS_M11, sS_Ma_11, gMf_8, gS_M8, sS_Ma_8, gMf_9, gS_M9, sS_Ma_9, gMf_10, gS_M10, sS_Ma_10, J_X12_childOf]
  refine ⟨fun c => ?_, fun c => ?_⟩
  · replace hw := ok_t hw c
    exact hG.2 _ _ _ _ _ _ _ _ _ (by refine ⟨Or.inr rfl, ?_⟩; refine ⟨Or.inl rfl, ?_⟩; refine ⟨Or.inl rfl, ?_⟩; refine ⟨Or.inl rfl, ?_⟩; refine ⟨Or.inr rfl, ?_⟩; refine ⟨Or.inr rfl, ?_⟩; exact trivial) (Nat.zero_le _) (Nat.zero_le _) (hK0 _ (ok_some hw :) :)
  · replace hw := ok_f hw c
    refine ⟨(ok_rd hw).1, ?_⟩
    replace hw := (ok_rd hw).2
    refine ⟨fun c => ?_, fun c => ?_⟩
    · replace hw := ok_f hw c
      exact hG.2 _ _ _ _ _ _ _ _ _ (by refine ⟨Or.inr rfl, ?_⟩; refine ⟨Or.inr rfl, ?_⟩; refine ⟨Or.inr rfl, ?_⟩; refine ⟨Or.inr rfl, ?_⟩; refine ⟨Or.inr rfl, ?_⟩; refine ⟨Or.inr rfl, ?_⟩; refine ⟨Or.inr rfl, ?_⟩; exact trivial) (Nat.zero_le _) (Nat.zero_le _) (hP _ (ok_some hw :) :)
    · replace hw := ok_t hw c
      refine ⟨(ok_rd hw).1, ?_⟩
      replace hw := (ok_rd hw).2
      refine ⟨fun c => ?_, fun c => ?_⟩
      · replace hw := ok_t hw c
        exact hG.2 _ _ _ _ _ _ _ _ _ (by refine ⟨Or.inr rfl, ?_⟩; refine ⟨Or.inr rfl, ?_⟩; refine ⟨Or.inr rfl, ?_⟩; refine ⟨Or.inr rfl, ?_⟩; refine ⟨Or.inr rfl, ?_⟩; refine ⟨Or.inr rfl, ?_⟩; refine ⟨Or.inr rfl, ?_⟩; exact trivial) (Nat.zero_le _) (Nat.zero_le _) (hP _ (ok_some hw :) :)
      · replace hw := ok_f hw c
        refine ⟨(ok_rd hw).1, ?_⟩
        replace hw := (ok_rd hw).2
        refine ⟨fun c => ?_, fun c => ?_⟩
        · replace hw := ok_t hw c
          exact hG.2 _ _ _ _ _ _ _ _ _ (by refine ⟨Or.inr rfl, ?_⟩; refine ⟨Or.inr rfl, ?_⟩; refine ⟨Or.inr rfl, ?_⟩; refine ⟨Or.inr rfl, ?_⟩; refine ⟨Or.inr rfl, ?_⟩; refine ⟨Or.inr rfl, ?_⟩; refine ⟨Or.inr rfl, ?_⟩; exact trivial) (Nat.zero_le _) (Nat.zero_le _) (hP _ (ok_some hw :) :)
        · replace hw := ok_f hw c
          refine ⟨fun c => ?_, fun c => ?_⟩
          · replace hw := ok_t hw c
            exact hG.2 _ _ _ _ _ _ _ _ _ (by refine ⟨Or.inr rfl, ?_⟩; refine ⟨Or.inr rfl, ?_⟩; refine ⟨Or.inr rfl, ?_⟩; refine ⟨Or.inr rfl, ?_⟩; refine ⟨Or.inr rfl, ?_⟩; refine ⟨Or.inr rfl, ?_⟩; refine ⟨Or.inr rfl, ?_⟩; exact trivial) (Nat.zero_le _) (Nat.zero_le _) (hP _ (ok_some hw :) :)
          · replace hw := ok_f hw c
            refine ⟨(ok_rd hw).1, ?_⟩
            replace hw := (ok_rd hw).2
            refine ⟨(ok_rd hw).1, ?_⟩
            replace hw := (ok_rd hw).2
            refine ⟨fun c => ?_, fun c => ?_⟩
            · replace hw := ok_t hw c
              exact hG.2 _ _ _ _ _ _ _ _ _ (by refine ⟨Or.inr rfl, ?_⟩; refine ⟨Or.inr rfl, ?_⟩; refine ⟨Or.inr rfl, ?_⟩; refine ⟨Or.inr rfl, ?_⟩; refine ⟨Or.inr rfl, ?_⟩; refine ⟨Or.inr rfl, ?_⟩; refine ⟨Or.inr rfl, ?_⟩; exact trivial) (Nat.zero_le _) (Nat.zero_le _) (hP _ (ok_some hw :) :)
            · replace hw := ok_f hw c
              exact hG.2 _ _ _ _ _ _ _ _ _ (by refine ⟨Or.inr rfl, ?_⟩; refine ⟨Or.inr rfl, ?_⟩; refine ⟨Or.inr rfl, ?_⟩; refine ⟨Or.inr rfl, ?_⟩; refine ⟨Or.inr rfl, ?_⟩; refine ⟨Or.inr rfl, ?_⟩; refine ⟨Or.inr rfl, ?_⟩; exact trivial) (Nat.zero_le _) (Nat.zero_le _) (hP _ (ok_some hw :) :)

set_option maxHeartbeats 4000000 in
set_option maxRecDepth 20000 in
theorem g_X12_childOf_81 {k : Option Value → mj_H → Prop} {G : mj_K} (hG : mj_cl2 cX12_childOf (TbX12 7 ((some FieldType.int)) []) k G)   {v4 : Int32} {v5 : Int32} {s : St} (hw : ok (F_X12_childOf_81 v4 v5 s) (fun p => k (some (.int p)) (mkMs s))) : G 81 [.ref 0, mj_unk, mj_unk, mj_unk, .int v4, .int v5] [] (mkMs s) 0 0 := by
  unfold F_X12_childOf_81 at hw
  refine mj_run hG.1 (fun pc => pc == 6 || pc == 81) 4000 ?_
  simp only [mj_step, mj_W_s, mj_fin, List.getElem?_cons_zero, List.getElem?_cons_succ, mj_go, Nat.reduceAdd, Nat.reduceSub, Nat.reduceLT, Nat.reduceLeDiff, Nat.zero_add, Nat.reduceEqDiff, Nat.reduceBEq, ↓reduceIte, Bool.false_eq_true, List.append_nil, List.nil_append, List.cons_append, Option.toList, and_true, true_and, true_or, or_true, reduceCtorEq, List.map_nil, bI_eq0, bI_eq1, bool_ft, pk_us, vnar0, vnar1, Bool.or_false, Bool.or_true, Bool.false_or, Bool.true_or, mj_kne, eq_self, Int32.reduceLT, Int32.reduceLE, Int32.reduceAdd, Int32.reduceSub, Int32.reduceMul, not_true_eq_false, not_false_eq_true, false_implies, true_implies, D_X12_childOf_0, D_X12_childOf_1, mj_F_aload_n_k, mj_F_getfield_i, mj_F_goto_off, mj_F_iaload, mj_F_iconst_n, mj_F_ifCond_ne_off, mj_F_if_icmp_eq_off, mj_F_if_icmp_ge_off, mj_F_if_icmp_gt_off, mj_F_if_icmp_lt_off, mj_F_if_icmp_ne_off, mj_F_iinc_k_n, mj_F_iload_k, mj_F_iload_n_k, mj_F_ireturn, mj_F_istore_k, mj_set, mj_set0, mj_unk, mj_c2, mj_kc, FT_X12, FT_X12_1, gS_M0, gMf_13, gMf_7, gS_M7, sS_Ma_7, gMf_11, gS_M11, sS_Ma_11, gMf_8, gS_M8, sS_Ma_8, gMf_9, gS_M9, sS_Ma_9, gMf_10, gS_M10, sS_Ma_10, J_X12_childOf]
  refine ⟨fun c => ?_, fun c => ?_⟩
  · replace hw := ok_f hw c
    refine ⟨fun c => ?_, fun c => ?_⟩
    · replace hw := ok_f hw c
      refine ⟨(ok_rd hw).1, ?_⟩
      replace hw := (ok_rd hw).2
      exact (ok_some hw :)
    · replace hw := ok_t hw c
      refine ⟨(ok_rd hw).1, ?_⟩
      replace hw := (ok_rd hw).2
      exact (ok_some hw :)
  · replace hw := ok_t hw c
    exact (ok_some hw :)

set_option maxHeartbeats 4000000 in
theorem g_X12_childOf_6 {k : Option Value → mj_H → Prop} {G : mj_K} (hG : mj_cl2 cX12_childOf (TbX12 7 ((some FieldType.int)) []) k G)   {v1 : Int32} {v2 : Int32} {v3 : Int32} {v4 : Int32} {v5 : Int32} {v6 : Int32} {s : St} (hw : ok (F_X12_childOf_6 v1 v2 v3 v4 v5 v6 s) (fun p => k (some (.int p)) (mkMs s))) : G 6 [.ref 0, .int v1, .int v2, .int v3, .int v4, .int v5, .int v6] [] (mkMs s) 0 0 := by
  unfold F_X12_childOf_6 at hw
  refine lp_ok (B_X12_childOf_6 v1 v2 v3 v4 s) (fun x => G 6 [.ref 0, .int v1, .int v2, .int v3, .int v4, .int x.1, .int x.2] [] (mkMs s) 0 0) _ ?_ _ _ (ok_bind hw)
  rintro ⟨v5, v6⟩ hb
  exact b_X12_childOf_6 hG (fun _ z => z) (fun y hw => by exact hG.2 _ _ _ _ _ _ _ _ _ (by refine ⟨Or.inr rfl, ?_⟩; refine ⟨Or.inl rfl, ?_⟩; refine ⟨Or.inl rfl, ?_⟩; refine ⟨Or.inl rfl, ?_⟩; refine ⟨Or.inr rfl, ?_⟩; refine ⟨Or.inr rfl, ?_⟩; exact trivial) (Nat.zero_le _) (Nat.zero_le _) (g_X12_childOf_81 hG  hw :)) hb

set_option maxHeartbeats 4000000 in
set_option maxRecDepth 20000 in
theorem g_X12_childOf {k : Option Value → mj_H → Prop} {G : mj_K} (hG : mj_cl2 cX12_childOf (TbX12 7 ((some FieldType.int)) []) k G) {v1 : Int32} {v2 : Int32} {v3 : Int32} {v4 : Int32} {s : St} (hw : ok (F_X12_childOf v1 v2 v3 v4 s) (fun p => k (some (.int p)) (mkMs s))) : G 0 [.ref 0, .int v1, .int v2, .int v3, .int v4] [] (mkMs s) 0 0 := by
  unfold F_X12_childOf at hw
  refine mj_run hG.1 (fun pc => pc == 6 || pc == 81) 4000 ?_
  simp only [mj_step, mj_W_s, mj_fin, List.getElem?_cons_zero, List.getElem?_cons_succ, mj_go, Nat.reduceAdd, Nat.reduceSub, Nat.reduceLT, Nat.reduceLeDiff, Nat.zero_add, Nat.reduceEqDiff, Nat.reduceBEq, ↓reduceIte, Bool.false_eq_true, List.append_nil, List.nil_append, List.cons_append, Option.toList, and_true, true_and, true_or, or_true, reduceCtorEq, List.map_nil, bI_eq0, bI_eq1, bool_ft, pk_us, vnar0, vnar1, Bool.or_false, Bool.or_true, Bool.false_or, Bool.true_or, mj_kne, eq_self, Int32.reduceLT, Int32.reduceLE, Int32.reduceAdd, Int32.reduceSub, Int32.reduceMul, not_true_eq_false, not_false_eq_true, false_implies, true_implies, D_X12_childOf_0, D_X12_childOf_1, mj_F_aload_n_k, mj_F_getfield_i, mj_F_goto_off, mj_F_iaload, mj_F_iconst_n, mj_F_ifCond_ne_off, mj_F_if_icmp_eq_off, mj_F_if_icmp_ge_off, mj_F_if_icmp_gt_off, mj_F_if_icmp_lt_off, mj_F_if_icmp_ne_off, mj_F_iinc_k_n, mj_F_iload_k, mj_F_iload_n_k, mj_F_ireturn, mj_F_istore_k, mj_set, mj_set0, mj_unk, mj_c2, mj_kc, FT_X12, FT_X12_1, gS_M0, gMf_13, gMf_7, gS_M7, sS_Ma_7, gMf_11, gS_M11, sS_Ma_11, gMf_8, gS_M8, sS_Ma_8, gMf_9, gS_M9, sS_Ma_9, gMf_10, gS_M10, sS_Ma_10, J_X12_childOf]
  exact hG.2 _ _ _ _ _ _ _ _ _ (by refine ⟨Or.inr rfl, ?_⟩; refine ⟨Or.inr rfl, ?_⟩; refine ⟨Or.inr rfl, ?_⟩; refine ⟨Or.inr rfl, ?_⟩; refine ⟨Or.inr rfl, ?_⟩; refine ⟨Or.inr rfl, ?_⟩; refine ⟨Or.inr rfl, ?_⟩; exact trivial) (Nat.zero_le _) (Nat.zero_le _) (g_X12_childOf_6 hG  hw :)

def c_X12_childOf : mj_S := fun as h k => ∃ (v1 : Int32) (v2 : Int32) (v3 : Int32) (v4 : Int32) (s : St), as = [.ref 0, .int v1, .int v2, .int v3, .int v4] ∧ h = mkMs s ∧ ok (F_X12_childOf v1 v2 v3 v4 s) (fun p => k (some (.int p)) (mkMs s))
theorem c_X12_childOf_in {v1 : Int32} {v2 : Int32} {v3 : Int32} {v4 : Int32} {s : St} {k : Option Value → mj_H → Prop} (hw : ok (F_X12_childOf v1 v2 v3 v4 s) (fun p => k (some (.int p)) (mkMs s))) : c_X12_childOf [.ref 0, .int v1, .int v2, .int v3, .int v4] (mkMs s) k := ⟨v1, v2, v3, v4, s, rfl, rfl, hw⟩
theorem m_X12_childOf (l : Launch) : mj_Met l yX12_childOf cX12_childOf 7 ((some FieldType.int)) 0 0 0 c_X12_childOf := by
  refine mj_body2 false (TbX12 7 ((some FieldType.int)) []) (by decide) rfl rfl (fun h => nomatch h) (tfX12 _ (fun _ h => nomatch h)) ?_
  rintro as h k ⟨v1, v2, v3, v4, s, rfl, rfl, hw⟩
  exact ⟨rfl, fun G hG => g_X12_childOf hG hw⟩
def F_X12_isKnowing (v1 : Int32) (s : St) : Option (Int32) :=
  some (bI (inb v1 0 (s.1 1200)))
def ct_X12_isKnowing : List (Nat × mj_Cs) := [(243, 2, 3, 12, 0, 0, c_in)]
theorem L_X12_isKnowing : mj_lk ct_X12_isKnowing 243 = some (2, 3, 12, 0, 0, c_in) := rfl
set_option maxHeartbeats 4000000 in
set_option maxRecDepth 20000 in
theorem g_X12_isKnowing {k : Option Value → mj_H → Prop} {G : mj_K} (hG : mj_cl2 cX12_isKnowing (TbX12 2 ((some FieldType.boolean)) ct_X12_isKnowing) k G) {v1 : Int32} {s : St} (hw : ok (F_X12_isKnowing v1 s) (fun p => k (some (.int p)) (mkMs s))) : G 0 [.ref 0, .int v1] [] (mkMs s) 0 0 := by
  unfold F_X12_isKnowing at hw
  refine mj_run hG.1 (fun _ => false) 4000 ?_
  simp only [mj_step, mj_W_s, mj_fin, List.getElem?_cons_zero, List.getElem?_cons_succ, mj_go, Nat.reduceAdd, Nat.reduceSub, Nat.reduceLT, Nat.reduceLeDiff, Nat.zero_add, Nat.reduceEqDiff, Nat.reduceBEq, ↓reduceIte, Bool.false_eq_true, List.append_nil, List.nil_append, List.cons_append, Option.toList, and_true, true_and, true_or, or_true, reduceCtorEq, List.map_nil, bI_eq0, bI_eq1, bool_ft, pk_us, vnar0, vnar1, Bool.or_false, Bool.or_true, Bool.false_or, Bool.true_or, mj_kne, eq_self, Int32.reduceLT, Int32.reduceLE, Int32.reduceAdd, Int32.reduceSub, Int32.reduceMul, not_true_eq_false, not_false_eq_true, false_implies, true_implies, D_X12_isKnowing, mj_F_aload_n_k, mj_F_getfield_i, mj_F_iconst_n, mj_F_iload_n_k, mj_F_invokestatic_i, mj_F_ireturn, mj_kc, FT_X12, FT_X12_1, L_X12_isKnowing, List.take_succ_cons, List.take_zero, List.drop_succ_cons, List.drop_zero, List.reverse_cons, List.reverse_nil, List.length_cons, List.length_nil, gS_M0, gMf_0, c_in_eq]
  exact (ok_some hw :)

def c_X12_isKnowing : mj_S := fun as h k => ∃ (v1 : Int32) (s : St), as = [.ref 0, .int v1] ∧ h = mkMs s ∧ ok (F_X12_isKnowing v1 s) (fun p => k (some (.int p)) (mkMs s))
theorem c_X12_isKnowing_in {v1 : Int32} {s : St} {k : Option Value → mj_H → Prop} (hw : ok (F_X12_isKnowing v1 s) (fun p => k (some (.int p)) (mkMs s))) : c_X12_isKnowing [.ref 0, .int v1] (mkMs s) k := ⟨v1, s, rfl, rfl, hw⟩
theorem m_X12_isKnowing (l : Launch) : mj_Met l yX12_isKnowing cX12_isKnowing 2 ((some FieldType.boolean)) 1 0 0 c_X12_isKnowing := by
  refine mj_body2 false (TbX12 2 ((some FieldType.boolean)) ct_X12_isKnowing) (by decide) rfl rfl (fun h => nomatch h) (tfX12 _ (List.forall_mem_cons.mpr ⟨cfX12_243 (m_X12_in l) (by decide), fun _ h => nomatch h⟩)) ?_
  rintro as h k ⟨v1, s, rfl, rfl, hw⟩
  exact ⟨rfl, fun G hG => g_X12_isKnowing hG hw⟩
def F_X12_child (v1 : Int32) (v2 : Int32) (v3 : Int32) (v4 : Int32) (s : St) : Option (Int32) :=
  (F_X12_isVillage v1 s).bind fun r1 =>
  if r1 = 0 then
    some (-1)
  else
    if inb v2 0 11 = false then
      some (-1)
    else
      (F_X12_isKnowing v3 s).bind fun r2 =>
      if r2 = 0 then
        some (-1)
      else
        if inb v4 0 1 = false then
          some (-1)
        else
          (F_X12_childOf v1 v2 v3 v4 s).bind fun r3 =>
          some r3
theorem J_X12_child : mj_t 5 40 = 45 ∧ mj_t 12 33 = 45 ∧ mj_t 20 25 = 45 ∧ mj_t 30 15 = 45 ∧ mj_t 42 4 = 46 ∧ (0 ≤ ((5 : Nat) : Int) + 40) = True ∧ (0 ≤ ((12 : Nat) : Int) + 33) = True ∧ (0 ≤ ((20 : Nat) : Int) + 25) = True ∧ (0 ≤ ((30 : Nat) : Int) + 15) = True ∧ (0 ≤ ((42 : Nat) : Int) + 4) = True := by and_intros <;> first | rfl | exact eq_true (by decide)
def ct_X12_child : List (Nat × mj_Cs) := [(243, 2, 3, 12, 0, 0, c_in), (274, 0, 2, 12, 0, 0, c_X12_isVillage), (277, 2, 1, 12, 0, 0, c_isYear), (283, 0, 5, 12, 0, 0, c_X12_childOf), (287, 0, 2, 12, 0, 0, c_X12_isKnowing)]
theorem L_X12_child : mj_lk ct_X12_child 243 = some (2, 3, 12, 0, 0, c_in) ∧ mj_lk ct_X12_child 274 = some (0, 2, 12, 0, 0, c_X12_isVillage) ∧ mj_lk ct_X12_child 277 = some (2, 1, 12, 0, 0, c_isYear) ∧ mj_lk ct_X12_child 283 = some (0, 5, 12, 0, 0, c_X12_childOf) ∧ mj_lk ct_X12_child 287 = some (0, 2, 12, 0, 0, c_X12_isKnowing) := ⟨rfl, rfl, rfl, rfl, rfl⟩
set_option maxHeartbeats 4000000 in
set_option maxRecDepth 20000 in
theorem g_X12_child {k : Option Value → mj_H → Prop} {G : mj_K} (hG : mj_cl2 cX12_child (TbX12 5 ((some FieldType.int)) ct_X12_child) k G) {v1 : Int32} {v2 : Int32} {v3 : Int32} {v4 : Int32} {s : St} (hw : ok (F_X12_child v1 v2 v3 v4 s) (fun p => k (some (.int p)) (mkMs s))) : G 0 [.ref 0, .int v1, .int v2, .int v3, .int v4] [] (mkMs s) 0 0 := by
  unfold F_X12_child at hw
  refine mj_run hG.1 (fun pc => pc == 5 || pc == 20 || pc == 42) 4000 ?_
  simp only [mj_step, mj_W_s, mj_fin, List.getElem?_cons_zero, List.getElem?_cons_succ, mj_go, Nat.reduceAdd, Nat.reduceSub, Nat.reduceLT, Nat.reduceLeDiff, Nat.zero_add, Nat.reduceEqDiff, Nat.reduceBEq, ↓reduceIte, Bool.false_eq_true, List.append_nil, List.nil_append, List.cons_append, Option.toList, and_true, true_and, true_or, or_true, reduceCtorEq, List.map_nil, bI_eq0, bI_eq1, bool_ft, pk_us, vnar0, vnar1, Bool.or_false, Bool.or_true, Bool.false_or, Bool.true_or, mj_kne, eq_self, Int32.reduceLT, Int32.reduceLE, Int32.reduceAdd, Int32.reduceSub, Int32.reduceMul, not_true_eq_false, not_false_eq_true, false_implies, true_implies, D_X12_child, mj_F_aload_n_k, mj_F_goto_off, mj_F_iconst_n, mj_F_ifCond_eq_off, mj_F_iload_k, mj_F_iload_n_k, mj_F_invokestatic_i, mj_F_invokevirtual_i, mj_F_ireturn, mj_kc, L_X12_child, List.take_succ_cons, List.take_zero, List.drop_succ_cons, List.drop_zero, List.reverse_cons, List.reverse_nil, List.length_cons, List.length_nil, gS_M0, c_isYear_eq, c_in_eq, J_X12_child]
  refine c_X12_isVillage_in (ok_imp (ok_bind hw) ?_)
  intro p hw
  simp only [Option.toList, List.nil_append, List.cons_append, Nat.reduceSub]
  refine mj_run hG.1 (fun pc => pc == 5 || pc == 20 || pc == 42) 4000 ?_
  simp only [mj_step, mj_W_s, mj_fin, List.getElem?_cons_zero, List.getElem?_cons_succ, mj_go, Nat.reduceAdd, Nat.reduceSub, Nat.reduceLT, Nat.reduceLeDiff, Nat.zero_add, Nat.reduceEqDiff, Nat.reduceBEq, ↓reduceIte, Bool.false_eq_true, List.append_nil, List.nil_append, List.cons_append, Option.toList, and_true, true_and, true_or, or_true, reduceCtorEq, List.map_nil, bI_eq0, bI_eq1, bool_ft, pk_us, vnar0, vnar1, Bool.or_false, Bool.or_true, Bool.false_or, Bool.true_or, mj_kne, eq_self, Int32.reduceLT, Int32.reduceLE, Int32.reduceAdd, Int32.reduceSub, Int32.reduceMul, not_true_eq_false, not_false_eq_true, false_implies, true_implies, D_X12_child, mj_F_aload_n_k, mj_F_goto_off, mj_F_iconst_n, mj_F_ifCond_eq_off, mj_F_iload_k, mj_F_iload_n_k, mj_F_invokestatic_i, mj_F_invokevirtual_i, mj_F_ireturn, mj_kc, L_X12_child, List.take_succ_cons, List.take_zero, List.drop_succ_cons, List.drop_zero, List.reverse_cons, List.reverse_nil, List.length_cons, List.length_nil, gS_M0, c_isYear_eq, c_in_eq, J_X12_child]
  refine ⟨fun c => ?_, fun c => ?_⟩
  · replace hw := ok_t hw c
    exact (ok_some hw :)
  · replace hw := ok_f hw c
    refine ⟨fun c => ?_, fun c => ?_⟩
    · replace hw := ok_t hw c
      exact (ok_some hw :)
    · replace hw := ok_f hw c
      refine c_X12_isKnowing_in (ok_imp (ok_bind hw) ?_)
      intro p hw
      simp only [Option.toList, List.nil_append, List.cons_append, Nat.reduceSub]
      refine mj_run hG.1 (fun pc => pc == 5 || pc == 20 || pc == 42) 4000 ?_
      simp only [mj_step, mj_W_s, mj_fin, List.getElem?_cons_zero, List.getElem?_cons_succ, mj_go, Nat.reduceAdd, Nat.reduceSub, Nat.reduceLT, Nat.reduceLeDiff, Nat.zero_add, Nat.reduceEqDiff, Nat.reduceBEq, ↓reduceIte, Bool.false_eq_true, List.append_nil, List.nil_append, List.cons_append, Option.toList, and_true, true_and, true_or, or_true, reduceCtorEq, List.map_nil, bI_eq0, bI_eq1, bool_ft, pk_us, vnar0, vnar1, Bool.or_false, Bool.or_true, Bool.false_or, Bool.true_or, mj_kne, eq_self, Int32.reduceLT, Int32.reduceLE, Int32.reduceAdd, Int32.reduceSub, Int32.reduceMul, not_true_eq_false, not_false_eq_true, false_implies, true_implies, D_X12_child, mj_F_aload_n_k, mj_F_goto_off, mj_F_iconst_n, mj_F_ifCond_eq_off, mj_F_iload_k, mj_F_iload_n_k, mj_F_invokestatic_i, mj_F_invokevirtual_i, mj_F_ireturn, mj_kc, L_X12_child, List.take_succ_cons, List.take_zero, List.drop_succ_cons, List.drop_zero, List.reverse_cons, List.reverse_nil, List.length_cons, List.length_nil, gS_M0, c_isYear_eq, c_in_eq, J_X12_child]
      refine ⟨fun c => ?_, fun c => ?_⟩
      · replace hw := ok_t hw c
        exact (ok_some hw :)
      · replace hw := ok_f hw c
        refine ⟨fun c => ?_, fun c => ?_⟩
        · replace hw := ok_t hw c
          exact (ok_some hw :)
        · replace hw := ok_f hw c
          refine c_X12_childOf_in (ok_imp (ok_bind hw) ?_)
          intro p hw
          simp only [Option.toList, List.nil_append, List.cons_append, Nat.reduceSub]
          refine mj_run hG.1 (fun pc => pc == 5 || pc == 20 || pc == 42) 4000 ?_
          simp only [mj_step, mj_W_s, mj_fin, List.getElem?_cons_zero, List.getElem?_cons_succ, mj_go, Nat.reduceAdd, Nat.reduceSub, Nat.reduceLT, Nat.reduceLeDiff, Nat.zero_add, Nat.reduceEqDiff, Nat.reduceBEq, ↓reduceIte, Bool.false_eq_true, List.append_nil, List.nil_append, List.cons_append, Option.toList, and_true, true_and, true_or, or_true, reduceCtorEq, List.map_nil, bI_eq0, bI_eq1, bool_ft, pk_us, vnar0, vnar1, Bool.or_false, Bool.or_true, Bool.false_or, Bool.true_or, mj_kne, eq_self, Int32.reduceLT, Int32.reduceLE, Int32.reduceAdd, Int32.reduceSub, Int32.reduceMul, not_true_eq_false, not_false_eq_true, false_implies, true_implies, D_X12_child, mj_F_aload_n_k, mj_F_goto_off, mj_F_iconst_n, mj_F_ifCond_eq_off, mj_F_iload_k, mj_F_iload_n_k, mj_F_invokestatic_i, mj_F_invokevirtual_i, mj_F_ireturn, mj_kc, L_X12_child, List.take_succ_cons, List.take_zero, List.drop_succ_cons, List.drop_zero, List.reverse_cons, List.reverse_nil, List.length_cons, List.length_nil, gS_M0, c_isYear_eq, c_in_eq, J_X12_child]
          exact (ok_some hw :)

def c_X12_child : mj_S := fun as h k => ∃ (v1 : Int32) (v2 : Int32) (v3 : Int32) (v4 : Int32) (s : St), as = [.ref 0, .int v1, .int v2, .int v3, .int v4] ∧ h = mkMs s ∧ ok (F_X12_child v1 v2 v3 v4 s) (fun p => k (some (.int p)) (mkMs s))
theorem c_X12_child_in {v1 : Int32} {v2 : Int32} {v3 : Int32} {v4 : Int32} {s : St} {k : Option Value → mj_H → Prop} (hw : ok (F_X12_child v1 v2 v3 v4 s) (fun p => k (some (.int p)) (mkMs s))) : c_X12_child [.ref 0, .int v1, .int v2, .int v3, .int v4] (mkMs s) k := ⟨v1, v2, v3, v4, s, rfl, rfl, hw⟩
theorem m_X12_child (l : Launch) : mj_Met l yX12_child cX12_child 5 ((some FieldType.int)) 2 0 0 c_X12_child := by
  refine mj_body2 false (TbX12 5 ((some FieldType.int)) ct_X12_child) (by decide) rfl rfl (fun h => nomatch h) (tfX12 _ (List.forall_mem_cons.mpr ⟨cfX12_243 (m_X12_in l) (by decide), List.forall_mem_cons.mpr ⟨cfX12_274 (m_X12_isVillage l) (by decide), List.forall_mem_cons.mpr ⟨cfX12_277 (m_X12_isYear l) (by decide), List.forall_mem_cons.mpr ⟨cfX12_283 (m_X12_childOf l) (by decide), List.forall_mem_cons.mpr ⟨cfX12_287 (m_X12_isKnowing l) (by decide), fun _ h => nomatch h⟩⟩⟩⟩⟩)) ?_
  rintro as h k ⟨v1, v2, v3, v4, s, rfl, rfl, hw⟩
  exact ⟨rfl, fun G hG => g_X12_child hG hw⟩
def B_X12_school_145 (v3 : Int32) : Int32 × St → Option ((Int32 × St) ⊕ ((St)))
  | (v6, s) =>
  if 5 ≤ v6 then
    some (.inr s)
  else
    if v6 = 1 then
      (wr s 1222 100 ((5 * (s.1 1223)) + v6) (v3 * 2)).bind fun s12 =>
      some (.inl ((v6 + 1), s12))
    else
      if v6 = 2 then
        (wr s 1222 100 ((5 * (s.1 1223)) + v6) (v3 * 4)).bind fun s11 =>
        some (.inl ((v6 + 1), s11))
      else
        if v6 = 4 then
          (wr s 1222 100 ((5 * (s.1 1223)) + v6) (v3 * 3)).bind fun s10 =>
          some (.inl ((v6 + 1), s10))
        else
          (wr s 1222 100 ((5 * (s.1 1223)) + v6) (v3 * 1)).bind fun s9 =>
          some (.inl ((v6 + 1), s9))
def F_X12_school_204 (s : St) : Option (Int32 × St) :=
  (wI s 1223 ((s.1 1223) + 1)).bind fun s13 =>
  some (((s13.1 1223) - 1), s13)
def F_X12_school_145 (v3 : Int32) (v6 : Int32) (s : St) : Option (Int32 × St) :=
  (lp (B_X12_school_145 v3) FU (v6, s)).bind (fun y => F_X12_school_204 y)
def F_X12_school (v1 : Int32) (v2 : Int32) (v3 : Int32) (v4 : Int32) (v5 : Int32) (s : St) : Option (Int32 × St) :=
  if inb v1 0 119 = false then
    some ((-1), s)
  else
    if inb v2 0 3 = false then
      some ((-1), s)
    else
      if inb v3 1 20 = false then
        some ((-1), s)
      else
        if inb v4 1 3 = false then
          some ((-1), s)
        else
          if inb v5 1 255 = false then
            some ((-1), s)
          else
            if (s.1 1223) = 20 then
              some ((-1), s)
            else
              (wr s 1214 20 (s.1 1223) v1).bind fun s1 =>
              (wr s1 1215 20 (s1.1 1223) v2).bind fun s2 =>
              (wr s2 1216 20 (s2.1 1223) v3).bind fun s3 =>
              (wr s3 1217 20 (s3.1 1223) v4).bind fun s4 =>
              (wr s4 1218 20 (s4.1 1223) v5).bind fun s5 =>
              (wr s5 1219 20 (s5.1 1223) (s5.1 1200)).bind fun s6 =>
              (wr s6 1220 20 (s6.1 1223) (-1)).bind fun s7 =>
              (wr s7 1286 20 (s7.1 1223) (-1)).bind fun s8 =>
              F_X12_school_145 v3 0 s8
theorem J_X12_school : mj_t 4 51 = 55 ∧ mj_t 11 44 = 55 ∧ mj_t 21 34 = 55 ∧ mj_t 31 24 = 55 ∧ mj_t 43 12 = 55 ∧ mj_t 52 5 = 57 ∧ mj_t 148 56 = 204 ∧ mj_t 168 7 = 175 ∧ mj_t 172 24 = 196 ∧ mj_t 178 7 = 185 ∧ mj_t 182 14 = 196 ∧ mj_t 188 7 = 195 ∧ mj_t 192 4 = 196 ∧ mj_t 201 (-56) = 145 ∧ (0 ≤ ((4 : Nat) : Int) + 51) = True ∧ (0 ≤ ((11 : Nat) : Int) + 44) = True ∧ (0 ≤ ((21 : Nat) : Int) + 34) = True ∧ (0 ≤ ((31 : Nat) : Int) + 24) = True ∧ (0 ≤ ((43 : Nat) : Int) + 12) = True ∧ (0 ≤ ((52 : Nat) : Int) + 5) = True ∧ (0 ≤ ((148 : Nat) : Int) + 56) = True ∧ (0 ≤ ((168 : Nat) : Int) + 7) = True ∧ (0 ≤ ((172 : Nat) : Int) + 24) = True ∧ (0 ≤ ((178 : Nat) : Int) + 7) = True ∧ (0 ≤ ((182 : Nat) : Int) + 14) = True ∧ (0 ≤ ((188 : Nat) : Int) + 7) = True ∧ (0 ≤ ((192 : Nat) : Int) + 4) = True ∧ (0 ≤ ((201 : Nat) : Int) + (-56)) = True := by and_intros <;> first | rfl | exact eq_true (by decide)
def ct_X12_school : List (Nat × mj_Cs) := [(243, 2, 3, 12, 0, 0, c_in), (260, 2, 1, 12, 0, 0, c_isCell), (271, 2, 1, 12, 0, 0, c_isShire)]
theorem L_X12_school : mj_lk ct_X12_school 243 = some (2, 3, 12, 0, 0, c_in) ∧ mj_lk ct_X12_school 260 = some (2, 1, 12, 0, 0, c_isCell) ∧ mj_lk ct_X12_school 271 = some (2, 1, 12, 0, 0, c_isShire) := ⟨rfl, rfl, rfl⟩
set_option maxHeartbeats 4000000 in
set_option maxRecDepth 20000 in
theorem b_X12_school_145 {k : Option Value → mj_H → Prop} {G : mj_K} (hG : mj_cl2 cX12_school (TbX12 7 ((some FieldType.int)) ct_X12_school) k G) {v3 : Int32} {P : Int32 × St → Prop} {K : (St) → Prop} (hP : ∀ x, P x → G 145 [.ref 0, mj_unk, mj_unk, .int v3, mj_unk, mj_unk, .int x.1] [] (mkMs x.2) 0 0) (hK0 : ∀ y, K y → G 204 [.ref 0] [] (mkMs y) 0 0) {v6 : Int32} {s : St} (hw : ok (B_X12_school_145 v3 (v6, s)) (Sum.elim P K)) : G 145 [.ref 0, mj_unk, mj_unk, .int v3, mj_unk, mj_unk, .int v6] [] (mkMs s) 0 0 := by
  unfold B_X12_school_145 at hw
  refine mj_run hG.1 (fun pc => pc == 145 || pc == 204) 4000 ?_
  simp only [mj_step, mj_W_s, mj_fin, List.getElem?_cons_zero, List.getElem?_cons_succ, mj_go, Nat.reduceAdd, Nat.reduceSub, Nat.reduceLT, Nat.reduceLeDiff, Nat.zero_add, Nat.reduceEqDiff, Nat.reduceBEq, ↓reduceIte, Bool.false_eq_true, List.append_nil, List.nil_append, List.cons_append, Option.toList, and_true, true_and, true_or, or_true, reduceCtorEq, List.map_nil, bI_eq0, bI_eq1, bool_ft, pk_us, vnar0, vnar1, Bool.or_false, Bool.or_true, Bool.false_or, Bool.true_or, mj_kne, eq_self, Int32.reduceLT, Int32.reduceLE, Int32.reduceAdd, Int32.reduceSub, Int32.reduceMul, not_true_eq_false, not_false_eq_true, false_implies, true_implies, D_X12_school_0, D_X12_school_1, D_X12_school_2, mj_F_aload_n_k, mj_F_bipush_n, mj_F_dup, mj_F_getfield_i, mj_F_goto_off, mj_F_iadd, mj_F_iastore, mj_F_iconst_n, mj_F_ifCond_eq_off, mj_F_if_icmp_ge_off, mj_F_if_icmp_ne_off, mj_F_iinc_k_n, mj_F_iload_k, mj_F_iload_n_k, mj_F_imul, mj_F_invokestatic_i, mj_F_ireturn, mj_F_istore_k, mj_F_isub, mj_F_putfield_i, mj_F_sipush_n, mj_set, mj_set0, mj_unk, mj_c2, mj_kc, FT_X12, FT_X12_1, PT_X12, L_X12_school, List.take_succ_cons, List.take_zero, List.drop_succ_cons, List.drop_zero, List.reverse_cons, List.reverse_nil, List.length_cons, List.length_nil, gS_M0, gMf_23, gMf_14, gS_M12, sS_Ma_12, gMf_15, gS_M13, sS_Ma_13, gMf_16, gS_M14, sS_Ma_14, gMf_17, gS_M15, sS_Ma_15, gMf_18, gS_M16, sS_Ma_16, gMf_19, gS_M17, sS_Ma_17, gMf_0, gMf_20, gS_M18, sS_Ma_18, gMf_86, gS_M68, sS_Ma_68, gMf_22, gS_M20, sS_Ma_20, sS_Mf_23, gMl, c_isCell_eq, c_isShire_eq, c_in_eq, J_X12_school]
  refine ⟨fun c => ?_, fun c => ?_⟩
  · replace hw := ok_t hw c
    exact hG.2 _ _ _ _ _ _ _ _ _ (by refine ⟨Or.inr rfl, ?_⟩; exact trivial) (Nat.zero_le _) (Nat.zero_le _) (hK0 _ (ok_some hw :) :)
  · replace hw := ok_f hw c
    refine ⟨fun c => ?_, fun c => ?_⟩
    · replace hw := ok_f hw c
      refine ⟨fun c => ?_, fun c => ?_⟩
      · replace hw := ok_f hw c
        refine ⟨fun c => ?_, fun c => ?_⟩
        · replace hw := ok_f hw c
          refine ⟨(ok_wr hw).1, ?_⟩
          replace hw := (ok_wr hw).2
          exact hG.2 _ _ _ _ _ _ _ _ _ (by refine ⟨Or.inr rfl, ?_⟩; refine ⟨Or.inl rfl, ?_⟩; refine ⟨Or.inl rfl, ?_⟩; refine ⟨Or.inr rfl, ?_⟩; refine ⟨Or.inl rfl, ?_⟩; refine ⟨Or.inl rfl, ?_⟩; refine ⟨Or.inr rfl, ?_⟩; exact trivial) (Nat.zero_le _) (Nat.zero_le _) (hP _ (ok_some hw :) :)
        · replace hw := ok_t hw c
          refine ⟨(ok_wr hw).1, ?_⟩
          replace hw := (ok_wr hw).2
          exact hG.2 _ _ _ _ _ _ _ _ _ (by refine ⟨Or.inr rfl, ?_⟩; refine ⟨Or.inl rfl, ?_⟩; refine ⟨Or.inl rfl, ?_⟩; refine ⟨Or.inr rfl, ?_⟩; refine ⟨Or.inl rfl, ?_⟩; refine ⟨Or.inl rfl, ?_⟩; refine ⟨Or.inr rfl, ?_⟩; exact trivial) (Nat.zero_le _) (Nat.zero_le _) (hP _ (ok_some hw :) :)
      · replace hw := ok_t hw c
        refine ⟨(ok_wr hw).1, ?_⟩
        replace hw := (ok_wr hw).2
        exact hG.2 _ _ _ _ _ _ _ _ _ (by refine ⟨Or.inr rfl, ?_⟩; refine ⟨Or.inl rfl, ?_⟩; refine ⟨Or.inl rfl, ?_⟩; refine ⟨Or.inr rfl, ?_⟩; refine ⟨Or.inl rfl, ?_⟩; refine ⟨Or.inl rfl, ?_⟩; refine ⟨Or.inr rfl, ?_⟩; exact trivial) (Nat.zero_le _) (Nat.zero_le _) (hP _ (ok_some hw :) :)
    · replace hw := ok_t hw c
      refine ⟨(ok_wr hw).1, ?_⟩
      replace hw := (ok_wr hw).2
      exact hG.2 _ _ _ _ _ _ _ _ _ (by refine ⟨Or.inr rfl, ?_⟩; refine ⟨Or.inl rfl, ?_⟩; refine ⟨Or.inl rfl, ?_⟩; refine ⟨Or.inr rfl, ?_⟩; refine ⟨Or.inl rfl, ?_⟩; refine ⟨Or.inl rfl, ?_⟩; refine ⟨Or.inr rfl, ?_⟩; exact trivial) (Nat.zero_le _) (Nat.zero_le _) (hP _ (ok_some hw :) :)

set_option maxHeartbeats 4000000 in
set_option maxRecDepth 20000 in
theorem g_X12_school_204 {k : Option Value → mj_H → Prop} {G : mj_K} (hG : mj_cl2 cX12_school (TbX12 7 ((some FieldType.int)) ct_X12_school) k G)   {s : St} (hw : ok (F_X12_school_204 s) (fun p => k (some (.int p.1)) (mkMs p.2))) : G 204 [.ref 0] [] (mkMs s) 0 0 := by
  unfold F_X12_school_204 at hw
  refine mj_run hG.1 (fun pc => pc == 145 || pc == 204) 4000 ?_
  simp only [mj_step, mj_W_s, mj_fin, List.getElem?_cons_zero, List.getElem?_cons_succ, mj_go, Nat.reduceAdd, Nat.reduceSub, Nat.reduceLT, Nat.reduceLeDiff, Nat.zero_add, Nat.reduceEqDiff, Nat.reduceBEq, ↓reduceIte, Bool.false_eq_true, List.append_nil, List.nil_append, List.cons_append, Option.toList, and_true, true_and, true_or, or_true, reduceCtorEq, List.map_nil, bI_eq0, bI_eq1, bool_ft, pk_us, vnar0, vnar1, Bool.or_false, Bool.or_true, Bool.false_or, Bool.true_or, mj_kne, eq_self, Int32.reduceLT, Int32.reduceLE, Int32.reduceAdd, Int32.reduceSub, Int32.reduceMul, not_true_eq_false, not_false_eq_true, false_implies, true_implies, D_X12_school_0, D_X12_school_1, D_X12_school_2, mj_F_aload_n_k, mj_F_bipush_n, mj_F_dup, mj_F_getfield_i, mj_F_goto_off, mj_F_iadd, mj_F_iastore, mj_F_iconst_n, mj_F_ifCond_eq_off, mj_F_if_icmp_ge_off, mj_F_if_icmp_ne_off, mj_F_iinc_k_n, mj_F_iload_k, mj_F_iload_n_k, mj_F_imul, mj_F_invokestatic_i, mj_F_ireturn, mj_F_istore_k, mj_F_isub, mj_F_putfield_i, mj_F_sipush_n, mj_set, mj_set0, mj_unk, mj_c2, mj_kc, FT_X12, FT_X12_1, PT_X12, L_X12_school, List.take_succ_cons, List.take_zero, List.drop_succ_cons, List.drop_zero, List.reverse_cons, List.reverse_nil, List.length_cons, List.length_nil, gS_M0, gMf_23, gMf_14, gS_M12, sS_Ma_12, gMf_15, gS_M13, sS_Ma_13, gMf_16, gS_M14, sS_Ma_14, gMf_17, gS_M15, sS_Ma_15, gMf_18, gS_M16, sS_Ma_16, gMf_19, gS_M17, sS_Ma_17, gMf_0, gMf_20, gS_M18, sS_Ma_18, gMf_86, gS_M68, sS_Ma_68, gMf_22, gS_M20, sS_Ma_20, sS_Mf_23, gMl, c_isCell_eq, c_isShire_eq, c_in_eq, J_X12_school]
  replace hw := ok_wI hw
  exact (ok_some hw :)

set_option maxHeartbeats 4000000 in
theorem g_X12_school_145 {k : Option Value → mj_H → Prop} {G : mj_K} (hG : mj_cl2 cX12_school (TbX12 7 ((some FieldType.int)) ct_X12_school) k G)   {v3 : Int32} {v6 : Int32} {s : St} (hw : ok (F_X12_school_145 v3 v6 s) (fun p => k (some (.int p.1)) (mkMs p.2))) : G 145 [.ref 0, mj_unk, mj_unk, .int v3, mj_unk, mj_unk, .int v6] [] (mkMs s) 0 0 := by
  unfold F_X12_school_145 at hw
  refine lp_ok (B_X12_school_145 v3) (fun x => G 145 [.ref 0, mj_unk, mj_unk, .int v3, mj_unk, mj_unk, .int x.1] [] (mkMs x.2) 0 0) _ ?_ _ _ (ok_bind hw)
  rintro ⟨v6, s⟩ hb
  exact b_X12_school_145 hG (fun _ z => z) (fun y hw => by exact hG.2 _ _ _ _ _ _ _ _ _ (by refine ⟨Or.inr rfl, ?_⟩; exact trivial) (Nat.zero_le _) (Nat.zero_le _) (g_X12_school_204 hG  hw :)) hb

set_option maxHeartbeats 4000000 in
set_option maxRecDepth 20000 in
theorem g_X12_school {k : Option Value → mj_H → Prop} {G : mj_K} (hG : mj_cl2 cX12_school (TbX12 7 ((some FieldType.int)) ct_X12_school) k G) {v1 : Int32} {v2 : Int32} {v3 : Int32} {v4 : Int32} {v5 : Int32} {s : St} (hw : ok (F_X12_school v1 v2 v3 v4 v5 s) (fun p => k (some (.int p.1)) (mkMs p.2))) : G 0 [.ref 0, .int v1, .int v2, .int v3, .int v4, .int v5] [] (mkMs s) 0 0 := by
  unfold F_X12_school at hw
  refine mj_run hG.1 (fun pc => pc == 145 || pc == 204) 4000 ?_
  simp only [mj_step, mj_W_s, mj_fin, List.getElem?_cons_zero, List.getElem?_cons_succ, mj_go, Nat.reduceAdd, Nat.reduceSub, Nat.reduceLT, Nat.reduceLeDiff, Nat.zero_add, Nat.reduceEqDiff, Nat.reduceBEq, ↓reduceIte, Bool.false_eq_true, List.append_nil, List.nil_append, List.cons_append, Option.toList, and_true, true_and, true_or, or_true, reduceCtorEq, List.map_nil, bI_eq0, bI_eq1, bool_ft, pk_us, vnar0, vnar1, Bool.or_false, Bool.or_true, Bool.false_or, Bool.true_or, mj_kne, eq_self, Int32.reduceLT, Int32.reduceLE, Int32.reduceAdd, Int32.reduceSub, Int32.reduceMul, not_true_eq_false, not_false_eq_true, false_implies, true_implies, D_X12_school_0, D_X12_school_1, D_X12_school_2, mj_F_aload_n_k, mj_F_bipush_n, mj_F_dup, mj_F_getfield_i, mj_F_goto_off, mj_F_iadd, mj_F_iastore, mj_F_iconst_n, mj_F_ifCond_eq_off, mj_F_if_icmp_ge_off, mj_F_if_icmp_ne_off, mj_F_iinc_k_n, mj_F_iload_k, mj_F_iload_n_k, mj_F_imul, mj_F_invokestatic_i, mj_F_ireturn, mj_F_istore_k, mj_F_isub, mj_F_putfield_i, mj_F_sipush_n, mj_set, mj_set0, mj_unk, mj_c2, mj_kc, FT_X12, FT_X12_1, PT_X12, L_X12_school, List.take_succ_cons, List.take_zero, List.drop_succ_cons, List.drop_zero, List.reverse_cons, List.reverse_nil, List.length_cons, List.length_nil, gS_M0, gMf_23, gMf_14, gS_M12, sS_Ma_12, gMf_15, gS_M13, sS_Ma_13, gMf_16, gS_M14, sS_Ma_14, gMf_17, gS_M15, sS_Ma_15, gMf_18, gS_M16, sS_Ma_16, gMf_19, gS_M17, sS_Ma_17, gMf_0, gMf_20, gS_M18, sS_Ma_18, gMf_86, gS_M68, sS_Ma_68, gMf_22, gS_M20, sS_Ma_20, sS_Mf_23, gMl, c_isCell_eq, c_isShire_eq, c_in_eq, J_X12_school]
  refine ⟨fun c => ?_, fun c => ?_⟩
  · replace hw := ok_t hw c
    exact (ok_some hw :)
  · replace hw := ok_f hw c
    refine ⟨fun c => ?_, fun c => ?_⟩
    · replace hw := ok_t hw c
      exact (ok_some hw :)
    · replace hw := ok_f hw c
      refine ⟨fun c => ?_, fun c => ?_⟩
      · replace hw := ok_t hw c
        exact (ok_some hw :)
      · replace hw := ok_f hw c
        refine ⟨fun c => ?_, fun c => ?_⟩
        · replace hw := ok_t hw c
          exact (ok_some hw :)
        · replace hw := ok_f hw c
          refine ⟨fun c => ?_, fun c => ?_⟩
          · replace hw := ok_t hw c
            exact (ok_some hw :)
          · replace hw := ok_f hw c
            refine ⟨fun c => ?_, fun c => ?_⟩
            · replace hw := ok_f hw c
              refine ⟨(ok_wr hw).1, ?_⟩
              replace hw := (ok_wr hw).2
              refine ⟨(ok_wr hw).1, ?_⟩
              replace hw := (ok_wr hw).2
              refine ⟨(ok_wr hw).1, ?_⟩
              replace hw := (ok_wr hw).2
              refine ⟨(ok_wr hw).1, ?_⟩
              replace hw := (ok_wr hw).2
              refine ⟨(ok_wr hw).1, ?_⟩
              replace hw := (ok_wr hw).2
              refine ⟨(ok_wr hw).1, ?_⟩
              replace hw := (ok_wr hw).2
              refine ⟨(ok_wr hw).1, ?_⟩
              replace hw := (ok_wr hw).2
              refine ⟨(ok_wr hw).1, ?_⟩
              replace hw := (ok_wr hw).2
              exact hG.2 _ _ _ _ _ _ _ _ _ (by refine ⟨Or.inr rfl, ?_⟩; refine ⟨Or.inl rfl, ?_⟩; refine ⟨Or.inl rfl, ?_⟩; refine ⟨Or.inr rfl, ?_⟩; refine ⟨Or.inl rfl, ?_⟩; refine ⟨Or.inl rfl, ?_⟩; refine ⟨Or.inr rfl, ?_⟩; exact trivial) (Nat.zero_le _) (Nat.zero_le _) (g_X12_school_145 hG  hw :)
            · replace hw := ok_t hw c
              exact (ok_some hw :)

def c_X12_school : mj_S := fun as h k => ∃ (v1 : Int32) (v2 : Int32) (v3 : Int32) (v4 : Int32) (v5 : Int32) (s : St), as = [.ref 0, .int v1, .int v2, .int v3, .int v4, .int v5] ∧ h = mkMs s ∧ ok (F_X12_school v1 v2 v3 v4 v5 s) (fun p => k (some (.int p.1)) (mkMs p.2))
theorem c_X12_school_in {v1 : Int32} {v2 : Int32} {v3 : Int32} {v4 : Int32} {v5 : Int32} {s : St} {k : Option Value → mj_H → Prop} (hw : ok (F_X12_school v1 v2 v3 v4 v5 s) (fun p => k (some (.int p.1)) (mkMs p.2))) : c_X12_school [.ref 0, .int v1, .int v2, .int v3, .int v4, .int v5] (mkMs s) k := ⟨v1, v2, v3, v4, v5, s, rfl, rfl, hw⟩
theorem m_X12_school (l : Launch) : mj_Met l yX12_school cX12_school 7 ((some FieldType.int)) 2 0 0 c_X12_school := by
  refine mj_body2 false (TbX12 7 ((some FieldType.int)) ct_X12_school) (by decide) rfl rfl (fun h => nomatch h) (tfX12 _ (List.forall_mem_cons.mpr ⟨cfX12_243 (m_X12_in l) (by decide), List.forall_mem_cons.mpr ⟨cfX12_260 (m_X12_isCell l) (by decide), List.forall_mem_cons.mpr ⟨cfX12_271 (m_X12_isShire l) (by decide), fun _ h => nomatch h⟩⟩⟩)) ?_
  rintro as h k ⟨v1, v2, v3, v4, v5, s, rfl, rfl, hw⟩
  exact ⟨rfl, fun G hG => g_X12_school hG hw⟩
def F_X12_isSchool (v1 : Int32) (s : St) : Option (Int32) :=
  some (bI (inb v1 0 ((s.1 1223) - 1)))
def ct_X12_isSchool : List (Nat × mj_Cs) := [(243, 2, 3, 12, 0, 0, c_in)]
theorem L_X12_isSchool : mj_lk ct_X12_isSchool 243 = some (2, 3, 12, 0, 0, c_in) := rfl
set_option maxHeartbeats 4000000 in
set_option maxRecDepth 20000 in
theorem g_X12_isSchool {k : Option Value → mj_H → Prop} {G : mj_K} (hG : mj_cl2 cX12_isSchool (TbX12 2 ((some FieldType.boolean)) ct_X12_isSchool) k G) {v1 : Int32} {s : St} (hw : ok (F_X12_isSchool v1 s) (fun p => k (some (.int p)) (mkMs s))) : G 0 [.ref 0, .int v1] [] (mkMs s) 0 0 := by
  unfold F_X12_isSchool at hw
  refine mj_run hG.1 (fun _ => false) 4000 ?_
  simp only [mj_step, mj_W_s, mj_fin, List.getElem?_cons_zero, List.getElem?_cons_succ, mj_go, Nat.reduceAdd, Nat.reduceSub, Nat.reduceLT, Nat.reduceLeDiff, Nat.zero_add, Nat.reduceEqDiff, Nat.reduceBEq, ↓reduceIte, Bool.false_eq_true, List.append_nil, List.nil_append, List.cons_append, Option.toList, and_true, true_and, true_or, or_true, reduceCtorEq, List.map_nil, bI_eq0, bI_eq1, bool_ft, pk_us, vnar0, vnar1, Bool.or_false, Bool.or_true, Bool.false_or, Bool.true_or, mj_kne, eq_self, Int32.reduceLT, Int32.reduceLE, Int32.reduceAdd, Int32.reduceSub, Int32.reduceMul, not_true_eq_false, not_false_eq_true, false_implies, true_implies, D_X12_isSchool, mj_F_aload_n_k, mj_F_getfield_i, mj_F_iconst_n, mj_F_iload_n_k, mj_F_invokestatic_i, mj_F_ireturn, mj_F_isub, mj_kc, FT_X12, FT_X12_1, L_X12_isSchool, List.take_succ_cons, List.take_zero, List.drop_succ_cons, List.drop_zero, List.reverse_cons, List.reverse_nil, List.length_cons, List.length_nil, gS_M0, gMf_23, c_in_eq]
  exact (ok_some hw :)

def c_X12_isSchool : mj_S := fun as h k => ∃ (v1 : Int32) (s : St), as = [.ref 0, .int v1] ∧ h = mkMs s ∧ ok (F_X12_isSchool v1 s) (fun p => k (some (.int p)) (mkMs s))
theorem c_X12_isSchool_in {v1 : Int32} {s : St} {k : Option Value → mj_H → Prop} (hw : ok (F_X12_isSchool v1 s) (fun p => k (some (.int p)) (mkMs s))) : c_X12_isSchool [.ref 0, .int v1] (mkMs s) k := ⟨v1, s, rfl, rfl, hw⟩
theorem m_X12_isSchool (l : Launch) : mj_Met l yX12_isSchool cX12_isSchool 2 ((some FieldType.boolean)) 1 0 0 c_X12_isSchool := by
  refine mj_body2 false (TbX12 2 ((some FieldType.boolean)) ct_X12_isSchool) (by decide) rfl rfl (fun h => nomatch h) (tfX12 _ (List.forall_mem_cons.mpr ⟨cfX12_243 (m_X12_in l) (by decide), fun _ h => nomatch h⟩)) ?_
  rintro as h k ⟨v1, s, rfl, rfl, hw⟩
  exact ⟨rfl, fun G hG => g_X12_isSchool hG hw⟩
def F_X12_far (v1 : Int32) (v2 : Int32) (s : St) : Option (Int32 × St) :=
  (F_X12_isSchool v1 s).bind fun r1 =>
  if r1 = 0 then
    some (0, s)
  else
    (rd s 1221 20 v1).bind fun x2 =>
    if x2 = v2 then
      some (0, s)
    else
      (wr s 1221 20 v1 (vp_nar .boolean v2)).bind fun s3 =>
      some (1, s3)
theorem J_X12_far : mj_t 5 13 = 18 ∧ mj_t 15 5 = 20 ∧ (0 ≤ ((5 : Nat) : Int) + 13) = True ∧ (0 ≤ ((15 : Nat) : Int) + 5) = True := by and_intros <;> first | rfl | exact eq_true (by decide)
def ct_X12_far : List (Nat × mj_Cs) := [(293, 0, 2, 12, 0, 0, c_X12_isSchool)]
theorem L_X12_far : mj_lk ct_X12_far 293 = some (0, 2, 12, 0, 0, c_X12_isSchool) := rfl
set_option maxHeartbeats 4000000 in
set_option maxRecDepth 20000 in
theorem g_X12_far {k : Option Value → mj_H → Prop} {G : mj_K} (hG : mj_cl2 cX12_far (TbX12 3 ((some FieldType.boolean)) ct_X12_far) k G) {v1 : Int32} {v2 : Int32} {s : St} (hw : ok (F_X12_far v1 v2 s) (fun p => k (some (.int p.1)) (mkMs p.2))) : G 0 [.ref 0, .int v1, .int v2] [] (mkMs s) 0 0 := by
  unfold F_X12_far at hw
  refine mj_run hG.1 (fun pc => pc == 5) 4000 ?_
  simp only [mj_step, mj_W_s, mj_fin, List.getElem?_cons_zero, List.getElem?_cons_succ, mj_go, Nat.reduceAdd, Nat.reduceSub, Nat.reduceLT, Nat.reduceLeDiff, Nat.zero_add, Nat.reduceEqDiff, Nat.reduceBEq, ↓reduceIte, Bool.false_eq_true, List.append_nil, List.nil_append, List.cons_append, Option.toList, and_true, true_and, true_or, or_true, reduceCtorEq, List.map_nil, bI_eq0, bI_eq1, bool_ft, pk_us, vnar0, vnar1, Bool.or_false, Bool.or_true, Bool.false_or, Bool.true_or, mj_kne, eq_self, Int32.reduceLT, Int32.reduceLE, Int32.reduceAdd, Int32.reduceSub, Int32.reduceMul, not_true_eq_false, not_false_eq_true, false_implies, true_implies, D_X12_far, mj_F_aload_n_k, mj_F_baload, mj_F_bastore, mj_F_getfield_i, mj_F_iconst_n, mj_F_ifCond_eq_off, mj_F_if_icmp_ne_off, mj_F_iload_n_k, mj_F_invokevirtual_i, mj_F_ireturn, mj_kc, FT_X12, FT_X12_1, L_X12_far, List.take_succ_cons, List.take_zero, List.drop_succ_cons, List.drop_zero, List.reverse_cons, List.reverse_nil, List.length_cons, List.length_nil, gS_M0, gMf_21, gS_M19, sS_Ma_19, J_X12_far]
  refine c_X12_isSchool_in (ok_imp (ok_bind hw) ?_)
  intro p hw
  simp only [Option.toList, List.nil_append, List.cons_append, Nat.reduceSub]
  refine mj_run hG.1 (fun pc => pc == 5) 4000 ?_
  simp only [mj_step, mj_W_s, mj_fin, List.getElem?_cons_zero, List.getElem?_cons_succ, mj_go, Nat.reduceAdd, Nat.reduceSub, Nat.reduceLT, Nat.reduceLeDiff, Nat.zero_add, Nat.reduceEqDiff, Nat.reduceBEq, ↓reduceIte, Bool.false_eq_true, List.append_nil, List.nil_append, List.cons_append, Option.toList, and_true, true_and, true_or, or_true, reduceCtorEq, List.map_nil, bI_eq0, bI_eq1, bool_ft, pk_us, vnar0, vnar1, Bool.or_false, Bool.or_true, Bool.false_or, Bool.true_or, mj_kne, eq_self, Int32.reduceLT, Int32.reduceLE, Int32.reduceAdd, Int32.reduceSub, Int32.reduceMul, not_true_eq_false, not_false_eq_true, false_implies, true_implies, D_X12_far, mj_F_aload_n_k, mj_F_baload, mj_F_bastore, mj_F_getfield_i, mj_F_iconst_n, mj_F_ifCond_eq_off, mj_F_if_icmp_ne_off, mj_F_iload_n_k, mj_F_invokevirtual_i, mj_F_ireturn, mj_kc, FT_X12, FT_X12_1, L_X12_far, List.take_succ_cons, List.take_zero, List.drop_succ_cons, List.drop_zero, List.reverse_cons, List.reverse_nil, List.length_cons, List.length_nil, gS_M0, gMf_21, gS_M19, sS_Ma_19, J_X12_far]
  refine ⟨fun c => ?_, fun c => ?_⟩
  · replace hw := ok_t hw c
    exact (ok_some hw :)
  · replace hw := ok_f hw c
    refine ⟨(ok_rd hw).1, ?_⟩
    replace hw := (ok_rd hw).2
    refine ⟨fun c => ?_, fun c => ?_⟩
    · replace hw := ok_f hw c
      refine ⟨(ok_wr hw).1, ?_⟩
      replace hw := (ok_wr hw).2
      exact (ok_some hw :)
    · replace hw := ok_t hw c
      exact (ok_some hw :)

def c_X12_far : mj_S := fun as h k => ∃ (v1 : Int32) (v2 : Int32) (s : St), as = [.ref 0, .int v1, .int v2] ∧ h = mkMs s ∧ ok (F_X12_far v1 v2 s) (fun p => k (some (.int p.1)) (mkMs p.2))
theorem c_X12_far_in {v1 : Int32} {v2 : Int32} {s : St} {k : Option Value → mj_H → Prop} (hw : ok (F_X12_far v1 v2 s) (fun p => k (some (.int p.1)) (mkMs p.2))) : c_X12_far [.ref 0, .int v1, .int v2] (mkMs s) k := ⟨v1, v2, s, rfl, rfl, hw⟩
theorem m_X12_far (l : Launch) : mj_Met l yX12_far cX12_far 3 ((some FieldType.boolean)) 2 0 0 c_X12_far := by
  refine mj_body2 false (TbX12 3 ((some FieldType.boolean)) ct_X12_far) (by decide) rfl rfl (fun h => nomatch h) (tfX12 _ (List.forall_mem_cons.mpr ⟨cfX12_293 (m_X12_isSchool l) (by decide), fun _ h => nomatch h⟩)) ?_
  rintro as h k ⟨v1, v2, s, rfl, rfl, hw⟩
  exact ⟨rfl, fun G hG => g_X12_far hG hw⟩
def F_X12_shut (v1 : Int32) (v2 : Int32) (s : St) : Option (Int32 × St) :=
  (F_X12_isSchool v1 s).bind fun r1 =>
  if r1 = 0 then
    some (0, s)
  else
    (rd s 1227 20 v1).bind fun x2 =>
    if x2 = v2 then
      some (0, s)
    else
      (wr s 1227 20 v1 (vp_nar .boolean v2)).bind fun s3 =>
      (wr s3 1224 4096 (s3.1 1226) v1).bind fun s4 =>
      (wr s4 1225 4096 (s4.1 1226) (s4.1 1200)).bind fun s5 =>
      (wI s5 1226 ((s5.1 1226) + 1)).bind fun s6 =>
      some (1, s6)
theorem J_X12_shut : mj_t 5 13 = 18 ∧ mj_t 15 5 = 20 ∧ (0 ≤ ((5 : Nat) : Int) + 13) = True ∧ (0 ≤ ((15 : Nat) : Int) + 5) = True := by and_intros <;> first | rfl | exact eq_true (by decide)
def ct_X12_shut : List (Nat × mj_Cs) := [(293, 0, 2, 12, 0, 0, c_X12_isSchool)]
theorem L_X12_shut : mj_lk ct_X12_shut 293 = some (0, 2, 12, 0, 0, c_X12_isSchool) := rfl
set_option maxHeartbeats 4000000 in
set_option maxRecDepth 20000 in
theorem g_X12_shut {k : Option Value → mj_H → Prop} {G : mj_K} (hG : mj_cl2 cX12_shut (TbX12 3 ((some FieldType.boolean)) ct_X12_shut) k G) {v1 : Int32} {v2 : Int32} {s : St} (hw : ok (F_X12_shut v1 v2 s) (fun p => k (some (.int p.1)) (mkMs p.2))) : G 0 [.ref 0, .int v1, .int v2] [] (mkMs s) 0 0 := by
  unfold F_X12_shut at hw
  refine mj_run hG.1 (fun pc => pc == 5) 4000 ?_
  simp only [mj_step, mj_W_s, mj_fin, List.getElem?_cons_zero, List.getElem?_cons_succ, mj_go, Nat.reduceAdd, Nat.reduceSub, Nat.reduceLT, Nat.reduceLeDiff, Nat.zero_add, Nat.reduceEqDiff, Nat.reduceBEq, ↓reduceIte, Bool.false_eq_true, List.append_nil, List.nil_append, List.cons_append, Option.toList, and_true, true_and, true_or, or_true, reduceCtorEq, List.map_nil, bI_eq0, bI_eq1, bool_ft, pk_us, vnar0, vnar1, Bool.or_false, Bool.or_true, Bool.false_or, Bool.true_or, mj_kne, eq_self, Int32.reduceLT, Int32.reduceLE, Int32.reduceAdd, Int32.reduceSub, Int32.reduceMul, not_true_eq_false, not_false_eq_true, false_implies, true_implies, D_X12_shut, mj_F_aload_n_k, mj_F_baload, mj_F_bastore, mj_F_dup, mj_F_getfield_i, mj_F_iadd, mj_F_iastore, mj_F_iconst_n, mj_F_ifCond_eq_off, mj_F_if_icmp_ne_off, mj_F_iload_n_k, mj_F_invokevirtual_i, mj_F_ireturn, mj_F_putfield_i, mj_c2, mj_kc, FT_X12, FT_X12_1, PT_X12, L_X12_shut, List.take_succ_cons, List.take_zero, List.drop_succ_cons, List.drop_zero, List.reverse_cons, List.reverse_nil, List.length_cons, List.length_nil, gS_M0, gMf_27, gS_M23, sS_Ma_23, gMf_24, gS_M21, sS_Ma_21, gMf_26, gMf_25, gS_M22, sS_Ma_22, gMf_0, sS_Mf_26, gMl, J_X12_shut]
  refine c_X12_isSchool_in (ok_imp (ok_bind hw) ?_)
  intro p hw
  simp only [Option.toList, List.nil_append, List.cons_append, Nat.reduceSub]
  refine mj_run hG.1 (fun pc => pc == 5) 4000 ?_
  simp only [mj_step, mj_W_s, mj_fin, List.getElem?_cons_zero, List.getElem?_cons_succ, mj_go, Nat.reduceAdd, Nat.reduceSub, Nat.reduceLT, Nat.reduceLeDiff, Nat.zero_add, Nat.reduceEqDiff, Nat.reduceBEq, ↓reduceIte, Bool.false_eq_true, List.append_nil, List.nil_append, List.cons_append, Option.toList, and_true, true_and, true_or, or_true, reduceCtorEq, List.map_nil, bI_eq0, bI_eq1, bool_ft, pk_us, vnar0, vnar1, Bool.or_false, Bool.or_true, Bool.false_or, Bool.true_or, mj_kne, eq_self, Int32.reduceLT, Int32.reduceLE, Int32.reduceAdd, Int32.reduceSub, Int32.reduceMul, not_true_eq_false, not_false_eq_true, false_implies, true_implies, D_X12_shut, mj_F_aload_n_k, mj_F_baload, mj_F_bastore, mj_F_dup, mj_F_getfield_i, mj_F_iadd, mj_F_iastore, mj_F_iconst_n, mj_F_ifCond_eq_off, mj_F_if_icmp_ne_off, mj_F_iload_n_k, mj_F_invokevirtual_i, mj_F_ireturn, mj_F_putfield_i, mj_c2, mj_kc, FT_X12, FT_X12_1, PT_X12, L_X12_shut, List.take_succ_cons, List.take_zero, List.drop_succ_cons, List.drop_zero, List.reverse_cons, List.reverse_nil, List.length_cons, List.length_nil, gS_M0, gMf_27, gS_M23, sS_Ma_23, gMf_24, gS_M21, sS_Ma_21, gMf_26, gMf_25, gS_M22, sS_Ma_22, gMf_0, sS_Mf_26, gMl, J_X12_shut]
  refine ⟨fun c => ?_, fun c => ?_⟩
  · replace hw := ok_t hw c
    exact (ok_some hw :)
  · replace hw := ok_f hw c
    refine ⟨(ok_rd hw).1, ?_⟩
    replace hw := (ok_rd hw).2
    refine ⟨fun c => ?_, fun c => ?_⟩
    · replace hw := ok_f hw c
      refine ⟨(ok_wr hw).1, ?_⟩
      replace hw := (ok_wr hw).2
      refine ⟨(ok_wr hw).1, ?_⟩
      replace hw := (ok_wr hw).2
      refine ⟨(ok_wr hw).1, ?_⟩
      replace hw := (ok_wr hw).2
      replace hw := ok_wI hw
      exact (ok_some hw :)
    · replace hw := ok_t hw c
      exact (ok_some hw :)

def c_X12_shut : mj_S := fun as h k => ∃ (v1 : Int32) (v2 : Int32) (s : St), as = [.ref 0, .int v1, .int v2] ∧ h = mkMs s ∧ ok (F_X12_shut v1 v2 s) (fun p => k (some (.int p.1)) (mkMs p.2))
theorem c_X12_shut_in {v1 : Int32} {v2 : Int32} {s : St} {k : Option Value → mj_H → Prop} (hw : ok (F_X12_shut v1 v2 s) (fun p => k (some (.int p.1)) (mkMs p.2))) : c_X12_shut [.ref 0, .int v1, .int v2] (mkMs s) k := ⟨v1, v2, s, rfl, rfl, hw⟩
theorem m_X12_shut (l : Launch) : mj_Met l yX12_shut cX12_shut 3 ((some FieldType.boolean)) 2 0 0 c_X12_shut := by
  refine mj_body2 false (TbX12 3 ((some FieldType.boolean)) ct_X12_shut) (by decide) rfl rfl (fun h => nomatch h) (tfX12 _ (List.forall_mem_cons.mpr ⟨cfX12_293 (m_X12_isSchool l) (by decide), fun _ h => nomatch h⟩)) ?_
  rintro as h k ⟨v1, v2, s, rfl, rfl, hw⟩
  exact ⟨rfl, fun G hG => g_X12_shut hG hw⟩
def F_X12_schooled (v1 : Int32) (v2 : Int32) (s : St) : Option (Int32) :=
  (F_X12_isSchool v1 s).bind fun r1 =>
  if r1 = 0 then
    some (-1)
  else
    if v2 = 0 then
      (rd s 1220 20 v1).bind fun x2 =>
      some x2
    else
    if v2 = 1 then
      (rd s 1227 20 v1).bind fun x3 =>
      if x3 = 0 then
        some 0
      else
        some 1
    else
    if v2 = 2 then
      (rd s 1216 20 v1).bind fun x4 =>
      some x4
    else
    if v2 = 3 then
      (rd s 1217 20 v1).bind fun x5 =>
      some x5
    else
    if v2 = 4 then
      (rd s 1218 20 v1).bind fun x6 =>
      some x6
    else
    if v2 = 5 then
      (rd s 1214 20 v1).bind fun x7 =>
      some x7
    else
    if v2 = 6 then
      (rd s 1215 20 v1).bind fun x8 =>
      some x8
    else
    if v2 = 7 then
      (rd s 1286 20 v1).bind fun x9 =>
      if x9 = (-1) then
        some 0
      else
        some 1
    else
    some (-1)
theorem J_X12_schooled : mj_t 5 5 = 10 ∧ mj_t 11 45 = 56 ∧ mj_t 11 52 = 63 ∧ mj_t 11 67 = 78 ∧ mj_t 11 74 = 85 ∧ mj_t 11 81 = 92 ∧ mj_t 11 88 = 99 ∧ mj_t 11 95 = 106 ∧ mj_t 11 102 = 113 ∧ mj_t 11 118 = 129 ∧ mj_t 69 7 = 76 ∧ mj_t 73 4 = 77 ∧ mj_t 120 7 = 127 ∧ mj_t 124 4 = 128 ∧ (0 ≤ ((5 : Nat) : Int) + 5) = True ∧ (0 ≤ ((11 : Nat) : Int) + 45) = True ∧ (0 ≤ ((11 : Nat) : Int) + 52) = True ∧ (0 ≤ ((11 : Nat) : Int) + 67) = True ∧ (0 ≤ ((11 : Nat) : Int) + 74) = True ∧ (0 ≤ ((11 : Nat) : Int) + 81) = True ∧ (0 ≤ ((11 : Nat) : Int) + 88) = True ∧ (0 ≤ ((11 : Nat) : Int) + 95) = True ∧ (0 ≤ ((11 : Nat) : Int) + 102) = True ∧ (0 ≤ ((11 : Nat) : Int) + 118) = True ∧ (0 ≤ ((69 : Nat) : Int) + 7) = True ∧ (0 ≤ ((73 : Nat) : Int) + 4) = True ∧ (0 ≤ ((120 : Nat) : Int) + 7) = True ∧ (0 ≤ ((124 : Nat) : Int) + 4) = True := by and_intros <;> first | rfl | exact eq_true (by decide)
def ct_X12_schooled : List (Nat × mj_Cs) := [(293, 0, 2, 12, 0, 0, c_X12_isSchool)]
theorem L_X12_schooled : mj_lk ct_X12_schooled 293 = some (0, 2, 12, 0, 0, c_X12_isSchool) := rfl
set_option maxHeartbeats 4000000 in
set_option maxRecDepth 20000 in
theorem g_X12_schooled {k : Option Value → mj_H → Prop} {G : mj_K} (hG : mj_cl2 cX12_schooled (TbX12 3 ((some FieldType.int)) ct_X12_schooled) k G) {v1 : Int32} {v2 : Int32} {s : St} (hw : ok (F_X12_schooled v1 v2 s) (fun p => k (some (.int p)) (mkMs s))) : G 0 [.ref 0, .int v1, .int v2] [] (mkMs s) 0 0 := by
  unfold F_X12_schooled at hw
  refine mj_run hG.1 (fun pc => pc == 5) 4000 ?_
  simp only [mj_step, mj_W_s, mj_fin, List.getElem?_cons_zero, List.getElem?_cons_succ, mj_go, Nat.reduceAdd, Nat.reduceSub, Nat.reduceLT, Nat.reduceLeDiff, Nat.zero_add, Nat.reduceEqDiff, Nat.reduceBEq, ↓reduceIte, Bool.false_eq_true, List.append_nil, List.nil_append, List.cons_append, Option.toList, and_true, true_and, true_or, or_true, reduceCtorEq, List.map_nil, bI_eq0, bI_eq1, bool_ft, pk_us, vnar0, vnar1, Bool.or_false, Bool.or_true, Bool.false_or, Bool.true_or, mj_kne, eq_self, Int32.reduceLT, Int32.reduceLE, Int32.reduceAdd, Int32.reduceSub, Int32.reduceMul, not_true_eq_false, not_false_eq_true, false_implies, true_implies, D_X12_schooled_0, D_X12_schooled_1, mj_F_aload_n_k, mj_F_baload, mj_F_getfield_i, mj_F_goto_off, mj_F_iaload, mj_F_iconst_n, mj_F_ifCond_eq_off, mj_F_ifCond_ne_off, mj_F_if_icmp_eq_off, mj_F_iload_n_k, mj_F_invokevirtual_i, mj_F_ireturn, mj_kc, FT_X12, FT_X12_1, L_X12_schooled, List.take_succ_cons, List.take_zero, List.drop_succ_cons, List.drop_zero, List.reverse_cons, List.reverse_nil, List.length_cons, List.length_nil, gS_M0, gMf_20, gS_M18, sS_Ma_18, gMf_27, gS_M23, sS_Ma_23, gMf_16, gS_M14, sS_Ma_14, gMf_17, gS_M15, sS_Ma_15, gMf_18, gS_M16, sS_Ma_16, gMf_14, gS_M12, sS_Ma_12, gMf_15, gS_M13, sS_Ma_13, gMf_86, gS_M68, sS_Ma_68, J_X12_schooled]
  refine c_X12_isSchool_in (ok_imp (ok_bind hw) ?_)
  intro p hw
  simp only [Option.toList, List.nil_append, List.cons_append, Nat.reduceSub]
  refine mj_run hG.1 (fun pc => pc == 5) 4000 ?_
  simp only [mj_step, mj_W_s, mj_fin, List.getElem?_cons_zero, List.getElem?_cons_succ, mj_go, Nat.reduceAdd, Nat.reduceSub, Nat.reduceLT, Nat.reduceLeDiff, Nat.zero_add, Nat.reduceEqDiff, Nat.reduceBEq, ↓reduceIte, Bool.false_eq_true, List.append_nil, List.nil_append, List.cons_append, Option.toList, and_true, true_and, true_or, or_true, reduceCtorEq, List.map_nil, bI_eq0, bI_eq1, bool_ft, pk_us, vnar0, vnar1, Bool.or_false, Bool.or_true, Bool.false_or, Bool.true_or, mj_kne, eq_self, Int32.reduceLT, Int32.reduceLE, Int32.reduceAdd, Int32.reduceSub, Int32.reduceMul, not_true_eq_false, not_false_eq_true, false_implies, true_implies, D_X12_schooled_0, D_X12_schooled_1, mj_F_aload_n_k, mj_F_baload, mj_F_getfield_i, mj_F_goto_off, mj_F_iaload, mj_F_iconst_n, mj_F_ifCond_eq_off, mj_F_ifCond_ne_off, mj_F_if_icmp_eq_off, mj_F_iload_n_k, mj_F_invokevirtual_i, mj_F_ireturn, mj_kc, FT_X12, FT_X12_1, L_X12_schooled, List.take_succ_cons, List.take_zero, List.drop_succ_cons, List.drop_zero, List.reverse_cons, List.reverse_nil, List.length_cons, List.length_nil, gS_M0, gMf_20, gS_M18, sS_Ma_18, gMf_27, gS_M23, sS_Ma_23, gMf_16, gS_M14, sS_Ma_14, gMf_17, gS_M15, sS_Ma_15, gMf_18, gS_M16, sS_Ma_16, gMf_14, gS_M12, sS_Ma_12, gMf_15, gS_M13, sS_Ma_13, gMf_86, gS_M68, sS_Ma_68, J_X12_schooled]
  refine ⟨fun c => ?_, fun c => ?_⟩
  · replace hw := ok_f hw c
    by_cases c10 : v2 = 0
    · replace hw := ok_t hw c10
      have c := c10
      refine mj_tsc 0 45 (by rw [show v2 = 0 from c]; decide) (by decide) rfl (by decide) ?_
      simp only [mj_step, mj_W_s, mj_fin, List.getElem?_cons_zero, List.getElem?_cons_succ, mj_go, Nat.reduceAdd, Nat.reduceSub, Nat.reduceLT, Nat.reduceLeDiff, Nat.zero_add, Nat.reduceEqDiff, Nat.reduceBEq, ↓reduceIte, Bool.false_eq_true, List.append_nil, List.nil_append, List.cons_append, Option.toList, and_true, true_and, true_or, or_true, reduceCtorEq, List.map_nil, bI_eq0, bI_eq1, bool_ft, pk_us, vnar0, vnar1, Bool.or_false, Bool.or_true, Bool.false_or, Bool.true_or, mj_kne, eq_self, Int32.reduceLT, Int32.reduceLE, Int32.reduceAdd, Int32.reduceSub, Int32.reduceMul, not_true_eq_false, not_false_eq_true, false_implies, true_implies, D_X12_schooled_0, D_X12_schooled_1, mj_F_aload_n_k, mj_F_baload, mj_F_getfield_i, mj_F_goto_off, mj_F_iaload, mj_F_iconst_n, mj_F_ifCond_eq_off, mj_F_ifCond_ne_off, mj_F_if_icmp_eq_off, mj_F_iload_n_k, mj_F_invokevirtual_i, mj_F_ireturn, mj_kc, FT_X12, FT_X12_1, L_X12_schooled, List.take_succ_cons, List.take_zero, List.drop_succ_cons, List.drop_zero, List.reverse_cons, List.reverse_nil, List.length_cons, List.length_nil, gS_M0, gMf_20, gS_M18, sS_Ma_18, gMf_27, gS_M23, sS_Ma_23, gMf_16, gS_M14, sS_Ma_14, gMf_17, gS_M15, sS_Ma_15, gMf_18, gS_M16, sS_Ma_16, gMf_14, gS_M12, sS_Ma_12, gMf_15, gS_M13, sS_Ma_13, gMf_86, gS_M68, sS_Ma_68, J_X12_schooled]
      refine ⟨(ok_rd hw).1, ?_⟩
      replace hw := (ok_rd hw).2
      exact (ok_some hw :)
    replace hw := ok_f hw c10
    by_cases c11 : v2 = 1
    · replace hw := ok_t hw c11
      have c := c11
      refine mj_tsc 1 52 (by rw [show v2 = 1 from c]; decide) (by decide) rfl (by decide) ?_
      simp only [mj_step, mj_W_s, mj_fin, List.getElem?_cons_zero, List.getElem?_cons_succ, mj_go, Nat.reduceAdd, Nat.reduceSub, Nat.reduceLT, Nat.reduceLeDiff, Nat.zero_add, Nat.reduceEqDiff, Nat.reduceBEq, ↓reduceIte, Bool.false_eq_true, List.append_nil, List.nil_append, List.cons_append, Option.toList, and_true, true_and, true_or, or_true, reduceCtorEq, List.map_nil, bI_eq0, bI_eq1, bool_ft, pk_us, vnar0, vnar1, Bool.or_false, Bool.or_true, Bool.false_or, Bool.true_or, mj_kne, eq_self, Int32.reduceLT, Int32.reduceLE, Int32.reduceAdd, Int32.reduceSub, Int32.reduceMul, not_true_eq_false, not_false_eq_true, false_implies, true_implies, D_X12_schooled_0, D_X12_schooled_1, mj_F_aload_n_k, mj_F_baload, mj_F_getfield_i, mj_F_goto_off, mj_F_iaload, mj_F_iconst_n, mj_F_ifCond_eq_off, mj_F_ifCond_ne_off, mj_F_if_icmp_eq_off, mj_F_iload_n_k, mj_F_invokevirtual_i, mj_F_ireturn, mj_kc, FT_X12, FT_X12_1, L_X12_schooled, List.take_succ_cons, List.take_zero, List.drop_succ_cons, List.drop_zero, List.reverse_cons, List.reverse_nil, List.length_cons, List.length_nil, gS_M0, gMf_20, gS_M18, sS_Ma_18, gMf_27, gS_M23, sS_Ma_23, gMf_16, gS_M14, sS_Ma_14, gMf_17, gS_M15, sS_Ma_15, gMf_18, gS_M16, sS_Ma_16, gMf_14, gS_M12, sS_Ma_12, gMf_15, gS_M13, sS_Ma_13, gMf_86, gS_M68, sS_Ma_68, J_X12_schooled]
      refine ⟨(ok_rd hw).1, ?_⟩
      replace hw := (ok_rd hw).2
      refine ⟨fun c => ?_, fun c => ?_⟩
      · replace hw := ok_t hw c
        exact (ok_some hw :)
      · replace hw := ok_f hw c
        exact (ok_some hw :)
    replace hw := ok_f hw c11
    by_cases c12 : v2 = 2
    · replace hw := ok_t hw c12
      have c := c12
      refine mj_tsc 2 67 (by rw [show v2 = 2 from c]; decide) (by decide) rfl (by decide) ?_
      simp only [mj_step, mj_W_s, mj_fin, List.getElem?_cons_zero, List.getElem?_cons_succ, mj_go, Nat.reduceAdd, Nat.reduceSub, Nat.reduceLT, Nat.reduceLeDiff, Nat.zero_add, Nat.reduceEqDiff, Nat.reduceBEq, ↓reduceIte, Bool.false_eq_true, List.append_nil, List.nil_append, List.cons_append, Option.toList, and_true, true_and, true_or, or_true, reduceCtorEq, List.map_nil, bI_eq0, bI_eq1, bool_ft, pk_us, vnar0, vnar1, Bool.or_false, Bool.or_true, Bool.false_or, Bool.true_or, mj_kne, eq_self, Int32.reduceLT, Int32.reduceLE, Int32.reduceAdd, Int32.reduceSub, Int32.reduceMul, not_true_eq_false, not_false_eq_true, false_implies, true_implies, D_X12_schooled_0, D_X12_schooled_1, mj_F_aload_n_k, mj_F_baload, mj_F_getfield_i, mj_F_goto_off, mj_F_iaload, mj_F_iconst_n, mj_F_ifCond_eq_off, mj_F_ifCond_ne_off, mj_F_if_icmp_eq_off, mj_F_iload_n_k, mj_F_invokevirtual_i, mj_F_ireturn, mj_kc, FT_X12, FT_X12_1, L_X12_schooled, List.take_succ_cons, List.take_zero, List.drop_succ_cons, List.drop_zero, List.reverse_cons, List.reverse_nil, List.length_cons, List.length_nil, gS_M0, gMf_20, gS_M18, sS_Ma_18, gMf_27, gS_M23, sS_Ma_23, gMf_16, gS_M14, sS_Ma_14, gMf_17, gS_M15, sS_Ma_15, gMf_18, gS_M16, sS_Ma_16, gMf_14, gS_M12, sS_Ma_12, gMf_15, gS_M13, sS_Ma_13, gMf_86, gS_M68, sS_Ma_68, J_X12_schooled]
      refine ⟨(ok_rd hw).1, ?_⟩
      replace hw := (ok_rd hw).2
      exact (ok_some hw :)
    replace hw := ok_f hw c12
    by_cases c13 : v2 = 3
    · replace hw := ok_t hw c13
      have c := c13
      refine mj_tsc 3 74 (by rw [show v2 = 3 from c]; decide) (by decide) rfl (by decide) ?_
      simp only [mj_step, mj_W_s, mj_fin, List.getElem?_cons_zero, List.getElem?_cons_succ, mj_go, Nat.reduceAdd, Nat.reduceSub, Nat.reduceLT, Nat.reduceLeDiff, Nat.zero_add, Nat.reduceEqDiff, Nat.reduceBEq, ↓reduceIte, Bool.false_eq_true, List.append_nil, List.nil_append, List.cons_append, Option.toList, and_true, true_and, true_or, or_true, reduceCtorEq, List.map_nil, bI_eq0, bI_eq1, bool_ft, pk_us, vnar0, vnar1, Bool.or_false, Bool.or_true, Bool.false_or, Bool.true_or, mj_kne, eq_self, Int32.reduceLT, Int32.reduceLE, Int32.reduceAdd, Int32.reduceSub, Int32.reduceMul, not_true_eq_false, not_false_eq_true, false_implies, true_implies, D_X12_schooled_0, D_X12_schooled_1, mj_F_aload_n_k, mj_F_baload, mj_F_getfield_i, mj_F_goto_off, mj_F_iaload, mj_F_iconst_n, mj_F_ifCond_eq_off, mj_F_ifCond_ne_off, mj_F_if_icmp_eq_off, mj_F_iload_n_k, mj_F_invokevirtual_i, mj_F_ireturn, mj_kc, FT_X12, FT_X12_1, L_X12_schooled, List.take_succ_cons, List.take_zero, List.drop_succ_cons, List.drop_zero, List.reverse_cons, List.reverse_nil, List.length_cons, List.length_nil, gS_M0, gMf_20, gS_M18, sS_Ma_18, gMf_27, gS_M23, sS_Ma_23, gMf_16, gS_M14, sS_Ma_14, gMf_17, gS_M15, sS_Ma_15, gMf_18, gS_M16, sS_Ma_16, gMf_14, gS_M12, sS_Ma_12, gMf_15, gS_M13, sS_Ma_13, gMf_86, gS_M68, sS_Ma_68, J_X12_schooled]
      refine ⟨(ok_rd hw).1, ?_⟩
      replace hw := (ok_rd hw).2
      exact (ok_some hw :)
    replace hw := ok_f hw c13
    by_cases c14 : v2 = 4
    · replace hw := ok_t hw c14
      have c := c14
      refine mj_tsc 4 81 (by rw [show v2 = 4 from c]; decide) (by decide) rfl (by decide) ?_
      simp only [mj_step, mj_W_s, mj_fin, List.getElem?_cons_zero, List.getElem?_cons_succ, mj_go, Nat.reduceAdd, Nat.reduceSub, Nat.reduceLT, Nat.reduceLeDiff, Nat.zero_add, Nat.reduceEqDiff, Nat.reduceBEq, ↓reduceIte, Bool.false_eq_true, List.append_nil, List.nil_append, List.cons_append, Option.toList, and_true, true_and, true_or, or_true, reduceCtorEq, List.map_nil, bI_eq0, bI_eq1, bool_ft, pk_us, vnar0, vnar1, Bool.or_false, Bool.or_true, Bool.false_or, Bool.true_or, mj_kne, eq_self, Int32.reduceLT, Int32.reduceLE, Int32.reduceAdd, Int32.reduceSub, Int32.reduceMul, not_true_eq_false, not_false_eq_true, false_implies, true_implies, D_X12_schooled_0, D_X12_schooled_1, mj_F_aload_n_k, mj_F_baload, mj_F_getfield_i, mj_F_goto_off, mj_F_iaload, mj_F_iconst_n, mj_F_ifCond_eq_off, mj_F_ifCond_ne_off, mj_F_if_icmp_eq_off, mj_F_iload_n_k, mj_F_invokevirtual_i, mj_F_ireturn, mj_kc, FT_X12, FT_X12_1, L_X12_schooled, List.take_succ_cons, List.take_zero, List.drop_succ_cons, List.drop_zero, List.reverse_cons, List.reverse_nil, List.length_cons, List.length_nil, gS_M0, gMf_20, gS_M18, sS_Ma_18, gMf_27, gS_M23, sS_Ma_23, gMf_16, gS_M14, sS_Ma_14, gMf_17, gS_M15, sS_Ma_15, gMf_18, gS_M16, sS_Ma_16, gMf_14, gS_M12, sS_Ma_12, gMf_15, gS_M13, sS_Ma_13, gMf_86, gS_M68, sS_Ma_68, J_X12_schooled]
      refine ⟨(ok_rd hw).1, ?_⟩
      replace hw := (ok_rd hw).2
      exact (ok_some hw :)
    replace hw := ok_f hw c14
    by_cases c15 : v2 = 5
    · replace hw := ok_t hw c15
      have c := c15
      refine mj_tsc 5 88 (by rw [show v2 = 5 from c]; decide) (by decide) rfl (by decide) ?_
      simp only [mj_step, mj_W_s, mj_fin, List.getElem?_cons_zero, List.getElem?_cons_succ, mj_go, Nat.reduceAdd, Nat.reduceSub, Nat.reduceLT, Nat.reduceLeDiff, Nat.zero_add, Nat.reduceEqDiff, Nat.reduceBEq, ↓reduceIte, Bool.false_eq_true, List.append_nil, List.nil_append, List.cons_append, Option.toList, and_true, true_and, true_or, or_true, reduceCtorEq, List.map_nil, bI_eq0, bI_eq1, bool_ft, pk_us, vnar0, vnar1, Bool.or_false, Bool.or_true, Bool.false_or, Bool.true_or, mj_kne, eq_self, Int32.reduceLT, Int32.reduceLE, Int32.reduceAdd, Int32.reduceSub, Int32.reduceMul, not_true_eq_false, not_false_eq_true, false_implies, true_implies, D_X12_schooled_0, D_X12_schooled_1, mj_F_aload_n_k, mj_F_baload, mj_F_getfield_i, mj_F_goto_off, mj_F_iaload, mj_F_iconst_n, mj_F_ifCond_eq_off, mj_F_ifCond_ne_off, mj_F_if_icmp_eq_off, mj_F_iload_n_k, mj_F_invokevirtual_i, mj_F_ireturn, mj_kc, FT_X12, FT_X12_1, L_X12_schooled, List.take_succ_cons, List.take_zero, List.drop_succ_cons, List.drop_zero, List.reverse_cons, List.reverse_nil, List.length_cons, List.length_nil, gS_M0, gMf_20, gS_M18, sS_Ma_18, gMf_27, gS_M23, sS_Ma_23, gMf_16, gS_M14, sS_Ma_14, gMf_17, gS_M15, sS_Ma_15, gMf_18, gS_M16, sS_Ma_16, gMf_14, gS_M12, sS_Ma_12, gMf_15, gS_M13, sS_Ma_13, gMf_86, gS_M68, sS_Ma_68, J_X12_schooled]
      refine ⟨(ok_rd hw).1, ?_⟩
      replace hw := (ok_rd hw).2
      exact (ok_some hw :)
    replace hw := ok_f hw c15
    by_cases c16 : v2 = 6
    · replace hw := ok_t hw c16
      have c := c16
      refine mj_tsc 6 95 (by rw [show v2 = 6 from c]; decide) (by decide) rfl (by decide) ?_
      simp only [mj_step, mj_W_s, mj_fin, List.getElem?_cons_zero, List.getElem?_cons_succ, mj_go, Nat.reduceAdd, Nat.reduceSub, Nat.reduceLT, Nat.reduceLeDiff, Nat.zero_add, Nat.reduceEqDiff, Nat.reduceBEq, ↓reduceIte, Bool.false_eq_true, List.append_nil, List.nil_append, List.cons_append, Option.toList, and_true, true_and, true_or, or_true, reduceCtorEq, List.map_nil, bI_eq0, bI_eq1, bool_ft, pk_us, vnar0, vnar1, Bool.or_false, Bool.or_true, Bool.false_or, Bool.true_or, mj_kne, eq_self, Int32.reduceLT, Int32.reduceLE, Int32.reduceAdd, Int32.reduceSub, Int32.reduceMul, not_true_eq_false, not_false_eq_true, false_implies, true_implies, D_X12_schooled_0, D_X12_schooled_1, mj_F_aload_n_k, mj_F_baload, mj_F_getfield_i, mj_F_goto_off, mj_F_iaload, mj_F_iconst_n, mj_F_ifCond_eq_off, mj_F_ifCond_ne_off, mj_F_if_icmp_eq_off, mj_F_iload_n_k, mj_F_invokevirtual_i, mj_F_ireturn, mj_kc, FT_X12, FT_X12_1, L_X12_schooled, List.take_succ_cons, List.take_zero, List.drop_succ_cons, List.drop_zero, List.reverse_cons, List.reverse_nil, List.length_cons, List.length_nil, gS_M0, gMf_20, gS_M18, sS_Ma_18, gMf_27, gS_M23, sS_Ma_23, gMf_16, gS_M14, sS_Ma_14, gMf_17, gS_M15, sS_Ma_15, gMf_18, gS_M16, sS_Ma_16, gMf_14, gS_M12, sS_Ma_12, gMf_15, gS_M13, sS_Ma_13, gMf_86, gS_M68, sS_Ma_68, J_X12_schooled]
      refine ⟨(ok_rd hw).1, ?_⟩
      replace hw := (ok_rd hw).2
      exact (ok_some hw :)
    replace hw := ok_f hw c16
    by_cases c17 : v2 = 7
    · replace hw := ok_t hw c17
      have c := c17
      refine mj_tsc 7 102 (by rw [show v2 = 7 from c]; decide) (by decide) rfl (by decide) ?_
      simp only [mj_step, mj_W_s, mj_fin, List.getElem?_cons_zero, List.getElem?_cons_succ, mj_go, Nat.reduceAdd, Nat.reduceSub, Nat.reduceLT, Nat.reduceLeDiff, Nat.zero_add, Nat.reduceEqDiff, Nat.reduceBEq, ↓reduceIte, Bool.false_eq_true, List.append_nil, List.nil_append, List.cons_append, Option.toList, and_true, true_and, true_or, or_true, reduceCtorEq, List.map_nil, bI_eq0, bI_eq1, bool_ft, pk_us, vnar0, vnar1, Bool.or_false, Bool.or_true, Bool.false_or, Bool.true_or, mj_kne, eq_self, Int32.reduceLT, Int32.reduceLE, Int32.reduceAdd, Int32.reduceSub, Int32.reduceMul, not_true_eq_false, not_false_eq_true, false_implies, true_implies, D_X12_schooled_0, D_X12_schooled_1, mj_F_aload_n_k, mj_F_baload, mj_F_getfield_i, mj_F_goto_off, mj_F_iaload, mj_F_iconst_n, mj_F_ifCond_eq_off, mj_F_ifCond_ne_off, mj_F_if_icmp_eq_off, mj_F_iload_n_k, mj_F_invokevirtual_i, mj_F_ireturn, mj_kc, FT_X12, FT_X12_1, L_X12_schooled, List.take_succ_cons, List.take_zero, List.drop_succ_cons, List.drop_zero, List.reverse_cons, List.reverse_nil, List.length_cons, List.length_nil, gS_M0, gMf_20, gS_M18, sS_Ma_18, gMf_27, gS_M23, sS_Ma_23, gMf_16, gS_M14, sS_Ma_14, gMf_17, gS_M15, sS_Ma_15, gMf_18, gS_M16, sS_Ma_16, gMf_14, gS_M12, sS_Ma_12, gMf_15, gS_M13, sS_Ma_13, gMf_86, gS_M68, sS_Ma_68, J_X12_schooled]
      refine ⟨(ok_rd hw).1, ?_⟩
      replace hw := (ok_rd hw).2
      refine ⟨fun c => ?_, fun c => ?_⟩
      · replace hw := ok_t hw c
        exact (ok_some hw :)
      · replace hw := ok_f hw c
        exact (ok_some hw :)
    replace hw := ok_f hw c17
    refine mj_tsd (mj_tsr [0, 1, 2, 3, 4, 5, 6, 7] (List.forall_mem_cons.mpr ⟨mj_nt c10 rfl, List.forall_mem_cons.mpr ⟨mj_nt c11 rfl, List.forall_mem_cons.mpr ⟨mj_nt c12 rfl, List.forall_mem_cons.mpr ⟨mj_nt c13 rfl, List.forall_mem_cons.mpr ⟨mj_nt c14 rfl, List.forall_mem_cons.mpr ⟨mj_nt c15 rfl, List.forall_mem_cons.mpr ⟨mj_nt c16 rfl, List.forall_mem_cons.mpr ⟨mj_nt c17 rfl, fun _ h => (nomatch h)⟩⟩⟩⟩⟩⟩⟩⟩) (by decide)) (by decide) ?_
    simp only [mj_step, mj_W_s, mj_fin, List.getElem?_cons_zero, List.getElem?_cons_succ, mj_go, Nat.reduceAdd, Nat.reduceSub, Nat.reduceLT, Nat.reduceLeDiff, Nat.zero_add, Nat.reduceEqDiff, Nat.reduceBEq, ↓reduceIte, Bool.false_eq_true, List.append_nil, List.nil_append, List.cons_append, Option.toList, and_true, true_and, true_or, or_true, reduceCtorEq, List.map_nil, bI_eq0, bI_eq1, bool_ft, pk_us, vnar0, vnar1, Bool.or_false, Bool.or_true, Bool.false_or, Bool.true_or, mj_kne, eq_self, Int32.reduceLT, Int32.reduceLE, Int32.reduceAdd, Int32.reduceSub, Int32.reduceMul, not_true_eq_false, not_false_eq_true, false_implies, true_implies, D_X12_schooled_0, D_X12_schooled_1, mj_F_aload_n_k, mj_F_baload, mj_F_getfield_i, mj_F_goto_off, mj_F_iaload, mj_F_iconst_n, mj_F_ifCond_eq_off, mj_F_ifCond_ne_off, mj_F_if_icmp_eq_off, mj_F_iload_n_k, mj_F_invokevirtual_i, mj_F_ireturn, mj_kc, FT_X12, FT_X12_1, L_X12_schooled, List.take_succ_cons, List.take_zero, List.drop_succ_cons, List.drop_zero, List.reverse_cons, List.reverse_nil, List.length_cons, List.length_nil, gS_M0, gMf_20, gS_M18, sS_Ma_18, gMf_27, gS_M23, sS_Ma_23, gMf_16, gS_M14, sS_Ma_14, gMf_17, gS_M15, sS_Ma_15, gMf_18, gS_M16, sS_Ma_16, gMf_14, gS_M12, sS_Ma_12, gMf_15, gS_M13, sS_Ma_13, gMf_86, gS_M68, sS_Ma_68, J_X12_schooled]
    exact (ok_some hw :)
  · replace hw := ok_t hw c
    exact (ok_some hw :)

def c_X12_schooled : mj_S := fun as h k => ∃ (v1 : Int32) (v2 : Int32) (s : St), as = [.ref 0, .int v1, .int v2] ∧ h = mkMs s ∧ ok (F_X12_schooled v1 v2 s) (fun p => k (some (.int p)) (mkMs s))
theorem c_X12_schooled_in {v1 : Int32} {v2 : Int32} {s : St} {k : Option Value → mj_H → Prop} (hw : ok (F_X12_schooled v1 v2 s) (fun p => k (some (.int p)) (mkMs s))) : c_X12_schooled [.ref 0, .int v1, .int v2] (mkMs s) k := ⟨v1, v2, s, rfl, rfl, hw⟩
theorem m_X12_schooled (l : Launch) : mj_Met l yX12_schooled cX12_schooled 3 ((some FieldType.int)) 2 0 0 c_X12_schooled := by
  refine mj_body2 false (TbX12 3 ((some FieldType.int)) ct_X12_schooled) (by decide) rfl rfl (fun h => nomatch h) (tfX12 _ (List.forall_mem_cons.mpr ⟨cfX12_293 (m_X12_isSchool l) (by decide), fun _ h => nomatch h⟩)) ?_
  rintro as h k ⟨v1, v2, s, rfl, rfl, hw⟩
  exact ⟨rfl, fun G hG => g_X12_schooled hG hw⟩
def F_X12_byteOf (v0 : Int32) (v1 : Int32) (v2 : Int32) (v3 : Int32) (v4 : Int32) (v5 : Int32) : Option (Int32) :=
  if 4 ≤ v5 then
    if 8 ≤ v5 then
      if 12 ≤ v5 then
        if 16 ≤ v5 then
          some ((v4 >>> ((24 - (8 * (v5 - v5 / 4 * 4))) &&& 31)) &&& 255)
        else
          some ((v3 >>> ((24 - (8 * (v5 - v5 / 4 * 4))) &&& 31)) &&& 255)
      else
        some ((v2 >>> ((24 - (8 * (v5 - v5 / 4 * 4))) &&& 31)) &&& 255)
    else
      some ((v1 >>> ((24 - (8 * (v5 - v5 / 4 * 4))) &&& 31)) &&& 255)
  else
    some ((v0 >>> ((24 - (8 * (v5 - v5 / 4 * 4))) &&& 31)) &&& 255)
theorem J_X12_byteOf : mj_t 3 7 = 10 ∧ mj_t 7 38 = 45 ∧ mj_t 14 7 = 21 ∧ mj_t 18 27 = 45 ∧ mj_t 25 7 = 32 ∧ mj_t 29 16 = 45 ∧ mj_t 36 7 = 43 ∧ mj_t 40 5 = 45 ∧ (0 ≤ ((3 : Nat) : Int) + 7) = True ∧ (0 ≤ ((7 : Nat) : Int) + 38) = True ∧ (0 ≤ ((14 : Nat) : Int) + 7) = True ∧ (0 ≤ ((18 : Nat) : Int) + 27) = True ∧ (0 ≤ ((25 : Nat) : Int) + 7) = True ∧ (0 ≤ ((29 : Nat) : Int) + 16) = True ∧ (0 ≤ ((36 : Nat) : Int) + 7) = True ∧ (0 ≤ ((40 : Nat) : Int) + 5) = True := by and_intros <;> first | rfl | exact eq_true (by decide)
set_option maxHeartbeats 4000000 in
set_option maxRecDepth 20000 in
theorem g_X12_byteOf {k : Option Value → mj_H → Prop} {G : mj_K} (hG : mj_cl2 cX12_byteOf (TbX12 7 ((some FieldType.int)) []) k G) {h : mj_H} {v0 : Int32} {v1 : Int32} {v2 : Int32} {v3 : Int32} {v4 : Int32} {v5 : Int32} (hw : ok (F_X12_byteOf v0 v1 v2 v3 v4 v5) (fun p => k (some (.int p)) h)) : G 0 [.int v0, .int v1, .int v2, .int v3, .int v4, .int v5] [] h 0 0 := by
  unfold F_X12_byteOf at hw
  refine mj_run hG.1 (fun _ => false) 4000 ?_
  simp only [mj_step, mj_W_s, mj_fin, List.getElem?_cons_zero, List.getElem?_cons_succ, mj_go, Nat.reduceAdd, Nat.reduceSub, Nat.reduceLT, Nat.reduceLeDiff, Nat.zero_add, Nat.reduceEqDiff, Nat.reduceBEq, ↓reduceIte, Bool.false_eq_true, List.append_nil, List.nil_append, List.cons_append, Option.toList, and_true, true_and, true_or, or_true, reduceCtorEq, List.map_nil, bI_eq0, bI_eq1, bool_ft, pk_us, vnar0, vnar1, Bool.or_false, Bool.or_true, Bool.false_or, Bool.true_or, mj_kne, eq_self, Int32.reduceLT, Int32.reduceLE, Int32.reduceAdd, Int32.reduceSub, Int32.reduceMul, not_true_eq_false, not_false_eq_true, false_implies, true_implies, D_X12_byteOf, mj_F_bipush_n, mj_F_goto_off, mj_F_iand, mj_F_iconst_n, mj_F_if_icmp_ge_off, mj_F_iload_k, mj_F_iload_n_k, mj_F_imul, mj_F_irem, mj_F_ireturn, mj_F_ishr, mj_F_istore_k, mj_F_isub, mj_F_sipush_n, mj_set, mj_set0, mj_unk, mj_c2, mj_kc, J_X12_byteOf]
  refine ⟨fun c => ?_, fun c => ?_⟩
  · replace hw := ok_t hw c
    refine ⟨fun c => ?_, fun c => ?_⟩
    · replace hw := ok_t hw c
      refine ⟨fun c => ?_, fun c => ?_⟩
      · replace hw := ok_t hw c
        refine ⟨fun c => ?_, fun c => ?_⟩
        · replace hw := ok_t hw c
          exact (ok_some hw :)
        · replace hw := ok_f hw c
          exact (ok_some hw :)
      · replace hw := ok_f hw c
        exact (ok_some hw :)
    · replace hw := ok_f hw c
      exact (ok_some hw :)
  · replace hw := ok_f hw c
    exact (ok_some hw :)

def c_X12_byteOf : mj_S := fun as h k => ∃ (v0 : Int32) (v1 : Int32) (v2 : Int32) (v3 : Int32) (v4 : Int32) (v5 : Int32), as = [.int v0, .int v1, .int v2, .int v3, .int v4, .int v5] ∧ ok (F_X12_byteOf v0 v1 v2 v3 v4 v5) (fun p => k (some (.int p)) h)
theorem c_X12_byteOf_in {v0 : Int32} {v1 : Int32} {v2 : Int32} {v3 : Int32} {v4 : Int32} {v5 : Int32} {h : mj_H} {k : Option Value → mj_H → Prop} (hw : ok (F_X12_byteOf v0 v1 v2 v3 v4 v5) (fun p => k (some (.int p)) h)) : c_X12_byteOf [.int v0, .int v1, .int v2, .int v3, .int v4, .int v5] h k := ⟨v0, v1, v2, v3, v4, v5, rfl, hw⟩
theorem m_X12_byteOf (l : Launch) : mj_Met l yX12_byteOf cX12_byteOf 7 ((some FieldType.int)) 0 0 0 c_X12_byteOf := by
  refine mj_body2 false (TbX12 7 ((some FieldType.int)) []) (by decide) rfl rfl (fun h => nomatch h) (tfX12 _ (fun _ h => nomatch h)) ?_
  rintro as h k ⟨v0, v1, v2, v3, v4, v5, rfl, hw⟩
  exact ⟨rfl, fun G hG => g_X12_byteOf hG hw⟩
def B_X12_feed_6 (v1 : Int32) (v2 : Int32) (v3 : Int32) (v4 : Int32) (v5 : Int32) (s : St) : Int32 × Int32 → Option ((Int32 × Int32) ⊕ ((Int32)))
  | (v6, v7) =>
  if 20 ≤ v7 then
    some (.inr v6)
  else
    (F_X12_byteOf v1 v2 v3 v4 v5 v7).bind fun r1 =>
    if r1 = 0 then
      some (.inl ((v6 + 0), (v7 + 1)))
    else
      some (.inl ((v6 + 1), (v7 + 1)))
def B_X12_feed_62 (v1 : Int32) (v2 : Int32) (v3 : Int32) (v4 : Int32) (v5 : Int32) : Int32 × St → Option ((Int32 × St) ⊕ ((St)))
  | (v7, s) =>
  if 20 ≤ v7 then
    some (.inr s)
  else
    (F_X12_byteOf v1 v2 v3 v4 v5 v7).bind fun r2 =>
    if r2 = 0 then
      some (.inl ((v7 + 1), s))
    else
      (wr s 1228 160 (s.1 1235) r2).bind fun s3 =>
      (wI s3 1235 ((s3.1 1235) + 1)).bind fun s4 =>
      some (.inl ((v7 + 1), s4))
def F_X12_feed_115 (s : St) : Option (Int32 × St) :=
  some ((s.1 1235), s)
def F_X12_feed_62 (v1 : Int32) (v2 : Int32) (v3 : Int32) (v4 : Int32) (v5 : Int32) (v7 : Int32) (s : St) : Option (Int32 × St) :=
  (lp (B_X12_feed_62 v1 v2 v3 v4 v5) FU (v7, s)).bind (fun y => F_X12_feed_115 y)
def F_X12_feed_44 (v1 : Int32) (v2 : Int32) (v3 : Int32) (v4 : Int32) (v5 : Int32) (v6 : Int32) (s : St) : Option (Int32 × St) :=
  if ((s.1 1235) + v6) ≤ 160 then
    F_X12_feed_62 v1 v2 v3 v4 v5 0 s
  else
    some ((-1), s)
def F_X12_feed_6 (v1 : Int32) (v2 : Int32) (v3 : Int32) (v4 : Int32) (v5 : Int32) (v6 : Int32) (v7 : Int32) (s : St) : Option (Int32 × St) :=
  (lp (B_X12_feed_6 v1 v2 v3 v4 v5 s) FU (v6, v7)).bind (fun y => F_X12_feed_44 v1 v2 v3 v4 v5 y s)
def F_X12_feed (v1 : Int32) (v2 : Int32) (v3 : Int32) (v4 : Int32) (v5 : Int32) (s : St) : Option (Int32 × St) :=
  F_X12_feed_6 v1 v2 v3 v4 v5 0 0 s
theorem J_X12_feed : mj_t 10 34 = 44 ∧ mj_t 27 7 = 34 ∧ mj_t 31 4 = 35 ∧ mj_t 41 (-35) = 6 ∧ mj_t 54 5 = 59 ∧ mj_t 66 49 = 115 ∧ mj_t 85 24 = 109 ∧ mj_t 112 (-50) = 62 ∧ (0 ≤ ((10 : Nat) : Int) + 34) = True ∧ (0 ≤ ((27 : Nat) : Int) + 7) = True ∧ (0 ≤ ((31 : Nat) : Int) + 4) = True ∧ (0 ≤ ((41 : Nat) : Int) + (-35)) = True ∧ (0 ≤ ((54 : Nat) : Int) + 5) = True ∧ (0 ≤ ((66 : Nat) : Int) + 49) = True ∧ (0 ≤ ((85 : Nat) : Int) + 24) = True ∧ (0 ≤ ((112 : Nat) : Int) + (-50)) = True := by and_intros <;> first | rfl | exact eq_true (by decide)
def ct_X12_feed : List (Nat × mj_Cs) := [(299, 2, 6, 12, 0, 0, c_X12_byteOf)]
theorem L_X12_feed : mj_lk ct_X12_feed 299 = some (2, 6, 12, 0, 0, c_X12_byteOf) := rfl
set_option maxHeartbeats 4000000 in
set_option maxRecDepth 20000 in
theorem b_X12_feed_6 {k : Option Value → mj_H → Prop} {G : mj_K} (hG : mj_cl2 cX12_feed (TbX12 9 ((some FieldType.int)) ct_X12_feed) k G) {v1 : Int32} {v2 : Int32} {v3 : Int32} {v4 : Int32} {v5 : Int32} {s : St} {P : Int32 × Int32 → Prop} {K : (Int32) → Prop} (hP : ∀ x, P x → G 6 [.ref 0, .int v1, .int v2, .int v3, .int v4, .int v5, .int x.1, .int x.2] [] (mkMs s) 0 0) (hK0 : ∀ y, K y → G 44 [.ref 0, .int v1, .int v2, .int v3, .int v4, .int v5, .int y] [] (mkMs s) 0 0) {v6 : Int32} {v7 : Int32} (hw : ok (B_X12_feed_6 v1 v2 v3 v4 v5 s (v6, v7)) (Sum.elim P K)) : G 6 [.ref 0, .int v1, .int v2, .int v3, .int v4, .int v5, .int v6, .int v7] [] (mkMs s) 0 0 := by
  unfold B_X12_feed_6 at hw
  refine mj_run hG.1 (fun pc => pc == 6 || pc == 27 || pc == 44 || pc == 62 || pc == 81 || pc == 115) 4000 ?_
  simp only [mj_step, mj_W_s, mj_fin, List.getElem?_cons_zero, List.getElem?_cons_succ, mj_go, Nat.reduceAdd, Nat.reduceSub, Nat.reduceLT, Nat.reduceLeDiff, Nat.zero_add, Nat.reduceEqDiff, Nat.reduceBEq, ↓reduceIte, Bool.false_eq_true, List.append_nil, List.nil_append, List.cons_append, Option.toList, and_true, true_and, true_or, or_true, reduceCtorEq, List.map_nil, bI_eq0, bI_eq1, bool_ft, pk_us, vnar0, vnar1, Bool.or_false, Bool.or_true, Bool.false_or, Bool.true_or, mj_kne, eq_self, Int32.reduceLT, Int32.reduceLE, Int32.reduceAdd, Int32.reduceSub, Int32.reduceMul, not_true_eq_false, not_false_eq_true, false_implies, true_implies, D_X12_feed_0, D_X12_feed_1, mj_F_aload_n_k, mj_F_bipush_n, mj_F_dup, mj_F_getfield_i, mj_F_goto_off, mj_F_iadd, mj_F_iastore, mj_F_iconst_n, mj_F_ifCond_eq_off, mj_F_if_icmp_ge_off, mj_F_if_icmp_le_off, mj_F_iinc_k_n, mj_F_iload_k, mj_F_iload_n_k, mj_F_invokestatic_i, mj_F_ireturn, mj_F_istore_k, mj_F_putfield_i, mj_F_sipush_n, mj_set, mj_set0, mj_unk, mj_c2, mj_kc, FT_X12, FT_X12_1, PT_X12, L_X12_feed, List.take_succ_cons, List.take_zero, List.drop_succ_cons, List.drop_zero, List.reverse_cons, List.reverse_nil, List.length_cons, List.length_nil, gS_M0, gMf_35, gMf_28, gS_M24, sS_Ma_24, sS_Mf_35, gMl, J_X12_feed]
  refine ⟨fun c => ?_, fun c => ?_⟩
  · replace hw := ok_t hw c
    exact hG.2 _ _ _ _ _ _ _ _ _ (by refine ⟨Or.inr rfl, ?_⟩; refine ⟨Or.inr rfl, ?_⟩; refine ⟨Or.inr rfl, ?_⟩; refine ⟨Or.inr rfl, ?_⟩; refine ⟨Or.inr rfl, ?_⟩; refine ⟨Or.inr rfl, ?_⟩; refine ⟨Or.inr rfl, ?_⟩; exact trivial) (Nat.zero_le _) (Nat.zero_le _) (hK0 _ (ok_some hw :) :)
  · replace hw := ok_f hw c
    refine c_X12_byteOf_in (ok_imp (ok_bind hw) ?_)
    intro p hw
    simp only [Option.toList, List.nil_append, List.cons_append, Nat.reduceSub]
    refine mj_run hG.1 (fun pc => pc == 6 || pc == 27 || pc == 44 || pc == 62 || pc == 81 || pc == 115) 4000 ?_
    simp only [mj_step, mj_W_s, mj_fin, List.getElem?_cons_zero, List.getElem?_cons_succ, mj_go, Nat.reduceAdd, Nat.reduceSub, Nat.reduceLT, Nat.reduceLeDiff, Nat.zero_add, Nat.reduceEqDiff, Nat.reduceBEq, ↓reduceIte, Bool.false_eq_true, List.append_nil, List.nil_append, List.cons_append, Option.toList, and_true, true_and, true_or, or_true, reduceCtorEq, List.map_nil, bI_eq0, bI_eq1, bool_ft, pk_us, vnar0, vnar1, Bool.or_false, Bool.or_true, Bool.false_or, Bool.true_or, mj_kne, eq_self, Int32.reduceLT, Int32.reduceLE, Int32.reduceAdd, Int32.reduceSub, Int32.reduceMul, not_true_eq_false, not_false_eq_true, false_implies, true_implies, D_X12_feed_0, D_X12_feed_1, mj_F_aload_n_k, mj_F_bipush_n, mj_F_dup, mj_F_getfield_i, mj_F_goto_off, mj_F_iadd, mj_F_iastore, mj_F_iconst_n, mj_F_ifCond_eq_off, mj_F_if_icmp_ge_off, mj_F_if_icmp_le_off, mj_F_iinc_k_n, mj_F_iload_k, mj_F_iload_n_k, mj_F_invokestatic_i, mj_F_ireturn, mj_F_istore_k, mj_F_putfield_i, mj_F_sipush_n, mj_set, mj_set0, mj_unk, mj_c2, mj_kc, FT_X12, FT_X12_1, PT_X12, L_X12_feed, List.take_succ_cons, List.take_zero, List.drop_succ_cons, List.drop_zero, List.reverse_cons, List.reverse_nil, List.length_cons, List.length_nil, gS_M0, gMf_35, gMf_28, gS_M24, sS_Ma_24, sS_Mf_35, gMl, J_X12_feed]
    refine ⟨fun c => ?_, fun c => ?_⟩
    · replace hw := ok_t hw c
      exact hG.2 _ _ _ _ _ _ _ _ _ (by refine ⟨Or.inr rfl, ?_⟩; refine ⟨Or.inr rfl, ?_⟩; refine ⟨Or.inr rfl, ?_⟩; refine ⟨Or.inr rfl, ?_⟩; refine ⟨Or.inr rfl, ?_⟩; refine ⟨Or.inr rfl, ?_⟩; refine ⟨Or.inr rfl, ?_⟩; refine ⟨Or.inr rfl, ?_⟩; exact trivial) (Nat.zero_le _) (Nat.zero_le _) (hP _ (ok_some hw :) :)
    · replace hw := ok_f hw c
      exact hG.2 _ _ _ _ _ _ _ _ _ (by refine ⟨Or.inr rfl, ?_⟩; refine ⟨Or.inr rfl, ?_⟩; refine ⟨Or.inr rfl, ?_⟩; refine ⟨Or.inr rfl, ?_⟩; refine ⟨Or.inr rfl, ?_⟩; refine ⟨Or.inr rfl, ?_⟩; refine ⟨Or.inr rfl, ?_⟩; refine ⟨Or.inr rfl, ?_⟩; exact trivial) (Nat.zero_le _) (Nat.zero_le _) (hP _ (ok_some hw :) :)

set_option maxHeartbeats 4000000 in
set_option maxRecDepth 20000 in
theorem b_X12_feed_62 {k : Option Value → mj_H → Prop} {G : mj_K} (hG : mj_cl2 cX12_feed (TbX12 9 ((some FieldType.int)) ct_X12_feed) k G) {v1 : Int32} {v2 : Int32} {v3 : Int32} {v4 : Int32} {v5 : Int32} {P : Int32 × St → Prop} {K : (St) → Prop} (hP : ∀ x, P x → G 62 [.ref 0, .int v1, .int v2, .int v3, .int v4, .int v5, mj_unk, .int x.1] [] (mkMs x.2) 0 0) (hK0 : ∀ y, K y → G 115 [.ref 0] [] (mkMs y) 0 0) {v7 : Int32} {s : St} (hw : ok (B_X12_feed_62 v1 v2 v3 v4 v5 (v7, s)) (Sum.elim P K)) : G 62 [.ref 0, .int v1, .int v2, .int v3, .int v4, .int v5, mj_unk, .int v7] [] (mkMs s) 0 0 := by
  unfold B_X12_feed_62 at hw
  refine mj_run hG.1 (fun pc => pc == 6 || pc == 27 || pc == 44 || pc == 62 || pc == 81 || pc == 115) 4000 ?_
  simp only [mj_step, mj_W_s, mj_fin, List.getElem?_cons_zero, List.getElem?_cons_succ, mj_go, Nat.reduceAdd, Nat.reduceSub, Nat.reduceLT, Nat.reduceLeDiff, Nat.zero_add, Nat.reduceEqDiff, Nat.reduceBEq, ↓reduceIte, Bool.false_eq_true, List.append_nil, List.nil_append, List.cons_append, Option.toList, and_true, true_and, true_or, or_true, reduceCtorEq, List.map_nil, bI_eq0, bI_eq1, bool_ft, pk_us, vnar0, vnar1, Bool.or_false, Bool.or_true, Bool.false_or, Bool.true_or, mj_kne, eq_self, Int32.reduceLT, Int32.reduceLE, Int32.reduceAdd, Int32.reduceSub, Int32.reduceMul, not_true_eq_false, not_false_eq_true, false_implies, true_implies, D_X12_feed_0, D_X12_feed_1, mj_F_aload_n_k, mj_F_bipush_n, mj_F_dup, mj_F_getfield_i, mj_F_goto_off, mj_F_iadd, mj_F_iastore, mj_F_iconst_n, mj_F_ifCond_eq_off, mj_F_if_icmp_ge_off, mj_F_if_icmp_le_off, mj_F_iinc_k_n, mj_F_iload_k, mj_F_iload_n_k, mj_F_invokestatic_i, mj_F_ireturn, mj_F_istore_k, mj_F_putfield_i, mj_F_sipush_n, mj_set, mj_set0, mj_unk, mj_c2, mj_kc, FT_X12, FT_X12_1, PT_X12, L_X12_feed, List.take_succ_cons, List.take_zero, List.drop_succ_cons, List.drop_zero, List.reverse_cons, List.reverse_nil, List.length_cons, List.length_nil, gS_M0, gMf_35, gMf_28, gS_M24, sS_Ma_24, sS_Mf_35, gMl, J_X12_feed]
  refine ⟨fun c => ?_, fun c => ?_⟩
  · replace hw := ok_t hw c
    exact hG.2 _ _ _ _ _ _ _ _ _ (by refine ⟨Or.inr rfl, ?_⟩; exact trivial) (Nat.zero_le _) (Nat.zero_le _) (hK0 _ (ok_some hw :) :)
  · replace hw := ok_f hw c
    refine c_X12_byteOf_in (ok_imp (ok_bind hw) ?_)
    intro p hw
    simp only [Option.toList, List.nil_append, List.cons_append, Nat.reduceSub]
    refine mj_run hG.1 (fun pc => pc == 6 || pc == 27 || pc == 44 || pc == 62 || pc == 81 || pc == 115) 4000 ?_
    simp only [mj_step, mj_W_s, mj_fin, List.getElem?_cons_zero, List.getElem?_cons_succ, mj_go, Nat.reduceAdd, Nat.reduceSub, Nat.reduceLT, Nat.reduceLeDiff, Nat.zero_add, Nat.reduceEqDiff, Nat.reduceBEq, ↓reduceIte, Bool.false_eq_true, List.append_nil, List.nil_append, List.cons_append, Option.toList, and_true, true_and, true_or, or_true, reduceCtorEq, List.map_nil, bI_eq0, bI_eq1, bool_ft, pk_us, vnar0, vnar1, Bool.or_false, Bool.or_true, Bool.false_or, Bool.true_or, mj_kne, eq_self, Int32.reduceLT, Int32.reduceLE, Int32.reduceAdd, Int32.reduceSub, Int32.reduceMul, not_true_eq_false, not_false_eq_true, false_implies, true_implies, D_X12_feed_0, D_X12_feed_1, mj_F_aload_n_k, mj_F_bipush_n, mj_F_dup, mj_F_getfield_i, mj_F_goto_off, mj_F_iadd, mj_F_iastore, mj_F_iconst_n, mj_F_ifCond_eq_off, mj_F_if_icmp_ge_off, mj_F_if_icmp_le_off, mj_F_iinc_k_n, mj_F_iload_k, mj_F_iload_n_k, mj_F_invokestatic_i, mj_F_ireturn, mj_F_istore_k, mj_F_putfield_i, mj_F_sipush_n, mj_set, mj_set0, mj_unk, mj_c2, mj_kc, FT_X12, FT_X12_1, PT_X12, L_X12_feed, List.take_succ_cons, List.take_zero, List.drop_succ_cons, List.drop_zero, List.reverse_cons, List.reverse_nil, List.length_cons, List.length_nil, gS_M0, gMf_35, gMf_28, gS_M24, sS_Ma_24, sS_Mf_35, gMl, J_X12_feed]
    refine ⟨fun c => ?_, fun c => ?_⟩
    · replace hw := ok_t hw c
      exact hG.2 _ _ _ _ _ _ _ _ _ (by refine ⟨Or.inr rfl, ?_⟩; refine ⟨Or.inr rfl, ?_⟩; refine ⟨Or.inr rfl, ?_⟩; refine ⟨Or.inr rfl, ?_⟩; refine ⟨Or.inr rfl, ?_⟩; refine ⟨Or.inr rfl, ?_⟩; refine ⟨Or.inl rfl, ?_⟩; refine ⟨Or.inr rfl, ?_⟩; exact trivial) (Nat.zero_le _) (Nat.zero_le _) (hP _ (ok_some hw :) :)
    · replace hw := ok_f hw c
      refine ⟨(ok_wr hw).1, ?_⟩
      replace hw := (ok_wr hw).2
      replace hw := ok_wI hw
      exact hG.2 _ _ _ _ _ _ _ _ _ (by refine ⟨Or.inr rfl, ?_⟩; refine ⟨Or.inr rfl, ?_⟩; refine ⟨Or.inr rfl, ?_⟩; refine ⟨Or.inr rfl, ?_⟩; refine ⟨Or.inr rfl, ?_⟩; refine ⟨Or.inr rfl, ?_⟩; refine ⟨Or.inl rfl, ?_⟩; refine ⟨Or.inr rfl, ?_⟩; exact trivial) (Nat.zero_le _) (Nat.zero_le _) (hP _ (ok_some hw :) :)

set_option maxHeartbeats 4000000 in
set_option maxRecDepth 20000 in
theorem g_X12_feed_115 {k : Option Value → mj_H → Prop} {G : mj_K} (hG : mj_cl2 cX12_feed (TbX12 9 ((some FieldType.int)) ct_X12_feed) k G)   {s : St} (hw : ok (F_X12_feed_115 s) (fun p => k (some (.int p.1)) (mkMs p.2))) : G 115 [.ref 0] [] (mkMs s) 0 0 := by
  unfold F_X12_feed_115 at hw
  refine mj_run hG.1 (fun pc => pc == 6 || pc == 27 || pc == 44 || pc == 62 || pc == 81 || pc == 115) 4000 ?_
  simp only [mj_step, mj_W_s, mj_fin, List.getElem?_cons_zero, List.getElem?_cons_succ, mj_go, Nat.reduceAdd, Nat.reduceSub, Nat.reduceLT, Nat.reduceLeDiff, Nat.zero_add, Nat.reduceEqDiff, Nat.reduceBEq, ↓reduceIte, Bool.false_eq_true, List.append_nil, List.nil_append, List.cons_append, Option.toList, and_true, true_and, true_or, or_true, reduceCtorEq, List.map_nil, bI_eq0, bI_eq1, bool_ft, pk_us, vnar0, vnar1, Bool.or_false, Bool.or_true, Bool.false_or, Bool.true_or, mj_kne, eq_self, Int32.reduceLT, Int32.reduceLE, Int32.reduceAdd, Int32.reduceSub, Int32.reduceMul, not_true_eq_false, not_false_eq_true, false_implies, true_implies, D_X12_feed_0, D_X12_feed_1, mj_F_aload_n_k, mj_F_bipush_n, mj_F_dup, mj_F_getfield_i, mj_F_goto_off, mj_F_iadd, mj_F_iastore, mj_F_iconst_n, mj_F_ifCond_eq_off, mj_F_if_icmp_ge_off, mj_F_if_icmp_le_off, mj_F_iinc_k_n, mj_F_iload_k, mj_F_iload_n_k, mj_F_invokestatic_i, mj_F_ireturn, mj_F_istore_k, mj_F_putfield_i, mj_F_sipush_n, mj_set, mj_set0, mj_unk, mj_c2, mj_kc, FT_X12, FT_X12_1, PT_X12, L_X12_feed, List.take_succ_cons, List.take_zero, List.drop_succ_cons, List.drop_zero, List.reverse_cons, List.reverse_nil, List.length_cons, List.length_nil, gS_M0, gMf_35, gMf_28, gS_M24, sS_Ma_24, sS_Mf_35, gMl, J_X12_feed]
  exact (ok_some hw :)

set_option maxHeartbeats 4000000 in
theorem g_X12_feed_62 {k : Option Value → mj_H → Prop} {G : mj_K} (hG : mj_cl2 cX12_feed (TbX12 9 ((some FieldType.int)) ct_X12_feed) k G)   {v1 : Int32} {v2 : Int32} {v3 : Int32} {v4 : Int32} {v5 : Int32} {v7 : Int32} {s : St} (hw : ok (F_X12_feed_62 v1 v2 v3 v4 v5 v7 s) (fun p => k (some (.int p.1)) (mkMs p.2))) : G 62 [.ref 0, .int v1, .int v2, .int v3, .int v4, .int v5, mj_unk, .int v7] [] (mkMs s) 0 0 := by
  unfold F_X12_feed_62 at hw
  refine lp_ok (B_X12_feed_62 v1 v2 v3 v4 v5) (fun x => G 62 [.ref 0, .int v1, .int v2, .int v3, .int v4, .int v5, mj_unk, .int x.1] [] (mkMs x.2) 0 0) _ ?_ _ _ (ok_bind hw)
  rintro ⟨v7, s⟩ hb
  exact b_X12_feed_62 hG (fun _ z => z) (fun y hw => by exact hG.2 _ _ _ _ _ _ _ _ _ (by refine ⟨Or.inr rfl, ?_⟩; exact trivial) (Nat.zero_le _) (Nat.zero_le _) (g_X12_feed_115 hG  hw :)) hb

set_option maxHeartbeats 4000000 in
set_option maxRecDepth 20000 in
theorem g_X12_feed_44 {k : Option Value → mj_H → Prop} {G : mj_K} (hG : mj_cl2 cX12_feed (TbX12 9 ((some FieldType.int)) ct_X12_feed) k G)   {v1 : Int32} {v2 : Int32} {v3 : Int32} {v4 : Int32} {v5 : Int32} {v6 : Int32} {s : St} (hw : ok (F_X12_feed_44 v1 v2 v3 v4 v5 v6 s) (fun p => k (some (.int p.1)) (mkMs p.2))) : G 44 [.ref 0, .int v1, .int v2, .int v3, .int v4, .int v5, .int v6] [] (mkMs s) 0 0 := by
  unfold F_X12_feed_44 at hw
  refine mj_run hG.1 (fun pc => pc == 6 || pc == 27 || pc == 44 || pc == 62 || pc == 81 || pc == 115) 4000 ?_
  simp only [mj_step, mj_W_s, mj_fin, List.getElem?_cons_zero, List.getElem?_cons_succ, mj_go, Nat.reduceAdd, Nat.reduceSub, Nat.reduceLT, Nat.reduceLeDiff, Nat.zero_add, Nat.reduceEqDiff, Nat.reduceBEq, ↓reduceIte, Bool.false_eq_true, List.append_nil, List.nil_append, List.cons_append, Option.toList, and_true, true_and, true_or, or_true, reduceCtorEq, List.map_nil, bI_eq0, bI_eq1, bool_ft, pk_us, vnar0, vnar1, Bool.or_false, Bool.or_true, Bool.false_or, Bool.true_or, mj_kne, eq_self, Int32.reduceLT, Int32.reduceLE, Int32.reduceAdd, Int32.reduceSub, Int32.reduceMul, not_true_eq_false, not_false_eq_true, false_implies, true_implies, D_X12_feed_0, D_X12_feed_1, mj_F_aload_n_k, mj_F_bipush_n, mj_F_dup, mj_F_getfield_i, mj_F_goto_off, mj_F_iadd, mj_F_iastore, mj_F_iconst_n, mj_F_ifCond_eq_off, mj_F_if_icmp_ge_off, mj_F_if_icmp_le_off, mj_F_iinc_k_n, mj_F_iload_k, mj_F_iload_n_k, mj_F_invokestatic_i, mj_F_ireturn, mj_F_istore_k, mj_F_putfield_i, mj_F_sipush_n, mj_set, mj_set0, mj_unk, mj_c2, mj_kc, FT_X12, FT_X12_1, PT_X12, L_X12_feed, List.take_succ_cons, List.take_zero, List.drop_succ_cons, List.drop_zero, List.reverse_cons, List.reverse_nil, List.length_cons, List.length_nil, gS_M0, gMf_35, gMf_28, gS_M24, sS_Ma_24, sS_Mf_35, gMl, J_X12_feed]
  refine ⟨fun c => ?_, fun c => ?_⟩
  · replace hw := ok_t hw c
    exact hG.2 _ _ _ _ _ _ _ _ _ (by refine ⟨Or.inr rfl, ?_⟩; refine ⟨Or.inr rfl, ?_⟩; refine ⟨Or.inr rfl, ?_⟩; refine ⟨Or.inr rfl, ?_⟩; refine ⟨Or.inr rfl, ?_⟩; refine ⟨Or.inr rfl, ?_⟩; refine ⟨Or.inl rfl, ?_⟩; refine ⟨Or.inr rfl, ?_⟩; exact trivial) (Nat.zero_le _) (Nat.zero_le _) (g_X12_feed_62 hG  hw :)
  · replace hw := ok_f hw c
    exact (ok_some hw :)

set_option maxHeartbeats 4000000 in
theorem g_X12_feed_6 {k : Option Value → mj_H → Prop} {G : mj_K} (hG : mj_cl2 cX12_feed (TbX12 9 ((some FieldType.int)) ct_X12_feed) k G)   {v1 : Int32} {v2 : Int32} {v3 : Int32} {v4 : Int32} {v5 : Int32} {v6 : Int32} {v7 : Int32} {s : St} (hw : ok (F_X12_feed_6 v1 v2 v3 v4 v5 v6 v7 s) (fun p => k (some (.int p.1)) (mkMs p.2))) : G 6 [.ref 0, .int v1, .int v2, .int v3, .int v4, .int v5, .int v6, .int v7] [] (mkMs s) 0 0 := by
  unfold F_X12_feed_6 at hw
  refine lp_ok (B_X12_feed_6 v1 v2 v3 v4 v5 s) (fun x => G 6 [.ref 0, .int v1, .int v2, .int v3, .int v4, .int v5, .int x.1, .int x.2] [] (mkMs s) 0 0) _ ?_ _ _ (ok_bind hw)
  rintro ⟨v6, v7⟩ hb
  exact b_X12_feed_6 hG (fun _ z => z) (fun y hw => by exact hG.2 _ _ _ _ _ _ _ _ _ (by refine ⟨Or.inr rfl, ?_⟩; refine ⟨Or.inr rfl, ?_⟩; refine ⟨Or.inr rfl, ?_⟩; refine ⟨Or.inr rfl, ?_⟩; refine ⟨Or.inr rfl, ?_⟩; refine ⟨Or.inr rfl, ?_⟩; refine ⟨Or.inr rfl, ?_⟩; exact trivial) (Nat.zero_le _) (Nat.zero_le _) (g_X12_feed_44 hG  hw :)) hb

set_option maxHeartbeats 4000000 in
set_option maxRecDepth 20000 in
theorem g_X12_feed {k : Option Value → mj_H → Prop} {G : mj_K} (hG : mj_cl2 cX12_feed (TbX12 9 ((some FieldType.int)) ct_X12_feed) k G) {v1 : Int32} {v2 : Int32} {v3 : Int32} {v4 : Int32} {v5 : Int32} {s : St} (hw : ok (F_X12_feed v1 v2 v3 v4 v5 s) (fun p => k (some (.int p.1)) (mkMs p.2))) : G 0 [.ref 0, .int v1, .int v2, .int v3, .int v4, .int v5] [] (mkMs s) 0 0 := by
  unfold F_X12_feed at hw
  refine mj_run hG.1 (fun pc => pc == 6 || pc == 27 || pc == 44 || pc == 62 || pc == 81 || pc == 115) 4000 ?_
  simp only [mj_step, mj_W_s, mj_fin, List.getElem?_cons_zero, List.getElem?_cons_succ, mj_go, Nat.reduceAdd, Nat.reduceSub, Nat.reduceLT, Nat.reduceLeDiff, Nat.zero_add, Nat.reduceEqDiff, Nat.reduceBEq, ↓reduceIte, Bool.false_eq_true, List.append_nil, List.nil_append, List.cons_append, Option.toList, and_true, true_and, true_or, or_true, reduceCtorEq, List.map_nil, bI_eq0, bI_eq1, bool_ft, pk_us, vnar0, vnar1, Bool.or_false, Bool.or_true, Bool.false_or, Bool.true_or, mj_kne, eq_self, Int32.reduceLT, Int32.reduceLE, Int32.reduceAdd, Int32.reduceSub, Int32.reduceMul, not_true_eq_false, not_false_eq_true, false_implies, true_implies, D_X12_feed_0, D_X12_feed_1, mj_F_aload_n_k, mj_F_bipush_n, mj_F_dup, mj_F_getfield_i, mj_F_goto_off, mj_F_iadd, mj_F_iastore, mj_F_iconst_n, mj_F_ifCond_eq_off, mj_F_if_icmp_ge_off, mj_F_if_icmp_le_off, mj_F_iinc_k_n, mj_F_iload_k, mj_F_iload_n_k, mj_F_invokestatic_i, mj_F_ireturn, mj_F_istore_k, mj_F_putfield_i, mj_F_sipush_n, mj_set, mj_set0, mj_unk, mj_c2, mj_kc, FT_X12, FT_X12_1, PT_X12, L_X12_feed, List.take_succ_cons, List.take_zero, List.drop_succ_cons, List.drop_zero, List.reverse_cons, List.reverse_nil, List.length_cons, List.length_nil, gS_M0, gMf_35, gMf_28, gS_M24, sS_Ma_24, sS_Mf_35, gMl, J_X12_feed]
  exact hG.2 _ _ _ _ _ _ _ _ _ (by refine ⟨Or.inr rfl, ?_⟩; refine ⟨Or.inr rfl, ?_⟩; refine ⟨Or.inr rfl, ?_⟩; refine ⟨Or.inr rfl, ?_⟩; refine ⟨Or.inr rfl, ?_⟩; refine ⟨Or.inr rfl, ?_⟩; refine ⟨Or.inr rfl, ?_⟩; refine ⟨Or.inr rfl, ?_⟩; exact trivial) (Nat.zero_le _) (Nat.zero_le _) (g_X12_feed_6 hG  hw :)

def c_X12_feed : mj_S := fun as h k => ∃ (v1 : Int32) (v2 : Int32) (v3 : Int32) (v4 : Int32) (v5 : Int32) (s : St), as = [.ref 0, .int v1, .int v2, .int v3, .int v4, .int v5] ∧ h = mkMs s ∧ ok (F_X12_feed v1 v2 v3 v4 v5 s) (fun p => k (some (.int p.1)) (mkMs p.2))
theorem c_X12_feed_in {v1 : Int32} {v2 : Int32} {v3 : Int32} {v4 : Int32} {v5 : Int32} {s : St} {k : Option Value → mj_H → Prop} (hw : ok (F_X12_feed v1 v2 v3 v4 v5 s) (fun p => k (some (.int p.1)) (mkMs p.2))) : c_X12_feed [.ref 0, .int v1, .int v2, .int v3, .int v4, .int v5] (mkMs s) k := ⟨v1, v2, v3, v4, v5, s, rfl, rfl, hw⟩
theorem m_X12_feed (l : Launch) : mj_Met l yX12_feed cX12_feed 9 ((some FieldType.int)) 1 0 0 c_X12_feed := by
  refine mj_body2 false (TbX12 9 ((some FieldType.int)) ct_X12_feed) (by decide) rfl rfl (fun h => nomatch h) (tfX12 _ (List.forall_mem_cons.mpr ⟨cfX12_299 (m_X12_byteOf l) (by decide), fun _ h => nomatch h⟩)) ?_
  rintro as h k ⟨v1, v2, v3, v4, v5, s, rfl, rfl, hw⟩
  exact ⟨rfl, fun G hG => g_X12_feed hG hw⟩
def F_X12_end (v1 : Int32) (s : St) : Option (Int32 × St) :=
  if v1 < 0 then
    some (0, s)
  else
    if v1 ≤ (s.1 1235) then
      (wI s 1235 v1).bind fun s1 =>
      some (1, s1)
    else
      some (0, s)
theorem J_X12_end : mj_t 1 11 = 12 ∧ mj_t 9 5 = 14 ∧ (0 ≤ ((1 : Nat) : Int) + 11) = True ∧ (0 ≤ ((9 : Nat) : Int) + 5) = True := by and_intros <;> first | rfl | exact eq_true (by decide)
set_option maxHeartbeats 4000000 in
set_option maxRecDepth 20000 in
theorem g_X12_end {k : Option Value → mj_H → Prop} {G : mj_K} (hG : mj_cl2 cX12_end (TbX12 2 ((some FieldType.boolean)) []) k G) {v1 : Int32} {s : St} (hw : ok (F_X12_end v1 s) (fun p => k (some (.int p.1)) (mkMs p.2))) : G 0 [.ref 0, .int v1] [] (mkMs s) 0 0 := by
  unfold F_X12_end at hw
  refine mj_run hG.1 (fun _ => false) 4000 ?_
  simp only [mj_step, mj_W_s, mj_fin, List.getElem?_cons_zero, List.getElem?_cons_succ, mj_go, Nat.reduceAdd, Nat.reduceSub, Nat.reduceLT, Nat.reduceLeDiff, Nat.zero_add, Nat.reduceEqDiff, Nat.reduceBEq, ↓reduceIte, Bool.false_eq_true, List.append_nil, List.nil_append, List.cons_append, Option.toList, and_true, true_and, true_or, or_true, reduceCtorEq, List.map_nil, bI_eq0, bI_eq1, bool_ft, pk_us, vnar0, vnar1, Bool.or_false, Bool.or_true, Bool.false_or, Bool.true_or, mj_kne, eq_self, Int32.reduceLT, Int32.reduceLE, Int32.reduceAdd, Int32.reduceSub, Int32.reduceMul, not_true_eq_false, not_false_eq_true, false_implies, true_implies, D_X12_end, mj_F_aload_n_k, mj_F_getfield_i, mj_F_iconst_n, mj_F_ifCond_lt_off, mj_F_if_icmp_le_off, mj_F_iload_n_k, mj_F_ireturn, mj_F_putfield_i, mj_kc, FT_X12, FT_X12_1, PT_X12, gS_M0, gMf_35, sS_Mf_35, gMl, J_X12_end]
  refine ⟨fun c => ?_, fun c => ?_⟩
  · replace hw := ok_t hw c
    exact (ok_some hw :)
  · replace hw := ok_f hw c
    refine ⟨fun c => ?_, fun c => ?_⟩
    · replace hw := ok_t hw c
      replace hw := ok_wI hw
      exact (ok_some hw :)
    · replace hw := ok_f hw c
      exact (ok_some hw :)

def c_X12_end : mj_S := fun as h k => ∃ (v1 : Int32) (s : St), as = [.ref 0, .int v1] ∧ h = mkMs s ∧ ok (F_X12_end v1 s) (fun p => k (some (.int p.1)) (mkMs p.2))
theorem c_X12_end_in {v1 : Int32} {s : St} {k : Option Value → mj_H → Prop} (hw : ok (F_X12_end v1 s) (fun p => k (some (.int p.1)) (mkMs p.2))) : c_X12_end [.ref 0, .int v1] (mkMs s) k := ⟨v1, s, rfl, rfl, hw⟩
theorem m_X12_end (l : Launch) : mj_Met l yX12_end cX12_end 2 ((some FieldType.boolean)) 0 0 0 c_X12_end := by
  refine mj_body2 false (TbX12 2 ((some FieldType.boolean)) []) (by decide) rfl rfl (fun h => nomatch h) (tfX12 _ (fun _ h => nomatch h)) ?_
  rintro as h k ⟨v1, s, rfl, rfl, hw⟩
  exact ⟨rfl, fun G hG => g_X12_end hG hw⟩
def F_X12_bad (s : St) : Option (St) :=
  if (s.1 1237) = (-1) then
    (wI s 1237 (s.1 1236)).bind fun s2 =>
    some s2
  else
    (wI s 1237 (s.1 1237)).bind fun s1 =>
    some s1
theorem J_X12_bad : mj_t 6 10 = 16 ∧ mj_t 13 7 = 20 ∧ (0 ≤ ((6 : Nat) : Int) + 10) = True ∧ (0 ≤ ((13 : Nat) : Int) + 7) = True := by and_intros <;> first | rfl | exact eq_true (by decide)
set_option maxHeartbeats 4000000 in
set_option maxRecDepth 20000 in
theorem g_X12_bad {k : Option Value → mj_H → Prop} {G : mj_K} (hG : mj_cl2 cX12_bad (TbX12 1 (none) []) k G) {s : St} (hw : ok (F_X12_bad s) (fun p => k none (mkMs p))) : G 0 [.ref 0] [] (mkMs s) 0 0 := by
  unfold F_X12_bad at hw
  refine mj_run hG.1 (fun _ => false) 4000 ?_
  simp only [mj_step, mj_W_s, mj_fin, List.getElem?_cons_zero, List.getElem?_cons_succ, mj_go, Nat.reduceAdd, Nat.reduceSub, Nat.reduceLT, Nat.reduceLeDiff, Nat.zero_add, Nat.reduceEqDiff, Nat.reduceBEq, ↓reduceIte, Bool.false_eq_true, List.append_nil, List.nil_append, List.cons_append, Option.toList, and_true, true_and, true_or, or_true, reduceCtorEq, List.map_nil, bI_eq0, bI_eq1, bool_ft, pk_us, vnar0, vnar1, Bool.or_false, Bool.or_true, Bool.false_or, Bool.true_or, mj_kne, eq_self, Int32.reduceLT, Int32.reduceLE, Int32.reduceAdd, Int32.reduceSub, Int32.reduceMul, not_true_eq_false, not_false_eq_true, false_implies, true_implies, D_X12_bad, mj_F_aload_n_k, mj_F_getfield_i, mj_F_goto_off, mj_F_iconst_n, mj_F_if_icmp_ne_off, mj_F_putfield_i, mj_F_return_, mj_kc, FT_X12, FT_X12_1, PT_X12, gS_M0, gMf_37, gMf_36, sS_Mf_37, gMl, J_X12_bad]
  refine ⟨fun c => ?_, fun c => ?_⟩
  · replace hw := ok_f hw c
    replace hw := ok_wI hw
    exact (ok_some hw :)
  · replace hw := ok_t hw c
    replace hw := ok_wI hw
    exact (ok_some hw :)

def c_X12_bad : mj_S := fun as h k => ∃ (s : St), as = [.ref 0] ∧ h = mkMs s ∧ ok (F_X12_bad s) (fun p => k none (mkMs p))
theorem c_X12_bad_in {s : St} {k : Option Value → mj_H → Prop} (hw : ok (F_X12_bad s) (fun p => k none (mkMs p))) : c_X12_bad [.ref 0] (mkMs s) k := ⟨s, rfl, rfl, hw⟩
theorem m_X12_bad (l : Launch) : mj_Met l yX12_bad cX12_bad 1 (none) 0 0 0 c_X12_bad := by
  refine mj_body2 false (TbX12 1 (none) []) (by decide) rfl rfl (fun h => nomatch h) (tfX12 _ (fun _ h => nomatch h)) ?_
  rintro as h k ⟨s, rfl, rfl, hw⟩
  exact ⟨rfl, fun G hG => g_X12_bad hG hw⟩
def F_X12_look_38 (s : St) : Option (Int32 × St) :=
  if (s.1 1235) ≤ (s.1 1236) then
    some ((-1), s)
  else
    (rd s 1228 160 (s.1 1236)).bind fun x3 =>
    some (x3, s)
def B_X12_look_0  : St → Option ((St) ⊕ ((St)))
  | s =>
  if (s.1 1235) ≤ (s.1 1236) then
    some (.inr s)
  else
    (rd s 1228 160 (s.1 1236)).bind fun x4 =>
    if x4 = 32 then
      (wI s 1236 ((s.1 1236) + 1)).bind fun s5 =>
      some (.inl s5)
    else
      some (.inr s)
def F_X12_look_0 (s : St) : Option (Int32 × St) :=
  (lp (B_X12_look_0 ) FU s).bind (fun y => F_X12_look_38 y)
def F_X12_look (s : St) : Option (Int32 × St) :=
  if (s.1 1235) ≤ (s.1 1236) then
    F_X12_look_38 s
  else
    (rd s 1228 160 (s.1 1236)).bind fun x1 =>
    if x1 = 32 then
      (wI s 1236 ((s.1 1236) + 1)).bind fun s2 =>
      F_X12_look_0 s2
    else
      F_X12_look_38 s
theorem J_X12_look : mj_t 8 30 = 38 ∧ mj_t 22 16 = 38 ∧ mj_t 35 (-35) = 0 ∧ mj_t 46 15 = 61 ∧ mj_t 58 4 = 62 ∧ (0 ≤ ((8 : Nat) : Int) + 30) = True ∧ (0 ≤ ((22 : Nat) : Int) + 16) = True ∧ (0 ≤ ((35 : Nat) : Int) + (-35)) = True ∧ (0 ≤ ((46 : Nat) : Int) + 15) = True ∧ (0 ≤ ((58 : Nat) : Int) + 4) = True := by and_intros <;> first | rfl | exact eq_true (by decide)
set_option maxHeartbeats 4000000 in
set_option maxRecDepth 20000 in
theorem g_X12_look_38 {k : Option Value → mj_H → Prop} {G : mj_K} (hG : mj_cl2 cX12_look (TbX12 1 ((some FieldType.int)) []) k G)   {s : St} (hw : ok (F_X12_look_38 s) (fun p => k (some (.int p.1)) (mkMs p.2))) : G 38 [.ref 0] [] (mkMs s) 0 0 := by
  unfold F_X12_look_38 at hw
  refine mj_run hG.1 (fun pc => pc == 0 || pc == 38) 4000 ?_
  simp only [mj_step, mj_W_s, mj_fin, List.getElem?_cons_zero, List.getElem?_cons_succ, mj_go, Nat.reduceAdd, Nat.reduceSub, Nat.reduceLT, Nat.reduceLeDiff, Nat.zero_add, Nat.reduceEqDiff, Nat.reduceBEq, ↓reduceIte, Bool.false_eq_true, List.append_nil, List.nil_append, List.cons_append, Option.toList, and_true, true_and, true_or, or_true, reduceCtorEq, List.map_nil, bI_eq0, bI_eq1, bool_ft, pk_us, vnar0, vnar1, Bool.or_false, Bool.or_true, Bool.false_or, Bool.true_or, mj_kne, eq_self, Int32.reduceLT, Int32.reduceLE, Int32.reduceAdd, Int32.reduceSub, Int32.reduceMul, not_true_eq_false, not_false_eq_true, false_implies, true_implies, D_X12_look, mj_F_aload_n_k, mj_F_bipush_n, mj_F_dup, mj_F_getfield_i, mj_F_goto_off, mj_F_iadd, mj_F_iaload, mj_F_iconst_n, mj_F_if_icmp_ge_off, mj_F_if_icmp_ne_off, mj_F_ireturn, mj_F_putfield_i, mj_c2, mj_kc, FT_X12, FT_X12_1, PT_X12, gS_M0, gMf_36, gMf_35, gMf_28, gS_M24, sS_Ma_24, sS_Mf_36, gMl, J_X12_look]
  refine ⟨fun c => ?_, fun c => ?_⟩
  · replace hw := ok_t hw c
    exact (ok_some hw :)
  · replace hw := ok_f hw c
    refine ⟨(ok_rd hw).1, ?_⟩
    replace hw := (ok_rd hw).2
    exact (ok_some hw :)

set_option maxHeartbeats 4000000 in
set_option maxRecDepth 20000 in
theorem b_X12_look_0 {k : Option Value → mj_H → Prop} {G : mj_K} (hG : mj_cl2 cX12_look (TbX12 1 ((some FieldType.int)) []) k G)  {P : St → Prop} {K : (St) → Prop} (hP : ∀ x, P x → G 0 [.ref 0] [] (mkMs x) 0 0) (hK0 : ∀ y, K y → G 38 [.ref 0] [] (mkMs y) 0 0) {s : St} (hw : ok (B_X12_look_0  s) (Sum.elim P K)) : G 0 [.ref 0] [] (mkMs s) 0 0 := by
  unfold B_X12_look_0 at hw
  refine mj_run hG.1 (fun pc => pc == 0 || pc == 38) 4000 ?_
  simp only [mj_step, mj_W_s, mj_fin, List.getElem?_cons_zero, List.getElem?_cons_succ, mj_go, Nat.reduceAdd, Nat.reduceSub, Nat.reduceLT, Nat.reduceLeDiff, Nat.zero_add, Nat.reduceEqDiff, Nat.reduceBEq, ↓reduceIte, Bool.false_eq_true, List.append_nil, List.nil_append, List.cons_append, Option.toList, and_true, true_and, true_or, or_true, reduceCtorEq, List.map_nil, bI_eq0, bI_eq1, bool_ft, pk_us, vnar0, vnar1, Bool.or_false, Bool.or_true, Bool.false_or, Bool.true_or, mj_kne, eq_self, Int32.reduceLT, Int32.reduceLE, Int32.reduceAdd, Int32.reduceSub, Int32.reduceMul, not_true_eq_false, not_false_eq_true, false_implies, true_implies, D_X12_look, mj_F_aload_n_k, mj_F_bipush_n, mj_F_dup, mj_F_getfield_i, mj_F_goto_off, mj_F_iadd, mj_F_iaload, mj_F_iconst_n, mj_F_if_icmp_ge_off, mj_F_if_icmp_ne_off, mj_F_ireturn, mj_F_putfield_i, mj_c2, mj_kc, FT_X12, FT_X12_1, PT_X12, gS_M0, gMf_36, gMf_35, gMf_28, gS_M24, sS_Ma_24, sS_Mf_36, gMl, J_X12_look]
  refine ⟨fun c => ?_, fun c => ?_⟩
  · replace hw := ok_t hw c
    exact hG.2 _ _ _ _ _ _ _ _ _ (by refine ⟨Or.inr rfl, ?_⟩; exact trivial) (Nat.zero_le _) (Nat.zero_le _) (hK0 _ (ok_some hw :) :)
  · replace hw := ok_f hw c
    refine ⟨(ok_rd hw).1, ?_⟩
    replace hw := (ok_rd hw).2
    refine ⟨fun c => ?_, fun c => ?_⟩
    · replace hw := ok_f hw c
      exact hG.2 _ _ _ _ _ _ _ _ _ (by refine ⟨Or.inr rfl, ?_⟩; exact trivial) (Nat.zero_le _) (Nat.zero_le _) (hK0 _ (ok_some hw :) :)
    · replace hw := ok_t hw c
      replace hw := ok_wI hw
      exact hG.2 _ _ _ _ _ _ _ _ _ (by refine ⟨Or.inr rfl, ?_⟩; exact trivial) (Nat.zero_le _) (Nat.zero_le _) (hP _ (ok_some hw :) :)

set_option maxHeartbeats 4000000 in
theorem g_X12_look_0 {k : Option Value → mj_H → Prop} {G : mj_K} (hG : mj_cl2 cX12_look (TbX12 1 ((some FieldType.int)) []) k G)   {s : St} (hw : ok (F_X12_look_0 s) (fun p => k (some (.int p.1)) (mkMs p.2))) : G 0 [.ref 0] [] (mkMs s) 0 0 := by
  unfold F_X12_look_0 at hw
  refine lp_ok (B_X12_look_0 ) (fun x => G 0 [.ref 0] [] (mkMs x) 0 0) _ ?_ _ _ (ok_bind hw)
  rintro s hb
  exact b_X12_look_0 hG (fun _ z => z) (fun y hw => by exact hG.2 _ _ _ _ _ _ _ _ _ (by refine ⟨Or.inr rfl, ?_⟩; exact trivial) (Nat.zero_le _) (Nat.zero_le _) (g_X12_look_38 hG  hw :)) hb

set_option maxHeartbeats 4000000 in
set_option maxRecDepth 20000 in
theorem g_X12_look {k : Option Value → mj_H → Prop} {G : mj_K} (hG : mj_cl2 cX12_look (TbX12 1 ((some FieldType.int)) []) k G) {s : St} (hw : ok (F_X12_look s) (fun p => k (some (.int p.1)) (mkMs p.2))) : G 0 [.ref 0] [] (mkMs s) 0 0 := by
  unfold F_X12_look at hw
  refine mj_run hG.1 (fun pc => pc == 0 || pc == 38) 4000 ?_
  simp only [mj_step, mj_W_s, mj_fin, List.getElem?_cons_zero, List.getElem?_cons_succ, mj_go, Nat.reduceAdd, Nat.reduceSub, Nat.reduceLT, Nat.reduceLeDiff, Nat.zero_add, Nat.reduceEqDiff, Nat.reduceBEq, ↓reduceIte, Bool.false_eq_true, List.append_nil, List.nil_append, List.cons_append, Option.toList, and_true, true_and, true_or, or_true, reduceCtorEq, List.map_nil, bI_eq0, bI_eq1, bool_ft, pk_us, vnar0, vnar1, Bool.or_false, Bool.or_true, Bool.false_or, Bool.true_or, mj_kne, eq_self, Int32.reduceLT, Int32.reduceLE, Int32.reduceAdd, Int32.reduceSub, Int32.reduceMul, not_true_eq_false, not_false_eq_true, false_implies, true_implies, D_X12_look, mj_F_aload_n_k, mj_F_bipush_n, mj_F_dup, mj_F_getfield_i, mj_F_goto_off, mj_F_iadd, mj_F_iaload, mj_F_iconst_n, mj_F_if_icmp_ge_off, mj_F_if_icmp_ne_off, mj_F_ireturn, mj_F_putfield_i, mj_c2, mj_kc, FT_X12, FT_X12_1, PT_X12, gS_M0, gMf_36, gMf_35, gMf_28, gS_M24, sS_Ma_24, sS_Mf_36, gMl, J_X12_look]
  refine ⟨fun c => ?_, fun c => ?_⟩
  · replace hw := ok_t hw c
    exact hG.2 _ _ _ _ _ _ _ _ _ (by refine ⟨Or.inr rfl, ?_⟩; exact trivial) (Nat.zero_le _) (Nat.zero_le _) (g_X12_look_38 hG  hw :)
  · replace hw := ok_f hw c
    refine ⟨(ok_rd hw).1, ?_⟩
    replace hw := (ok_rd hw).2
    refine ⟨fun c => ?_, fun c => ?_⟩
    · replace hw := ok_f hw c
      exact hG.2 _ _ _ _ _ _ _ _ _ (by refine ⟨Or.inr rfl, ?_⟩; exact trivial) (Nat.zero_le _) (Nat.zero_le _) (g_X12_look_38 hG  hw :)
    · replace hw := ok_t hw c
      replace hw := ok_wI hw
      exact hG.2 _ _ _ _ _ _ _ _ _ (by refine ⟨Or.inr rfl, ?_⟩; exact trivial) (Nat.zero_le _) (Nat.zero_le _) (g_X12_look_0 hG  hw :)

def c_X12_look : mj_S := fun as h k => ∃ (s : St), as = [.ref 0] ∧ h = mkMs s ∧ ok (F_X12_look s) (fun p => k (some (.int p.1)) (mkMs p.2))
theorem c_X12_look_in {s : St} {k : Option Value → mj_H → Prop} (hw : ok (F_X12_look s) (fun p => k (some (.int p.1)) (mkMs p.2))) : c_X12_look [.ref 0] (mkMs s) k := ⟨s, rfl, rfl, hw⟩
theorem m_X12_look (l : Launch) : mj_Met l yX12_look cX12_look 1 ((some FieldType.int)) 0 0 0 c_X12_look := by
  refine mj_body2 false (TbX12 1 ((some FieldType.int)) []) (by decide) rfl rfl (fun h => nomatch h) (tfX12 _ (fun _ h => nomatch h)) ?_
  rintro as h k ⟨s, rfl, rfl, hw⟩
  exact ⟨rfl, fun G hG => g_X12_look hG hw⟩
def F_X12_say (v1 : Int32) (s : St) : Option (St) :=
  (wr s 1229 420 (s.1 1239) v1).bind fun s1 =>
  (wI s1 1239 ((s1.1 1239) + 1)).bind fun s2 =>
  some s2
set_option maxHeartbeats 4000000 in
set_option maxRecDepth 20000 in
theorem g_X12_say {k : Option Value → mj_H → Prop} {G : mj_K} (hG : mj_cl2 cX12_say (TbX12 2 (none) []) k G) {v1 : Int32} {s : St} (hw : ok (F_X12_say v1 s) (fun p => k none (mkMs p))) : G 0 [.ref 0, .int v1] [] (mkMs s) 0 0 := by
  unfold F_X12_say at hw
  refine mj_run hG.1 (fun _ => false) 4000 ?_
  simp only [mj_step, mj_W_s, mj_fin, List.getElem?_cons_zero, List.getElem?_cons_succ, mj_go, Nat.reduceAdd, Nat.reduceSub, Nat.reduceLT, Nat.reduceLeDiff, Nat.zero_add, Nat.reduceEqDiff, Nat.reduceBEq, ↓reduceIte, Bool.false_eq_true, List.append_nil, List.nil_append, List.cons_append, Option.toList, and_true, true_and, true_or, or_true, reduceCtorEq, List.map_nil, bI_eq0, bI_eq1, bool_ft, pk_us, vnar0, vnar1, Bool.or_false, Bool.or_true, Bool.false_or, Bool.true_or, mj_kne, eq_self, Int32.reduceLT, Int32.reduceLE, Int32.reduceAdd, Int32.reduceSub, Int32.reduceMul, not_true_eq_false, not_false_eq_true, false_implies, true_implies, D_X12_say, mj_F_aload_n_k, mj_F_dup, mj_F_getfield_i, mj_F_iadd, mj_F_iastore, mj_F_iconst_n, mj_F_iload_n_k, mj_F_putfield_i, mj_F_return_, mj_c2, mj_kc, FT_X12, FT_X12_1, PT_X12, gS_M0, gMf_29, gS_M25, sS_Ma_25, gMf_39, sS_Mf_39, gMl]
  refine ⟨(ok_wr hw).1, ?_⟩
  replace hw := (ok_wr hw).2
  replace hw := ok_wI hw
  exact (ok_some hw :)

def c_X12_say : mj_S := fun as h k => ∃ (v1 : Int32) (s : St), as = [.ref 0, .int v1] ∧ h = mkMs s ∧ ok (F_X12_say v1 s) (fun p => k none (mkMs p))
theorem c_X12_say_in {v1 : Int32} {s : St} {k : Option Value → mj_H → Prop} (hw : ok (F_X12_say v1 s) (fun p => k none (mkMs p))) : c_X12_say [.ref 0, .int v1] (mkMs s) k := ⟨v1, s, rfl, rfl, hw⟩
theorem m_X12_say (l : Launch) : mj_Met l yX12_say cX12_say 2 (none) 0 0 0 c_X12_say := by
  refine mj_body2 false (TbX12 2 (none) []) (by decide) rfl rfl (fun h => nomatch h) (tfX12 _ (fun _ h => nomatch h)) ?_
  rintro as h k ⟨v1, s, rfl, rfl, hw⟩
  exact ⟨rfl, fun G hG => g_X12_say hG hw⟩
def F_X12_opens (s : St) : Option (Int32 × St) :=
  if (s.1 1238) = 6 then
    (F_X12_bad s).bind fun s3 =>
    some (0, s3)
  else
    (wI s 1238 ((s.1 1238) + 1)).bind fun s1 =>
    (wI s1 1236 ((s1.1 1236) + 1)).bind fun s2 =>
    some (1, s2)
theorem J_X12_opens : mj_t 6 9 = 15 ∧ (0 ≤ ((6 : Nat) : Int) + 9) = True := by and_intros <;> first | rfl | exact eq_true (by decide)
def ct_X12_opens : List (Nat × mj_Cs) := [(318, 0, 1, 12, 0, 0, c_X12_bad)]
theorem L_X12_opens : mj_lk ct_X12_opens 318 = some (0, 1, 12, 0, 0, c_X12_bad) := rfl
set_option maxHeartbeats 4000000 in
set_option maxRecDepth 20000 in
theorem g_X12_opens {k : Option Value → mj_H → Prop} {G : mj_K} (hG : mj_cl2 cX12_opens (TbX12 1 ((some FieldType.boolean)) ct_X12_opens) k G) {s : St} (hw : ok (F_X12_opens s) (fun p => k (some (.int p.1)) (mkMs p.2))) : G 0 [.ref 0] [] (mkMs s) 0 0 := by
  unfold F_X12_opens at hw
  refine mj_run hG.1 (fun pc => pc == 13) 4000 ?_
  simp only [mj_step, mj_W_s, mj_fin, List.getElem?_cons_zero, List.getElem?_cons_succ, mj_go, Nat.reduceAdd, Nat.reduceSub, Nat.reduceLT, Nat.reduceLeDiff, Nat.zero_add, Nat.reduceEqDiff, Nat.reduceBEq, ↓reduceIte, Bool.false_eq_true, List.append_nil, List.nil_append, List.cons_append, Option.toList, and_true, true_and, true_or, or_true, reduceCtorEq, List.map_nil, bI_eq0, bI_eq1, bool_ft, pk_us, vnar0, vnar1, Bool.or_false, Bool.or_true, Bool.false_or, Bool.true_or, mj_kne, eq_self, Int32.reduceLT, Int32.reduceLE, Int32.reduceAdd, Int32.reduceSub, Int32.reduceMul, not_true_eq_false, not_false_eq_true, false_implies, true_implies, D_X12_opens, mj_F_aload_n_k, mj_F_bipush_n, mj_F_dup, mj_F_getfield_i, mj_F_iadd, mj_F_iconst_n, mj_F_if_icmp_ne_off, mj_F_invokevirtual_i, mj_F_ireturn, mj_F_putfield_i, mj_c2, mj_kc, FT_X12, FT_X12_1, PT_X12, L_X12_opens, List.take_succ_cons, List.take_zero, List.drop_succ_cons, List.drop_zero, List.reverse_cons, List.reverse_nil, List.length_cons, List.length_nil, gS_M0, gMf_38, sS_Mf_38, gMl, gMf_36, sS_Mf_36, J_X12_opens]
  refine ⟨fun c => ?_, fun c => ?_⟩
  · replace hw := ok_f hw c
    replace hw := ok_wI hw
    replace hw := ok_wI hw
    exact (ok_some hw :)
  · replace hw := ok_t hw c
    refine c_X12_bad_in (ok_imp (ok_bind hw) ?_)
    intro p hw
    simp only [Option.toList, List.nil_append, List.cons_append, Nat.reduceSub]
    refine mj_run hG.1 (fun pc => pc == 13) 4000 ?_
    simp only [mj_step, mj_W_s, mj_fin, List.getElem?_cons_zero, List.getElem?_cons_succ, mj_go, Nat.reduceAdd, Nat.reduceSub, Nat.reduceLT, Nat.reduceLeDiff, Nat.zero_add, Nat.reduceEqDiff, Nat.reduceBEq, ↓reduceIte, Bool.false_eq_true, List.append_nil, List.nil_append, List.cons_append, Option.toList, and_true, true_and, true_or, or_true, reduceCtorEq, List.map_nil, bI_eq0, bI_eq1, bool_ft, pk_us, vnar0, vnar1, Bool.or_false, Bool.or_true, Bool.false_or, Bool.true_or, mj_kne, eq_self, Int32.reduceLT, Int32.reduceLE, Int32.reduceAdd, Int32.reduceSub, Int32.reduceMul, not_true_eq_false, not_false_eq_true, false_implies, true_implies, D_X12_opens, mj_F_aload_n_k, mj_F_bipush_n, mj_F_dup, mj_F_getfield_i, mj_F_iadd, mj_F_iconst_n, mj_F_if_icmp_ne_off, mj_F_invokevirtual_i, mj_F_ireturn, mj_F_putfield_i, mj_c2, mj_kc, FT_X12, FT_X12_1, PT_X12, L_X12_opens, List.take_succ_cons, List.take_zero, List.drop_succ_cons, List.drop_zero, List.reverse_cons, List.reverse_nil, List.length_cons, List.length_nil, gS_M0, gMf_38, sS_Mf_38, gMl, gMf_36, sS_Mf_36, J_X12_opens]
    exact (ok_some hw :)

def c_X12_opens : mj_S := fun as h k => ∃ (s : St), as = [.ref 0] ∧ h = mkMs s ∧ ok (F_X12_opens s) (fun p => k (some (.int p.1)) (mkMs p.2))
theorem c_X12_opens_in {s : St} {k : Option Value → mj_H → Prop} (hw : ok (F_X12_opens s) (fun p => k (some (.int p.1)) (mkMs p.2))) : c_X12_opens [.ref 0] (mkMs s) k := ⟨s, rfl, rfl, hw⟩
theorem m_X12_opens (l : Launch) : mj_Met l yX12_opens cX12_opens 1 ((some FieldType.boolean)) 1 0 0 c_X12_opens := by
  refine mj_body2 false (TbX12 1 ((some FieldType.boolean)) ct_X12_opens) (by decide) rfl rfl (fun h => nomatch h) (tfX12 _ (List.forall_mem_cons.mpr ⟨cfX12_318 (m_X12_bad l) (by decide), fun _ h => nomatch h⟩)) ?_
  rintro as h k ⟨s, rfl, rfl, hw⟩
  exact ⟨rfl, fun G hG => g_X12_opens hG hw⟩
def F_X12_closes (v1 : Int32) (s : St) : Option (St) :=
  if (s.1 1237) = (-1) then
    (F_X12_look s).bind fun r3 =>
    if r3.1 = v1 then
      (wI r3.2 1236 ((r3.2.1 1236) + 1)).bind fun s4 =>
      (wI s4 1238 ((s4.1 1238) - 1)).bind fun s5 =>
      some s5
    else
      (F_X12_bad r3.2).bind fun s6 =>
      (wI s6 1236 ((s6.1 1236) + 1)).bind fun s7 =>
      (wI s7 1238 ((s7.1 1238) - 1)).bind fun s8 =>
      some s8
  else
    (wI s 1236 ((s.1 1236) + 1)).bind fun s1 =>
    (wI s1 1238 ((s1.1 1238) - 1)).bind fun s2 =>
    some s2
theorem J_X12_closes : mj_t 5 15 = 20 ∧ mj_t 13 7 = 20 ∧ (0 ≤ ((5 : Nat) : Int) + 15) = True ∧ (0 ≤ ((13 : Nat) : Int) + 7) = True := by and_intros <;> first | rfl | exact eq_true (by decide)
def ct_X12_closes : List (Nat × mj_Cs) := [(318, 0, 1, 12, 0, 0, c_X12_bad), (321, 0, 1, 12, 0, 0, c_X12_look)]
theorem L_X12_closes : mj_lk ct_X12_closes 318 = some (0, 1, 12, 0, 0, c_X12_bad) ∧ mj_lk ct_X12_closes 321 = some (0, 1, 12, 0, 0, c_X12_look) := ⟨rfl, rfl⟩
set_option maxHeartbeats 4000000 in
set_option maxRecDepth 20000 in
theorem g_X12_closes {k : Option Value → mj_H → Prop} {G : mj_K} (hG : mj_cl2 cX12_closes (TbX12 2 (none) ct_X12_closes) k G) {v1 : Int32} {s : St} (hw : ok (F_X12_closes v1 s) (fun p => k none (mkMs p))) : G 0 [.ref 0, .int v1] [] (mkMs s) 0 0 := by
  unfold F_X12_closes at hw
  refine mj_run hG.1 (fun pc => pc == 12 || pc == 20) 4000 ?_
  simp only [mj_step, mj_W_s, mj_fin, List.getElem?_cons_zero, List.getElem?_cons_succ, mj_go, Nat.reduceAdd, Nat.reduceSub, Nat.reduceLT, Nat.reduceLeDiff, Nat.zero_add, Nat.reduceEqDiff, Nat.reduceBEq, ↓reduceIte, Bool.false_eq_true, List.append_nil, List.nil_append, List.cons_append, Option.toList, and_true, true_and, true_or, or_true, reduceCtorEq, List.map_nil, bI_eq0, bI_eq1, bool_ft, pk_us, vnar0, vnar1, Bool.or_false, Bool.or_true, Bool.false_or, Bool.true_or, mj_kne, eq_self, Int32.reduceLT, Int32.reduceLE, Int32.reduceAdd, Int32.reduceSub, Int32.reduceMul, not_true_eq_false, not_false_eq_true, false_implies, true_implies, D_X12_closes, mj_F_aload_n_k, mj_F_dup, mj_F_getfield_i, mj_F_iadd, mj_F_iconst_n, mj_F_if_icmp_eq_off, mj_F_if_icmp_ne_off, mj_F_iload_n_k, mj_F_invokevirtual_i, mj_F_isub, mj_F_putfield_i, mj_F_return_, mj_c2, mj_kc, FT_X12, FT_X12_1, PT_X12, L_X12_closes, List.take_succ_cons, List.take_zero, List.drop_succ_cons, List.drop_zero, List.reverse_cons, List.reverse_nil, List.length_cons, List.length_nil, gS_M0, gMf_37, gMf_36, sS_Mf_36, gMl, gMf_38, sS_Mf_38, J_X12_closes]
  refine ⟨fun c => ?_, fun c => ?_⟩
  · replace hw := ok_f hw c
    refine mj_run hG.1 (fun pc => pc == 12 || pc == 20) 4000 ?_
    simp only [mj_step, mj_W_s, mj_fin, List.getElem?_cons_zero, List.getElem?_cons_succ, mj_go, Nat.reduceAdd, Nat.reduceSub, Nat.reduceLT, Nat.reduceLeDiff, Nat.zero_add, Nat.reduceEqDiff, Nat.reduceBEq, ↓reduceIte, Bool.false_eq_true, List.append_nil, List.nil_append, List.cons_append, Option.toList, and_true, true_and, true_or, or_true, reduceCtorEq, List.map_nil, bI_eq0, bI_eq1, bool_ft, pk_us, vnar0, vnar1, Bool.or_false, Bool.or_true, Bool.false_or, Bool.true_or, mj_kne, eq_self, Int32.reduceLT, Int32.reduceLE, Int32.reduceAdd, Int32.reduceSub, Int32.reduceMul, not_true_eq_false, not_false_eq_true, false_implies, true_implies, D_X12_closes, mj_F_aload_n_k, mj_F_dup, mj_F_getfield_i, mj_F_iadd, mj_F_iconst_n, mj_F_if_icmp_eq_off, mj_F_if_icmp_ne_off, mj_F_iload_n_k, mj_F_invokevirtual_i, mj_F_isub, mj_F_putfield_i, mj_F_return_, mj_c2, mj_kc, FT_X12, FT_X12_1, PT_X12, L_X12_closes, List.take_succ_cons, List.take_zero, List.drop_succ_cons, List.drop_zero, List.reverse_cons, List.reverse_nil, List.length_cons, List.length_nil, gS_M0, gMf_37, gMf_36, sS_Mf_36, gMl, gMf_38, sS_Mf_38, J_X12_closes]
    replace hw := ok_wI hw
    replace hw := ok_wI hw
    exact (ok_some hw :)
  · replace hw := ok_t hw c
    refine c_X12_look_in (ok_imp (ok_bind hw) ?_)
    intro p hw
    simp only [Option.toList, List.nil_append, List.cons_append, Nat.reduceSub]
    refine mj_run hG.1 (fun pc => pc == 12 || pc == 20) 4000 ?_
    simp only [mj_step, mj_W_s, mj_fin, List.getElem?_cons_zero, List.getElem?_cons_succ, mj_go, Nat.reduceAdd, Nat.reduceSub, Nat.reduceLT, Nat.reduceLeDiff, Nat.zero_add, Nat.reduceEqDiff, Nat.reduceBEq, ↓reduceIte, Bool.false_eq_true, List.append_nil, List.nil_append, List.cons_append, Option.toList, and_true, true_and, true_or, or_true, reduceCtorEq, List.map_nil, bI_eq0, bI_eq1, bool_ft, pk_us, vnar0, vnar1, Bool.or_false, Bool.or_true, Bool.false_or, Bool.true_or, mj_kne, eq_self, Int32.reduceLT, Int32.reduceLE, Int32.reduceAdd, Int32.reduceSub, Int32.reduceMul, not_true_eq_false, not_false_eq_true, false_implies, true_implies, D_X12_closes, mj_F_aload_n_k, mj_F_dup, mj_F_getfield_i, mj_F_iadd, mj_F_iconst_n, mj_F_if_icmp_eq_off, mj_F_if_icmp_ne_off, mj_F_iload_n_k, mj_F_invokevirtual_i, mj_F_isub, mj_F_putfield_i, mj_F_return_, mj_c2, mj_kc, FT_X12, FT_X12_1, PT_X12, L_X12_closes, List.take_succ_cons, List.take_zero, List.drop_succ_cons, List.drop_zero, List.reverse_cons, List.reverse_nil, List.length_cons, List.length_nil, gS_M0, gMf_37, gMf_36, sS_Mf_36, gMl, gMf_38, sS_Mf_38, J_X12_closes]
    refine ⟨fun c => ?_, fun c => ?_⟩
    · replace hw := ok_t hw c
      refine mj_run hG.1 (fun pc => pc == 12 || pc == 20) 4000 ?_
      simp only [mj_step, mj_W_s, mj_fin, List.getElem?_cons_zero, List.getElem?_cons_succ, mj_go, Nat.reduceAdd, Nat.reduceSub, Nat.reduceLT, Nat.reduceLeDiff, Nat.zero_add, Nat.reduceEqDiff, Nat.reduceBEq, ↓reduceIte, Bool.false_eq_true, List.append_nil, List.nil_append, List.cons_append, Option.toList, and_true, true_and, true_or, or_true, reduceCtorEq, List.map_nil, bI_eq0, bI_eq1, bool_ft, pk_us, vnar0, vnar1, Bool.or_false, Bool.or_true, Bool.false_or, Bool.true_or, mj_kne, eq_self, Int32.reduceLT, Int32.reduceLE, Int32.reduceAdd, Int32.reduceSub, Int32.reduceMul, not_true_eq_false, not_false_eq_true, false_implies, true_implies, D_X12_closes, mj_F_aload_n_k, mj_F_dup, mj_F_getfield_i, mj_F_iadd, mj_F_iconst_n, mj_F_if_icmp_eq_off, mj_F_if_icmp_ne_off, mj_F_iload_n_k, mj_F_invokevirtual_i, mj_F_isub, mj_F_putfield_i, mj_F_return_, mj_c2, mj_kc, FT_X12, FT_X12_1, PT_X12, L_X12_closes, List.take_succ_cons, List.take_zero, List.drop_succ_cons, List.drop_zero, List.reverse_cons, List.reverse_nil, List.length_cons, List.length_nil, gS_M0, gMf_37, gMf_36, sS_Mf_36, gMl, gMf_38, sS_Mf_38, J_X12_closes]
      replace hw := ok_wI hw
      replace hw := ok_wI hw
      exact (ok_some hw :)
    · replace hw := ok_f hw c
      refine c_X12_bad_in (ok_imp (ok_bind hw) ?_)
      intro p hw
      simp only [Option.toList, List.nil_append, List.cons_append, Nat.reduceSub]
      refine mj_run hG.1 (fun pc => pc == 12 || pc == 20) 4000 ?_
      simp only [mj_step, mj_W_s, mj_fin, List.getElem?_cons_zero, List.getElem?_cons_succ, mj_go, Nat.reduceAdd, Nat.reduceSub, Nat.reduceLT, Nat.reduceLeDiff, Nat.zero_add, Nat.reduceEqDiff, Nat.reduceBEq, ↓reduceIte, Bool.false_eq_true, List.append_nil, List.nil_append, List.cons_append, Option.toList, and_true, true_and, true_or, or_true, reduceCtorEq, List.map_nil, bI_eq0, bI_eq1, bool_ft, pk_us, vnar0, vnar1, Bool.or_false, Bool.or_true, Bool.false_or, Bool.true_or, mj_kne, eq_self, Int32.reduceLT, Int32.reduceLE, Int32.reduceAdd, Int32.reduceSub, Int32.reduceMul, not_true_eq_false, not_false_eq_true, false_implies, true_implies, D_X12_closes, mj_F_aload_n_k, mj_F_dup, mj_F_getfield_i, mj_F_iadd, mj_F_iconst_n, mj_F_if_icmp_eq_off, mj_F_if_icmp_ne_off, mj_F_iload_n_k, mj_F_invokevirtual_i, mj_F_isub, mj_F_putfield_i, mj_F_return_, mj_c2, mj_kc, FT_X12, FT_X12_1, PT_X12, L_X12_closes, List.take_succ_cons, List.take_zero, List.drop_succ_cons, List.drop_zero, List.reverse_cons, List.reverse_nil, List.length_cons, List.length_nil, gS_M0, gMf_37, gMf_36, sS_Mf_36, gMl, gMf_38, sS_Mf_38, J_X12_closes]
      replace hw := ok_wI hw
      replace hw := ok_wI hw
      exact (ok_some hw :)

def c_X12_closes : mj_S := fun as h k => ∃ (v1 : Int32) (s : St), as = [.ref 0, .int v1] ∧ h = mkMs s ∧ ok (F_X12_closes v1 s) (fun p => k none (mkMs p))
theorem c_X12_closes_in {v1 : Int32} {s : St} {k : Option Value → mj_H → Prop} (hw : ok (F_X12_closes v1 s) (fun p => k none (mkMs p))) : c_X12_closes [.ref 0, .int v1] (mkMs s) k := ⟨v1, s, rfl, rfl, hw⟩
theorem m_X12_closes (l : Launch) : mj_Met l yX12_closes cX12_closes 2 (none) 1 0 0 c_X12_closes := by
  refine mj_body2 false (TbX12 2 (none) ct_X12_closes) (by decide) rfl rfl (fun h => nomatch h) (tfX12 _ (List.forall_mem_cons.mpr ⟨cfX12_318 (m_X12_bad l) (by decide), List.forall_mem_cons.mpr ⟨cfX12_321 (m_X12_look l) (by decide), fun _ h => nomatch h⟩⟩)) ?_
  rintro as h k ⟨v1, s, rfl, rfl, hw⟩
  exact ⟨rfl, fun G hG => g_X12_closes hG hw⟩
def F_X12_isLetter (v0 : Int32) : Option (Int32) :=
  if v0 = 105 then
    some 1
  else
  if v0 = 108 then
    some 1
  else
  if v0 = 110 then
    some 1
  else
  if v0 = 114 then
    some 1
  else
  if v0 = 120 then
    some 1
  else
  if v0 = 121 then
    some 1
  else
  some 0
theorem J_X12_isLetter : mj_t 1 83 = 84 ∧ mj_t 1 85 = 86 ∧ (0 ≤ ((1 : Nat) : Int) + 83) = True ∧ (0 ≤ ((1 : Nat) : Int) + 85) = True := by and_intros <;> first | rfl | exact eq_true (by decide)
set_option maxHeartbeats 4000000 in
set_option maxRecDepth 20000 in
theorem g_X12_isLetter {k : Option Value → mj_H → Prop} {G : mj_K} (hG : mj_cl2 cX12_isLetter (TbX12 1 ((some FieldType.boolean)) []) k G) {h : mj_H} {v0 : Int32} (hw : ok (F_X12_isLetter v0) (fun p => k (some (.int p)) h)) : G 0 [.int v0] [] h 0 0 := by
  unfold F_X12_isLetter at hw
  refine mj_run hG.1 (fun _ => false) 4000 ?_
  simp only [mj_step, mj_W_s, mj_fin, List.getElem?_cons_zero, List.getElem?_cons_succ, mj_go, Nat.reduceAdd, Nat.reduceSub, Nat.reduceLT, Nat.reduceLeDiff, Nat.zero_add, Nat.reduceEqDiff, Nat.reduceBEq, ↓reduceIte, Bool.false_eq_true, List.append_nil, List.nil_append, List.cons_append, Option.toList, and_true, true_and, true_or, or_true, reduceCtorEq, List.map_nil, bI_eq0, bI_eq1, bool_ft, pk_us, vnar0, vnar1, Bool.or_false, Bool.or_true, Bool.false_or, Bool.true_or, mj_kne, eq_self, Int32.reduceLT, Int32.reduceLE, Int32.reduceAdd, Int32.reduceSub, Int32.reduceMul, not_true_eq_false, not_false_eq_true, false_implies, true_implies, D_X12_isLetter, mj_F_iconst_n, mj_F_iload_n_k, mj_F_ireturn, mj_kc, J_X12_isLetter]
  by_cases c1 : v0 = 105
  · replace hw := ok_t hw c1
    have c := c1
    refine mj_tsc 0 83 (by rw [show v0 = 105 from c]; decide) (by decide) rfl (by decide) ?_
    simp only [mj_step, mj_W_s, mj_fin, List.getElem?_cons_zero, List.getElem?_cons_succ, mj_go, Nat.reduceAdd, Nat.reduceSub, Nat.reduceLT, Nat.reduceLeDiff, Nat.zero_add, Nat.reduceEqDiff, Nat.reduceBEq, ↓reduceIte, Bool.false_eq_true, List.append_nil, List.nil_append, List.cons_append, Option.toList, and_true, true_and, true_or, or_true, reduceCtorEq, List.map_nil, bI_eq0, bI_eq1, bool_ft, pk_us, vnar0, vnar1, Bool.or_false, Bool.or_true, Bool.false_or, Bool.true_or, mj_kne, eq_self, Int32.reduceLT, Int32.reduceLE, Int32.reduceAdd, Int32.reduceSub, Int32.reduceMul, not_true_eq_false, not_false_eq_true, false_implies, true_implies, D_X12_isLetter, mj_F_iconst_n, mj_F_iload_n_k, mj_F_ireturn, mj_kc, J_X12_isLetter]
    exact (ok_some hw :)
  replace hw := ok_f hw c1
  by_cases c2 : v0 = 108
  · replace hw := ok_t hw c2
    have c := c2
    refine mj_tsc 3 83 (by rw [show v0 = 108 from c]; decide) (by decide) rfl (by decide) ?_
    simp only [mj_step, mj_W_s, mj_fin, List.getElem?_cons_zero, List.getElem?_cons_succ, mj_go, Nat.reduceAdd, Nat.reduceSub, Nat.reduceLT, Nat.reduceLeDiff, Nat.zero_add, Nat.reduceEqDiff, Nat.reduceBEq, ↓reduceIte, Bool.false_eq_true, List.append_nil, List.nil_append, List.cons_append, Option.toList, and_true, true_and, true_or, or_true, reduceCtorEq, List.map_nil, bI_eq0, bI_eq1, bool_ft, pk_us, vnar0, vnar1, Bool.or_false, Bool.or_true, Bool.false_or, Bool.true_or, mj_kne, eq_self, Int32.reduceLT, Int32.reduceLE, Int32.reduceAdd, Int32.reduceSub, Int32.reduceMul, not_true_eq_false, not_false_eq_true, false_implies, true_implies, D_X12_isLetter, mj_F_iconst_n, mj_F_iload_n_k, mj_F_ireturn, mj_kc, J_X12_isLetter]
    exact (ok_some hw :)
  replace hw := ok_f hw c2
  by_cases c3 : v0 = 110
  · replace hw := ok_t hw c3
    have c := c3
    refine mj_tsc 5 83 (by rw [show v0 = 110 from c]; decide) (by decide) rfl (by decide) ?_
    simp only [mj_step, mj_W_s, mj_fin, List.getElem?_cons_zero, List.getElem?_cons_succ, mj_go, Nat.reduceAdd, Nat.reduceSub, Nat.reduceLT, Nat.reduceLeDiff, Nat.zero_add, Nat.reduceEqDiff, Nat.reduceBEq, ↓reduceIte, Bool.false_eq_true, List.append_nil, List.nil_append, List.cons_append, Option.toList, and_true, true_and, true_or, or_true, reduceCtorEq, List.map_nil, bI_eq0, bI_eq1, bool_ft, pk_us, vnar0, vnar1, Bool.or_false, Bool.or_true, Bool.false_or, Bool.true_or, mj_kne, eq_self, Int32.reduceLT, Int32.reduceLE, Int32.reduceAdd, Int32.reduceSub, Int32.reduceMul, not_true_eq_false, not_false_eq_true, false_implies, true_implies, D_X12_isLetter, mj_F_iconst_n, mj_F_iload_n_k, mj_F_ireturn, mj_kc, J_X12_isLetter]
    exact (ok_some hw :)
  replace hw := ok_f hw c3
  by_cases c4 : v0 = 114
  · replace hw := ok_t hw c4
    have c := c4
    refine mj_tsc 9 83 (by rw [show v0 = 114 from c]; decide) (by decide) rfl (by decide) ?_
    simp only [mj_step, mj_W_s, mj_fin, List.getElem?_cons_zero, List.getElem?_cons_succ, mj_go, Nat.reduceAdd, Nat.reduceSub, Nat.reduceLT, Nat.reduceLeDiff, Nat.zero_add, Nat.reduceEqDiff, Nat.reduceBEq, ↓reduceIte, Bool.false_eq_true, List.append_nil, List.nil_append, List.cons_append, Option.toList, and_true, true_and, true_or, or_true, reduceCtorEq, List.map_nil, bI_eq0, bI_eq1, bool_ft, pk_us, vnar0, vnar1, Bool.or_false, Bool.or_true, Bool.false_or, Bool.true_or, mj_kne, eq_self, Int32.reduceLT, Int32.reduceLE, Int32.reduceAdd, Int32.reduceSub, Int32.reduceMul, not_true_eq_false, not_false_eq_true, false_implies, true_implies, D_X12_isLetter, mj_F_iconst_n, mj_F_iload_n_k, mj_F_ireturn, mj_kc, J_X12_isLetter]
    exact (ok_some hw :)
  replace hw := ok_f hw c4
  by_cases c5 : v0 = 120
  · replace hw := ok_t hw c5
    have c := c5
    refine mj_tsc 15 83 (by rw [show v0 = 120 from c]; decide) (by decide) rfl (by decide) ?_
    simp only [mj_step, mj_W_s, mj_fin, List.getElem?_cons_zero, List.getElem?_cons_succ, mj_go, Nat.reduceAdd, Nat.reduceSub, Nat.reduceLT, Nat.reduceLeDiff, Nat.zero_add, Nat.reduceEqDiff, Nat.reduceBEq, ↓reduceIte, Bool.false_eq_true, List.append_nil, List.nil_append, List.cons_append, Option.toList, and_true, true_and, true_or, or_true, reduceCtorEq, List.map_nil, bI_eq0, bI_eq1, bool_ft, pk_us, vnar0, vnar1, Bool.or_false, Bool.or_true, Bool.false_or, Bool.true_or, mj_kne, eq_self, Int32.reduceLT, Int32.reduceLE, Int32.reduceAdd, Int32.reduceSub, Int32.reduceMul, not_true_eq_false, not_false_eq_true, false_implies, true_implies, D_X12_isLetter, mj_F_iconst_n, mj_F_iload_n_k, mj_F_ireturn, mj_kc, J_X12_isLetter]
    exact (ok_some hw :)
  replace hw := ok_f hw c5
  by_cases c6 : v0 = 121
  · replace hw := ok_t hw c6
    have c := c6
    refine mj_tsc 16 83 (by rw [show v0 = 121 from c]; decide) (by decide) rfl (by decide) ?_
    simp only [mj_step, mj_W_s, mj_fin, List.getElem?_cons_zero, List.getElem?_cons_succ, mj_go, Nat.reduceAdd, Nat.reduceSub, Nat.reduceLT, Nat.reduceLeDiff, Nat.zero_add, Nat.reduceEqDiff, Nat.reduceBEq, ↓reduceIte, Bool.false_eq_true, List.append_nil, List.nil_append, List.cons_append, Option.toList, and_true, true_and, true_or, or_true, reduceCtorEq, List.map_nil, bI_eq0, bI_eq1, bool_ft, pk_us, vnar0, vnar1, Bool.or_false, Bool.or_true, Bool.false_or, Bool.true_or, mj_kne, eq_self, Int32.reduceLT, Int32.reduceLE, Int32.reduceAdd, Int32.reduceSub, Int32.reduceMul, not_true_eq_false, not_false_eq_true, false_implies, true_implies, D_X12_isLetter, mj_F_iconst_n, mj_F_iload_n_k, mj_F_ireturn, mj_kc, J_X12_isLetter]
    exact (ok_some hw :)
  replace hw := ok_f hw c6
  by_cases c7 : v0 = 106
  · have c := c7
    refine mj_tsc 1 85 (by rw [show v0 = 106 from c]; decide) (by decide) rfl (by decide) ?_
    simp only [mj_step, mj_W_s, mj_fin, List.getElem?_cons_zero, List.getElem?_cons_succ, mj_go, Nat.reduceAdd, Nat.reduceSub, Nat.reduceLT, Nat.reduceLeDiff, Nat.zero_add, Nat.reduceEqDiff, Nat.reduceBEq, ↓reduceIte, Bool.false_eq_true, List.append_nil, List.nil_append, List.cons_append, Option.toList, and_true, true_and, true_or, or_true, reduceCtorEq, List.map_nil, bI_eq0, bI_eq1, bool_ft, pk_us, vnar0, vnar1, Bool.or_false, Bool.or_true, Bool.false_or, Bool.true_or, mj_kne, eq_self, Int32.reduceLT, Int32.reduceLE, Int32.reduceAdd, Int32.reduceSub, Int32.reduceMul, not_true_eq_false, not_false_eq_true, false_implies, true_implies, D_X12_isLetter, mj_F_iconst_n, mj_F_iload_n_k, mj_F_ireturn, mj_kc, J_X12_isLetter]
    exact (ok_some hw :)
  by_cases c8 : v0 = 107
  · have c := c8
    refine mj_tsc 2 85 (by rw [show v0 = 107 from c]; decide) (by decide) rfl (by decide) ?_
    simp only [mj_step, mj_W_s, mj_fin, List.getElem?_cons_zero, List.getElem?_cons_succ, mj_go, Nat.reduceAdd, Nat.reduceSub, Nat.reduceLT, Nat.reduceLeDiff, Nat.zero_add, Nat.reduceEqDiff, Nat.reduceBEq, ↓reduceIte, Bool.false_eq_true, List.append_nil, List.nil_append, List.cons_append, Option.toList, and_true, true_and, true_or, or_true, reduceCtorEq, List.map_nil, bI_eq0, bI_eq1, bool_ft, pk_us, vnar0, vnar1, Bool.or_false, Bool.or_true, Bool.false_or, Bool.true_or, mj_kne, eq_self, Int32.reduceLT, Int32.reduceLE, Int32.reduceAdd, Int32.reduceSub, Int32.reduceMul, not_true_eq_false, not_false_eq_true, false_implies, true_implies, D_X12_isLetter, mj_F_iconst_n, mj_F_iload_n_k, mj_F_ireturn, mj_kc, J_X12_isLetter]
    exact (ok_some hw :)
  by_cases c9 : v0 = 109
  · have c := c9
    refine mj_tsc 4 85 (by rw [show v0 = 109 from c]; decide) (by decide) rfl (by decide) ?_
    simp only [mj_step, mj_W_s, mj_fin, List.getElem?_cons_zero, List.getElem?_cons_succ, mj_go, Nat.reduceAdd, Nat.reduceSub, Nat.reduceLT, Nat.reduceLeDiff, Nat.zero_add, Nat.reduceEqDiff, Nat.reduceBEq, ↓reduceIte, Bool.false_eq_true, List.append_nil, List.nil_append, List.cons_append, Option.toList, and_true, true_and, true_or, or_true, reduceCtorEq, List.map_nil, bI_eq0, bI_eq1, bool_ft, pk_us, vnar0, vnar1, Bool.or_false, Bool.or_true, Bool.false_or, Bool.true_or, mj_kne, eq_self, Int32.reduceLT, Int32.reduceLE, Int32.reduceAdd, Int32.reduceSub, Int32.reduceMul, not_true_eq_false, not_false_eq_true, false_implies, true_implies, D_X12_isLetter, mj_F_iconst_n, mj_F_iload_n_k, mj_F_ireturn, mj_kc, J_X12_isLetter]
    exact (ok_some hw :)
  by_cases c10 : v0 = 111
  · have c := c10
    refine mj_tsc 6 85 (by rw [show v0 = 111 from c]; decide) (by decide) rfl (by decide) ?_
    simp only [mj_step, mj_W_s, mj_fin, List.getElem?_cons_zero, List.getElem?_cons_succ, mj_go, Nat.reduceAdd, Nat.reduceSub, Nat.reduceLT, Nat.reduceLeDiff, Nat.zero_add, Nat.reduceEqDiff, Nat.reduceBEq, ↓reduceIte, Bool.false_eq_true, List.append_nil, List.nil_append, List.cons_append, Option.toList, and_true, true_and, true_or, or_true, reduceCtorEq, List.map_nil, bI_eq0, bI_eq1, bool_ft, pk_us, vnar0, vnar1, Bool.or_false, Bool.or_true, Bool.false_or, Bool.true_or, mj_kne, eq_self, Int32.reduceLT, Int32.reduceLE, Int32.reduceAdd, Int32.reduceSub, Int32.reduceMul, not_true_eq_false, not_false_eq_true, false_implies, true_implies, D_X12_isLetter, mj_F_iconst_n, mj_F_iload_n_k, mj_F_ireturn, mj_kc, J_X12_isLetter]
    exact (ok_some hw :)
  by_cases c11 : v0 = 112
  · have c := c11
    refine mj_tsc 7 85 (by rw [show v0 = 112 from c]; decide) (by decide) rfl (by decide) ?_
    simp only [mj_step, mj_W_s, mj_fin, List.getElem?_cons_zero, List.getElem?_cons_succ, mj_go, Nat.reduceAdd, Nat.reduceSub, Nat.reduceLT, Nat.reduceLeDiff, Nat.zero_add, Nat.reduceEqDiff, Nat.reduceBEq, ↓reduceIte, Bool.false_eq_true, List.append_nil, List.nil_append, List.cons_append, Option.toList, and_true, true_and, true_or, or_true, reduceCtorEq, List.map_nil, bI_eq0, bI_eq1, bool_ft, pk_us, vnar0, vnar1, Bool.or_false, Bool.or_true, Bool.false_or, Bool.true_or, mj_kne, eq_self, Int32.reduceLT, Int32.reduceLE, Int32.reduceAdd, Int32.reduceSub, Int32.reduceMul, not_true_eq_false, not_false_eq_true, false_implies, true_implies, D_X12_isLetter, mj_F_iconst_n, mj_F_iload_n_k, mj_F_ireturn, mj_kc, J_X12_isLetter]
    exact (ok_some hw :)
  by_cases c12 : v0 = 113
  · have c := c12
    refine mj_tsc 8 85 (by rw [show v0 = 113 from c]; decide) (by decide) rfl (by decide) ?_
    simp only [mj_step, mj_W_s, mj_fin, List.getElem?_cons_zero, List.getElem?_cons_succ, mj_go, Nat.reduceAdd, Nat.reduceSub, Nat.reduceLT, Nat.reduceLeDiff, Nat.zero_add, Nat.reduceEqDiff, Nat.reduceBEq, ↓reduceIte, Bool.false_eq_true, List.append_nil, List.nil_append, List.cons_append, Option.toList, and_true, true_and, true_or, or_true, reduceCtorEq, List.map_nil, bI_eq0, bI_eq1, bool_ft, pk_us, vnar0, vnar1, Bool.or_false, Bool.or_true, Bool.false_or, Bool.true_or, mj_kne, eq_self, Int32.reduceLT, Int32.reduceLE, Int32.reduceAdd, Int32.reduceSub, Int32.reduceMul, not_true_eq_false, not_false_eq_true, false_implies, true_implies, D_X12_isLetter, mj_F_iconst_n, mj_F_iload_n_k, mj_F_ireturn, mj_kc, J_X12_isLetter]
    exact (ok_some hw :)
  by_cases c13 : v0 = 115
  · have c := c13
    refine mj_tsc 10 85 (by rw [show v0 = 115 from c]; decide) (by decide) rfl (by decide) ?_
    simp only [mj_step, mj_W_s, mj_fin, List.getElem?_cons_zero, List.getElem?_cons_succ, mj_go, Nat.reduceAdd, Nat.reduceSub, Nat.reduceLT, Nat.reduceLeDiff, Nat.zero_add, Nat.reduceEqDiff, Nat.reduceBEq, ↓reduceIte, Bool.false_eq_true, List.append_nil, List.nil_append, List.cons_append, Option.toList, and_true, true_and, true_or, or_true, reduceCtorEq, List.map_nil, bI_eq0, bI_eq1, bool_ft, pk_us, vnar0, vnar1, Bool.or_false, Bool.or_true, Bool.false_or, Bool.true_or, mj_kne, eq_self, Int32.reduceLT, Int32.reduceLE, Int32.reduceAdd, Int32.reduceSub, Int32.reduceMul, not_true_eq_false, not_false_eq_true, false_implies, true_implies, D_X12_isLetter, mj_F_iconst_n, mj_F_iload_n_k, mj_F_ireturn, mj_kc, J_X12_isLetter]
    exact (ok_some hw :)
  by_cases c14 : v0 = 116
  · have c := c14
    refine mj_tsc 11 85 (by rw [show v0 = 116 from c]; decide) (by decide) rfl (by decide) ?_
    simp only [mj_step, mj_W_s, mj_fin, List.getElem?_cons_zero, List.getElem?_cons_succ, mj_go, Nat.reduceAdd, Nat.reduceSub, Nat.reduceLT, Nat.reduceLeDiff, Nat.zero_add, Nat.reduceEqDiff, Nat.reduceBEq, ↓reduceIte, Bool.false_eq_true, List.append_nil, List.nil_append, List.cons_append, Option.toList, and_true, true_and, true_or, or_true, reduceCtorEq, List.map_nil, bI_eq0, bI_eq1, bool_ft, pk_us, vnar0, vnar1, Bool.or_false, Bool.or_true, Bool.false_or, Bool.true_or, mj_kne, eq_self, Int32.reduceLT, Int32.reduceLE, Int32.reduceAdd, Int32.reduceSub, Int32.reduceMul, not_true_eq_false, not_false_eq_true, false_implies, true_implies, D_X12_isLetter, mj_F_iconst_n, mj_F_iload_n_k, mj_F_ireturn, mj_kc, J_X12_isLetter]
    exact (ok_some hw :)
  by_cases c15 : v0 = 117
  · have c := c15
    refine mj_tsc 12 85 (by rw [show v0 = 117 from c]; decide) (by decide) rfl (by decide) ?_
    simp only [mj_step, mj_W_s, mj_fin, List.getElem?_cons_zero, List.getElem?_cons_succ, mj_go, Nat.reduceAdd, Nat.reduceSub, Nat.reduceLT, Nat.reduceLeDiff, Nat.zero_add, Nat.reduceEqDiff, Nat.reduceBEq, ↓reduceIte, Bool.false_eq_true, List.append_nil, List.nil_append, List.cons_append, Option.toList, and_true, true_and, true_or, or_true, reduceCtorEq, List.map_nil, bI_eq0, bI_eq1, bool_ft, pk_us, vnar0, vnar1, Bool.or_false, Bool.or_true, Bool.false_or, Bool.true_or, mj_kne, eq_self, Int32.reduceLT, Int32.reduceLE, Int32.reduceAdd, Int32.reduceSub, Int32.reduceMul, not_true_eq_false, not_false_eq_true, false_implies, true_implies, D_X12_isLetter, mj_F_iconst_n, mj_F_iload_n_k, mj_F_ireturn, mj_kc, J_X12_isLetter]
    exact (ok_some hw :)
  by_cases c16 : v0 = 118
  · have c := c16
    refine mj_tsc 13 85 (by rw [show v0 = 118 from c]; decide) (by decide) rfl (by decide) ?_
    simp only [mj_step, mj_W_s, mj_fin, List.getElem?_cons_zero, List.getElem?_cons_succ, mj_go, Nat.reduceAdd, Nat.reduceSub, Nat.reduceLT, Nat.reduceLeDiff, Nat.zero_add, Nat.reduceEqDiff, Nat.reduceBEq, ↓reduceIte, Bool.false_eq_true, List.append_nil, List.nil_append, List.cons_append, Option.toList, and_true, true_and, true_or, or_true, reduceCtorEq, List.map_nil, bI_eq0, bI_eq1, bool_ft, pk_us, vnar0, vnar1, Bool.or_false, Bool.or_true, Bool.false_or, Bool.true_or, mj_kne, eq_self, Int32.reduceLT, Int32.reduceLE, Int32.reduceAdd, Int32.reduceSub, Int32.reduceMul, not_true_eq_false, not_false_eq_true, false_implies, true_implies, D_X12_isLetter, mj_F_iconst_n, mj_F_iload_n_k, mj_F_ireturn, mj_kc, J_X12_isLetter]
    exact (ok_some hw :)
  by_cases c17 : v0 = 119
  · have c := c17
    refine mj_tsc 14 85 (by rw [show v0 = 119 from c]; decide) (by decide) rfl (by decide) ?_
    simp only [mj_step, mj_W_s, mj_fin, List.getElem?_cons_zero, List.getElem?_cons_succ, mj_go, Nat.reduceAdd, Nat.reduceSub, Nat.reduceLT, Nat.reduceLeDiff, Nat.zero_add, Nat.reduceEqDiff, Nat.reduceBEq, ↓reduceIte, Bool.false_eq_true, List.append_nil, List.nil_append, List.cons_append, Option.toList, and_true, true_and, true_or, or_true, reduceCtorEq, List.map_nil, bI_eq0, bI_eq1, bool_ft, pk_us, vnar0, vnar1, Bool.or_false, Bool.or_true, Bool.false_or, Bool.true_or, mj_kne, eq_self, Int32.reduceLT, Int32.reduceLE, Int32.reduceAdd, Int32.reduceSub, Int32.reduceMul, not_true_eq_false, not_false_eq_true, false_implies, true_implies, D_X12_isLetter, mj_F_iconst_n, mj_F_iload_n_k, mj_F_ireturn, mj_kc, J_X12_isLetter]
    exact (ok_some hw :)
  refine mj_tsd (mj_tsr [105, 106, 107, 108, 109, 110, 111, 112, 113, 114, 115, 116, 117, 118, 119, 120, 121] (List.forall_mem_cons.mpr ⟨mj_nt c1 rfl, List.forall_mem_cons.mpr ⟨mj_nt c7 rfl, List.forall_mem_cons.mpr ⟨mj_nt c8 rfl, List.forall_mem_cons.mpr ⟨mj_nt c2 rfl, List.forall_mem_cons.mpr ⟨mj_nt c9 rfl, List.forall_mem_cons.mpr ⟨mj_nt c3 rfl, List.forall_mem_cons.mpr ⟨mj_nt c10 rfl, List.forall_mem_cons.mpr ⟨mj_nt c11 rfl, List.forall_mem_cons.mpr ⟨mj_nt c12 rfl, List.forall_mem_cons.mpr ⟨mj_nt c4 rfl, List.forall_mem_cons.mpr ⟨mj_nt c13 rfl, List.forall_mem_cons.mpr ⟨mj_nt c14 rfl, List.forall_mem_cons.mpr ⟨mj_nt c15 rfl, List.forall_mem_cons.mpr ⟨mj_nt c16 rfl, List.forall_mem_cons.mpr ⟨mj_nt c17 rfl, List.forall_mem_cons.mpr ⟨mj_nt c5 rfl, List.forall_mem_cons.mpr ⟨mj_nt c6 rfl, fun _ h => (nomatch h)⟩⟩⟩⟩⟩⟩⟩⟩⟩⟩⟩⟩⟩⟩⟩⟩⟩) (by decide)) (by decide) ?_
  simp only [mj_step, mj_W_s, mj_fin, List.getElem?_cons_zero, List.getElem?_cons_succ, mj_go, Nat.reduceAdd, Nat.reduceSub, Nat.reduceLT, Nat.reduceLeDiff, Nat.zero_add, Nat.reduceEqDiff, Nat.reduceBEq, ↓reduceIte, Bool.false_eq_true, List.append_nil, List.nil_append, List.cons_append, Option.toList, and_true, true_and, true_or, or_true, reduceCtorEq, List.map_nil, bI_eq0, bI_eq1, bool_ft, pk_us, vnar0, vnar1, Bool.or_false, Bool.or_true, Bool.false_or, Bool.true_or, mj_kne, eq_self, Int32.reduceLT, Int32.reduceLE, Int32.reduceAdd, Int32.reduceSub, Int32.reduceMul, not_true_eq_false, not_false_eq_true, false_implies, true_implies, D_X12_isLetter, mj_F_iconst_n, mj_F_iload_n_k, mj_F_ireturn, mj_kc, J_X12_isLetter]
  exact (ok_some hw :)

def c_X12_isLetter : mj_S := fun as h k => ∃ (v0 : Int32), as = [.int v0] ∧ ok (F_X12_isLetter v0) (fun p => k (some (.int p)) h)
theorem c_X12_isLetter_in {v0 : Int32} {h : mj_H} {k : Option Value → mj_H → Prop} (hw : ok (F_X12_isLetter v0) (fun p => k (some (.int p)) h)) : c_X12_isLetter [.int v0] h k := ⟨v0, rfl, hw⟩
theorem m_X12_isLetter (l : Launch) : mj_Met l yX12_isLetter cX12_isLetter 1 ((some FieldType.boolean)) 0 0 0 c_X12_isLetter := by
  refine mj_body2 false (TbX12 1 ((some FieldType.boolean)) []) (by decide) rfl rfl (fun h => nomatch h) (tfX12 _ (fun _ h => nomatch h)) ?_
  rintro as h k ⟨v0, rfl, hw⟩
  exact ⟨rfl, fun G hG => g_X12_isLetter hG hw⟩
def B_X12_number_19  : Int32 × Int32 × St → Option ((Int32 × Int32 × St) ⊕ ((Int32 × St) ⊕ (St)))
  | (v1, v2, s) =>
  if (s.1 1235) ≤ (s.1 1236) then
    some (.inr (.inl (v1, s)))
  else
    (rd s 1228 160 (s.1 1236)).bind fun x3 =>
    if inb x3 48 57 = false then
      some (.inr (.inl (v1, s)))
    else
      if v2 = 4 then
        some (.inr (.inr s))
      else
        (rd s 1228 160 (s.1 1236)).bind fun x4 =>
        (wI s 1236 ((s.1 1236) + 1)).bind fun s5 =>
        some (.inl ((((10 * v1) + x4) - 48), (v2 + 1), s5))
def F_X12_number_89 (v1 : Int32) (s : St) : Option (St) :=
  (F_X12_say 0 s).bind fun s6 =>
  (F_X12_say v1 s6).bind fun s7 =>
  some s7
def F_X12_number_50 (s : St) : Option (St) :=
  (F_X12_bad s).bind fun s8 =>
  some s8
def F_X12_number_19 (v1 : Int32) (v2 : Int32) (s : St) : Option (St) :=
  (lp (B_X12_number_19 ) FU (v1, v2, s)).bind (Sum.elim (fun y => F_X12_number_89 y.1 y.2) (fun y => F_X12_number_50 y))
def F_X12_number (s : St) : Option (St) :=
  (F_X12_look s).bind fun r1 =>
  if inb r1.1 48 57 = false then
    (F_X12_bad r1.2).bind fun s2 =>
    some s2
  else
    F_X12_number_19 0 0 r1.2
theorem J_X12_number : mj_t 7 8 = 15 ∧ mj_t 27 62 = 89 ∧ mj_t 42 47 = 89 ∧ mj_t 47 8 = 55 ∧ mj_t 86 (-67) = 19 ∧ (0 ≤ ((7 : Nat) : Int) + 8) = True ∧ (0 ≤ ((27 : Nat) : Int) + 62) = True ∧ (0 ≤ ((42 : Nat) : Int) + 47) = True ∧ (0 ≤ ((47 : Nat) : Int) + 8) = True ∧ (0 ≤ ((86 : Nat) : Int) + (-67)) = True := by and_intros <;> first | rfl | exact eq_true (by decide)
def ct_X12_number : List (Nat × mj_Cs) := [(318, 0, 1, 12, 0, 0, c_X12_bad), (321, 0, 1, 12, 0, 0, c_X12_look), (325, 2, 1, 12, 0, 0, c_isDigit), (328, 0, 2, 12, 0, 0, c_X12_say)]
theorem L_X12_number : mj_lk ct_X12_number 318 = some (0, 1, 12, 0, 0, c_X12_bad) ∧ mj_lk ct_X12_number 321 = some (0, 1, 12, 0, 0, c_X12_look) ∧ mj_lk ct_X12_number 325 = some (2, 1, 12, 0, 0, c_isDigit) ∧ mj_lk ct_X12_number 328 = some (0, 2, 12, 0, 0, c_X12_say) := ⟨rfl, rfl, rfl, rfl⟩
set_option maxHeartbeats 4000000 in
set_option maxRecDepth 20000 in
theorem b_X12_number_19 {k : Option Value → mj_H → Prop} {G : mj_K} (hG : mj_cl2 cX12_number (TbX12 3 (none) ct_X12_number) k G)  {P : Int32 × Int32 × St → Prop} {K : (Int32 × St) ⊕ (St) → Prop} (hP : ∀ x, P x → G 19 [.ref 0, .int x.1, .int x.2.1] [] (mkMs x.2.2) 0 0) (hK0 : ∀ y, K (.inl y) → G 89 [.ref 0, .int y.1] [] (mkMs y.2) 0 0) (hK1 : ∀ y, K (.inr y) → G 50 [.ref 0] [] (mkMs y) 0 0) {v1 : Int32} {v2 : Int32} {s : St} (hw : ok (B_X12_number_19  (v1, v2, s)) (Sum.elim P K)) : G 19 [.ref 0, .int v1, .int v2] [] (mkMs s) 0 0 := by
  unfold B_X12_number_19 at hw
  refine mj_run hG.1 (fun pc => pc == 4 || pc == 14 || pc == 19 || pc == 50 || pc == 54 || pc == 89 || pc == 94 || pc == 99) 4000 ?_
  simp only [mj_step, mj_W_s, mj_fin, List.getElem?_cons_zero, List.getElem?_cons_succ, mj_go, Nat.reduceAdd, Nat.reduceSub, Nat.reduceLT, Nat.reduceLeDiff, Nat.zero_add, Nat.reduceEqDiff, Nat.reduceBEq, ↓reduceIte, Bool.false_eq_true, List.append_nil, List.nil_append, List.cons_append, Option.toList, and_true, true_and, true_or, or_true, reduceCtorEq, List.map_nil, bI_eq0, bI_eq1, bool_ft, pk_us, vnar0, vnar1, Bool.or_false, Bool.or_true, Bool.false_or, Bool.true_or, mj_kne, eq_self, Int32.reduceLT, Int32.reduceLE, Int32.reduceAdd, Int32.reduceSub, Int32.reduceMul, not_true_eq_false, not_false_eq_true, false_implies, true_implies, D_X12_number_0, D_X12_number_1, mj_F_aload_n_k, mj_F_bipush_n, mj_F_dup, mj_F_getfield_i, mj_F_goto_off, mj_F_iadd, mj_F_iaload, mj_F_iconst_n, mj_F_ifCond_eq_off, mj_F_ifCond_ne_off, mj_F_if_icmp_ge_off, mj_F_if_icmp_ne_off, mj_F_iinc_k_n, mj_F_iload_n_k, mj_F_imul, mj_F_invokestatic_i, mj_F_invokevirtual_i, mj_F_istore_n_k, mj_F_isub, mj_F_putfield_i, mj_F_return_, mj_set, mj_set0, mj_unk, mj_c2, mj_kc, FT_X12, FT_X12_1, PT_X12, L_X12_number, List.take_succ_cons, List.take_zero, List.drop_succ_cons, List.drop_zero, List.reverse_cons, List.reverse_nil, List.length_cons, List.length_nil, gS_M0, gMf_36, gMf_35, gMf_28, gS_M24, sS_Ma_24, sS_Mf_36, gMl, c_isDigit_eq, J_X12_number]
  refine ⟨fun c => ?_, fun c => ?_⟩
  · replace hw := ok_t hw c
    exact hG.2 _ _ _ _ _ _ _ _ _ (by refine ⟨Or.inr rfl, ?_⟩; refine ⟨Or.inr rfl, ?_⟩; exact trivial) (Nat.zero_le _) (Nat.zero_le _) (hK0 _ (ok_some hw :) :)
  · replace hw := ok_f hw c
    refine ⟨(ok_rd hw).1, ?_⟩
    replace hw := (ok_rd hw).2
    refine ⟨fun c => ?_, fun c => ?_⟩
    · replace hw := ok_t hw c
      exact hG.2 _ _ _ _ _ _ _ _ _ (by refine ⟨Or.inr rfl, ?_⟩; refine ⟨Or.inr rfl, ?_⟩; exact trivial) (Nat.zero_le _) (Nat.zero_le _) (hK0 _ (ok_some hw :) :)
    · replace hw := ok_f hw c
      refine ⟨fun c => ?_, fun c => ?_⟩
      · replace hw := ok_f hw c
        refine ⟨(ok_rd hw).1, ?_⟩
        replace hw := (ok_rd hw).2
        replace hw := ok_wI hw
        exact hG.2 _ _ _ _ _ _ _ _ _ (by refine ⟨Or.inr rfl, ?_⟩; refine ⟨Or.inr rfl, ?_⟩; refine ⟨Or.inr rfl, ?_⟩; exact trivial) (Nat.zero_le _) (Nat.zero_le _) (hP _ (ok_some hw :) :)
      · replace hw := ok_t hw c
        exact hG.2 _ _ _ _ _ _ _ _ _ (by refine ⟨Or.inr rfl, ?_⟩; exact trivial) (Nat.zero_le _) (Nat.zero_le _) (hK1 _ (ok_some hw :) :)

set_option maxHeartbeats 4000000 in
set_option maxRecDepth 20000 in
theorem g_X12_number_89 {k : Option Value → mj_H → Prop} {G : mj_K} (hG : mj_cl2 cX12_number (TbX12 3 (none) ct_X12_number) k G)   {v1 : Int32} {s : St} (hw : ok (F_X12_number_89 v1 s) (fun p => k none (mkMs p))) : G 89 [.ref 0, .int v1] [] (mkMs s) 0 0 := by
  unfold F_X12_number_89 at hw
  refine mj_run hG.1 (fun pc => pc == 4 || pc == 14 || pc == 19 || pc == 50 || pc == 54 || pc == 89 || pc == 94 || pc == 99) 4000 ?_
  simp only [mj_step, mj_W_s, mj_fin, List.getElem?_cons_zero, List.getElem?_cons_succ, mj_go, Nat.reduceAdd, Nat.reduceSub, Nat.reduceLT, Nat.reduceLeDiff, Nat.zero_add, Nat.reduceEqDiff, Nat.reduceBEq, ↓reduceIte, Bool.false_eq_true, List.append_nil, List.nil_append, List.cons_append, Option.toList, and_true, true_and, true_or, or_true, reduceCtorEq, List.map_nil, bI_eq0, bI_eq1, bool_ft, pk_us, vnar0, vnar1, Bool.or_false, Bool.or_true, Bool.false_or, Bool.true_or, mj_kne, eq_self, Int32.reduceLT, Int32.reduceLE, Int32.reduceAdd, Int32.reduceSub, Int32.reduceMul, not_true_eq_false, not_false_eq_true, false_implies, true_implies, D_X12_number_0, D_X12_number_1, mj_F_aload_n_k, mj_F_bipush_n, mj_F_dup, mj_F_getfield_i, mj_F_goto_off, mj_F_iadd, mj_F_iaload, mj_F_iconst_n, mj_F_ifCond_eq_off, mj_F_ifCond_ne_off, mj_F_if_icmp_ge_off, mj_F_if_icmp_ne_off, mj_F_iinc_k_n, mj_F_iload_n_k, mj_F_imul, mj_F_invokestatic_i, mj_F_invokevirtual_i, mj_F_istore_n_k, mj_F_isub, mj_F_putfield_i, mj_F_return_, mj_set, mj_set0, mj_unk, mj_c2, mj_kc, FT_X12, FT_X12_1, PT_X12, L_X12_number, List.take_succ_cons, List.take_zero, List.drop_succ_cons, List.drop_zero, List.reverse_cons, List.reverse_nil, List.length_cons, List.length_nil, gS_M0, gMf_36, gMf_35, gMf_28, gS_M24, sS_Ma_24, sS_Mf_36, gMl, c_isDigit_eq, J_X12_number]
  refine c_X12_say_in (ok_imp (ok_bind hw) ?_)
  intro p hw
  simp only [Option.toList, List.nil_append, List.cons_append, Nat.reduceSub]
  refine mj_run hG.1 (fun pc => pc == 4 || pc == 14 || pc == 19 || pc == 50 || pc == 54 || pc == 89 || pc == 94 || pc == 99) 4000 ?_
  simp only [mj_step, mj_W_s, mj_fin, List.getElem?_cons_zero, List.getElem?_cons_succ, mj_go, Nat.reduceAdd, Nat.reduceSub, Nat.reduceLT, Nat.reduceLeDiff, Nat.zero_add, Nat.reduceEqDiff, Nat.reduceBEq, ↓reduceIte, Bool.false_eq_true, List.append_nil, List.nil_append, List.cons_append, Option.toList, and_true, true_and, true_or, or_true, reduceCtorEq, List.map_nil, bI_eq0, bI_eq1, bool_ft, pk_us, vnar0, vnar1, Bool.or_false, Bool.or_true, Bool.false_or, Bool.true_or, mj_kne, eq_self, Int32.reduceLT, Int32.reduceLE, Int32.reduceAdd, Int32.reduceSub, Int32.reduceMul, not_true_eq_false, not_false_eq_true, false_implies, true_implies, D_X12_number_0, D_X12_number_1, mj_F_aload_n_k, mj_F_bipush_n, mj_F_dup, mj_F_getfield_i, mj_F_goto_off, mj_F_iadd, mj_F_iaload, mj_F_iconst_n, mj_F_ifCond_eq_off, mj_F_ifCond_ne_off, mj_F_if_icmp_ge_off, mj_F_if_icmp_ne_off, mj_F_iinc_k_n, mj_F_iload_n_k, mj_F_imul, mj_F_invokestatic_i, mj_F_invokevirtual_i, mj_F_istore_n_k, mj_F_isub, mj_F_putfield_i, mj_F_return_, mj_set, mj_set0, mj_unk, mj_c2, mj_kc, FT_X12, FT_X12_1, PT_X12, L_X12_number, List.take_succ_cons, List.take_zero, List.drop_succ_cons, List.drop_zero, List.reverse_cons, List.reverse_nil, List.length_cons, List.length_nil, gS_M0, gMf_36, gMf_35, gMf_28, gS_M24, sS_Ma_24, sS_Mf_36, gMl, c_isDigit_eq, J_X12_number]
  refine c_X12_say_in (ok_imp (ok_bind hw) ?_)
  intro p hw
  simp only [Option.toList, List.nil_append, List.cons_append, Nat.reduceSub]
  refine mj_run hG.1 (fun pc => pc == 4 || pc == 14 || pc == 19 || pc == 50 || pc == 54 || pc == 89 || pc == 94 || pc == 99) 4000 ?_
  simp only [mj_step, mj_W_s, mj_fin, List.getElem?_cons_zero, List.getElem?_cons_succ, mj_go, Nat.reduceAdd, Nat.reduceSub, Nat.reduceLT, Nat.reduceLeDiff, Nat.zero_add, Nat.reduceEqDiff, Nat.reduceBEq, ↓reduceIte, Bool.false_eq_true, List.append_nil, List.nil_append, List.cons_append, Option.toList, and_true, true_and, true_or, or_true, reduceCtorEq, List.map_nil, bI_eq0, bI_eq1, bool_ft, pk_us, vnar0, vnar1, Bool.or_false, Bool.or_true, Bool.false_or, Bool.true_or, mj_kne, eq_self, Int32.reduceLT, Int32.reduceLE, Int32.reduceAdd, Int32.reduceSub, Int32.reduceMul, not_true_eq_false, not_false_eq_true, false_implies, true_implies, D_X12_number_0, D_X12_number_1, mj_F_aload_n_k, mj_F_bipush_n, mj_F_dup, mj_F_getfield_i, mj_F_goto_off, mj_F_iadd, mj_F_iaload, mj_F_iconst_n, mj_F_ifCond_eq_off, mj_F_ifCond_ne_off, mj_F_if_icmp_ge_off, mj_F_if_icmp_ne_off, mj_F_iinc_k_n, mj_F_iload_n_k, mj_F_imul, mj_F_invokestatic_i, mj_F_invokevirtual_i, mj_F_istore_n_k, mj_F_isub, mj_F_putfield_i, mj_F_return_, mj_set, mj_set0, mj_unk, mj_c2, mj_kc, FT_X12, FT_X12_1, PT_X12, L_X12_number, List.take_succ_cons, List.take_zero, List.drop_succ_cons, List.drop_zero, List.reverse_cons, List.reverse_nil, List.length_cons, List.length_nil, gS_M0, gMf_36, gMf_35, gMf_28, gS_M24, sS_Ma_24, sS_Mf_36, gMl, c_isDigit_eq, J_X12_number]
  exact (ok_some hw :)

set_option maxHeartbeats 4000000 in
set_option maxRecDepth 20000 in
theorem g_X12_number_50 {k : Option Value → mj_H → Prop} {G : mj_K} (hG : mj_cl2 cX12_number (TbX12 3 (none) ct_X12_number) k G)   {s : St} (hw : ok (F_X12_number_50 s) (fun p => k none (mkMs p))) : G 50 [.ref 0] [] (mkMs s) 0 0 := by
  unfold F_X12_number_50 at hw
  refine mj_run hG.1 (fun pc => pc == 4 || pc == 14 || pc == 19 || pc == 50 || pc == 54 || pc == 89 || pc == 94 || pc == 99) 4000 ?_
  simp only [mj_step, mj_W_s, mj_fin, List.getElem?_cons_zero, List.getElem?_cons_succ, mj_go, Nat.reduceAdd, Nat.reduceSub, Nat.reduceLT, Nat.reduceLeDiff, Nat.zero_add, Nat.reduceEqDiff, Nat.reduceBEq, ↓reduceIte, Bool.false_eq_true, List.append_nil, List.nil_append, List.cons_append, Option.toList, and_true, true_and, true_or, or_true, reduceCtorEq, List.map_nil, bI_eq0, bI_eq1, bool_ft, pk_us, vnar0, vnar1, Bool.or_false, Bool.or_true, Bool.false_or, Bool.true_or, mj_kne, eq_self, Int32.reduceLT, Int32.reduceLE, Int32.reduceAdd, Int32.reduceSub, Int32.reduceMul, not_true_eq_false, not_false_eq_true, false_implies, true_implies, D_X12_number_0, D_X12_number_1, mj_F_aload_n_k, mj_F_bipush_n, mj_F_dup, mj_F_getfield_i, mj_F_goto_off, mj_F_iadd, mj_F_iaload, mj_F_iconst_n, mj_F_ifCond_eq_off, mj_F_ifCond_ne_off, mj_F_if_icmp_ge_off, mj_F_if_icmp_ne_off, mj_F_iinc_k_n, mj_F_iload_n_k, mj_F_imul, mj_F_invokestatic_i, mj_F_invokevirtual_i, mj_F_istore_n_k, mj_F_isub, mj_F_putfield_i, mj_F_return_, mj_set, mj_set0, mj_unk, mj_c2, mj_kc, FT_X12, FT_X12_1, PT_X12, L_X12_number, List.take_succ_cons, List.take_zero, List.drop_succ_cons, List.drop_zero, List.reverse_cons, List.reverse_nil, List.length_cons, List.length_nil, gS_M0, gMf_36, gMf_35, gMf_28, gS_M24, sS_Ma_24, sS_Mf_36, gMl, c_isDigit_eq, J_X12_number]
  refine c_X12_bad_in (ok_imp (ok_bind hw) ?_)
  intro p hw
  simp only [Option.toList, List.nil_append, List.cons_append, Nat.reduceSub]
  refine mj_run hG.1 (fun pc => pc == 4 || pc == 14 || pc == 19 || pc == 50 || pc == 54 || pc == 89 || pc == 94 || pc == 99) 4000 ?_
  simp only [mj_step, mj_W_s, mj_fin, List.getElem?_cons_zero, List.getElem?_cons_succ, mj_go, Nat.reduceAdd, Nat.reduceSub, Nat.reduceLT, Nat.reduceLeDiff, Nat.zero_add, Nat.reduceEqDiff, Nat.reduceBEq, ↓reduceIte, Bool.false_eq_true, List.append_nil, List.nil_append, List.cons_append, Option.toList, and_true, true_and, true_or, or_true, reduceCtorEq, List.map_nil, bI_eq0, bI_eq1, bool_ft, pk_us, vnar0, vnar1, Bool.or_false, Bool.or_true, Bool.false_or, Bool.true_or, mj_kne, eq_self, Int32.reduceLT, Int32.reduceLE, Int32.reduceAdd, Int32.reduceSub, Int32.reduceMul, not_true_eq_false, not_false_eq_true, false_implies, true_implies, D_X12_number_0, D_X12_number_1, mj_F_aload_n_k, mj_F_bipush_n, mj_F_dup, mj_F_getfield_i, mj_F_goto_off, mj_F_iadd, mj_F_iaload, mj_F_iconst_n, mj_F_ifCond_eq_off, mj_F_ifCond_ne_off, mj_F_if_icmp_ge_off, mj_F_if_icmp_ne_off, mj_F_iinc_k_n, mj_F_iload_n_k, mj_F_imul, mj_F_invokestatic_i, mj_F_invokevirtual_i, mj_F_istore_n_k, mj_F_isub, mj_F_putfield_i, mj_F_return_, mj_set, mj_set0, mj_unk, mj_c2, mj_kc, FT_X12, FT_X12_1, PT_X12, L_X12_number, List.take_succ_cons, List.take_zero, List.drop_succ_cons, List.drop_zero, List.reverse_cons, List.reverse_nil, List.length_cons, List.length_nil, gS_M0, gMf_36, gMf_35, gMf_28, gS_M24, sS_Ma_24, sS_Mf_36, gMl, c_isDigit_eq, J_X12_number]
  exact (ok_some hw :)

set_option maxHeartbeats 4000000 in
theorem g_X12_number_19 {k : Option Value → mj_H → Prop} {G : mj_K} (hG : mj_cl2 cX12_number (TbX12 3 (none) ct_X12_number) k G)   {v1 : Int32} {v2 : Int32} {s : St} (hw : ok (F_X12_number_19 v1 v2 s) (fun p => k none (mkMs p))) : G 19 [.ref 0, .int v1, .int v2] [] (mkMs s) 0 0 := by
  unfold F_X12_number_19 at hw
  refine lp_ok (B_X12_number_19 ) (fun x => G 19 [.ref 0, .int x.1, .int x.2.1] [] (mkMs x.2.2) 0 0) _ ?_ _ _ (ok_bind hw)
  rintro ⟨v1, v2, s⟩ hb
  exact b_X12_number_19 hG (fun _ z => z) (fun y hw => by exact hG.2 _ _ _ _ _ _ _ _ _ (by refine ⟨Or.inr rfl, ?_⟩; refine ⟨Or.inr rfl, ?_⟩; exact trivial) (Nat.zero_le _) (Nat.zero_le _) (g_X12_number_89 hG  hw :)) (fun y hw => by exact hG.2 _ _ _ _ _ _ _ _ _ (by refine ⟨Or.inr rfl, ?_⟩; exact trivial) (Nat.zero_le _) (Nat.zero_le _) (g_X12_number_50 hG  hw :)) hb

set_option maxHeartbeats 4000000 in
set_option maxRecDepth 20000 in
theorem g_X12_number {k : Option Value → mj_H → Prop} {G : mj_K} (hG : mj_cl2 cX12_number (TbX12 3 (none) ct_X12_number) k G) {s : St} (hw : ok (F_X12_number s) (fun p => k none (mkMs p))) : G 0 [.ref 0] [] (mkMs s) 0 0 := by
  unfold F_X12_number at hw
  refine mj_run hG.1 (fun pc => pc == 4 || pc == 14 || pc == 19 || pc == 50 || pc == 54 || pc == 89 || pc == 94 || pc == 99) 4000 ?_
  simp only [mj_step, mj_W_s, mj_fin, List.getElem?_cons_zero, List.getElem?_cons_succ, mj_go, Nat.reduceAdd, Nat.reduceSub, Nat.reduceLT, Nat.reduceLeDiff, Nat.zero_add, Nat.reduceEqDiff, Nat.reduceBEq, ↓reduceIte, Bool.false_eq_true, List.append_nil, List.nil_append, List.cons_append, Option.toList, and_true, true_and, true_or, or_true, reduceCtorEq, List.map_nil, bI_eq0, bI_eq1, bool_ft, pk_us, vnar0, vnar1, Bool.or_false, Bool.or_true, Bool.false_or, Bool.true_or, mj_kne, eq_self, Int32.reduceLT, Int32.reduceLE, Int32.reduceAdd, Int32.reduceSub, Int32.reduceMul, not_true_eq_false, not_false_eq_true, false_implies, true_implies, D_X12_number_0, D_X12_number_1, mj_F_aload_n_k, mj_F_bipush_n, mj_F_dup, mj_F_getfield_i, mj_F_goto_off, mj_F_iadd, mj_F_iaload, mj_F_iconst_n, mj_F_ifCond_eq_off, mj_F_ifCond_ne_off, mj_F_if_icmp_ge_off, mj_F_if_icmp_ne_off, mj_F_iinc_k_n, mj_F_iload_n_k, mj_F_imul, mj_F_invokestatic_i, mj_F_invokevirtual_i, mj_F_istore_n_k, mj_F_isub, mj_F_putfield_i, mj_F_return_, mj_set, mj_set0, mj_unk, mj_c2, mj_kc, FT_X12, FT_X12_1, PT_X12, L_X12_number, List.take_succ_cons, List.take_zero, List.drop_succ_cons, List.drop_zero, List.reverse_cons, List.reverse_nil, List.length_cons, List.length_nil, gS_M0, gMf_36, gMf_35, gMf_28, gS_M24, sS_Ma_24, sS_Mf_36, gMl, c_isDigit_eq, J_X12_number]
  refine c_X12_look_in (ok_imp (ok_bind hw) ?_)
  intro p hw
  simp only [Option.toList, List.nil_append, List.cons_append, Nat.reduceSub]
  refine mj_run hG.1 (fun pc => pc == 4 || pc == 14 || pc == 19 || pc == 50 || pc == 54 || pc == 89 || pc == 94 || pc == 99) 4000 ?_
  simp only [mj_step, mj_W_s, mj_fin, List.getElem?_cons_zero, List.getElem?_cons_succ, mj_go, Nat.reduceAdd, Nat.reduceSub, Nat.reduceLT, Nat.reduceLeDiff, Nat.zero_add, Nat.reduceEqDiff, Nat.reduceBEq, ↓reduceIte, Bool.false_eq_true, List.append_nil, List.nil_append, List.cons_append, Option.toList, and_true, true_and, true_or, or_true, reduceCtorEq, List.map_nil, bI_eq0, bI_eq1, bool_ft, pk_us, vnar0, vnar1, Bool.or_false, Bool.or_true, Bool.false_or, Bool.true_or, mj_kne, eq_self, Int32.reduceLT, Int32.reduceLE, Int32.reduceAdd, Int32.reduceSub, Int32.reduceMul, not_true_eq_false, not_false_eq_true, false_implies, true_implies, D_X12_number_0, D_X12_number_1, mj_F_aload_n_k, mj_F_bipush_n, mj_F_dup, mj_F_getfield_i, mj_F_goto_off, mj_F_iadd, mj_F_iaload, mj_F_iconst_n, mj_F_ifCond_eq_off, mj_F_ifCond_ne_off, mj_F_if_icmp_ge_off, mj_F_if_icmp_ne_off, mj_F_iinc_k_n, mj_F_iload_n_k, mj_F_imul, mj_F_invokestatic_i, mj_F_invokevirtual_i, mj_F_istore_n_k, mj_F_isub, mj_F_putfield_i, mj_F_return_, mj_set, mj_set0, mj_unk, mj_c2, mj_kc, FT_X12, FT_X12_1, PT_X12, L_X12_number, List.take_succ_cons, List.take_zero, List.drop_succ_cons, List.drop_zero, List.reverse_cons, List.reverse_nil, List.length_cons, List.length_nil, gS_M0, gMf_36, gMf_35, gMf_28, gS_M24, sS_Ma_24, sS_Mf_36, gMl, c_isDigit_eq, J_X12_number]
  refine ⟨fun c => ?_, fun c => ?_⟩
  · replace hw := ok_f hw c
    exact hG.2 _ _ _ _ _ _ _ _ _ (by refine ⟨Or.inr rfl, ?_⟩; refine ⟨Or.inr rfl, ?_⟩; refine ⟨Or.inr rfl, ?_⟩; exact trivial) (Nat.zero_le _) (Nat.zero_le _) (g_X12_number_19 hG  hw :)
  · replace hw := ok_t hw c
    refine c_X12_bad_in (ok_imp (ok_bind hw) ?_)
    intro p hw
    simp only [Option.toList, List.nil_append, List.cons_append, Nat.reduceSub]
    refine mj_run hG.1 (fun pc => pc == 4 || pc == 14 || pc == 19 || pc == 50 || pc == 54 || pc == 89 || pc == 94 || pc == 99) 4000 ?_
    simp only [mj_step, mj_W_s, mj_fin, List.getElem?_cons_zero, List.getElem?_cons_succ, mj_go, Nat.reduceAdd, Nat.reduceSub, Nat.reduceLT, Nat.reduceLeDiff, Nat.zero_add, Nat.reduceEqDiff, Nat.reduceBEq, ↓reduceIte, Bool.false_eq_true, List.append_nil, List.nil_append, List.cons_append, Option.toList, and_true, true_and, true_or, or_true, reduceCtorEq, List.map_nil, bI_eq0, bI_eq1, bool_ft, pk_us, vnar0, vnar1, Bool.or_false, Bool.or_true, Bool.false_or, Bool.true_or, mj_kne, eq_self, Int32.reduceLT, Int32.reduceLE, Int32.reduceAdd, Int32.reduceSub, Int32.reduceMul, not_true_eq_false, not_false_eq_true, false_implies, true_implies, D_X12_number_0, D_X12_number_1, mj_F_aload_n_k, mj_F_bipush_n, mj_F_dup, mj_F_getfield_i, mj_F_goto_off, mj_F_iadd, mj_F_iaload, mj_F_iconst_n, mj_F_ifCond_eq_off, mj_F_ifCond_ne_off, mj_F_if_icmp_ge_off, mj_F_if_icmp_ne_off, mj_F_iinc_k_n, mj_F_iload_n_k, mj_F_imul, mj_F_invokestatic_i, mj_F_invokevirtual_i, mj_F_istore_n_k, mj_F_isub, mj_F_putfield_i, mj_F_return_, mj_set, mj_set0, mj_unk, mj_c2, mj_kc, FT_X12, FT_X12_1, PT_X12, L_X12_number, List.take_succ_cons, List.take_zero, List.drop_succ_cons, List.drop_zero, List.reverse_cons, List.reverse_nil, List.length_cons, List.length_nil, gS_M0, gMf_36, gMf_35, gMf_28, gS_M24, sS_Ma_24, sS_Mf_36, gMl, c_isDigit_eq, J_X12_number]
    exact (ok_some hw :)

def c_X12_number : mj_S := fun as h k => ∃ (s : St), as = [.ref 0] ∧ h = mkMs s ∧ ok (F_X12_number s) (fun p => k none (mkMs p))
theorem c_X12_number_in {s : St} {k : Option Value → mj_H → Prop} (hw : ok (F_X12_number s) (fun p => k none (mkMs p))) : c_X12_number [.ref 0] (mkMs s) k := ⟨s, rfl, rfl, hw⟩
theorem m_X12_number (l : Launch) : mj_Met l yX12_number cX12_number 3 (none) 1 0 0 c_X12_number := by
  refine mj_body2 false (TbX12 3 (none) ct_X12_number) (by decide) rfl rfl (fun h => nomatch h) (tfX12 _ (List.forall_mem_cons.mpr ⟨cfX12_318 (m_X12_bad l) (by decide), List.forall_mem_cons.mpr ⟨cfX12_321 (m_X12_look l) (by decide), List.forall_mem_cons.mpr ⟨cfX12_325 (m_X12_isDigit l) (by decide), List.forall_mem_cons.mpr ⟨cfX12_328 (m_X12_say l) (by decide), fun _ h => nomatch h⟩⟩⟩⟩)) ?_
  rintro as h k ⟨s, rfl, rfl, hw⟩
  exact ⟨rfl, fun G hG => g_X12_number hG hw⟩
abbrev RTM : Type := (St → Option St) × (St → Option St) × (St → Option St) × (Int32 → St → Option St) × (Int32 → St → Option St) × (St → Option St) × (St → Option St)
def B_X12_sum_9 (q : RTM)  : Int32 × St → Option ((Int32 × St) ⊕ ((St)))
  | (v1, s) =>
  if (s.1 1237) = (-1) then
    if v1 = 43 then
      (wI s 1236 ((s.1 1236) + 1)).bind fun s3 =>
      (q.2.1 s3).bind fun s4 =>
      (F_X12_say v1 s4).bind fun s5 =>
      (F_X12_look s5).bind fun r6 =>
      some (.inl (r6.1, r6.2))
    else
      if v1 = 45 then
        (wI s 1236 ((s.1 1236) + 1)).bind fun s7 =>
        (q.2.1 s7).bind fun s8 =>
        (F_X12_say v1 s8).bind fun s9 =>
        (F_X12_look s9).bind fun r10 =>
        some (.inl (r10.1, r10.2))
      else
        some (.inr s)
  else
    some (.inr s)
def F_X12_sum_56 (q : RTM) (s : St) : Option (St) :=
  some s
def F_X12_sum_9 (q : RTM) (v1 : Int32) (s : St) : Option (St) :=
  (lp (B_X12_sum_9 q ) FU (v1, s)).bind (fun y => F_X12_sum_56 q y)
def F_X12_sum (q : RTM) (s : St) : Option (St) :=
  (q.2.1 s).bind fun s1 =>
  (F_X12_look s1).bind fun r2 =>
  F_X12_sum_9 q r2.1 r2.2
def B_X12_term_9 (q : RTM)  : Int32 × St → Option ((Int32 × St) ⊕ ((St)))
  | (v1, s) =>
  if (s.1 1237) = (-1) then
    if v1 = 42 then
      (wI s 1236 ((s.1 1236) + 1)).bind fun s3 =>
      (q.2.2.1 s3).bind fun s4 =>
      (F_X12_say v1 s4).bind fun s5 =>
      (F_X12_look s5).bind fun r6 =>
      some (.inl (r6.1, r6.2))
    else
      if v1 = 47 then
        (wI s 1236 ((s.1 1236) + 1)).bind fun s7 =>
        (q.2.2.1 s7).bind fun s8 =>
        (F_X12_say v1 s8).bind fun s9 =>
        (F_X12_look s9).bind fun r10 =>
        some (.inl (r10.1, r10.2))
      else
        some (.inr s)
  else
    some (.inr s)
def F_X12_term_56 (q : RTM) (s : St) : Option (St) :=
  some s
def F_X12_term_9 (q : RTM) (v1 : Int32) (s : St) : Option (St) :=
  (lp (B_X12_term_9 q ) FU (v1, s)).bind (fun y => F_X12_term_56 q y)
def F_X12_term (q : RTM) (s : St) : Option (St) :=
  (q.2.2.1 s).bind fun s1 =>
  (F_X12_look s1).bind fun r2 =>
  F_X12_term_9 q r2.1 r2.2
def F_X12_atom (q : RTM) (s : St) : Option (St) :=
  (F_X12_look s).bind fun r1 =>
  if r1.1 = 91 then
    (F_X12_opens r1.2).bind fun r7 =>
    if r7.1 = 0 then
      some r7.2
    else
      (q.1 r7.2).bind fun s8 =>
      (F_X12_closes 93 s8).bind fun s9 =>
      some s9
  else
    (F_X12_isLetter r1.1).bind fun r2 =>
    if r2 = 0 then
      (F_X12_number r1.2).bind fun s3 =>
      some s3
    else
      (wI r1.2 1236 ((r1.2.1 1236) + 1)).bind fun s4 =>
      (F_X12_say 1 s4).bind fun s5 =>
      (F_X12_say r1.1 s5).bind fun s6 =>
      some s6
def B_X12_condition_5 (q : RTM)  : St → Option ((St) ⊕ ((St)))
  | s =>
  if (s.1 1237) = (-1) then
    (F_X12_look s).bind fun r2 =>
    if r2.1 = 124 then
      (wI r2.2 1236 ((r2.2.1 1236) + 1)).bind fun s3 =>
      (q.2.2.2.2.1 0 s3).bind fun s4 =>
      (F_X12_say 124 s4).bind fun s5 =>
      some (.inl s5)
    else
      some (.inr r2.2)
  else
    some (.inr s)
def F_X12_condition_46 (q : RTM) (s : St) : Option (St) :=
  some s
def F_X12_condition_5 (q : RTM) (s : St) : Option (St) :=
  (lp (B_X12_condition_5 q ) FU s).bind (fun y => F_X12_condition_46 q y)
def F_X12_condition (q : RTM) (v1 : Int32) (s : St) : Option (St) :=
  (q.2.2.2.2.1 v1 s).bind fun s1 =>
  F_X12_condition_5 q s1
def B_X12_part_15 (q : RTM)  : St → Option ((St) ⊕ ((St)))
  | s =>
  if (s.1 1237) = (-1) then
    (F_X12_look s).bind fun r3 =>
    if r3.1 = 38 then
      (wI r3.2 1236 ((r3.2.1 1236) + 1)).bind fun s4 =>
      (q.2.2.2.2.2.1 s4).bind fun s5 =>
      (F_X12_say 38 s5).bind fun s6 =>
      some (.inl s6)
    else
      some (.inr r3.2)
  else
    some (.inr s)
def F_X12_part_55 (q : RTM) (s : St) : Option (St) :=
  some s
def F_X12_part_15 (q : RTM) (s : St) : Option (St) :=
  (lp (B_X12_part_15 q ) FU s).bind (fun y => F_X12_part_55 q y)
def F_X12_part (q : RTM) (v1 : Int32) (s : St) : Option (St) :=
  if v1 = 0 then
    (q.2.2.2.2.2.1 s).bind fun s1 =>
    F_X12_part_15 q s1
  else
    (q.2.2.2.2.2.2 s).bind fun s2 =>
    F_X12_part_15 q s2
def F_X12_unit (q : RTM) (s : St) : Option (St) :=
  (F_X12_look s).bind fun r1 =>
  if r1.1 = 33 then
    (F_X12_opens r1.2).bind fun r7 =>
    if r7.1 = 0 then
      some r7.2
    else
      (q.2.2.2.2.2.1 r7.2).bind fun s8 =>
      (wI s8 1238 ((s8.1 1238) - 1)).bind fun s9 =>
      (F_X12_say 33 s9).bind fun s10 =>
      some s10
  else
    if r1.1 = 40 then
      (F_X12_opens r1.2).bind fun r4 =>
      if r4.1 = 0 then
        some r4.2
      else
        (q.2.2.2.1 0 r4.2).bind fun s5 =>
        (F_X12_closes 41 s5).bind fun s6 =>
        some s6
    else
      (q.1 r1.2).bind fun s2 =>
      (q.2.2.2.2.2.2 s2).bind fun s3 =>
      some s3
def F_X12_compare (q : RTM) (s : St) : Option (St) :=
  if (s.1 1237) = (-1) then
    (F_X12_look s).bind fun r5 =>
    if isRel r5.1 = false then
      (F_X12_bad r5.2).bind fun s9 =>
      some s9
    else
      (wI r5.2 1236 ((r5.2.1 1236) + 1)).bind fun s6 =>
      (q.1 s6).bind fun s7 =>
      (F_X12_say r5.1 s7).bind fun s8 =>
      some s8
  else
    if isRel (-1) = false then
      (F_X12_bad s).bind fun s4 =>
      some s4
    else
      (wI s 1236 ((s.1 1236) + 1)).bind fun s1 =>
      (q.1 s1).bind fun s2 =>
      (F_X12_say (-1) s2).bind fun s3 =>
      some s3
def RGM : Nat → RTM
  | 0 => (fun _ => none, fun _ => none, fun _ => none, fun _ _ => none, fun _ _ => none, fun _ => none, fun _ => none)
  | d + 1 => (F_X12_sum (RGM d), F_X12_term (RGM d), F_X12_atom (RGM d), F_X12_condition (RGM d), F_X12_part (RGM d), F_X12_unit (RGM d), F_X12_compare (RGM d))
def cq_X12_sum (f : St → Option St) : mj_S := fun as h k => ∃ (s : St), as = [.ref 0] ∧ h = mkMs s ∧ ok (f s) (fun p => k none (mkMs p))
theorem cq_X12_sum_in {f : St → Option St} {s : St} {k : Option Value → mj_H → Prop} (hw : ok (f s) (fun p => k none (mkMs p))) : cq_X12_sum f [.ref 0] (mkMs s) k := ⟨s, rfl, rfl, hw⟩
def cq_X12_term (f : St → Option St) : mj_S := fun as h k => ∃ (s : St), as = [.ref 0] ∧ h = mkMs s ∧ ok (f s) (fun p => k none (mkMs p))
theorem cq_X12_term_in {f : St → Option St} {s : St} {k : Option Value → mj_H → Prop} (hw : ok (f s) (fun p => k none (mkMs p))) : cq_X12_term f [.ref 0] (mkMs s) k := ⟨s, rfl, rfl, hw⟩
def cq_X12_atom (f : St → Option St) : mj_S := fun as h k => ∃ (s : St), as = [.ref 0] ∧ h = mkMs s ∧ ok (f s) (fun p => k none (mkMs p))
theorem cq_X12_atom_in {f : St → Option St} {s : St} {k : Option Value → mj_H → Prop} (hw : ok (f s) (fun p => k none (mkMs p))) : cq_X12_atom f [.ref 0] (mkMs s) k := ⟨s, rfl, rfl, hw⟩
def cq_X12_condition (f : Int32 → St → Option St) : mj_S := fun as h k => ∃ (v1 : Int32) (s : St), as = [.ref 0, .int v1] ∧ h = mkMs s ∧ ok (f v1 s) (fun p => k none (mkMs p))
theorem cq_X12_condition_in {f : Int32 → St → Option St} {v1 : Int32} {s : St} {k : Option Value → mj_H → Prop} (hw : ok (f v1 s) (fun p => k none (mkMs p))) : cq_X12_condition f [.ref 0, .int v1] (mkMs s) k := ⟨v1, s, rfl, rfl, hw⟩
def cq_X12_part (f : Int32 → St → Option St) : mj_S := fun as h k => ∃ (v1 : Int32) (s : St), as = [.ref 0, .int v1] ∧ h = mkMs s ∧ ok (f v1 s) (fun p => k none (mkMs p))
theorem cq_X12_part_in {f : Int32 → St → Option St} {v1 : Int32} {s : St} {k : Option Value → mj_H → Prop} (hw : ok (f v1 s) (fun p => k none (mkMs p))) : cq_X12_part f [.ref 0, .int v1] (mkMs s) k := ⟨v1, s, rfl, rfl, hw⟩
def cq_X12_unit (f : St → Option St) : mj_S := fun as h k => ∃ (s : St), as = [.ref 0] ∧ h = mkMs s ∧ ok (f s) (fun p => k none (mkMs p))
theorem cq_X12_unit_in {f : St → Option St} {s : St} {k : Option Value → mj_H → Prop} (hw : ok (f s) (fun p => k none (mkMs p))) : cq_X12_unit f [.ref 0] (mkMs s) k := ⟨s, rfl, rfl, hw⟩
def cq_X12_compare (f : St → Option St) : mj_S := fun as h k => ∃ (s : St), as = [.ref 0] ∧ h = mkMs s ∧ ok (f s) (fun p => k none (mkMs p))
theorem cq_X12_compare_in {f : St → Option St} {s : St} {k : Option Value → mj_H → Prop} (hw : ok (f s) (fun p => k none (mkMs p))) : cq_X12_compare f [.ref 0] (mkMs s) k := ⟨s, rfl, rfl, hw⟩
theorem J_X12_sum : mj_t 14 42 = 56 ∧ mj_t 20 9 = 29 ∧ mj_t 26 30 = 56 ∧ mj_t 53 (-44) = 9 ∧ (0 ≤ ((14 : Nat) : Int) + 42) = True ∧ (0 ≤ ((20 : Nat) : Int) + 9) = True ∧ (0 ≤ ((26 : Nat) : Int) + 30) = True ∧ (0 ≤ ((53 : Nat) : Int) + (-44)) = True := by and_intros <;> first | rfl | exact eq_true (by decide)
def ct_X12_sum (q : RTM) : List (Nat × mj_Cs) := [(321, 0, 1, 12, 0, 0, c_X12_look), (328, 0, 2, 12, 0, 0, c_X12_say), (351, 0, 1, 12, 0, 0, (cq_X12_term q.2.1))]
theorem L_X12_sum (q : RTM) : mj_lk (ct_X12_sum q) 321 = some (0, 1, 12, 0, 0, c_X12_look) ∧ mj_lk (ct_X12_sum q) 328 = some (0, 2, 12, 0, 0, c_X12_say) ∧ mj_lk (ct_X12_sum q) 351 = some (0, 1, 12, 0, 0, (cq_X12_term q.2.1)) := ⟨rfl, rfl, rfl⟩
set_option maxHeartbeats 4000000 in
set_option maxRecDepth 20000 in
theorem b_X12_sum_9 {q : RTM} {k : Option Value → mj_H → Prop} {G : mj_K} (hG : mj_cl2 cX12_sum (TbX12 2 (none) (ct_X12_sum q)) k G)  {P : Int32 × St → Prop} {K : (St) → Prop} (hP : ∀ x, P x → G 9 [.ref 0, .int x.1] [] (mkMs x.2) 0 0) (hK0 : ∀ y, K y → G 56 [] [] (mkMs y) 0 0) {v1 : Int32} {s : St} (hw : ok (B_X12_sum_9 q  (v1, s)) (Sum.elim P K)) : G 9 [.ref 0, .int v1] [] (mkMs s) 0 0 := by
  unfold B_X12_sum_9 at hw
  refine mj_run hG.1 (fun pc => pc == 4 || pc == 8 || pc == 9 || pc == 43 || pc == 48 || pc == 52 || pc == 56) 4000 ?_
  simp only [mj_step, mj_W_s, mj_fin, List.getElem?_cons_zero, List.getElem?_cons_succ, mj_go, Nat.reduceAdd, Nat.reduceSub, Nat.reduceLT, Nat.reduceLeDiff, Nat.zero_add, Nat.reduceEqDiff, Nat.reduceBEq, ↓reduceIte, Bool.false_eq_true, List.append_nil, List.nil_append, List.cons_append, Option.toList, and_true, true_and, true_or, or_true, reduceCtorEq, List.map_nil, bI_eq0, bI_eq1, bool_ft, pk_us, vnar0, vnar1, Bool.or_false, Bool.or_true, Bool.false_or, Bool.true_or, mj_kne, eq_self, Int32.reduceLT, Int32.reduceLE, Int32.reduceAdd, Int32.reduceSub, Int32.reduceMul, not_true_eq_false, not_false_eq_true, false_implies, true_implies, D_X12_sum, mj_F_aload_n_k, mj_F_bipush_n, mj_F_dup, mj_F_getfield_i, mj_F_goto_off, mj_F_iadd, mj_F_iconst_n, mj_F_if_icmp_eq_off, mj_F_if_icmp_ne_off, mj_F_iload_n_k, mj_F_invokevirtual_i, mj_F_istore_n_k, mj_F_putfield_i, mj_F_return_, mj_set, mj_set0, mj_unk, mj_c2, mj_kc, FT_X12, FT_X12_1, PT_X12, L_X12_sum, List.take_succ_cons, List.take_zero, List.drop_succ_cons, List.drop_zero, List.reverse_cons, List.reverse_nil, List.length_cons, List.length_nil, gS_M0, gMf_37, gMf_36, sS_Mf_36, gMl, J_X12_sum]
  refine ⟨fun c => ?_, fun c => ?_⟩
  · replace hw := ok_f hw c
    exact hG.2 _ _ _ _ _ _ _ _ _ (by exact trivial) (Nat.zero_le _) (Nat.zero_le _) (hK0 _ (ok_some hw :) :)
  · replace hw := ok_t hw c
    refine ⟨fun c => ?_, fun c => ?_⟩
    · replace hw := ok_t hw c
      replace hw := ok_wI hw
      refine cq_X12_term_in (ok_imp (ok_bind hw) ?_)
      intro p hw
      simp only [Option.toList, List.nil_append, List.cons_append, Nat.reduceSub]
      refine mj_run hG.1 (fun pc => pc == 4 || pc == 8 || pc == 9 || pc == 43 || pc == 48 || pc == 52 || pc == 56) 4000 ?_
      simp only [mj_step, mj_W_s, mj_fin, List.getElem?_cons_zero, List.getElem?_cons_succ, mj_go, Nat.reduceAdd, Nat.reduceSub, Nat.reduceLT, Nat.reduceLeDiff, Nat.zero_add, Nat.reduceEqDiff, Nat.reduceBEq, ↓reduceIte, Bool.false_eq_true, List.append_nil, List.nil_append, List.cons_append, Option.toList, and_true, true_and, true_or, or_true, reduceCtorEq, List.map_nil, bI_eq0, bI_eq1, bool_ft, pk_us, vnar0, vnar1, Bool.or_false, Bool.or_true, Bool.false_or, Bool.true_or, mj_kne, eq_self, Int32.reduceLT, Int32.reduceLE, Int32.reduceAdd, Int32.reduceSub, Int32.reduceMul, not_true_eq_false, not_false_eq_true, false_implies, true_implies, D_X12_sum, mj_F_aload_n_k, mj_F_bipush_n, mj_F_dup, mj_F_getfield_i, mj_F_goto_off, mj_F_iadd, mj_F_iconst_n, mj_F_if_icmp_eq_off, mj_F_if_icmp_ne_off, mj_F_iload_n_k, mj_F_invokevirtual_i, mj_F_istore_n_k, mj_F_putfield_i, mj_F_return_, mj_set, mj_set0, mj_unk, mj_c2, mj_kc, FT_X12, FT_X12_1, PT_X12, L_X12_sum, List.take_succ_cons, List.take_zero, List.drop_succ_cons, List.drop_zero, List.reverse_cons, List.reverse_nil, List.length_cons, List.length_nil, gS_M0, gMf_37, gMf_36, sS_Mf_36, gMl, J_X12_sum]
      refine c_X12_say_in (ok_imp (ok_bind hw) ?_)
      intro p hw
      simp only [Option.toList, List.nil_append, List.cons_append, Nat.reduceSub]
      refine mj_run hG.1 (fun pc => pc == 4 || pc == 8 || pc == 9 || pc == 43 || pc == 48 || pc == 52 || pc == 56) 4000 ?_
      simp only [mj_step, mj_W_s, mj_fin, List.getElem?_cons_zero, List.getElem?_cons_succ, mj_go, Nat.reduceAdd, Nat.reduceSub, Nat.reduceLT, Nat.reduceLeDiff, Nat.zero_add, Nat.reduceEqDiff, Nat.reduceBEq, ↓reduceIte, Bool.false_eq_true, List.append_nil, List.nil_append, List.cons_append, Option.toList, and_true, true_and, true_or, or_true, reduceCtorEq, List.map_nil, bI_eq0, bI_eq1, bool_ft, pk_us, vnar0, vnar1, Bool.or_false, Bool.or_true, Bool.false_or, Bool.true_or, mj_kne, eq_self, Int32.reduceLT, Int32.reduceLE, Int32.reduceAdd, Int32.reduceSub, Int32.reduceMul, not_true_eq_false, not_false_eq_true, false_implies, true_implies, D_X12_sum, mj_F_aload_n_k, mj_F_bipush_n, mj_F_dup, mj_F_getfield_i, mj_F_goto_off, mj_F_iadd, mj_F_iconst_n, mj_F_if_icmp_eq_off, mj_F_if_icmp_ne_off, mj_F_iload_n_k, mj_F_invokevirtual_i, mj_F_istore_n_k, mj_F_putfield_i, mj_F_return_, mj_set, mj_set0, mj_unk, mj_c2, mj_kc, FT_X12, FT_X12_1, PT_X12, L_X12_sum, List.take_succ_cons, List.take_zero, List.drop_succ_cons, List.drop_zero, List.reverse_cons, List.reverse_nil, List.length_cons, List.length_nil, gS_M0, gMf_37, gMf_36, sS_Mf_36, gMl, J_X12_sum]
      refine c_X12_look_in (ok_imp (ok_bind hw) ?_)
      intro p hw
      simp only [Option.toList, List.nil_append, List.cons_append, Nat.reduceSub]
      refine mj_run hG.1 (fun pc => pc == 4 || pc == 8 || pc == 9 || pc == 43 || pc == 48 || pc == 52 || pc == 56) 4000 ?_
      simp only [mj_step, mj_W_s, mj_fin, List.getElem?_cons_zero, List.getElem?_cons_succ, mj_go, Nat.reduceAdd, Nat.reduceSub, Nat.reduceLT, Nat.reduceLeDiff, Nat.zero_add, Nat.reduceEqDiff, Nat.reduceBEq, ↓reduceIte, Bool.false_eq_true, List.append_nil, List.nil_append, List.cons_append, Option.toList, and_true, true_and, true_or, or_true, reduceCtorEq, List.map_nil, bI_eq0, bI_eq1, bool_ft, pk_us, vnar0, vnar1, Bool.or_false, Bool.or_true, Bool.false_or, Bool.true_or, mj_kne, eq_self, Int32.reduceLT, Int32.reduceLE, Int32.reduceAdd, Int32.reduceSub, Int32.reduceMul, not_true_eq_false, not_false_eq_true, false_implies, true_implies, D_X12_sum, mj_F_aload_n_k, mj_F_bipush_n, mj_F_dup, mj_F_getfield_i, mj_F_goto_off, mj_F_iadd, mj_F_iconst_n, mj_F_if_icmp_eq_off, mj_F_if_icmp_ne_off, mj_F_iload_n_k, mj_F_invokevirtual_i, mj_F_istore_n_k, mj_F_putfield_i, mj_F_return_, mj_set, mj_set0, mj_unk, mj_c2, mj_kc, FT_X12, FT_X12_1, PT_X12, L_X12_sum, List.take_succ_cons, List.take_zero, List.drop_succ_cons, List.drop_zero, List.reverse_cons, List.reverse_nil, List.length_cons, List.length_nil, gS_M0, gMf_37, gMf_36, sS_Mf_36, gMl, J_X12_sum]
      exact hG.2 _ _ _ _ _ _ _ _ _ (by refine ⟨Or.inr rfl, ?_⟩; refine ⟨Or.inr rfl, ?_⟩; exact trivial) (Nat.zero_le _) (Nat.zero_le _) (hP _ (ok_some hw :) :)
    · replace hw := ok_f hw c
      refine ⟨fun c => ?_, fun c => ?_⟩
      · replace hw := ok_f hw c
        exact hG.2 _ _ _ _ _ _ _ _ _ (by exact trivial) (Nat.zero_le _) (Nat.zero_le _) (hK0 _ (ok_some hw :) :)
      · replace hw := ok_t hw c
        replace hw := ok_wI hw
        refine cq_X12_term_in (ok_imp (ok_bind hw) ?_)
        intro p hw
        simp only [Option.toList, List.nil_append, List.cons_append, Nat.reduceSub]
        refine mj_run hG.1 (fun pc => pc == 4 || pc == 8 || pc == 9 || pc == 43 || pc == 48 || pc == 52 || pc == 56) 4000 ?_
        simp only [mj_step, mj_W_s, mj_fin, List.getElem?_cons_zero, List.getElem?_cons_succ, mj_go, Nat.reduceAdd, Nat.reduceSub, Nat.reduceLT, Nat.reduceLeDiff, Nat.zero_add, Nat.reduceEqDiff, Nat.reduceBEq, ↓reduceIte, Bool.false_eq_true, List.append_nil, List.nil_append, List.cons_append, Option.toList, and_true, true_and, true_or, or_true, reduceCtorEq, List.map_nil, bI_eq0, bI_eq1, bool_ft, pk_us, vnar0, vnar1, Bool.or_false, Bool.or_true, Bool.false_or, Bool.true_or, mj_kne, eq_self, Int32.reduceLT, Int32.reduceLE, Int32.reduceAdd, Int32.reduceSub, Int32.reduceMul, not_true_eq_false, not_false_eq_true, false_implies, true_implies, D_X12_sum, mj_F_aload_n_k, mj_F_bipush_n, mj_F_dup, mj_F_getfield_i, mj_F_goto_off, mj_F_iadd, mj_F_iconst_n, mj_F_if_icmp_eq_off, mj_F_if_icmp_ne_off, mj_F_iload_n_k, mj_F_invokevirtual_i, mj_F_istore_n_k, mj_F_putfield_i, mj_F_return_, mj_set, mj_set0, mj_unk, mj_c2, mj_kc, FT_X12, FT_X12_1, PT_X12, L_X12_sum, List.take_succ_cons, List.take_zero, List.drop_succ_cons, List.drop_zero, List.reverse_cons, List.reverse_nil, List.length_cons, List.length_nil, gS_M0, gMf_37, gMf_36, sS_Mf_36, gMl, J_X12_sum]
        refine c_X12_say_in (ok_imp (ok_bind hw) ?_)
        intro p hw
        simp only [Option.toList, List.nil_append, List.cons_append, Nat.reduceSub]
        refine mj_run hG.1 (fun pc => pc == 4 || pc == 8 || pc == 9 || pc == 43 || pc == 48 || pc == 52 || pc == 56) 4000 ?_
        simp only [mj_step, mj_W_s, mj_fin, List.getElem?_cons_zero, List.getElem?_cons_succ, mj_go, Nat.reduceAdd, Nat.reduceSub, Nat.reduceLT, Nat.reduceLeDiff, Nat.zero_add, Nat.reduceEqDiff, Nat.reduceBEq, ↓reduceIte, Bool.false_eq_true, List.append_nil, List.nil_append, List.cons_append, Option.toList, and_true, true_and, true_or, or_true, reduceCtorEq, List.map_nil, bI_eq0, bI_eq1, bool_ft, pk_us, vnar0, vnar1, Bool.or_false, Bool.or_true, Bool.false_or, Bool.true_or, mj_kne, eq_self, Int32.reduceLT, Int32.reduceLE, Int32.reduceAdd, Int32.reduceSub, Int32.reduceMul, not_true_eq_false, not_false_eq_true, false_implies, true_implies, D_X12_sum, mj_F_aload_n_k, mj_F_bipush_n, mj_F_dup, mj_F_getfield_i, mj_F_goto_off, mj_F_iadd, mj_F_iconst_n, mj_F_if_icmp_eq_off, mj_F_if_icmp_ne_off, mj_F_iload_n_k, mj_F_invokevirtual_i, mj_F_istore_n_k, mj_F_putfield_i, mj_F_return_, mj_set, mj_set0, mj_unk, mj_c2, mj_kc, FT_X12, FT_X12_1, PT_X12, L_X12_sum, List.take_succ_cons, List.take_zero, List.drop_succ_cons, List.drop_zero, List.reverse_cons, List.reverse_nil, List.length_cons, List.length_nil, gS_M0, gMf_37, gMf_36, sS_Mf_36, gMl, J_X12_sum]
        refine c_X12_look_in (ok_imp (ok_bind hw) ?_)
        intro p hw
        simp only [Option.toList, List.nil_append, List.cons_append, Nat.reduceSub]
        refine mj_run hG.1 (fun pc => pc == 4 || pc == 8 || pc == 9 || pc == 43 || pc == 48 || pc == 52 || pc == 56) 4000 ?_
        simp only [mj_step, mj_W_s, mj_fin, List.getElem?_cons_zero, List.getElem?_cons_succ, mj_go, Nat.reduceAdd, Nat.reduceSub, Nat.reduceLT, Nat.reduceLeDiff, Nat.zero_add, Nat.reduceEqDiff, Nat.reduceBEq, ↓reduceIte, Bool.false_eq_true, List.append_nil, List.nil_append, List.cons_append, Option.toList, and_true, true_and, true_or, or_true, reduceCtorEq, List.map_nil, bI_eq0, bI_eq1, bool_ft, pk_us, vnar0, vnar1, Bool.or_false, Bool.or_true, Bool.false_or, Bool.true_or, mj_kne, eq_self, Int32.reduceLT, Int32.reduceLE, Int32.reduceAdd, Int32.reduceSub, Int32.reduceMul, not_true_eq_false, not_false_eq_true, false_implies, true_implies, D_X12_sum, mj_F_aload_n_k, mj_F_bipush_n, mj_F_dup, mj_F_getfield_i, mj_F_goto_off, mj_F_iadd, mj_F_iconst_n, mj_F_if_icmp_eq_off, mj_F_if_icmp_ne_off, mj_F_iload_n_k, mj_F_invokevirtual_i, mj_F_istore_n_k, mj_F_putfield_i, mj_F_return_, mj_set, mj_set0, mj_unk, mj_c2, mj_kc, FT_X12, FT_X12_1, PT_X12, L_X12_sum, List.take_succ_cons, List.take_zero, List.drop_succ_cons, List.drop_zero, List.reverse_cons, List.reverse_nil, List.length_cons, List.length_nil, gS_M0, gMf_37, gMf_36, sS_Mf_36, gMl, J_X12_sum]
        exact hG.2 _ _ _ _ _ _ _ _ _ (by refine ⟨Or.inr rfl, ?_⟩; refine ⟨Or.inr rfl, ?_⟩; exact trivial) (Nat.zero_le _) (Nat.zero_le _) (hP _ (ok_some hw :) :)

set_option maxHeartbeats 4000000 in
set_option maxRecDepth 20000 in
theorem g_X12_sum_56 {q : RTM} {k : Option Value → mj_H → Prop} {G : mj_K} (hG : mj_cl2 cX12_sum (TbX12 2 (none) (ct_X12_sum q)) k G)   {s : St} (hw : ok (F_X12_sum_56 q s) (fun p => k none (mkMs p))) : G 56 [] [] (mkMs s) 0 0 := by
  unfold F_X12_sum_56 at hw
  refine mj_run hG.1 (fun pc => pc == 4 || pc == 8 || pc == 9 || pc == 43 || pc == 48 || pc == 52 || pc == 56) 4000 ?_
  simp only [mj_step, mj_W_s, mj_fin, List.getElem?_cons_zero, List.getElem?_cons_succ, mj_go, Nat.reduceAdd, Nat.reduceSub, Nat.reduceLT, Nat.reduceLeDiff, Nat.zero_add, Nat.reduceEqDiff, Nat.reduceBEq, ↓reduceIte, Bool.false_eq_true, List.append_nil, List.nil_append, List.cons_append, Option.toList, and_true, true_and, true_or, or_true, reduceCtorEq, List.map_nil, bI_eq0, bI_eq1, bool_ft, pk_us, vnar0, vnar1, Bool.or_false, Bool.or_true, Bool.false_or, Bool.true_or, mj_kne, eq_self, Int32.reduceLT, Int32.reduceLE, Int32.reduceAdd, Int32.reduceSub, Int32.reduceMul, not_true_eq_false, not_false_eq_true, false_implies, true_implies, D_X12_sum, mj_F_aload_n_k, mj_F_bipush_n, mj_F_dup, mj_F_getfield_i, mj_F_goto_off, mj_F_iadd, mj_F_iconst_n, mj_F_if_icmp_eq_off, mj_F_if_icmp_ne_off, mj_F_iload_n_k, mj_F_invokevirtual_i, mj_F_istore_n_k, mj_F_putfield_i, mj_F_return_, mj_set, mj_set0, mj_unk, mj_c2, mj_kc, FT_X12, FT_X12_1, PT_X12, L_X12_sum, List.take_succ_cons, List.take_zero, List.drop_succ_cons, List.drop_zero, List.reverse_cons, List.reverse_nil, List.length_cons, List.length_nil, gS_M0, gMf_37, gMf_36, sS_Mf_36, gMl, J_X12_sum]
  exact (ok_some hw :)

set_option maxHeartbeats 4000000 in
theorem g_X12_sum_9 {q : RTM} {k : Option Value → mj_H → Prop} {G : mj_K} (hG : mj_cl2 cX12_sum (TbX12 2 (none) (ct_X12_sum q)) k G)   {v1 : Int32} {s : St} (hw : ok (F_X12_sum_9 q v1 s) (fun p => k none (mkMs p))) : G 9 [.ref 0, .int v1] [] (mkMs s) 0 0 := by
  unfold F_X12_sum_9 at hw
  refine lp_ok (B_X12_sum_9 q ) (fun x => G 9 [.ref 0, .int x.1] [] (mkMs x.2) 0 0) _ ?_ _ _ (ok_bind hw)
  rintro ⟨v1, s⟩ hb
  exact b_X12_sum_9 hG (fun _ z => z) (fun y hw => by exact hG.2 _ _ _ _ _ _ _ _ _ (by exact trivial) (Nat.zero_le _) (Nat.zero_le _) (g_X12_sum_56 hG  hw :)) hb

set_option maxHeartbeats 4000000 in
set_option maxRecDepth 20000 in
theorem g_X12_sum {q : RTM} {k : Option Value → mj_H → Prop} {G : mj_K} (hG : mj_cl2 cX12_sum (TbX12 2 (none) (ct_X12_sum q)) k G) {s : St} (hw : ok (F_X12_sum q s) (fun p => k none (mkMs p))) : G 0 [.ref 0] [] (mkMs s) 0 0 := by
  unfold F_X12_sum at hw
  refine mj_run hG.1 (fun pc => pc == 4 || pc == 8 || pc == 9 || pc == 43 || pc == 48 || pc == 52 || pc == 56) 4000 ?_
  simp only [mj_step, mj_W_s, mj_fin, List.getElem?_cons_zero, List.getElem?_cons_succ, mj_go, Nat.reduceAdd, Nat.reduceSub, Nat.reduceLT, Nat.reduceLeDiff, Nat.zero_add, Nat.reduceEqDiff, Nat.reduceBEq, ↓reduceIte, Bool.false_eq_true, List.append_nil, List.nil_append, List.cons_append, Option.toList, and_true, true_and, true_or, or_true, reduceCtorEq, List.map_nil, bI_eq0, bI_eq1, bool_ft, pk_us, vnar0, vnar1, Bool.or_false, Bool.or_true, Bool.false_or, Bool.true_or, mj_kne, eq_self, Int32.reduceLT, Int32.reduceLE, Int32.reduceAdd, Int32.reduceSub, Int32.reduceMul, not_true_eq_false, not_false_eq_true, false_implies, true_implies, D_X12_sum, mj_F_aload_n_k, mj_F_bipush_n, mj_F_dup, mj_F_getfield_i, mj_F_goto_off, mj_F_iadd, mj_F_iconst_n, mj_F_if_icmp_eq_off, mj_F_if_icmp_ne_off, mj_F_iload_n_k, mj_F_invokevirtual_i, mj_F_istore_n_k, mj_F_putfield_i, mj_F_return_, mj_set, mj_set0, mj_unk, mj_c2, mj_kc, FT_X12, FT_X12_1, PT_X12, L_X12_sum, List.take_succ_cons, List.take_zero, List.drop_succ_cons, List.drop_zero, List.reverse_cons, List.reverse_nil, List.length_cons, List.length_nil, gS_M0, gMf_37, gMf_36, sS_Mf_36, gMl, J_X12_sum]
  refine cq_X12_term_in (ok_imp (ok_bind hw) ?_)
  intro p hw
  simp only [Option.toList, List.nil_append, List.cons_append, Nat.reduceSub]
  refine mj_run hG.1 (fun pc => pc == 4 || pc == 8 || pc == 9 || pc == 43 || pc == 48 || pc == 52 || pc == 56) 4000 ?_
  simp only [mj_step, mj_W_s, mj_fin, List.getElem?_cons_zero, List.getElem?_cons_succ, mj_go, Nat.reduceAdd, Nat.reduceSub, Nat.reduceLT, Nat.reduceLeDiff, Nat.zero_add, Nat.reduceEqDiff, Nat.reduceBEq, ↓reduceIte, Bool.false_eq_true, List.append_nil, List.nil_append, List.cons_append, Option.toList, and_true, true_and, true_or, or_true, reduceCtorEq, List.map_nil, bI_eq0, bI_eq1, bool_ft, pk_us, vnar0, vnar1, Bool.or_false, Bool.or_true, Bool.false_or, Bool.true_or, mj_kne, eq_self, Int32.reduceLT, Int32.reduceLE, Int32.reduceAdd, Int32.reduceSub, Int32.reduceMul, not_true_eq_false, not_false_eq_true, false_implies, true_implies, D_X12_sum, mj_F_aload_n_k, mj_F_bipush_n, mj_F_dup, mj_F_getfield_i, mj_F_goto_off, mj_F_iadd, mj_F_iconst_n, mj_F_if_icmp_eq_off, mj_F_if_icmp_ne_off, mj_F_iload_n_k, mj_F_invokevirtual_i, mj_F_istore_n_k, mj_F_putfield_i, mj_F_return_, mj_set, mj_set0, mj_unk, mj_c2, mj_kc, FT_X12, FT_X12_1, PT_X12, L_X12_sum, List.take_succ_cons, List.take_zero, List.drop_succ_cons, List.drop_zero, List.reverse_cons, List.reverse_nil, List.length_cons, List.length_nil, gS_M0, gMf_37, gMf_36, sS_Mf_36, gMl, J_X12_sum]
  refine c_X12_look_in (ok_imp (ok_bind hw) ?_)
  intro p hw
  simp only [Option.toList, List.nil_append, List.cons_append, Nat.reduceSub]
  refine mj_run hG.1 (fun pc => pc == 4 || pc == 8 || pc == 9 || pc == 43 || pc == 48 || pc == 52 || pc == 56) 4000 ?_
  simp only [mj_step, mj_W_s, mj_fin, List.getElem?_cons_zero, List.getElem?_cons_succ, mj_go, Nat.reduceAdd, Nat.reduceSub, Nat.reduceLT, Nat.reduceLeDiff, Nat.zero_add, Nat.reduceEqDiff, Nat.reduceBEq, ↓reduceIte, Bool.false_eq_true, List.append_nil, List.nil_append, List.cons_append, Option.toList, and_true, true_and, true_or, or_true, reduceCtorEq, List.map_nil, bI_eq0, bI_eq1, bool_ft, pk_us, vnar0, vnar1, Bool.or_false, Bool.or_true, Bool.false_or, Bool.true_or, mj_kne, eq_self, Int32.reduceLT, Int32.reduceLE, Int32.reduceAdd, Int32.reduceSub, Int32.reduceMul, not_true_eq_false, not_false_eq_true, false_implies, true_implies, D_X12_sum, mj_F_aload_n_k, mj_F_bipush_n, mj_F_dup, mj_F_getfield_i, mj_F_goto_off, mj_F_iadd, mj_F_iconst_n, mj_F_if_icmp_eq_off, mj_F_if_icmp_ne_off, mj_F_iload_n_k, mj_F_invokevirtual_i, mj_F_istore_n_k, mj_F_putfield_i, mj_F_return_, mj_set, mj_set0, mj_unk, mj_c2, mj_kc, FT_X12, FT_X12_1, PT_X12, L_X12_sum, List.take_succ_cons, List.take_zero, List.drop_succ_cons, List.drop_zero, List.reverse_cons, List.reverse_nil, List.length_cons, List.length_nil, gS_M0, gMf_37, gMf_36, sS_Mf_36, gMl, J_X12_sum]
  exact hG.2 _ _ _ _ _ _ _ _ _ (by refine ⟨Or.inr rfl, ?_⟩; refine ⟨Or.inr rfl, ?_⟩; exact trivial) (Nat.zero_le _) (Nat.zero_le _) (g_X12_sum_9 hG  hw :)

theorem J_X12_term : mj_t 14 42 = 56 ∧ mj_t 20 9 = 29 ∧ mj_t 26 30 = 56 ∧ mj_t 53 (-44) = 9 ∧ (0 ≤ ((14 : Nat) : Int) + 42) = True ∧ (0 ≤ ((20 : Nat) : Int) + 9) = True ∧ (0 ≤ ((26 : Nat) : Int) + 30) = True ∧ (0 ≤ ((53 : Nat) : Int) + (-44)) = True := by and_intros <;> first | rfl | exact eq_true (by decide)
def ct_X12_term (q : RTM) : List (Nat × mj_Cs) := [(321, 0, 1, 12, 0, 0, c_X12_look), (328, 0, 2, 12, 0, 0, c_X12_say), (348, 0, 1, 12, 0, 0, (cq_X12_atom q.2.2.1))]
theorem L_X12_term (q : RTM) : mj_lk (ct_X12_term q) 321 = some (0, 1, 12, 0, 0, c_X12_look) ∧ mj_lk (ct_X12_term q) 328 = some (0, 2, 12, 0, 0, c_X12_say) ∧ mj_lk (ct_X12_term q) 348 = some (0, 1, 12, 0, 0, (cq_X12_atom q.2.2.1)) := ⟨rfl, rfl, rfl⟩
set_option maxHeartbeats 4000000 in
set_option maxRecDepth 20000 in
theorem b_X12_term_9 {q : RTM} {k : Option Value → mj_H → Prop} {G : mj_K} (hG : mj_cl2 cX12_term (TbX12 2 (none) (ct_X12_term q)) k G)  {P : Int32 × St → Prop} {K : (St) → Prop} (hP : ∀ x, P x → G 9 [.ref 0, .int x.1] [] (mkMs x.2) 0 0) (hK0 : ∀ y, K y → G 56 [] [] (mkMs y) 0 0) {v1 : Int32} {s : St} (hw : ok (B_X12_term_9 q  (v1, s)) (Sum.elim P K)) : G 9 [.ref 0, .int v1] [] (mkMs s) 0 0 := by
  unfold B_X12_term_9 at hw
  refine mj_run hG.1 (fun pc => pc == 4 || pc == 8 || pc == 9 || pc == 43 || pc == 48 || pc == 52 || pc == 56) 4000 ?_
  simp only [mj_step, mj_W_s, mj_fin, List.getElem?_cons_zero, List.getElem?_cons_succ, mj_go, Nat.reduceAdd, Nat.reduceSub, Nat.reduceLT, Nat.reduceLeDiff, Nat.zero_add, Nat.reduceEqDiff, Nat.reduceBEq, ↓reduceIte, Bool.false_eq_true, List.append_nil, List.nil_append, List.cons_append, Option.toList, and_true, true_and, true_or, or_true, reduceCtorEq, List.map_nil, bI_eq0, bI_eq1, bool_ft, pk_us, vnar0, vnar1, Bool.or_false, Bool.or_true, Bool.false_or, Bool.true_or, mj_kne, eq_self, Int32.reduceLT, Int32.reduceLE, Int32.reduceAdd, Int32.reduceSub, Int32.reduceMul, not_true_eq_false, not_false_eq_true, false_implies, true_implies, D_X12_term, mj_F_aload_n_k, mj_F_bipush_n, mj_F_dup, mj_F_getfield_i, mj_F_goto_off, mj_F_iadd, mj_F_iconst_n, mj_F_if_icmp_eq_off, mj_F_if_icmp_ne_off, mj_F_iload_n_k, mj_F_invokevirtual_i, mj_F_istore_n_k, mj_F_putfield_i, mj_F_return_, mj_set, mj_set0, mj_unk, mj_c2, mj_kc, FT_X12, FT_X12_1, PT_X12, L_X12_term, List.take_succ_cons, List.take_zero, List.drop_succ_cons, List.drop_zero, List.reverse_cons, List.reverse_nil, List.length_cons, List.length_nil, gS_M0, gMf_37, gMf_36, sS_Mf_36, gMl, J_X12_term]
  refine ⟨fun c => ?_, fun c => ?_⟩
  · replace hw := ok_f hw c
    exact hG.2 _ _ _ _ _ _ _ _ _ (by exact trivial) (Nat.zero_le _) (Nat.zero_le _) (hK0 _ (ok_some hw :) :)
  · replace hw := ok_t hw c
    refine ⟨fun c => ?_, fun c => ?_⟩
    · replace hw := ok_t hw c
      replace hw := ok_wI hw
      refine cq_X12_atom_in (ok_imp (ok_bind hw) ?_)
      intro p hw
      simp only [Option.toList, List.nil_append, List.cons_append, Nat.reduceSub]
      refine mj_run hG.1 (fun pc => pc == 4 || pc == 8 || pc == 9 || pc == 43 || pc == 48 || pc == 52 || pc == 56) 4000 ?_
      simp only [mj_step, mj_W_s, mj_fin, List.getElem?_cons_zero, List.getElem?_cons_succ, mj_go, Nat.reduceAdd, Nat.reduceSub, Nat.reduceLT, Nat.reduceLeDiff, Nat.zero_add, Nat.reduceEqDiff, Nat.reduceBEq, ↓reduceIte, Bool.false_eq_true, List.append_nil, List.nil_append, List.cons_append, Option.toList, and_true, true_and, true_or, or_true, reduceCtorEq, List.map_nil, bI_eq0, bI_eq1, bool_ft, pk_us, vnar0, vnar1, Bool.or_false, Bool.or_true, Bool.false_or, Bool.true_or, mj_kne, eq_self, Int32.reduceLT, Int32.reduceLE, Int32.reduceAdd, Int32.reduceSub, Int32.reduceMul, not_true_eq_false, not_false_eq_true, false_implies, true_implies, D_X12_term, mj_F_aload_n_k, mj_F_bipush_n, mj_F_dup, mj_F_getfield_i, mj_F_goto_off, mj_F_iadd, mj_F_iconst_n, mj_F_if_icmp_eq_off, mj_F_if_icmp_ne_off, mj_F_iload_n_k, mj_F_invokevirtual_i, mj_F_istore_n_k, mj_F_putfield_i, mj_F_return_, mj_set, mj_set0, mj_unk, mj_c2, mj_kc, FT_X12, FT_X12_1, PT_X12, L_X12_term, List.take_succ_cons, List.take_zero, List.drop_succ_cons, List.drop_zero, List.reverse_cons, List.reverse_nil, List.length_cons, List.length_nil, gS_M0, gMf_37, gMf_36, sS_Mf_36, gMl, J_X12_term]
      refine c_X12_say_in (ok_imp (ok_bind hw) ?_)
      intro p hw
      simp only [Option.toList, List.nil_append, List.cons_append, Nat.reduceSub]
      refine mj_run hG.1 (fun pc => pc == 4 || pc == 8 || pc == 9 || pc == 43 || pc == 48 || pc == 52 || pc == 56) 4000 ?_
      simp only [mj_step, mj_W_s, mj_fin, List.getElem?_cons_zero, List.getElem?_cons_succ, mj_go, Nat.reduceAdd, Nat.reduceSub, Nat.reduceLT, Nat.reduceLeDiff, Nat.zero_add, Nat.reduceEqDiff, Nat.reduceBEq, ↓reduceIte, Bool.false_eq_true, List.append_nil, List.nil_append, List.cons_append, Option.toList, and_true, true_and, true_or, or_true, reduceCtorEq, List.map_nil, bI_eq0, bI_eq1, bool_ft, pk_us, vnar0, vnar1, Bool.or_false, Bool.or_true, Bool.false_or, Bool.true_or, mj_kne, eq_self, Int32.reduceLT, Int32.reduceLE, Int32.reduceAdd, Int32.reduceSub, Int32.reduceMul, not_true_eq_false, not_false_eq_true, false_implies, true_implies, D_X12_term, mj_F_aload_n_k, mj_F_bipush_n, mj_F_dup, mj_F_getfield_i, mj_F_goto_off, mj_F_iadd, mj_F_iconst_n, mj_F_if_icmp_eq_off, mj_F_if_icmp_ne_off, mj_F_iload_n_k, mj_F_invokevirtual_i, mj_F_istore_n_k, mj_F_putfield_i, mj_F_return_, mj_set, mj_set0, mj_unk, mj_c2, mj_kc, FT_X12, FT_X12_1, PT_X12, L_X12_term, List.take_succ_cons, List.take_zero, List.drop_succ_cons, List.drop_zero, List.reverse_cons, List.reverse_nil, List.length_cons, List.length_nil, gS_M0, gMf_37, gMf_36, sS_Mf_36, gMl, J_X12_term]
      refine c_X12_look_in (ok_imp (ok_bind hw) ?_)
      intro p hw
      simp only [Option.toList, List.nil_append, List.cons_append, Nat.reduceSub]
      refine mj_run hG.1 (fun pc => pc == 4 || pc == 8 || pc == 9 || pc == 43 || pc == 48 || pc == 52 || pc == 56) 4000 ?_
      simp only [mj_step, mj_W_s, mj_fin, List.getElem?_cons_zero, List.getElem?_cons_succ, mj_go, Nat.reduceAdd, Nat.reduceSub, Nat.reduceLT, Nat.reduceLeDiff, Nat.zero_add, Nat.reduceEqDiff, Nat.reduceBEq, ↓reduceIte, Bool.false_eq_true, List.append_nil, List.nil_append, List.cons_append, Option.toList, and_true, true_and, true_or, or_true, reduceCtorEq, List.map_nil, bI_eq0, bI_eq1, bool_ft, pk_us, vnar0, vnar1, Bool.or_false, Bool.or_true, Bool.false_or, Bool.true_or, mj_kne, eq_self, Int32.reduceLT, Int32.reduceLE, Int32.reduceAdd, Int32.reduceSub, Int32.reduceMul, not_true_eq_false, not_false_eq_true, false_implies, true_implies, D_X12_term, mj_F_aload_n_k, mj_F_bipush_n, mj_F_dup, mj_F_getfield_i, mj_F_goto_off, mj_F_iadd, mj_F_iconst_n, mj_F_if_icmp_eq_off, mj_F_if_icmp_ne_off, mj_F_iload_n_k, mj_F_invokevirtual_i, mj_F_istore_n_k, mj_F_putfield_i, mj_F_return_, mj_set, mj_set0, mj_unk, mj_c2, mj_kc, FT_X12, FT_X12_1, PT_X12, L_X12_term, List.take_succ_cons, List.take_zero, List.drop_succ_cons, List.drop_zero, List.reverse_cons, List.reverse_nil, List.length_cons, List.length_nil, gS_M0, gMf_37, gMf_36, sS_Mf_36, gMl, J_X12_term]
      exact hG.2 _ _ _ _ _ _ _ _ _ (by refine ⟨Or.inr rfl, ?_⟩; refine ⟨Or.inr rfl, ?_⟩; exact trivial) (Nat.zero_le _) (Nat.zero_le _) (hP _ (ok_some hw :) :)
    · replace hw := ok_f hw c
      refine ⟨fun c => ?_, fun c => ?_⟩
      · replace hw := ok_f hw c
        exact hG.2 _ _ _ _ _ _ _ _ _ (by exact trivial) (Nat.zero_le _) (Nat.zero_le _) (hK0 _ (ok_some hw :) :)
      · replace hw := ok_t hw c
        replace hw := ok_wI hw
        refine cq_X12_atom_in (ok_imp (ok_bind hw) ?_)
        intro p hw
        simp only [Option.toList, List.nil_append, List.cons_append, Nat.reduceSub]
        refine mj_run hG.1 (fun pc => pc == 4 || pc == 8 || pc == 9 || pc == 43 || pc == 48 || pc == 52 || pc == 56) 4000 ?_
        simp only [mj_step, mj_W_s, mj_fin, List.getElem?_cons_zero, List.getElem?_cons_succ, mj_go, Nat.reduceAdd, Nat.reduceSub, Nat.reduceLT, Nat.reduceLeDiff, Nat.zero_add, Nat.reduceEqDiff, Nat.reduceBEq, ↓reduceIte, Bool.false_eq_true, List.append_nil, List.nil_append, List.cons_append, Option.toList, and_true, true_and, true_or, or_true, reduceCtorEq, List.map_nil, bI_eq0, bI_eq1, bool_ft, pk_us, vnar0, vnar1, Bool.or_false, Bool.or_true, Bool.false_or, Bool.true_or, mj_kne, eq_self, Int32.reduceLT, Int32.reduceLE, Int32.reduceAdd, Int32.reduceSub, Int32.reduceMul, not_true_eq_false, not_false_eq_true, false_implies, true_implies, D_X12_term, mj_F_aload_n_k, mj_F_bipush_n, mj_F_dup, mj_F_getfield_i, mj_F_goto_off, mj_F_iadd, mj_F_iconst_n, mj_F_if_icmp_eq_off, mj_F_if_icmp_ne_off, mj_F_iload_n_k, mj_F_invokevirtual_i, mj_F_istore_n_k, mj_F_putfield_i, mj_F_return_, mj_set, mj_set0, mj_unk, mj_c2, mj_kc, FT_X12, FT_X12_1, PT_X12, L_X12_term, List.take_succ_cons, List.take_zero, List.drop_succ_cons, List.drop_zero, List.reverse_cons, List.reverse_nil, List.length_cons, List.length_nil, gS_M0, gMf_37, gMf_36, sS_Mf_36, gMl, J_X12_term]
        refine c_X12_say_in (ok_imp (ok_bind hw) ?_)
        intro p hw
        simp only [Option.toList, List.nil_append, List.cons_append, Nat.reduceSub]
        refine mj_run hG.1 (fun pc => pc == 4 || pc == 8 || pc == 9 || pc == 43 || pc == 48 || pc == 52 || pc == 56) 4000 ?_
        simp only [mj_step, mj_W_s, mj_fin, List.getElem?_cons_zero, List.getElem?_cons_succ, mj_go, Nat.reduceAdd, Nat.reduceSub, Nat.reduceLT, Nat.reduceLeDiff, Nat.zero_add, Nat.reduceEqDiff, Nat.reduceBEq, ↓reduceIte, Bool.false_eq_true, List.append_nil, List.nil_append, List.cons_append, Option.toList, and_true, true_and, true_or, or_true, reduceCtorEq, List.map_nil, bI_eq0, bI_eq1, bool_ft, pk_us, vnar0, vnar1, Bool.or_false, Bool.or_true, Bool.false_or, Bool.true_or, mj_kne, eq_self, Int32.reduceLT, Int32.reduceLE, Int32.reduceAdd, Int32.reduceSub, Int32.reduceMul, not_true_eq_false, not_false_eq_true, false_implies, true_implies, D_X12_term, mj_F_aload_n_k, mj_F_bipush_n, mj_F_dup, mj_F_getfield_i, mj_F_goto_off, mj_F_iadd, mj_F_iconst_n, mj_F_if_icmp_eq_off, mj_F_if_icmp_ne_off, mj_F_iload_n_k, mj_F_invokevirtual_i, mj_F_istore_n_k, mj_F_putfield_i, mj_F_return_, mj_set, mj_set0, mj_unk, mj_c2, mj_kc, FT_X12, FT_X12_1, PT_X12, L_X12_term, List.take_succ_cons, List.take_zero, List.drop_succ_cons, List.drop_zero, List.reverse_cons, List.reverse_nil, List.length_cons, List.length_nil, gS_M0, gMf_37, gMf_36, sS_Mf_36, gMl, J_X12_term]
        refine c_X12_look_in (ok_imp (ok_bind hw) ?_)
        intro p hw
        simp only [Option.toList, List.nil_append, List.cons_append, Nat.reduceSub]
        refine mj_run hG.1 (fun pc => pc == 4 || pc == 8 || pc == 9 || pc == 43 || pc == 48 || pc == 52 || pc == 56) 4000 ?_
        simp only [mj_step, mj_W_s, mj_fin, List.getElem?_cons_zero, List.getElem?_cons_succ, mj_go, Nat.reduceAdd, Nat.reduceSub, Nat.reduceLT, Nat.reduceLeDiff, Nat.zero_add, Nat.reduceEqDiff, Nat.reduceBEq, ↓reduceIte, Bool.false_eq_true, List.append_nil, List.nil_append, List.cons_append, Option.toList, and_true, true_and, true_or, or_true, reduceCtorEq, List.map_nil, bI_eq0, bI_eq1, bool_ft, pk_us, vnar0, vnar1, Bool.or_false, Bool.or_true, Bool.false_or, Bool.true_or, mj_kne, eq_self, Int32.reduceLT, Int32.reduceLE, Int32.reduceAdd, Int32.reduceSub, Int32.reduceMul, not_true_eq_false, not_false_eq_true, false_implies, true_implies, D_X12_term, mj_F_aload_n_k, mj_F_bipush_n, mj_F_dup, mj_F_getfield_i, mj_F_goto_off, mj_F_iadd, mj_F_iconst_n, mj_F_if_icmp_eq_off, mj_F_if_icmp_ne_off, mj_F_iload_n_k, mj_F_invokevirtual_i, mj_F_istore_n_k, mj_F_putfield_i, mj_F_return_, mj_set, mj_set0, mj_unk, mj_c2, mj_kc, FT_X12, FT_X12_1, PT_X12, L_X12_term, List.take_succ_cons, List.take_zero, List.drop_succ_cons, List.drop_zero, List.reverse_cons, List.reverse_nil, List.length_cons, List.length_nil, gS_M0, gMf_37, gMf_36, sS_Mf_36, gMl, J_X12_term]
        exact hG.2 _ _ _ _ _ _ _ _ _ (by refine ⟨Or.inr rfl, ?_⟩; refine ⟨Or.inr rfl, ?_⟩; exact trivial) (Nat.zero_le _) (Nat.zero_le _) (hP _ (ok_some hw :) :)

set_option maxHeartbeats 4000000 in
set_option maxRecDepth 20000 in
theorem g_X12_term_56 {q : RTM} {k : Option Value → mj_H → Prop} {G : mj_K} (hG : mj_cl2 cX12_term (TbX12 2 (none) (ct_X12_term q)) k G)   {s : St} (hw : ok (F_X12_term_56 q s) (fun p => k none (mkMs p))) : G 56 [] [] (mkMs s) 0 0 := by
  unfold F_X12_term_56 at hw
  refine mj_run hG.1 (fun pc => pc == 4 || pc == 8 || pc == 9 || pc == 43 || pc == 48 || pc == 52 || pc == 56) 4000 ?_
  simp only [mj_step, mj_W_s, mj_fin, List.getElem?_cons_zero, List.getElem?_cons_succ, mj_go, Nat.reduceAdd, Nat.reduceSub, Nat.reduceLT, Nat.reduceLeDiff, Nat.zero_add, Nat.reduceEqDiff, Nat.reduceBEq, ↓reduceIte, Bool.false_eq_true, List.append_nil, List.nil_append, List.cons_append, Option.toList, and_true, true_and, true_or, or_true, reduceCtorEq, List.map_nil, bI_eq0, bI_eq1, bool_ft, pk_us, vnar0, vnar1, Bool.or_false, Bool.or_true, Bool.false_or, Bool.true_or, mj_kne, eq_self, Int32.reduceLT, Int32.reduceLE, Int32.reduceAdd, Int32.reduceSub, Int32.reduceMul, not_true_eq_false, not_false_eq_true, false_implies, true_implies, D_X12_term, mj_F_aload_n_k, mj_F_bipush_n, mj_F_dup, mj_F_getfield_i, mj_F_goto_off, mj_F_iadd, mj_F_iconst_n, mj_F_if_icmp_eq_off, mj_F_if_icmp_ne_off, mj_F_iload_n_k, mj_F_invokevirtual_i, mj_F_istore_n_k, mj_F_putfield_i, mj_F_return_, mj_set, mj_set0, mj_unk, mj_c2, mj_kc, FT_X12, FT_X12_1, PT_X12, L_X12_term, List.take_succ_cons, List.take_zero, List.drop_succ_cons, List.drop_zero, List.reverse_cons, List.reverse_nil, List.length_cons, List.length_nil, gS_M0, gMf_37, gMf_36, sS_Mf_36, gMl, J_X12_term]
  exact (ok_some hw :)

set_option maxHeartbeats 4000000 in
theorem g_X12_term_9 {q : RTM} {k : Option Value → mj_H → Prop} {G : mj_K} (hG : mj_cl2 cX12_term (TbX12 2 (none) (ct_X12_term q)) k G)   {v1 : Int32} {s : St} (hw : ok (F_X12_term_9 q v1 s) (fun p => k none (mkMs p))) : G 9 [.ref 0, .int v1] [] (mkMs s) 0 0 := by
  unfold F_X12_term_9 at hw
  refine lp_ok (B_X12_term_9 q ) (fun x => G 9 [.ref 0, .int x.1] [] (mkMs x.2) 0 0) _ ?_ _ _ (ok_bind hw)
  rintro ⟨v1, s⟩ hb
  exact b_X12_term_9 hG (fun _ z => z) (fun y hw => by exact hG.2 _ _ _ _ _ _ _ _ _ (by exact trivial) (Nat.zero_le _) (Nat.zero_le _) (g_X12_term_56 hG  hw :)) hb

set_option maxHeartbeats 4000000 in
set_option maxRecDepth 20000 in
theorem g_X12_term {q : RTM} {k : Option Value → mj_H → Prop} {G : mj_K} (hG : mj_cl2 cX12_term (TbX12 2 (none) (ct_X12_term q)) k G) {s : St} (hw : ok (F_X12_term q s) (fun p => k none (mkMs p))) : G 0 [.ref 0] [] (mkMs s) 0 0 := by
  unfold F_X12_term at hw
  refine mj_run hG.1 (fun pc => pc == 4 || pc == 8 || pc == 9 || pc == 43 || pc == 48 || pc == 52 || pc == 56) 4000 ?_
  simp only [mj_step, mj_W_s, mj_fin, List.getElem?_cons_zero, List.getElem?_cons_succ, mj_go, Nat.reduceAdd, Nat.reduceSub, Nat.reduceLT, Nat.reduceLeDiff, Nat.zero_add, Nat.reduceEqDiff, Nat.reduceBEq, ↓reduceIte, Bool.false_eq_true, List.append_nil, List.nil_append, List.cons_append, Option.toList, and_true, true_and, true_or, or_true, reduceCtorEq, List.map_nil, bI_eq0, bI_eq1, bool_ft, pk_us, vnar0, vnar1, Bool.or_false, Bool.or_true, Bool.false_or, Bool.true_or, mj_kne, eq_self, Int32.reduceLT, Int32.reduceLE, Int32.reduceAdd, Int32.reduceSub, Int32.reduceMul, not_true_eq_false, not_false_eq_true, false_implies, true_implies, D_X12_term, mj_F_aload_n_k, mj_F_bipush_n, mj_F_dup, mj_F_getfield_i, mj_F_goto_off, mj_F_iadd, mj_F_iconst_n, mj_F_if_icmp_eq_off, mj_F_if_icmp_ne_off, mj_F_iload_n_k, mj_F_invokevirtual_i, mj_F_istore_n_k, mj_F_putfield_i, mj_F_return_, mj_set, mj_set0, mj_unk, mj_c2, mj_kc, FT_X12, FT_X12_1, PT_X12, L_X12_term, List.take_succ_cons, List.take_zero, List.drop_succ_cons, List.drop_zero, List.reverse_cons, List.reverse_nil, List.length_cons, List.length_nil, gS_M0, gMf_37, gMf_36, sS_Mf_36, gMl, J_X12_term]
  refine cq_X12_atom_in (ok_imp (ok_bind hw) ?_)
  intro p hw
  simp only [Option.toList, List.nil_append, List.cons_append, Nat.reduceSub]
  refine mj_run hG.1 (fun pc => pc == 4 || pc == 8 || pc == 9 || pc == 43 || pc == 48 || pc == 52 || pc == 56) 4000 ?_
  simp only [mj_step, mj_W_s, mj_fin, List.getElem?_cons_zero, List.getElem?_cons_succ, mj_go, Nat.reduceAdd, Nat.reduceSub, Nat.reduceLT, Nat.reduceLeDiff, Nat.zero_add, Nat.reduceEqDiff, Nat.reduceBEq, ↓reduceIte, Bool.false_eq_true, List.append_nil, List.nil_append, List.cons_append, Option.toList, and_true, true_and, true_or, or_true, reduceCtorEq, List.map_nil, bI_eq0, bI_eq1, bool_ft, pk_us, vnar0, vnar1, Bool.or_false, Bool.or_true, Bool.false_or, Bool.true_or, mj_kne, eq_self, Int32.reduceLT, Int32.reduceLE, Int32.reduceAdd, Int32.reduceSub, Int32.reduceMul, not_true_eq_false, not_false_eq_true, false_implies, true_implies, D_X12_term, mj_F_aload_n_k, mj_F_bipush_n, mj_F_dup, mj_F_getfield_i, mj_F_goto_off, mj_F_iadd, mj_F_iconst_n, mj_F_if_icmp_eq_off, mj_F_if_icmp_ne_off, mj_F_iload_n_k, mj_F_invokevirtual_i, mj_F_istore_n_k, mj_F_putfield_i, mj_F_return_, mj_set, mj_set0, mj_unk, mj_c2, mj_kc, FT_X12, FT_X12_1, PT_X12, L_X12_term, List.take_succ_cons, List.take_zero, List.drop_succ_cons, List.drop_zero, List.reverse_cons, List.reverse_nil, List.length_cons, List.length_nil, gS_M0, gMf_37, gMf_36, sS_Mf_36, gMl, J_X12_term]
  refine c_X12_look_in (ok_imp (ok_bind hw) ?_)
  intro p hw
  simp only [Option.toList, List.nil_append, List.cons_append, Nat.reduceSub]
  refine mj_run hG.1 (fun pc => pc == 4 || pc == 8 || pc == 9 || pc == 43 || pc == 48 || pc == 52 || pc == 56) 4000 ?_
  simp only [mj_step, mj_W_s, mj_fin, List.getElem?_cons_zero, List.getElem?_cons_succ, mj_go, Nat.reduceAdd, Nat.reduceSub, Nat.reduceLT, Nat.reduceLeDiff, Nat.zero_add, Nat.reduceEqDiff, Nat.reduceBEq, ↓reduceIte, Bool.false_eq_true, List.append_nil, List.nil_append, List.cons_append, Option.toList, and_true, true_and, true_or, or_true, reduceCtorEq, List.map_nil, bI_eq0, bI_eq1, bool_ft, pk_us, vnar0, vnar1, Bool.or_false, Bool.or_true, Bool.false_or, Bool.true_or, mj_kne, eq_self, Int32.reduceLT, Int32.reduceLE, Int32.reduceAdd, Int32.reduceSub, Int32.reduceMul, not_true_eq_false, not_false_eq_true, false_implies, true_implies, D_X12_term, mj_F_aload_n_k, mj_F_bipush_n, mj_F_dup, mj_F_getfield_i, mj_F_goto_off, mj_F_iadd, mj_F_iconst_n, mj_F_if_icmp_eq_off, mj_F_if_icmp_ne_off, mj_F_iload_n_k, mj_F_invokevirtual_i, mj_F_istore_n_k, mj_F_putfield_i, mj_F_return_, mj_set, mj_set0, mj_unk, mj_c2, mj_kc, FT_X12, FT_X12_1, PT_X12, L_X12_term, List.take_succ_cons, List.take_zero, List.drop_succ_cons, List.drop_zero, List.reverse_cons, List.reverse_nil, List.length_cons, List.length_nil, gS_M0, gMf_37, gMf_36, sS_Mf_36, gMl, J_X12_term]
  exact hG.2 _ _ _ _ _ _ _ _ _ (by refine ⟨Or.inr rfl, ?_⟩; refine ⟨Or.inr rfl, ?_⟩; exact trivial) (Nat.zero_le _) (Nat.zero_le _) (g_X12_term_9 hG  hw :)

theorem J_X12_atom : mj_t 8 23 = 31 ∧ mj_t 15 50 = 65 ∧ mj_t 28 37 = 65 ∧ mj_t 35 26 = 61 ∧ mj_t 58 7 = 65 ∧ (0 ≤ ((8 : Nat) : Int) + 23) = True ∧ (0 ≤ ((15 : Nat) : Int) + 50) = True ∧ (0 ≤ ((28 : Nat) : Int) + 37) = True ∧ (0 ≤ ((35 : Nat) : Int) + 26) = True ∧ (0 ≤ ((58 : Nat) : Int) + 7) = True := by and_intros <;> first | rfl | exact eq_true (by decide)
def ct_X12_atom (q : RTM) : List (Nat × mj_Cs) := [(321, 0, 1, 12, 0, 0, c_X12_look), (328, 0, 2, 12, 0, 0, c_X12_say), (332, 0, 1, 12, 0, 0, c_X12_opens), (336, 0, 1, 12, 0, 0, (cq_X12_sum q.1)), (339, 0, 2, 12, 0, 0, c_X12_closes), (342, 2, 1, 12, 0, 0, c_X12_isLetter), (345, 0, 1, 12, 0, 0, c_X12_number)]
theorem L_X12_atom (q : RTM) : mj_lk (ct_X12_atom q) 321 = some (0, 1, 12, 0, 0, c_X12_look) ∧ mj_lk (ct_X12_atom q) 328 = some (0, 2, 12, 0, 0, c_X12_say) ∧ mj_lk (ct_X12_atom q) 332 = some (0, 1, 12, 0, 0, c_X12_opens) ∧ mj_lk (ct_X12_atom q) 336 = some (0, 1, 12, 0, 0, (cq_X12_sum q.1)) ∧ mj_lk (ct_X12_atom q) 339 = some (0, 2, 12, 0, 0, c_X12_closes) ∧ mj_lk (ct_X12_atom q) 342 = some (2, 1, 12, 0, 0, c_X12_isLetter) ∧ mj_lk (ct_X12_atom q) 345 = some (0, 1, 12, 0, 0, c_X12_number) := ⟨rfl, rfl, rfl, rfl, rfl, rfl, rfl⟩
set_option maxHeartbeats 4000000 in
set_option maxRecDepth 20000 in
theorem g_X12_atom {q : RTM} {k : Option Value → mj_H → Prop} {G : mj_K} (hG : mj_cl2 cX12_atom (TbX12 2 (none) (ct_X12_atom q)) k G) {s : St} (hw : ok (F_X12_atom q s) (fun p => k none (mkMs p))) : G 0 [.ref 0] [] (mkMs s) 0 0 := by
  unfold F_X12_atom at hw
  refine mj_run hG.1 (fun pc => pc == 4 || pc == 15 || pc == 22 || pc == 28 || pc == 35 || pc == 53 || pc == 58 || pc == 65) 4000 ?_
  simp only [mj_step, mj_W_s, mj_fin, List.getElem?_cons_zero, List.getElem?_cons_succ, mj_go, Nat.reduceAdd, Nat.reduceSub, Nat.reduceLT, Nat.reduceLeDiff, Nat.zero_add, Nat.reduceEqDiff, Nat.reduceBEq, ↓reduceIte, Bool.false_eq_true, List.append_nil, List.nil_append, List.cons_append, Option.toList, and_true, true_and, true_or, or_true, reduceCtorEq, List.map_nil, bI_eq0, bI_eq1, bool_ft, pk_us, vnar0, vnar1, Bool.or_false, Bool.or_true, Bool.false_or, Bool.true_or, mj_kne, eq_self, Int32.reduceLT, Int32.reduceLE, Int32.reduceAdd, Int32.reduceSub, Int32.reduceMul, not_true_eq_false, not_false_eq_true, false_implies, true_implies, D_X12_atom, mj_F_aload_n_k, mj_F_bipush_n, mj_F_dup, mj_F_getfield_i, mj_F_goto_off, mj_F_iadd, mj_F_iconst_n, mj_F_ifCond_eq_off, mj_F_if_icmp_ne_off, mj_F_iload_n_k, mj_F_invokestatic_i, mj_F_invokevirtual_i, mj_F_istore_n_k, mj_F_putfield_i, mj_F_return_, mj_set, mj_set0, mj_unk, mj_c2, mj_kc, FT_X12, FT_X12_1, PT_X12, L_X12_atom, List.take_succ_cons, List.take_zero, List.drop_succ_cons, List.drop_zero, List.reverse_cons, List.reverse_nil, List.length_cons, List.length_nil, gS_M0, gMf_36, sS_Mf_36, gMl, J_X12_atom]
  refine c_X12_look_in (ok_imp (ok_bind hw) ?_)
  intro p hw
  simp only [Option.toList, List.nil_append, List.cons_append, Nat.reduceSub]
  refine mj_run hG.1 (fun pc => pc == 4 || pc == 15 || pc == 22 || pc == 28 || pc == 35 || pc == 53 || pc == 58 || pc == 65) 4000 ?_
  simp only [mj_step, mj_W_s, mj_fin, List.getElem?_cons_zero, List.getElem?_cons_succ, mj_go, Nat.reduceAdd, Nat.reduceSub, Nat.reduceLT, Nat.reduceLeDiff, Nat.zero_add, Nat.reduceEqDiff, Nat.reduceBEq, ↓reduceIte, Bool.false_eq_true, List.append_nil, List.nil_append, List.cons_append, Option.toList, and_true, true_and, true_or, or_true, reduceCtorEq, List.map_nil, bI_eq0, bI_eq1, bool_ft, pk_us, vnar0, vnar1, Bool.or_false, Bool.or_true, Bool.false_or, Bool.true_or, mj_kne, eq_self, Int32.reduceLT, Int32.reduceLE, Int32.reduceAdd, Int32.reduceSub, Int32.reduceMul, not_true_eq_false, not_false_eq_true, false_implies, true_implies, D_X12_atom, mj_F_aload_n_k, mj_F_bipush_n, mj_F_dup, mj_F_getfield_i, mj_F_goto_off, mj_F_iadd, mj_F_iconst_n, mj_F_ifCond_eq_off, mj_F_if_icmp_ne_off, mj_F_iload_n_k, mj_F_invokestatic_i, mj_F_invokevirtual_i, mj_F_istore_n_k, mj_F_putfield_i, mj_F_return_, mj_set, mj_set0, mj_unk, mj_c2, mj_kc, FT_X12, FT_X12_1, PT_X12, L_X12_atom, List.take_succ_cons, List.take_zero, List.drop_succ_cons, List.drop_zero, List.reverse_cons, List.reverse_nil, List.length_cons, List.length_nil, gS_M0, gMf_36, sS_Mf_36, gMl, J_X12_atom]
  refine ⟨fun c => ?_, fun c => ?_⟩
  · replace hw := ok_f hw c
    refine c_X12_isLetter_in (ok_imp (ok_bind hw) ?_)
    intro p hw
    simp only [Option.toList, List.nil_append, List.cons_append, Nat.reduceSub]
    refine mj_run hG.1 (fun pc => pc == 4 || pc == 15 || pc == 22 || pc == 28 || pc == 35 || pc == 53 || pc == 58 || pc == 65) 4000 ?_
    simp only [mj_step, mj_W_s, mj_fin, List.getElem?_cons_zero, List.getElem?_cons_succ, mj_go, Nat.reduceAdd, Nat.reduceSub, Nat.reduceLT, Nat.reduceLeDiff, Nat.zero_add, Nat.reduceEqDiff, Nat.reduceBEq, ↓reduceIte, Bool.false_eq_true, List.append_nil, List.nil_append, List.cons_append, Option.toList, and_true, true_and, true_or, or_true, reduceCtorEq, List.map_nil, bI_eq0, bI_eq1, bool_ft, pk_us, vnar0, vnar1, Bool.or_false, Bool.or_true, Bool.false_or, Bool.true_or, mj_kne, eq_self, Int32.reduceLT, Int32.reduceLE, Int32.reduceAdd, Int32.reduceSub, Int32.reduceMul, not_true_eq_false, not_false_eq_true, false_implies, true_implies, D_X12_atom, mj_F_aload_n_k, mj_F_bipush_n, mj_F_dup, mj_F_getfield_i, mj_F_goto_off, mj_F_iadd, mj_F_iconst_n, mj_F_ifCond_eq_off, mj_F_if_icmp_ne_off, mj_F_iload_n_k, mj_F_invokestatic_i, mj_F_invokevirtual_i, mj_F_istore_n_k, mj_F_putfield_i, mj_F_return_, mj_set, mj_set0, mj_unk, mj_c2, mj_kc, FT_X12, FT_X12_1, PT_X12, L_X12_atom, List.take_succ_cons, List.take_zero, List.drop_succ_cons, List.drop_zero, List.reverse_cons, List.reverse_nil, List.length_cons, List.length_nil, gS_M0, gMf_36, sS_Mf_36, gMl, J_X12_atom]
    refine ⟨fun c => ?_, fun c => ?_⟩
    · replace hw := ok_t hw c
      refine c_X12_number_in (ok_imp (ok_bind hw) ?_)
      intro p hw
      simp only [Option.toList, List.nil_append, List.cons_append, Nat.reduceSub]
      refine mj_run hG.1 (fun pc => pc == 4 || pc == 15 || pc == 22 || pc == 28 || pc == 35 || pc == 53 || pc == 58 || pc == 65) 4000 ?_
      simp only [mj_step, mj_W_s, mj_fin, List.getElem?_cons_zero, List.getElem?_cons_succ, mj_go, Nat.reduceAdd, Nat.reduceSub, Nat.reduceLT, Nat.reduceLeDiff, Nat.zero_add, Nat.reduceEqDiff, Nat.reduceBEq, ↓reduceIte, Bool.false_eq_true, List.append_nil, List.nil_append, List.cons_append, Option.toList, and_true, true_and, true_or, or_true, reduceCtorEq, List.map_nil, bI_eq0, bI_eq1, bool_ft, pk_us, vnar0, vnar1, Bool.or_false, Bool.or_true, Bool.false_or, Bool.true_or, mj_kne, eq_self, Int32.reduceLT, Int32.reduceLE, Int32.reduceAdd, Int32.reduceSub, Int32.reduceMul, not_true_eq_false, not_false_eq_true, false_implies, true_implies, D_X12_atom, mj_F_aload_n_k, mj_F_bipush_n, mj_F_dup, mj_F_getfield_i, mj_F_goto_off, mj_F_iadd, mj_F_iconst_n, mj_F_ifCond_eq_off, mj_F_if_icmp_ne_off, mj_F_iload_n_k, mj_F_invokestatic_i, mj_F_invokevirtual_i, mj_F_istore_n_k, mj_F_putfield_i, mj_F_return_, mj_set, mj_set0, mj_unk, mj_c2, mj_kc, FT_X12, FT_X12_1, PT_X12, L_X12_atom, List.take_succ_cons, List.take_zero, List.drop_succ_cons, List.drop_zero, List.reverse_cons, List.reverse_nil, List.length_cons, List.length_nil, gS_M0, gMf_36, sS_Mf_36, gMl, J_X12_atom]
      exact (ok_some hw :)
    · replace hw := ok_f hw c
      replace hw := ok_wI hw
      refine c_X12_say_in (ok_imp (ok_bind hw) ?_)
      intro p hw
      simp only [Option.toList, List.nil_append, List.cons_append, Nat.reduceSub]
      refine mj_run hG.1 (fun pc => pc == 4 || pc == 15 || pc == 22 || pc == 28 || pc == 35 || pc == 53 || pc == 58 || pc == 65) 4000 ?_
      simp only [mj_step, mj_W_s, mj_fin, List.getElem?_cons_zero, List.getElem?_cons_succ, mj_go, Nat.reduceAdd, Nat.reduceSub, Nat.reduceLT, Nat.reduceLeDiff, Nat.zero_add, Nat.reduceEqDiff, Nat.reduceBEq, ↓reduceIte, Bool.false_eq_true, List.append_nil, List.nil_append, List.cons_append, Option.toList, and_true, true_and, true_or, or_true, reduceCtorEq, List.map_nil, bI_eq0, bI_eq1, bool_ft, pk_us, vnar0, vnar1, Bool.or_false, Bool.or_true, Bool.false_or, Bool.true_or, mj_kne, eq_self, Int32.reduceLT, Int32.reduceLE, Int32.reduceAdd, Int32.reduceSub, Int32.reduceMul, not_true_eq_false, not_false_eq_true, false_implies, true_implies, D_X12_atom, mj_F_aload_n_k, mj_F_bipush_n, mj_F_dup, mj_F_getfield_i, mj_F_goto_off, mj_F_iadd, mj_F_iconst_n, mj_F_ifCond_eq_off, mj_F_if_icmp_ne_off, mj_F_iload_n_k, mj_F_invokestatic_i, mj_F_invokevirtual_i, mj_F_istore_n_k, mj_F_putfield_i, mj_F_return_, mj_set, mj_set0, mj_unk, mj_c2, mj_kc, FT_X12, FT_X12_1, PT_X12, L_X12_atom, List.take_succ_cons, List.take_zero, List.drop_succ_cons, List.drop_zero, List.reverse_cons, List.reverse_nil, List.length_cons, List.length_nil, gS_M0, gMf_36, sS_Mf_36, gMl, J_X12_atom]
      refine c_X12_say_in (ok_imp (ok_bind hw) ?_)
      intro p hw
      simp only [Option.toList, List.nil_append, List.cons_append, Nat.reduceSub]
      refine mj_run hG.1 (fun pc => pc == 4 || pc == 15 || pc == 22 || pc == 28 || pc == 35 || pc == 53 || pc == 58 || pc == 65) 4000 ?_
      simp only [mj_step, mj_W_s, mj_fin, List.getElem?_cons_zero, List.getElem?_cons_succ, mj_go, Nat.reduceAdd, Nat.reduceSub, Nat.reduceLT, Nat.reduceLeDiff, Nat.zero_add, Nat.reduceEqDiff, Nat.reduceBEq, ↓reduceIte, Bool.false_eq_true, List.append_nil, List.nil_append, List.cons_append, Option.toList, and_true, true_and, true_or, or_true, reduceCtorEq, List.map_nil, bI_eq0, bI_eq1, bool_ft, pk_us, vnar0, vnar1, Bool.or_false, Bool.or_true, Bool.false_or, Bool.true_or, mj_kne, eq_self, Int32.reduceLT, Int32.reduceLE, Int32.reduceAdd, Int32.reduceSub, Int32.reduceMul, not_true_eq_false, not_false_eq_true, false_implies, true_implies, D_X12_atom, mj_F_aload_n_k, mj_F_bipush_n, mj_F_dup, mj_F_getfield_i, mj_F_goto_off, mj_F_iadd, mj_F_iconst_n, mj_F_ifCond_eq_off, mj_F_if_icmp_ne_off, mj_F_iload_n_k, mj_F_invokestatic_i, mj_F_invokevirtual_i, mj_F_istore_n_k, mj_F_putfield_i, mj_F_return_, mj_set, mj_set0, mj_unk, mj_c2, mj_kc, FT_X12, FT_X12_1, PT_X12, L_X12_atom, List.take_succ_cons, List.take_zero, List.drop_succ_cons, List.drop_zero, List.reverse_cons, List.reverse_nil, List.length_cons, List.length_nil, gS_M0, gMf_36, sS_Mf_36, gMl, J_X12_atom]
      refine mj_run hG.1 (fun pc => pc == 4 || pc == 15 || pc == 22 || pc == 28 || pc == 35 || pc == 53 || pc == 58 || pc == 65) 4000 ?_
      simp only [mj_step, mj_W_s, mj_fin, List.getElem?_cons_zero, List.getElem?_cons_succ, mj_go, Nat.reduceAdd, Nat.reduceSub, Nat.reduceLT, Nat.reduceLeDiff, Nat.zero_add, Nat.reduceEqDiff, Nat.reduceBEq, ↓reduceIte, Bool.false_eq_true, List.append_nil, List.nil_append, List.cons_append, Option.toList, and_true, true_and, true_or, or_true, reduceCtorEq, List.map_nil, bI_eq0, bI_eq1, bool_ft, pk_us, vnar0, vnar1, Bool.or_false, Bool.or_true, Bool.false_or, Bool.true_or, mj_kne, eq_self, Int32.reduceLT, Int32.reduceLE, Int32.reduceAdd, Int32.reduceSub, Int32.reduceMul, not_true_eq_false, not_false_eq_true, false_implies, true_implies, D_X12_atom, mj_F_aload_n_k, mj_F_bipush_n, mj_F_dup, mj_F_getfield_i, mj_F_goto_off, mj_F_iadd, mj_F_iconst_n, mj_F_ifCond_eq_off, mj_F_if_icmp_ne_off, mj_F_iload_n_k, mj_F_invokestatic_i, mj_F_invokevirtual_i, mj_F_istore_n_k, mj_F_putfield_i, mj_F_return_, mj_set, mj_set0, mj_unk, mj_c2, mj_kc, FT_X12, FT_X12_1, PT_X12, L_X12_atom, List.take_succ_cons, List.take_zero, List.drop_succ_cons, List.drop_zero, List.reverse_cons, List.reverse_nil, List.length_cons, List.length_nil, gS_M0, gMf_36, sS_Mf_36, gMl, J_X12_atom]
      exact (ok_some hw :)
  · replace hw := ok_t hw c
    refine c_X12_opens_in (ok_imp (ok_bind hw) ?_)
    intro p hw
    simp only [Option.toList, List.nil_append, List.cons_append, Nat.reduceSub]
    refine mj_run hG.1 (fun pc => pc == 4 || pc == 15 || pc == 22 || pc == 28 || pc == 35 || pc == 53 || pc == 58 || pc == 65) 4000 ?_
    simp only [mj_step, mj_W_s, mj_fin, List.getElem?_cons_zero, List.getElem?_cons_succ, mj_go, Nat.reduceAdd, Nat.reduceSub, Nat.reduceLT, Nat.reduceLeDiff, Nat.zero_add, Nat.reduceEqDiff, Nat.reduceBEq, ↓reduceIte, Bool.false_eq_true, List.append_nil, List.nil_append, List.cons_append, Option.toList, and_true, true_and, true_or, or_true, reduceCtorEq, List.map_nil, bI_eq0, bI_eq1, bool_ft, pk_us, vnar0, vnar1, Bool.or_false, Bool.or_true, Bool.false_or, Bool.true_or, mj_kne, eq_self, Int32.reduceLT, Int32.reduceLE, Int32.reduceAdd, Int32.reduceSub, Int32.reduceMul, not_true_eq_false, not_false_eq_true, false_implies, true_implies, D_X12_atom, mj_F_aload_n_k, mj_F_bipush_n, mj_F_dup, mj_F_getfield_i, mj_F_goto_off, mj_F_iadd, mj_F_iconst_n, mj_F_ifCond_eq_off, mj_F_if_icmp_ne_off, mj_F_iload_n_k, mj_F_invokestatic_i, mj_F_invokevirtual_i, mj_F_istore_n_k, mj_F_putfield_i, mj_F_return_, mj_set, mj_set0, mj_unk, mj_c2, mj_kc, FT_X12, FT_X12_1, PT_X12, L_X12_atom, List.take_succ_cons, List.take_zero, List.drop_succ_cons, List.drop_zero, List.reverse_cons, List.reverse_nil, List.length_cons, List.length_nil, gS_M0, gMf_36, sS_Mf_36, gMl, J_X12_atom]
    refine ⟨fun c => ?_, fun c => ?_⟩
    · replace hw := ok_t hw c
      refine mj_run hG.1 (fun pc => pc == 4 || pc == 15 || pc == 22 || pc == 28 || pc == 35 || pc == 53 || pc == 58 || pc == 65) 4000 ?_
      simp only [mj_step, mj_W_s, mj_fin, List.getElem?_cons_zero, List.getElem?_cons_succ, mj_go, Nat.reduceAdd, Nat.reduceSub, Nat.reduceLT, Nat.reduceLeDiff, Nat.zero_add, Nat.reduceEqDiff, Nat.reduceBEq, ↓reduceIte, Bool.false_eq_true, List.append_nil, List.nil_append, List.cons_append, Option.toList, and_true, true_and, true_or, or_true, reduceCtorEq, List.map_nil, bI_eq0, bI_eq1, bool_ft, pk_us, vnar0, vnar1, Bool.or_false, Bool.or_true, Bool.false_or, Bool.true_or, mj_kne, eq_self, Int32.reduceLT, Int32.reduceLE, Int32.reduceAdd, Int32.reduceSub, Int32.reduceMul, not_true_eq_false, not_false_eq_true, false_implies, true_implies, D_X12_atom, mj_F_aload_n_k, mj_F_bipush_n, mj_F_dup, mj_F_getfield_i, mj_F_goto_off, mj_F_iadd, mj_F_iconst_n, mj_F_ifCond_eq_off, mj_F_if_icmp_ne_off, mj_F_iload_n_k, mj_F_invokestatic_i, mj_F_invokevirtual_i, mj_F_istore_n_k, mj_F_putfield_i, mj_F_return_, mj_set, mj_set0, mj_unk, mj_c2, mj_kc, FT_X12, FT_X12_1, PT_X12, L_X12_atom, List.take_succ_cons, List.take_zero, List.drop_succ_cons, List.drop_zero, List.reverse_cons, List.reverse_nil, List.length_cons, List.length_nil, gS_M0, gMf_36, sS_Mf_36, gMl, J_X12_atom]
      exact (ok_some hw :)
    · replace hw := ok_f hw c
      refine cq_X12_sum_in (ok_imp (ok_bind hw) ?_)
      intro p hw
      simp only [Option.toList, List.nil_append, List.cons_append, Nat.reduceSub]
      refine mj_run hG.1 (fun pc => pc == 4 || pc == 15 || pc == 22 || pc == 28 || pc == 35 || pc == 53 || pc == 58 || pc == 65) 4000 ?_
      simp only [mj_step, mj_W_s, mj_fin, List.getElem?_cons_zero, List.getElem?_cons_succ, mj_go, Nat.reduceAdd, Nat.reduceSub, Nat.reduceLT, Nat.reduceLeDiff, Nat.zero_add, Nat.reduceEqDiff, Nat.reduceBEq, ↓reduceIte, Bool.false_eq_true, List.append_nil, List.nil_append, List.cons_append, Option.toList, and_true, true_and, true_or, or_true, reduceCtorEq, List.map_nil, bI_eq0, bI_eq1, bool_ft, pk_us, vnar0, vnar1, Bool.or_false, Bool.or_true, Bool.false_or, Bool.true_or, mj_kne, eq_self, Int32.reduceLT, Int32.reduceLE, Int32.reduceAdd, Int32.reduceSub, Int32.reduceMul, not_true_eq_false, not_false_eq_true, false_implies, true_implies, D_X12_atom, mj_F_aload_n_k, mj_F_bipush_n, mj_F_dup, mj_F_getfield_i, mj_F_goto_off, mj_F_iadd, mj_F_iconst_n, mj_F_ifCond_eq_off, mj_F_if_icmp_ne_off, mj_F_iload_n_k, mj_F_invokestatic_i, mj_F_invokevirtual_i, mj_F_istore_n_k, mj_F_putfield_i, mj_F_return_, mj_set, mj_set0, mj_unk, mj_c2, mj_kc, FT_X12, FT_X12_1, PT_X12, L_X12_atom, List.take_succ_cons, List.take_zero, List.drop_succ_cons, List.drop_zero, List.reverse_cons, List.reverse_nil, List.length_cons, List.length_nil, gS_M0, gMf_36, sS_Mf_36, gMl, J_X12_atom]
      refine c_X12_closes_in (ok_imp (ok_bind hw) ?_)
      intro p hw
      simp only [Option.toList, List.nil_append, List.cons_append, Nat.reduceSub]
      refine mj_run hG.1 (fun pc => pc == 4 || pc == 15 || pc == 22 || pc == 28 || pc == 35 || pc == 53 || pc == 58 || pc == 65) 4000 ?_
      simp only [mj_step, mj_W_s, mj_fin, List.getElem?_cons_zero, List.getElem?_cons_succ, mj_go, Nat.reduceAdd, Nat.reduceSub, Nat.reduceLT, Nat.reduceLeDiff, Nat.zero_add, Nat.reduceEqDiff, Nat.reduceBEq, ↓reduceIte, Bool.false_eq_true, List.append_nil, List.nil_append, List.cons_append, Option.toList, and_true, true_and, true_or, or_true, reduceCtorEq, List.map_nil, bI_eq0, bI_eq1, bool_ft, pk_us, vnar0, vnar1, Bool.or_false, Bool.or_true, Bool.false_or, Bool.true_or, mj_kne, eq_self, Int32.reduceLT, Int32.reduceLE, Int32.reduceAdd, Int32.reduceSub, Int32.reduceMul, not_true_eq_false, not_false_eq_true, false_implies, true_implies, D_X12_atom, mj_F_aload_n_k, mj_F_bipush_n, mj_F_dup, mj_F_getfield_i, mj_F_goto_off, mj_F_iadd, mj_F_iconst_n, mj_F_ifCond_eq_off, mj_F_if_icmp_ne_off, mj_F_iload_n_k, mj_F_invokestatic_i, mj_F_invokevirtual_i, mj_F_istore_n_k, mj_F_putfield_i, mj_F_return_, mj_set, mj_set0, mj_unk, mj_c2, mj_kc, FT_X12, FT_X12_1, PT_X12, L_X12_atom, List.take_succ_cons, List.take_zero, List.drop_succ_cons, List.drop_zero, List.reverse_cons, List.reverse_nil, List.length_cons, List.length_nil, gS_M0, gMf_36, sS_Mf_36, gMl, J_X12_atom]
      refine mj_run hG.1 (fun pc => pc == 4 || pc == 15 || pc == 22 || pc == 28 || pc == 35 || pc == 53 || pc == 58 || pc == 65) 4000 ?_
      simp only [mj_step, mj_W_s, mj_fin, List.getElem?_cons_zero, List.getElem?_cons_succ, mj_go, Nat.reduceAdd, Nat.reduceSub, Nat.reduceLT, Nat.reduceLeDiff, Nat.zero_add, Nat.reduceEqDiff, Nat.reduceBEq, ↓reduceIte, Bool.false_eq_true, List.append_nil, List.nil_append, List.cons_append, Option.toList, and_true, true_and, true_or, or_true, reduceCtorEq, List.map_nil, bI_eq0, bI_eq1, bool_ft, pk_us, vnar0, vnar1, Bool.or_false, Bool.or_true, Bool.false_or, Bool.true_or, mj_kne, eq_self, Int32.reduceLT, Int32.reduceLE, Int32.reduceAdd, Int32.reduceSub, Int32.reduceMul, not_true_eq_false, not_false_eq_true, false_implies, true_implies, D_X12_atom, mj_F_aload_n_k, mj_F_bipush_n, mj_F_dup, mj_F_getfield_i, mj_F_goto_off, mj_F_iadd, mj_F_iconst_n, mj_F_ifCond_eq_off, mj_F_if_icmp_ne_off, mj_F_iload_n_k, mj_F_invokestatic_i, mj_F_invokevirtual_i, mj_F_istore_n_k, mj_F_putfield_i, mj_F_return_, mj_set, mj_set0, mj_unk, mj_c2, mj_kc, FT_X12, FT_X12_1, PT_X12, L_X12_atom, List.take_succ_cons, List.take_zero, List.drop_succ_cons, List.drop_zero, List.reverse_cons, List.reverse_nil, List.length_cons, List.length_nil, gS_M0, gMf_36, sS_Mf_36, gMl, J_X12_atom]
      exact (ok_some hw :)

theorem J_X12_condition : mj_t 10 36 = 46 ∧ mj_t 19 27 = 46 ∧ mj_t 43 (-38) = 5 ∧ (0 ≤ ((10 : Nat) : Int) + 36) = True ∧ (0 ≤ ((19 : Nat) : Int) + 27) = True ∧ (0 ≤ ((43 : Nat) : Int) + (-38)) = True := by and_intros <;> first | rfl | exact eq_true (by decide)
def ct_X12_condition (q : RTM) : List (Nat × mj_Cs) := [(321, 0, 1, 12, 0, 0, c_X12_look), (328, 0, 2, 12, 0, 0, c_X12_say), (367, 0, 2, 12, 0, 0, (cq_X12_part q.2.2.2.2.1))]
theorem L_X12_condition (q : RTM) : mj_lk (ct_X12_condition q) 321 = some (0, 1, 12, 0, 0, c_X12_look) ∧ mj_lk (ct_X12_condition q) 328 = some (0, 2, 12, 0, 0, c_X12_say) ∧ mj_lk (ct_X12_condition q) 367 = some (0, 2, 12, 0, 0, (cq_X12_part q.2.2.2.2.1)) := ⟨rfl, rfl, rfl⟩
set_option maxHeartbeats 4000000 in
set_option maxRecDepth 20000 in
theorem b_X12_condition_5 {q : RTM} {k : Option Value → mj_H → Prop} {G : mj_K} (hG : mj_cl2 cX12_condition (TbX12 2 (none) (ct_X12_condition q)) k G)  {P : St → Prop} {K : (St) → Prop} (hP : ∀ x, P x → G 5 [.ref 0] [] (mkMs x) 0 0) (hK0 : ∀ y, K y → G 46 [] [] (mkMs y) 0 0) {s : St} (hw : ok (B_X12_condition_5 q  s) (Sum.elim P K)) : G 5 [.ref 0] [] (mkMs s) 0 0 := by
  unfold B_X12_condition_5 at hw
  refine mj_run hG.1 (fun pc => pc == 5 || pc == 17 || pc == 37 || pc == 43 || pc == 46) 4000 ?_
  simp only [mj_step, mj_W_s, mj_fin, List.getElem?_cons_zero, List.getElem?_cons_succ, mj_go, Nat.reduceAdd, Nat.reduceSub, Nat.reduceLT, Nat.reduceLeDiff, Nat.zero_add, Nat.reduceEqDiff, Nat.reduceBEq, ↓reduceIte, Bool.false_eq_true, List.append_nil, List.nil_append, List.cons_append, Option.toList, and_true, true_and, true_or, or_true, reduceCtorEq, List.map_nil, bI_eq0, bI_eq1, bool_ft, pk_us, vnar0, vnar1, Bool.or_false, Bool.or_true, Bool.false_or, Bool.true_or, mj_kne, eq_self, Int32.reduceLT, Int32.reduceLE, Int32.reduceAdd, Int32.reduceSub, Int32.reduceMul, not_true_eq_false, not_false_eq_true, false_implies, true_implies, D_X12_condition, mj_F_aload_n_k, mj_F_bipush_n, mj_F_dup, mj_F_getfield_i, mj_F_goto_off, mj_F_iadd, mj_F_iconst_n, mj_F_if_icmp_ne_off, mj_F_iload_n_k, mj_F_invokevirtual_i, mj_F_putfield_i, mj_F_return_, mj_c2, mj_kc, FT_X12, FT_X12_1, PT_X12, L_X12_condition, List.take_succ_cons, List.take_zero, List.drop_succ_cons, List.drop_zero, List.reverse_cons, List.reverse_nil, List.length_cons, List.length_nil, gS_M0, gMf_37, gMf_36, sS_Mf_36, gMl, J_X12_condition]
  refine ⟨fun c => ?_, fun c => ?_⟩
  · replace hw := ok_f hw c
    exact hG.2 _ _ _ _ _ _ _ _ _ (by exact trivial) (Nat.zero_le _) (Nat.zero_le _) (hK0 _ (ok_some hw :) :)
  · replace hw := ok_t hw c
    refine c_X12_look_in (ok_imp (ok_bind hw) ?_)
    intro p hw
    simp only [Option.toList, List.nil_append, List.cons_append, Nat.reduceSub]
    refine mj_run hG.1 (fun pc => pc == 5 || pc == 17 || pc == 37 || pc == 43 || pc == 46) 4000 ?_
    simp only [mj_step, mj_W_s, mj_fin, List.getElem?_cons_zero, List.getElem?_cons_succ, mj_go, Nat.reduceAdd, Nat.reduceSub, Nat.reduceLT, Nat.reduceLeDiff, Nat.zero_add, Nat.reduceEqDiff, Nat.reduceBEq, ↓reduceIte, Bool.false_eq_true, List.append_nil, List.nil_append, List.cons_append, Option.toList, and_true, true_and, true_or, or_true, reduceCtorEq, List.map_nil, bI_eq0, bI_eq1, bool_ft, pk_us, vnar0, vnar1, Bool.or_false, Bool.or_true, Bool.false_or, Bool.true_or, mj_kne, eq_self, Int32.reduceLT, Int32.reduceLE, Int32.reduceAdd, Int32.reduceSub, Int32.reduceMul, not_true_eq_false, not_false_eq_true, false_implies, true_implies, D_X12_condition, mj_F_aload_n_k, mj_F_bipush_n, mj_F_dup, mj_F_getfield_i, mj_F_goto_off, mj_F_iadd, mj_F_iconst_n, mj_F_if_icmp_ne_off, mj_F_iload_n_k, mj_F_invokevirtual_i, mj_F_putfield_i, mj_F_return_, mj_c2, mj_kc, FT_X12, FT_X12_1, PT_X12, L_X12_condition, List.take_succ_cons, List.take_zero, List.drop_succ_cons, List.drop_zero, List.reverse_cons, List.reverse_nil, List.length_cons, List.length_nil, gS_M0, gMf_37, gMf_36, sS_Mf_36, gMl, J_X12_condition]
    refine ⟨fun c => ?_, fun c => ?_⟩
    · replace hw := ok_f hw c
      exact hG.2 _ _ _ _ _ _ _ _ _ (by exact trivial) (Nat.zero_le _) (Nat.zero_le _) (hK0 _ (ok_some hw :) :)
    · replace hw := ok_t hw c
      replace hw := ok_wI hw
      refine cq_X12_part_in (ok_imp (ok_bind hw) ?_)
      intro p hw
      simp only [Option.toList, List.nil_append, List.cons_append, Nat.reduceSub]
      refine mj_run hG.1 (fun pc => pc == 5 || pc == 17 || pc == 37 || pc == 43 || pc == 46) 4000 ?_
      simp only [mj_step, mj_W_s, mj_fin, List.getElem?_cons_zero, List.getElem?_cons_succ, mj_go, Nat.reduceAdd, Nat.reduceSub, Nat.reduceLT, Nat.reduceLeDiff, Nat.zero_add, Nat.reduceEqDiff, Nat.reduceBEq, ↓reduceIte, Bool.false_eq_true, List.append_nil, List.nil_append, List.cons_append, Option.toList, and_true, true_and, true_or, or_true, reduceCtorEq, List.map_nil, bI_eq0, bI_eq1, bool_ft, pk_us, vnar0, vnar1, Bool.or_false, Bool.or_true, Bool.false_or, Bool.true_or, mj_kne, eq_self, Int32.reduceLT, Int32.reduceLE, Int32.reduceAdd, Int32.reduceSub, Int32.reduceMul, not_true_eq_false, not_false_eq_true, false_implies, true_implies, D_X12_condition, mj_F_aload_n_k, mj_F_bipush_n, mj_F_dup, mj_F_getfield_i, mj_F_goto_off, mj_F_iadd, mj_F_iconst_n, mj_F_if_icmp_ne_off, mj_F_iload_n_k, mj_F_invokevirtual_i, mj_F_putfield_i, mj_F_return_, mj_c2, mj_kc, FT_X12, FT_X12_1, PT_X12, L_X12_condition, List.take_succ_cons, List.take_zero, List.drop_succ_cons, List.drop_zero, List.reverse_cons, List.reverse_nil, List.length_cons, List.length_nil, gS_M0, gMf_37, gMf_36, sS_Mf_36, gMl, J_X12_condition]
      refine c_X12_say_in (ok_imp (ok_bind hw) ?_)
      intro p hw
      simp only [Option.toList, List.nil_append, List.cons_append, Nat.reduceSub]
      refine mj_run hG.1 (fun pc => pc == 5 || pc == 17 || pc == 37 || pc == 43 || pc == 46) 4000 ?_
      simp only [mj_step, mj_W_s, mj_fin, List.getElem?_cons_zero, List.getElem?_cons_succ, mj_go, Nat.reduceAdd, Nat.reduceSub, Nat.reduceLT, Nat.reduceLeDiff, Nat.zero_add, Nat.reduceEqDiff, Nat.reduceBEq, ↓reduceIte, Bool.false_eq_true, List.append_nil, List.nil_append, List.cons_append, Option.toList, and_true, true_and, true_or, or_true, reduceCtorEq, List.map_nil, bI_eq0, bI_eq1, bool_ft, pk_us, vnar0, vnar1, Bool.or_false, Bool.or_true, Bool.false_or, Bool.true_or, mj_kne, eq_self, Int32.reduceLT, Int32.reduceLE, Int32.reduceAdd, Int32.reduceSub, Int32.reduceMul, not_true_eq_false, not_false_eq_true, false_implies, true_implies, D_X12_condition, mj_F_aload_n_k, mj_F_bipush_n, mj_F_dup, mj_F_getfield_i, mj_F_goto_off, mj_F_iadd, mj_F_iconst_n, mj_F_if_icmp_ne_off, mj_F_iload_n_k, mj_F_invokevirtual_i, mj_F_putfield_i, mj_F_return_, mj_c2, mj_kc, FT_X12, FT_X12_1, PT_X12, L_X12_condition, List.take_succ_cons, List.take_zero, List.drop_succ_cons, List.drop_zero, List.reverse_cons, List.reverse_nil, List.length_cons, List.length_nil, gS_M0, gMf_37, gMf_36, sS_Mf_36, gMl, J_X12_condition]
      exact hG.2 _ _ _ _ _ _ _ _ _ (by refine ⟨Or.inr rfl, ?_⟩; exact trivial) (Nat.zero_le _) (Nat.zero_le _) (hP _ (ok_some hw :) :)

set_option maxHeartbeats 4000000 in
set_option maxRecDepth 20000 in
theorem g_X12_condition_46 {q : RTM} {k : Option Value → mj_H → Prop} {G : mj_K} (hG : mj_cl2 cX12_condition (TbX12 2 (none) (ct_X12_condition q)) k G)   {s : St} (hw : ok (F_X12_condition_46 q s) (fun p => k none (mkMs p))) : G 46 [] [] (mkMs s) 0 0 := by
  unfold F_X12_condition_46 at hw
  refine mj_run hG.1 (fun pc => pc == 5 || pc == 17 || pc == 37 || pc == 43 || pc == 46) 4000 ?_
  simp only [mj_step, mj_W_s, mj_fin, List.getElem?_cons_zero, List.getElem?_cons_succ, mj_go, Nat.reduceAdd, Nat.reduceSub, Nat.reduceLT, Nat.reduceLeDiff, Nat.zero_add, Nat.reduceEqDiff, Nat.reduceBEq, ↓reduceIte, Bool.false_eq_true, List.append_nil, List.nil_append, List.cons_append, Option.toList, and_true, true_and, true_or, or_true, reduceCtorEq, List.map_nil, bI_eq0, bI_eq1, bool_ft, pk_us, vnar0, vnar1, Bool.or_false, Bool.or_true, Bool.false_or, Bool.true_or, mj_kne, eq_self, Int32.reduceLT, Int32.reduceLE, Int32.reduceAdd, Int32.reduceSub, Int32.reduceMul, not_true_eq_false, not_false_eq_true, false_implies, true_implies, D_X12_condition, mj_F_aload_n_k, mj_F_bipush_n, mj_F_dup, mj_F_getfield_i, mj_F_goto_off, mj_F_iadd, mj_F_iconst_n, mj_F_if_icmp_ne_off, mj_F_iload_n_k, mj_F_invokevirtual_i, mj_F_putfield_i, mj_F_return_, mj_c2, mj_kc, FT_X12, FT_X12_1, PT_X12, L_X12_condition, List.take_succ_cons, List.take_zero, List.drop_succ_cons, List.drop_zero, List.reverse_cons, List.reverse_nil, List.length_cons, List.length_nil, gS_M0, gMf_37, gMf_36, sS_Mf_36, gMl, J_X12_condition]
  exact (ok_some hw :)

set_option maxHeartbeats 4000000 in
theorem g_X12_condition_5 {q : RTM} {k : Option Value → mj_H → Prop} {G : mj_K} (hG : mj_cl2 cX12_condition (TbX12 2 (none) (ct_X12_condition q)) k G)   {s : St} (hw : ok (F_X12_condition_5 q s) (fun p => k none (mkMs p))) : G 5 [.ref 0] [] (mkMs s) 0 0 := by
  unfold F_X12_condition_5 at hw
  refine lp_ok (B_X12_condition_5 q ) (fun x => G 5 [.ref 0] [] (mkMs x) 0 0) _ ?_ _ _ (ok_bind hw)
  rintro s hb
  exact b_X12_condition_5 hG (fun _ z => z) (fun y hw => by exact hG.2 _ _ _ _ _ _ _ _ _ (by exact trivial) (Nat.zero_le _) (Nat.zero_le _) (g_X12_condition_46 hG  hw :)) hb

set_option maxHeartbeats 4000000 in
set_option maxRecDepth 20000 in
theorem g_X12_condition {q : RTM} {k : Option Value → mj_H → Prop} {G : mj_K} (hG : mj_cl2 cX12_condition (TbX12 2 (none) (ct_X12_condition q)) k G) {v1 : Int32} {s : St} (hw : ok (F_X12_condition q v1 s) (fun p => k none (mkMs p))) : G 0 [.ref 0, .int v1] [] (mkMs s) 0 0 := by
  unfold F_X12_condition at hw
  refine mj_run hG.1 (fun pc => pc == 5 || pc == 17 || pc == 37 || pc == 43 || pc == 46) 4000 ?_
  simp only [mj_step, mj_W_s, mj_fin, List.getElem?_cons_zero, List.getElem?_cons_succ, mj_go, Nat.reduceAdd, Nat.reduceSub, Nat.reduceLT, Nat.reduceLeDiff, Nat.zero_add, Nat.reduceEqDiff, Nat.reduceBEq, ↓reduceIte, Bool.false_eq_true, List.append_nil, List.nil_append, List.cons_append, Option.toList, and_true, true_and, true_or, or_true, reduceCtorEq, List.map_nil, bI_eq0, bI_eq1, bool_ft, pk_us, vnar0, vnar1, Bool.or_false, Bool.or_true, Bool.false_or, Bool.true_or, mj_kne, eq_self, Int32.reduceLT, Int32.reduceLE, Int32.reduceAdd, Int32.reduceSub, Int32.reduceMul, not_true_eq_false, not_false_eq_true, false_implies, true_implies, D_X12_condition, mj_F_aload_n_k, mj_F_bipush_n, mj_F_dup, mj_F_getfield_i, mj_F_goto_off, mj_F_iadd, mj_F_iconst_n, mj_F_if_icmp_ne_off, mj_F_iload_n_k, mj_F_invokevirtual_i, mj_F_putfield_i, mj_F_return_, mj_c2, mj_kc, FT_X12, FT_X12_1, PT_X12, L_X12_condition, List.take_succ_cons, List.take_zero, List.drop_succ_cons, List.drop_zero, List.reverse_cons, List.reverse_nil, List.length_cons, List.length_nil, gS_M0, gMf_37, gMf_36, sS_Mf_36, gMl, J_X12_condition]
  refine cq_X12_part_in (ok_imp (ok_bind hw) ?_)
  intro p hw
  simp only [Option.toList, List.nil_append, List.cons_append, Nat.reduceSub]
  exact hG.2 _ _ _ _ _ _ _ _ _ (by refine ⟨Or.inr rfl, ?_⟩; exact trivial) (Nat.zero_le _) (Nat.zero_le _) (g_X12_condition_5 hG  hw :)

theorem J_X12_part : mj_t 1 10 = 11 ∧ mj_t 8 7 = 15 ∧ mj_t 20 35 = 55 ∧ mj_t 29 26 = 55 ∧ mj_t 52 (-37) = 15 ∧ (0 ≤ ((1 : Nat) : Int) + 10) = True ∧ (0 ≤ ((8 : Nat) : Int) + 7) = True ∧ (0 ≤ ((20 : Nat) : Int) + 35) = True ∧ (0 ≤ ((29 : Nat) : Int) + 26) = True ∧ (0 ≤ ((52 : Nat) : Int) + (-37)) = True := by and_intros <;> first | rfl | exact eq_true (by decide)
def ct_X12_part (q : RTM) : List (Nat × mj_Cs) := [(321, 0, 1, 12, 0, 0, c_X12_look), (328, 0, 2, 12, 0, 0, c_X12_say), (357, 0, 1, 12, 0, 0, (cq_X12_unit q.2.2.2.2.2.1)), (364, 0, 1, 12, 0, 0, (cq_X12_compare q.2.2.2.2.2.2))]
theorem L_X12_part (q : RTM) : mj_lk (ct_X12_part q) 321 = some (0, 1, 12, 0, 0, c_X12_look) ∧ mj_lk (ct_X12_part q) 328 = some (0, 2, 12, 0, 0, c_X12_say) ∧ mj_lk (ct_X12_part q) 357 = some (0, 1, 12, 0, 0, (cq_X12_unit q.2.2.2.2.2.1)) ∧ mj_lk (ct_X12_part q) 364 = some (0, 1, 12, 0, 0, (cq_X12_compare q.2.2.2.2.2.2)) := ⟨rfl, rfl, rfl, rfl⟩
set_option maxHeartbeats 4000000 in
set_option maxRecDepth 20000 in
theorem b_X12_part_15 {q : RTM} {k : Option Value → mj_H → Prop} {G : mj_K} (hG : mj_cl2 cX12_part (TbX12 2 (none) (ct_X12_part q)) k G)  {P : St → Prop} {K : (St) → Prop} (hP : ∀ x, P x → G 15 [.ref 0] [] (mkMs x) 0 0) (hK0 : ∀ y, K y → G 55 [] [] (mkMs y) 0 0) {s : St} (hw : ok (B_X12_part_15 q  s) (Sum.elim P K)) : G 15 [.ref 0] [] (mkMs s) 0 0 := by
  unfold B_X12_part_15 at hw
  refine mj_run hG.1 (fun pc => pc == 8 || pc == 15 || pc == 27 || pc == 46 || pc == 52 || pc == 55) 4000 ?_
  simp only [mj_step, mj_W_s, mj_fin, List.getElem?_cons_zero, List.getElem?_cons_succ, mj_go, Nat.reduceAdd, Nat.reduceSub, Nat.reduceLT, Nat.reduceLeDiff, Nat.zero_add, Nat.reduceEqDiff, Nat.reduceBEq, ↓reduceIte, Bool.false_eq_true, List.append_nil, List.nil_append, List.cons_append, Option.toList, and_true, true_and, true_or, or_true, reduceCtorEq, List.map_nil, bI_eq0, bI_eq1, bool_ft, pk_us, vnar0, vnar1, Bool.or_false, Bool.or_true, Bool.false_or, Bool.true_or, mj_kne, eq_self, Int32.reduceLT, Int32.reduceLE, Int32.reduceAdd, Int32.reduceSub, Int32.reduceMul, not_true_eq_false, not_false_eq_true, false_implies, true_implies, D_X12_part, mj_F_aload_n_k, mj_F_bipush_n, mj_F_dup, mj_F_getfield_i, mj_F_goto_off, mj_F_iadd, mj_F_iconst_n, mj_F_ifCond_eq_off, mj_F_if_icmp_ne_off, mj_F_iload_n_k, mj_F_invokevirtual_i, mj_F_putfield_i, mj_F_return_, mj_c2, mj_kc, FT_X12, FT_X12_1, PT_X12, L_X12_part, List.take_succ_cons, List.take_zero, List.drop_succ_cons, List.drop_zero, List.reverse_cons, List.reverse_nil, List.length_cons, List.length_nil, gS_M0, gMf_37, gMf_36, sS_Mf_36, gMl, J_X12_part]
  refine ⟨fun c => ?_, fun c => ?_⟩
  · replace hw := ok_f hw c
    exact hG.2 _ _ _ _ _ _ _ _ _ (by exact trivial) (Nat.zero_le _) (Nat.zero_le _) (hK0 _ (ok_some hw :) :)
  · replace hw := ok_t hw c
    refine c_X12_look_in (ok_imp (ok_bind hw) ?_)
    intro p hw
    simp only [Option.toList, List.nil_append, List.cons_append, Nat.reduceSub]
    refine mj_run hG.1 (fun pc => pc == 8 || pc == 15 || pc == 27 || pc == 46 || pc == 52 || pc == 55) 4000 ?_
    simp only [mj_step, mj_W_s, mj_fin, List.getElem?_cons_zero, List.getElem?_cons_succ, mj_go, Nat.reduceAdd, Nat.reduceSub, Nat.reduceLT, Nat.reduceLeDiff, Nat.zero_add, Nat.reduceEqDiff, Nat.reduceBEq, ↓reduceIte, Bool.false_eq_true, List.append_nil, List.nil_append, List.cons_append, Option.toList, and_true, true_and, true_or, or_true, reduceCtorEq, List.map_nil, bI_eq0, bI_eq1, bool_ft, pk_us, vnar0, vnar1, Bool.or_false, Bool.or_true, Bool.false_or, Bool.true_or, mj_kne, eq_self, Int32.reduceLT, Int32.reduceLE, Int32.reduceAdd, Int32.reduceSub, Int32.reduceMul, not_true_eq_false, not_false_eq_true, false_implies, true_implies, D_X12_part, mj_F_aload_n_k, mj_F_bipush_n, mj_F_dup, mj_F_getfield_i, mj_F_goto_off, mj_F_iadd, mj_F_iconst_n, mj_F_ifCond_eq_off, mj_F_if_icmp_ne_off, mj_F_iload_n_k, mj_F_invokevirtual_i, mj_F_putfield_i, mj_F_return_, mj_c2, mj_kc, FT_X12, FT_X12_1, PT_X12, L_X12_part, List.take_succ_cons, List.take_zero, List.drop_succ_cons, List.drop_zero, List.reverse_cons, List.reverse_nil, List.length_cons, List.length_nil, gS_M0, gMf_37, gMf_36, sS_Mf_36, gMl, J_X12_part]
    refine ⟨fun c => ?_, fun c => ?_⟩
    · replace hw := ok_f hw c
      exact hG.2 _ _ _ _ _ _ _ _ _ (by exact trivial) (Nat.zero_le _) (Nat.zero_le _) (hK0 _ (ok_some hw :) :)
    · replace hw := ok_t hw c
      replace hw := ok_wI hw
      refine cq_X12_unit_in (ok_imp (ok_bind hw) ?_)
      intro p hw
      simp only [Option.toList, List.nil_append, List.cons_append, Nat.reduceSub]
      refine mj_run hG.1 (fun pc => pc == 8 || pc == 15 || pc == 27 || pc == 46 || pc == 52 || pc == 55) 4000 ?_
      simp only [mj_step, mj_W_s, mj_fin, List.getElem?_cons_zero, List.getElem?_cons_succ, mj_go, Nat.reduceAdd, Nat.reduceSub, Nat.reduceLT, Nat.reduceLeDiff, Nat.zero_add, Nat.reduceEqDiff, Nat.reduceBEq, ↓reduceIte, Bool.false_eq_true, List.append_nil, List.nil_append, List.cons_append, Option.toList, and_true, true_and, true_or, or_true, reduceCtorEq, List.map_nil, bI_eq0, bI_eq1, bool_ft, pk_us, vnar0, vnar1, Bool.or_false, Bool.or_true, Bool.false_or, Bool.true_or, mj_kne, eq_self, Int32.reduceLT, Int32.reduceLE, Int32.reduceAdd, Int32.reduceSub, Int32.reduceMul, not_true_eq_false, not_false_eq_true, false_implies, true_implies, D_X12_part, mj_F_aload_n_k, mj_F_bipush_n, mj_F_dup, mj_F_getfield_i, mj_F_goto_off, mj_F_iadd, mj_F_iconst_n, mj_F_ifCond_eq_off, mj_F_if_icmp_ne_off, mj_F_iload_n_k, mj_F_invokevirtual_i, mj_F_putfield_i, mj_F_return_, mj_c2, mj_kc, FT_X12, FT_X12_1, PT_X12, L_X12_part, List.take_succ_cons, List.take_zero, List.drop_succ_cons, List.drop_zero, List.reverse_cons, List.reverse_nil, List.length_cons, List.length_nil, gS_M0, gMf_37, gMf_36, sS_Mf_36, gMl, J_X12_part]
      refine c_X12_say_in (ok_imp (ok_bind hw) ?_)
      intro p hw
      simp only [Option.toList, List.nil_append, List.cons_append, Nat.reduceSub]
      refine mj_run hG.1 (fun pc => pc == 8 || pc == 15 || pc == 27 || pc == 46 || pc == 52 || pc == 55) 4000 ?_
      simp only [mj_step, mj_W_s, mj_fin, List.getElem?_cons_zero, List.getElem?_cons_succ, mj_go, Nat.reduceAdd, Nat.reduceSub, Nat.reduceLT, Nat.reduceLeDiff, Nat.zero_add, Nat.reduceEqDiff, Nat.reduceBEq, ↓reduceIte, Bool.false_eq_true, List.append_nil, List.nil_append, List.cons_append, Option.toList, and_true, true_and, true_or, or_true, reduceCtorEq, List.map_nil, bI_eq0, bI_eq1, bool_ft, pk_us, vnar0, vnar1, Bool.or_false, Bool.or_true, Bool.false_or, Bool.true_or, mj_kne, eq_self, Int32.reduceLT, Int32.reduceLE, Int32.reduceAdd, Int32.reduceSub, Int32.reduceMul, not_true_eq_false, not_false_eq_true, false_implies, true_implies, D_X12_part, mj_F_aload_n_k, mj_F_bipush_n, mj_F_dup, mj_F_getfield_i, mj_F_goto_off, mj_F_iadd, mj_F_iconst_n, mj_F_ifCond_eq_off, mj_F_if_icmp_ne_off, mj_F_iload_n_k, mj_F_invokevirtual_i, mj_F_putfield_i, mj_F_return_, mj_c2, mj_kc, FT_X12, FT_X12_1, PT_X12, L_X12_part, List.take_succ_cons, List.take_zero, List.drop_succ_cons, List.drop_zero, List.reverse_cons, List.reverse_nil, List.length_cons, List.length_nil, gS_M0, gMf_37, gMf_36, sS_Mf_36, gMl, J_X12_part]
      exact hG.2 _ _ _ _ _ _ _ _ _ (by refine ⟨Or.inr rfl, ?_⟩; exact trivial) (Nat.zero_le _) (Nat.zero_le _) (hP _ (ok_some hw :) :)

set_option maxHeartbeats 4000000 in
set_option maxRecDepth 20000 in
theorem g_X12_part_55 {q : RTM} {k : Option Value → mj_H → Prop} {G : mj_K} (hG : mj_cl2 cX12_part (TbX12 2 (none) (ct_X12_part q)) k G)   {s : St} (hw : ok (F_X12_part_55 q s) (fun p => k none (mkMs p))) : G 55 [] [] (mkMs s) 0 0 := by
  unfold F_X12_part_55 at hw
  refine mj_run hG.1 (fun pc => pc == 8 || pc == 15 || pc == 27 || pc == 46 || pc == 52 || pc == 55) 4000 ?_
  simp only [mj_step, mj_W_s, mj_fin, List.getElem?_cons_zero, List.getElem?_cons_succ, mj_go, Nat.reduceAdd, Nat.reduceSub, Nat.reduceLT, Nat.reduceLeDiff, Nat.zero_add, Nat.reduceEqDiff, Nat.reduceBEq, ↓reduceIte, Bool.false_eq_true, List.append_nil, List.nil_append, List.cons_append, Option.toList, and_true, true_and, true_or, or_true, reduceCtorEq, List.map_nil, bI_eq0, bI_eq1, bool_ft, pk_us, vnar0, vnar1, Bool.or_false, Bool.or_true, Bool.false_or, Bool.true_or, mj_kne, eq_self, Int32.reduceLT, Int32.reduceLE, Int32.reduceAdd, Int32.reduceSub, Int32.reduceMul, not_true_eq_false, not_false_eq_true, false_implies, true_implies, D_X12_part, mj_F_aload_n_k, mj_F_bipush_n, mj_F_dup, mj_F_getfield_i, mj_F_goto_off, mj_F_iadd, mj_F_iconst_n, mj_F_ifCond_eq_off, mj_F_if_icmp_ne_off, mj_F_iload_n_k, mj_F_invokevirtual_i, mj_F_putfield_i, mj_F_return_, mj_c2, mj_kc, FT_X12, FT_X12_1, PT_X12, L_X12_part, List.take_succ_cons, List.take_zero, List.drop_succ_cons, List.drop_zero, List.reverse_cons, List.reverse_nil, List.length_cons, List.length_nil, gS_M0, gMf_37, gMf_36, sS_Mf_36, gMl, J_X12_part]
  exact (ok_some hw :)

set_option maxHeartbeats 4000000 in
theorem g_X12_part_15 {q : RTM} {k : Option Value → mj_H → Prop} {G : mj_K} (hG : mj_cl2 cX12_part (TbX12 2 (none) (ct_X12_part q)) k G)   {s : St} (hw : ok (F_X12_part_15 q s) (fun p => k none (mkMs p))) : G 15 [.ref 0] [] (mkMs s) 0 0 := by
  unfold F_X12_part_15 at hw
  refine lp_ok (B_X12_part_15 q ) (fun x => G 15 [.ref 0] [] (mkMs x) 0 0) _ ?_ _ _ (ok_bind hw)
  rintro s hb
  exact b_X12_part_15 hG (fun _ z => z) (fun y hw => by exact hG.2 _ _ _ _ _ _ _ _ _ (by exact trivial) (Nat.zero_le _) (Nat.zero_le _) (g_X12_part_55 hG  hw :)) hb

set_option maxHeartbeats 4000000 in
set_option maxRecDepth 20000 in
theorem g_X12_part {q : RTM} {k : Option Value → mj_H → Prop} {G : mj_K} (hG : mj_cl2 cX12_part (TbX12 2 (none) (ct_X12_part q)) k G) {v1 : Int32} {s : St} (hw : ok (F_X12_part q v1 s) (fun p => k none (mkMs p))) : G 0 [.ref 0, .int v1] [] (mkMs s) 0 0 := by
  unfold F_X12_part at hw
  refine mj_run hG.1 (fun pc => pc == 8 || pc == 15 || pc == 27 || pc == 46 || pc == 52 || pc == 55) 4000 ?_
  simp only [mj_step, mj_W_s, mj_fin, List.getElem?_cons_zero, List.getElem?_cons_succ, mj_go, Nat.reduceAdd, Nat.reduceSub, Nat.reduceLT, Nat.reduceLeDiff, Nat.zero_add, Nat.reduceEqDiff, Nat.reduceBEq, ↓reduceIte, Bool.false_eq_true, List.append_nil, List.nil_append, List.cons_append, Option.toList, and_true, true_and, true_or, or_true, reduceCtorEq, List.map_nil, bI_eq0, bI_eq1, bool_ft, pk_us, vnar0, vnar1, Bool.or_false, Bool.or_true, Bool.false_or, Bool.true_or, mj_kne, eq_self, Int32.reduceLT, Int32.reduceLE, Int32.reduceAdd, Int32.reduceSub, Int32.reduceMul, not_true_eq_false, not_false_eq_true, false_implies, true_implies, D_X12_part, mj_F_aload_n_k, mj_F_bipush_n, mj_F_dup, mj_F_getfield_i, mj_F_goto_off, mj_F_iadd, mj_F_iconst_n, mj_F_ifCond_eq_off, mj_F_if_icmp_ne_off, mj_F_iload_n_k, mj_F_invokevirtual_i, mj_F_putfield_i, mj_F_return_, mj_c2, mj_kc, FT_X12, FT_X12_1, PT_X12, L_X12_part, List.take_succ_cons, List.take_zero, List.drop_succ_cons, List.drop_zero, List.reverse_cons, List.reverse_nil, List.length_cons, List.length_nil, gS_M0, gMf_37, gMf_36, sS_Mf_36, gMl, J_X12_part]
  refine ⟨fun c => ?_, fun c => ?_⟩
  · replace hw := ok_t hw c
    refine cq_X12_unit_in (ok_imp (ok_bind hw) ?_)
    intro p hw
    simp only [Option.toList, List.nil_append, List.cons_append, Nat.reduceSub]
    exact hG.2 _ _ _ _ _ _ _ _ _ (by refine ⟨Or.inr rfl, ?_⟩; exact trivial) (Nat.zero_le _) (Nat.zero_le _) (g_X12_part_15 hG  hw :)
  · replace hw := ok_f hw c
    refine cq_X12_compare_in (ok_imp (ok_bind hw) ?_)
    intro p hw
    simp only [Option.toList, List.nil_append, List.cons_append, Nat.reduceSub]
    refine mj_run hG.1 (fun pc => pc == 8 || pc == 15 || pc == 27 || pc == 46 || pc == 52 || pc == 55) 4000 ?_
    simp only [mj_step, mj_W_s, mj_fin, List.getElem?_cons_zero, List.getElem?_cons_succ, mj_go, Nat.reduceAdd, Nat.reduceSub, Nat.reduceLT, Nat.reduceLeDiff, Nat.zero_add, Nat.reduceEqDiff, Nat.reduceBEq, ↓reduceIte, Bool.false_eq_true, List.append_nil, List.nil_append, List.cons_append, Option.toList, and_true, true_and, true_or, or_true, reduceCtorEq, List.map_nil, bI_eq0, bI_eq1, bool_ft, pk_us, vnar0, vnar1, Bool.or_false, Bool.or_true, Bool.false_or, Bool.true_or, mj_kne, eq_self, Int32.reduceLT, Int32.reduceLE, Int32.reduceAdd, Int32.reduceSub, Int32.reduceMul, not_true_eq_false, not_false_eq_true, false_implies, true_implies, D_X12_part, mj_F_aload_n_k, mj_F_bipush_n, mj_F_dup, mj_F_getfield_i, mj_F_goto_off, mj_F_iadd, mj_F_iconst_n, mj_F_ifCond_eq_off, mj_F_if_icmp_ne_off, mj_F_iload_n_k, mj_F_invokevirtual_i, mj_F_putfield_i, mj_F_return_, mj_c2, mj_kc, FT_X12, FT_X12_1, PT_X12, L_X12_part, List.take_succ_cons, List.take_zero, List.drop_succ_cons, List.drop_zero, List.reverse_cons, List.reverse_nil, List.length_cons, List.length_nil, gS_M0, gMf_37, gMf_36, sS_Mf_36, gMl, J_X12_part]
    exact hG.2 _ _ _ _ _ _ _ _ _ (by refine ⟨Or.inr rfl, ?_⟩; exact trivial) (Nat.zero_le _) (Nat.zero_le _) (g_X12_part_15 hG  hw :)

theorem J_X12_unit : mj_t 8 33 = 41 ∧ mj_t 15 61 = 76 ∧ mj_t 38 38 = 76 ∧ mj_t 44 24 = 68 ∧ mj_t 51 25 = 76 ∧ mj_t 65 11 = 76 ∧ (0 ≤ ((8 : Nat) : Int) + 33) = True ∧ (0 ≤ ((15 : Nat) : Int) + 61) = True ∧ (0 ≤ ((38 : Nat) : Int) + 38) = True ∧ (0 ≤ ((44 : Nat) : Int) + 24) = True ∧ (0 ≤ ((51 : Nat) : Int) + 25) = True ∧ (0 ≤ ((65 : Nat) : Int) + 11) = True := by and_intros <;> first | rfl | exact eq_true (by decide)
def ct_X12_unit (q : RTM) : List (Nat × mj_Cs) := [(321, 0, 1, 12, 0, 0, c_X12_look), (328, 0, 2, 12, 0, 0, c_X12_say), (332, 0, 1, 12, 0, 0, c_X12_opens), (336, 0, 1, 12, 0, 0, (cq_X12_sum q.1)), (339, 0, 2, 12, 0, 0, c_X12_closes), (357, 0, 1, 12, 0, 0, (cq_X12_unit q.2.2.2.2.2.1)), (360, 0, 2, 12, 0, 0, (cq_X12_condition q.2.2.2.1)), (364, 0, 1, 12, 0, 0, (cq_X12_compare q.2.2.2.2.2.2))]
theorem L_X12_unit (q : RTM) : mj_lk (ct_X12_unit q) 321 = some (0, 1, 12, 0, 0, c_X12_look) ∧ mj_lk (ct_X12_unit q) 328 = some (0, 2, 12, 0, 0, c_X12_say) ∧ mj_lk (ct_X12_unit q) 332 = some (0, 1, 12, 0, 0, c_X12_opens) ∧ mj_lk (ct_X12_unit q) 336 = some (0, 1, 12, 0, 0, (cq_X12_sum q.1)) ∧ mj_lk (ct_X12_unit q) 339 = some (0, 2, 12, 0, 0, c_X12_closes) ∧ mj_lk (ct_X12_unit q) 357 = some (0, 1, 12, 0, 0, (cq_X12_unit q.2.2.2.2.2.1)) ∧ mj_lk (ct_X12_unit q) 360 = some (0, 2, 12, 0, 0, (cq_X12_condition q.2.2.2.1)) ∧ mj_lk (ct_X12_unit q) 364 = some (0, 1, 12, 0, 0, (cq_X12_compare q.2.2.2.2.2.2)) := ⟨rfl, rfl, rfl, rfl, rfl, rfl, rfl, rfl⟩
set_option maxHeartbeats 4000000 in
set_option maxRecDepth 20000 in
theorem g_X12_unit {q : RTM} {k : Option Value → mj_H → Prop} {G : mj_K} (hG : mj_cl2 cX12_unit (TbX12 2 (none) (ct_X12_unit q)) k G) {s : St} (hw : ok (F_X12_unit q s) (fun p => k none (mkMs p))) : G 0 [.ref 0] [] (mkMs s) 0 0 := by
  unfold F_X12_unit at hw
  refine mj_run hG.1 (fun pc => pc == 4 || pc == 15 || pc == 22 || pc == 38 || pc == 51 || pc == 59 || pc == 65 || pc == 72 || pc == 76) 4000 ?_
  simp only [mj_step, mj_W_s, mj_fin, List.getElem?_cons_zero, List.getElem?_cons_succ, mj_go, Nat.reduceAdd, Nat.reduceSub, Nat.reduceLT, Nat.reduceLeDiff, Nat.zero_add, Nat.reduceEqDiff, Nat.reduceBEq, ↓reduceIte, Bool.false_eq_true, List.append_nil, List.nil_append, List.cons_append, Option.toList, and_true, true_and, true_or, or_true, reduceCtorEq, List.map_nil, bI_eq0, bI_eq1, bool_ft, pk_us, vnar0, vnar1, Bool.or_false, Bool.or_true, Bool.false_or, Bool.true_or, mj_kne, eq_self, Int32.reduceLT, Int32.reduceLE, Int32.reduceAdd, Int32.reduceSub, Int32.reduceMul, not_true_eq_false, not_false_eq_true, false_implies, true_implies, D_X12_unit, mj_F_aload_n_k, mj_F_bipush_n, mj_F_dup, mj_F_getfield_i, mj_F_goto_off, mj_F_iconst_n, mj_F_ifCond_eq_off, mj_F_if_icmp_ne_off, mj_F_iload_n_k, mj_F_invokevirtual_i, mj_F_istore_n_k, mj_F_isub, mj_F_putfield_i, mj_F_return_, mj_set, mj_set0, mj_unk, mj_c2, mj_kc, FT_X12, FT_X12_1, PT_X12, L_X12_unit, List.take_succ_cons, List.take_zero, List.drop_succ_cons, List.drop_zero, List.reverse_cons, List.reverse_nil, List.length_cons, List.length_nil, gS_M0, gMf_38, sS_Mf_38, gMl, J_X12_unit]
  refine c_X12_look_in (ok_imp (ok_bind hw) ?_)
  intro p hw
  simp only [Option.toList, List.nil_append, List.cons_append, Nat.reduceSub]
  refine mj_run hG.1 (fun pc => pc == 4 || pc == 15 || pc == 22 || pc == 38 || pc == 51 || pc == 59 || pc == 65 || pc == 72 || pc == 76) 4000 ?_
  simp only [mj_step, mj_W_s, mj_fin, List.getElem?_cons_zero, List.getElem?_cons_succ, mj_go, Nat.reduceAdd, Nat.reduceSub, Nat.reduceLT, Nat.reduceLeDiff, Nat.zero_add, Nat.reduceEqDiff, Nat.reduceBEq, ↓reduceIte, Bool.false_eq_true, List.append_nil, List.nil_append, List.cons_append, Option.toList, and_true, true_and, true_or, or_true, reduceCtorEq, List.map_nil, bI_eq0, bI_eq1, bool_ft, pk_us, vnar0, vnar1, Bool.or_false, Bool.or_true, Bool.false_or, Bool.true_or, mj_kne, eq_self, Int32.reduceLT, Int32.reduceLE, Int32.reduceAdd, Int32.reduceSub, Int32.reduceMul, not_true_eq_false, not_false_eq_true, false_implies, true_implies, D_X12_unit, mj_F_aload_n_k, mj_F_bipush_n, mj_F_dup, mj_F_getfield_i, mj_F_goto_off, mj_F_iconst_n, mj_F_ifCond_eq_off, mj_F_if_icmp_ne_off, mj_F_iload_n_k, mj_F_invokevirtual_i, mj_F_istore_n_k, mj_F_isub, mj_F_putfield_i, mj_F_return_, mj_set, mj_set0, mj_unk, mj_c2, mj_kc, FT_X12, FT_X12_1, PT_X12, L_X12_unit, List.take_succ_cons, List.take_zero, List.drop_succ_cons, List.drop_zero, List.reverse_cons, List.reverse_nil, List.length_cons, List.length_nil, gS_M0, gMf_38, sS_Mf_38, gMl, J_X12_unit]
  refine ⟨fun c => ?_, fun c => ?_⟩
  · replace hw := ok_f hw c
    refine ⟨fun c => ?_, fun c => ?_⟩
    · replace hw := ok_f hw c
      refine cq_X12_sum_in (ok_imp (ok_bind hw) ?_)
      intro p hw
      simp only [Option.toList, List.nil_append, List.cons_append, Nat.reduceSub]
      refine mj_run hG.1 (fun pc => pc == 4 || pc == 15 || pc == 22 || pc == 38 || pc == 51 || pc == 59 || pc == 65 || pc == 72 || pc == 76) 4000 ?_
      simp only [mj_step, mj_W_s, mj_fin, List.getElem?_cons_zero, List.getElem?_cons_succ, mj_go, Nat.reduceAdd, Nat.reduceSub, Nat.reduceLT, Nat.reduceLeDiff, Nat.zero_add, Nat.reduceEqDiff, Nat.reduceBEq, ↓reduceIte, Bool.false_eq_true, List.append_nil, List.nil_append, List.cons_append, Option.toList, and_true, true_and, true_or, or_true, reduceCtorEq, List.map_nil, bI_eq0, bI_eq1, bool_ft, pk_us, vnar0, vnar1, Bool.or_false, Bool.or_true, Bool.false_or, Bool.true_or, mj_kne, eq_self, Int32.reduceLT, Int32.reduceLE, Int32.reduceAdd, Int32.reduceSub, Int32.reduceMul, not_true_eq_false, not_false_eq_true, false_implies, true_implies, D_X12_unit, mj_F_aload_n_k, mj_F_bipush_n, mj_F_dup, mj_F_getfield_i, mj_F_goto_off, mj_F_iconst_n, mj_F_ifCond_eq_off, mj_F_if_icmp_ne_off, mj_F_iload_n_k, mj_F_invokevirtual_i, mj_F_istore_n_k, mj_F_isub, mj_F_putfield_i, mj_F_return_, mj_set, mj_set0, mj_unk, mj_c2, mj_kc, FT_X12, FT_X12_1, PT_X12, L_X12_unit, List.take_succ_cons, List.take_zero, List.drop_succ_cons, List.drop_zero, List.reverse_cons, List.reverse_nil, List.length_cons, List.length_nil, gS_M0, gMf_38, sS_Mf_38, gMl, J_X12_unit]
      refine cq_X12_compare_in (ok_imp (ok_bind hw) ?_)
      intro p hw
      simp only [Option.toList, List.nil_append, List.cons_append, Nat.reduceSub]
      refine mj_run hG.1 (fun pc => pc == 4 || pc == 15 || pc == 22 || pc == 38 || pc == 51 || pc == 59 || pc == 65 || pc == 72 || pc == 76) 4000 ?_
      simp only [mj_step, mj_W_s, mj_fin, List.getElem?_cons_zero, List.getElem?_cons_succ, mj_go, Nat.reduceAdd, Nat.reduceSub, Nat.reduceLT, Nat.reduceLeDiff, Nat.zero_add, Nat.reduceEqDiff, Nat.reduceBEq, ↓reduceIte, Bool.false_eq_true, List.append_nil, List.nil_append, List.cons_append, Option.toList, and_true, true_and, true_or, or_true, reduceCtorEq, List.map_nil, bI_eq0, bI_eq1, bool_ft, pk_us, vnar0, vnar1, Bool.or_false, Bool.or_true, Bool.false_or, Bool.true_or, mj_kne, eq_self, Int32.reduceLT, Int32.reduceLE, Int32.reduceAdd, Int32.reduceSub, Int32.reduceMul, not_true_eq_false, not_false_eq_true, false_implies, true_implies, D_X12_unit, mj_F_aload_n_k, mj_F_bipush_n, mj_F_dup, mj_F_getfield_i, mj_F_goto_off, mj_F_iconst_n, mj_F_ifCond_eq_off, mj_F_if_icmp_ne_off, mj_F_iload_n_k, mj_F_invokevirtual_i, mj_F_istore_n_k, mj_F_isub, mj_F_putfield_i, mj_F_return_, mj_set, mj_set0, mj_unk, mj_c2, mj_kc, FT_X12, FT_X12_1, PT_X12, L_X12_unit, List.take_succ_cons, List.take_zero, List.drop_succ_cons, List.drop_zero, List.reverse_cons, List.reverse_nil, List.length_cons, List.length_nil, gS_M0, gMf_38, sS_Mf_38, gMl, J_X12_unit]
      exact (ok_some hw :)
    · replace hw := ok_t hw c
      refine c_X12_opens_in (ok_imp (ok_bind hw) ?_)
      intro p hw
      simp only [Option.toList, List.nil_append, List.cons_append, Nat.reduceSub]
      refine mj_run hG.1 (fun pc => pc == 4 || pc == 15 || pc == 22 || pc == 38 || pc == 51 || pc == 59 || pc == 65 || pc == 72 || pc == 76) 4000 ?_
      simp only [mj_step, mj_W_s, mj_fin, List.getElem?_cons_zero, List.getElem?_cons_succ, mj_go, Nat.reduceAdd, Nat.reduceSub, Nat.reduceLT, Nat.reduceLeDiff, Nat.zero_add, Nat.reduceEqDiff, Nat.reduceBEq, ↓reduceIte, Bool.false_eq_true, List.append_nil, List.nil_append, List.cons_append, Option.toList, and_true, true_and, true_or, or_true, reduceCtorEq, List.map_nil, bI_eq0, bI_eq1, bool_ft, pk_us, vnar0, vnar1, Bool.or_false, Bool.or_true, Bool.false_or, Bool.true_or, mj_kne, eq_self, Int32.reduceLT, Int32.reduceLE, Int32.reduceAdd, Int32.reduceSub, Int32.reduceMul, not_true_eq_false, not_false_eq_true, false_implies, true_implies, D_X12_unit, mj_F_aload_n_k, mj_F_bipush_n, mj_F_dup, mj_F_getfield_i, mj_F_goto_off, mj_F_iconst_n, mj_F_ifCond_eq_off, mj_F_if_icmp_ne_off, mj_F_iload_n_k, mj_F_invokevirtual_i, mj_F_istore_n_k, mj_F_isub, mj_F_putfield_i, mj_F_return_, mj_set, mj_set0, mj_unk, mj_c2, mj_kc, FT_X12, FT_X12_1, PT_X12, L_X12_unit, List.take_succ_cons, List.take_zero, List.drop_succ_cons, List.drop_zero, List.reverse_cons, List.reverse_nil, List.length_cons, List.length_nil, gS_M0, gMf_38, sS_Mf_38, gMl, J_X12_unit]
      refine ⟨fun c => ?_, fun c => ?_⟩
      · replace hw := ok_t hw c
        refine mj_run hG.1 (fun pc => pc == 4 || pc == 15 || pc == 22 || pc == 38 || pc == 51 || pc == 59 || pc == 65 || pc == 72 || pc == 76) 4000 ?_
        simp only [mj_step, mj_W_s, mj_fin, List.getElem?_cons_zero, List.getElem?_cons_succ, mj_go, Nat.reduceAdd, Nat.reduceSub, Nat.reduceLT, Nat.reduceLeDiff, Nat.zero_add, Nat.reduceEqDiff, Nat.reduceBEq, ↓reduceIte, Bool.false_eq_true, List.append_nil, List.nil_append, List.cons_append, Option.toList, and_true, true_and, true_or, or_true, reduceCtorEq, List.map_nil, bI_eq0, bI_eq1, bool_ft, pk_us, vnar0, vnar1, Bool.or_false, Bool.or_true, Bool.false_or, Bool.true_or, mj_kne, eq_self, Int32.reduceLT, Int32.reduceLE, Int32.reduceAdd, Int32.reduceSub, Int32.reduceMul, not_true_eq_false, not_false_eq_true, false_implies, true_implies, D_X12_unit, mj_F_aload_n_k, mj_F_bipush_n, mj_F_dup, mj_F_getfield_i, mj_F_goto_off, mj_F_iconst_n, mj_F_ifCond_eq_off, mj_F_if_icmp_ne_off, mj_F_iload_n_k, mj_F_invokevirtual_i, mj_F_istore_n_k, mj_F_isub, mj_F_putfield_i, mj_F_return_, mj_set, mj_set0, mj_unk, mj_c2, mj_kc, FT_X12, FT_X12_1, PT_X12, L_X12_unit, List.take_succ_cons, List.take_zero, List.drop_succ_cons, List.drop_zero, List.reverse_cons, List.reverse_nil, List.length_cons, List.length_nil, gS_M0, gMf_38, sS_Mf_38, gMl, J_X12_unit]
        exact (ok_some hw :)
      · replace hw := ok_f hw c
        refine cq_X12_condition_in (ok_imp (ok_bind hw) ?_)
        intro p hw
        simp only [Option.toList, List.nil_append, List.cons_append, Nat.reduceSub]
        refine mj_run hG.1 (fun pc => pc == 4 || pc == 15 || pc == 22 || pc == 38 || pc == 51 || pc == 59 || pc == 65 || pc == 72 || pc == 76) 4000 ?_
        simp only [mj_step, mj_W_s, mj_fin, List.getElem?_cons_zero, List.getElem?_cons_succ, mj_go, Nat.reduceAdd, Nat.reduceSub, Nat.reduceLT, Nat.reduceLeDiff, Nat.zero_add, Nat.reduceEqDiff, Nat.reduceBEq, ↓reduceIte, Bool.false_eq_true, List.append_nil, List.nil_append, List.cons_append, Option.toList, and_true, true_and, true_or, or_true, reduceCtorEq, List.map_nil, bI_eq0, bI_eq1, bool_ft, pk_us, vnar0, vnar1, Bool.or_false, Bool.or_true, Bool.false_or, Bool.true_or, mj_kne, eq_self, Int32.reduceLT, Int32.reduceLE, Int32.reduceAdd, Int32.reduceSub, Int32.reduceMul, not_true_eq_false, not_false_eq_true, false_implies, true_implies, D_X12_unit, mj_F_aload_n_k, mj_F_bipush_n, mj_F_dup, mj_F_getfield_i, mj_F_goto_off, mj_F_iconst_n, mj_F_ifCond_eq_off, mj_F_if_icmp_ne_off, mj_F_iload_n_k, mj_F_invokevirtual_i, mj_F_istore_n_k, mj_F_isub, mj_F_putfield_i, mj_F_return_, mj_set, mj_set0, mj_unk, mj_c2, mj_kc, FT_X12, FT_X12_1, PT_X12, L_X12_unit, List.take_succ_cons, List.take_zero, List.drop_succ_cons, List.drop_zero, List.reverse_cons, List.reverse_nil, List.length_cons, List.length_nil, gS_M0, gMf_38, sS_Mf_38, gMl, J_X12_unit]
        refine c_X12_closes_in (ok_imp (ok_bind hw) ?_)
        intro p hw
        simp only [Option.toList, List.nil_append, List.cons_append, Nat.reduceSub]
        refine mj_run hG.1 (fun pc => pc == 4 || pc == 15 || pc == 22 || pc == 38 || pc == 51 || pc == 59 || pc == 65 || pc == 72 || pc == 76) 4000 ?_
        simp only [mj_step, mj_W_s, mj_fin, List.getElem?_cons_zero, List.getElem?_cons_succ, mj_go, Nat.reduceAdd, Nat.reduceSub, Nat.reduceLT, Nat.reduceLeDiff, Nat.zero_add, Nat.reduceEqDiff, Nat.reduceBEq, ↓reduceIte, Bool.false_eq_true, List.append_nil, List.nil_append, List.cons_append, Option.toList, and_true, true_and, true_or, or_true, reduceCtorEq, List.map_nil, bI_eq0, bI_eq1, bool_ft, pk_us, vnar0, vnar1, Bool.or_false, Bool.or_true, Bool.false_or, Bool.true_or, mj_kne, eq_self, Int32.reduceLT, Int32.reduceLE, Int32.reduceAdd, Int32.reduceSub, Int32.reduceMul, not_true_eq_false, not_false_eq_true, false_implies, true_implies, D_X12_unit, mj_F_aload_n_k, mj_F_bipush_n, mj_F_dup, mj_F_getfield_i, mj_F_goto_off, mj_F_iconst_n, mj_F_ifCond_eq_off, mj_F_if_icmp_ne_off, mj_F_iload_n_k, mj_F_invokevirtual_i, mj_F_istore_n_k, mj_F_isub, mj_F_putfield_i, mj_F_return_, mj_set, mj_set0, mj_unk, mj_c2, mj_kc, FT_X12, FT_X12_1, PT_X12, L_X12_unit, List.take_succ_cons, List.take_zero, List.drop_succ_cons, List.drop_zero, List.reverse_cons, List.reverse_nil, List.length_cons, List.length_nil, gS_M0, gMf_38, sS_Mf_38, gMl, J_X12_unit]
        refine mj_run hG.1 (fun pc => pc == 4 || pc == 15 || pc == 22 || pc == 38 || pc == 51 || pc == 59 || pc == 65 || pc == 72 || pc == 76) 4000 ?_
        simp only [mj_step, mj_W_s, mj_fin, List.getElem?_cons_zero, List.getElem?_cons_succ, mj_go, Nat.reduceAdd, Nat.reduceSub, Nat.reduceLT, Nat.reduceLeDiff, Nat.zero_add, Nat.reduceEqDiff, Nat.reduceBEq, ↓reduceIte, Bool.false_eq_true, List.append_nil, List.nil_append, List.cons_append, Option.toList, and_true, true_and, true_or, or_true, reduceCtorEq, List.map_nil, bI_eq0, bI_eq1, bool_ft, pk_us, vnar0, vnar1, Bool.or_false, Bool.or_true, Bool.false_or, Bool.true_or, mj_kne, eq_self, Int32.reduceLT, Int32.reduceLE, Int32.reduceAdd, Int32.reduceSub, Int32.reduceMul, not_true_eq_false, not_false_eq_true, false_implies, true_implies, D_X12_unit, mj_F_aload_n_k, mj_F_bipush_n, mj_F_dup, mj_F_getfield_i, mj_F_goto_off, mj_F_iconst_n, mj_F_ifCond_eq_off, mj_F_if_icmp_ne_off, mj_F_iload_n_k, mj_F_invokevirtual_i, mj_F_istore_n_k, mj_F_isub, mj_F_putfield_i, mj_F_return_, mj_set, mj_set0, mj_unk, mj_c2, mj_kc, FT_X12, FT_X12_1, PT_X12, L_X12_unit, List.take_succ_cons, List.take_zero, List.drop_succ_cons, List.drop_zero, List.reverse_cons, List.reverse_nil, List.length_cons, List.length_nil, gS_M0, gMf_38, sS_Mf_38, gMl, J_X12_unit]
        exact (ok_some hw :)
  · replace hw := ok_t hw c
    refine c_X12_opens_in (ok_imp (ok_bind hw) ?_)
    intro p hw
    simp only [Option.toList, List.nil_append, List.cons_append, Nat.reduceSub]
    refine mj_run hG.1 (fun pc => pc == 4 || pc == 15 || pc == 22 || pc == 38 || pc == 51 || pc == 59 || pc == 65 || pc == 72 || pc == 76) 4000 ?_
    simp only [mj_step, mj_W_s, mj_fin, List.getElem?_cons_zero, List.getElem?_cons_succ, mj_go, Nat.reduceAdd, Nat.reduceSub, Nat.reduceLT, Nat.reduceLeDiff, Nat.zero_add, Nat.reduceEqDiff, Nat.reduceBEq, ↓reduceIte, Bool.false_eq_true, List.append_nil, List.nil_append, List.cons_append, Option.toList, and_true, true_and, true_or, or_true, reduceCtorEq, List.map_nil, bI_eq0, bI_eq1, bool_ft, pk_us, vnar0, vnar1, Bool.or_false, Bool.or_true, Bool.false_or, Bool.true_or, mj_kne, eq_self, Int32.reduceLT, Int32.reduceLE, Int32.reduceAdd, Int32.reduceSub, Int32.reduceMul, not_true_eq_false, not_false_eq_true, false_implies, true_implies, D_X12_unit, mj_F_aload_n_k, mj_F_bipush_n, mj_F_dup, mj_F_getfield_i, mj_F_goto_off, mj_F_iconst_n, mj_F_ifCond_eq_off, mj_F_if_icmp_ne_off, mj_F_iload_n_k, mj_F_invokevirtual_i, mj_F_istore_n_k, mj_F_isub, mj_F_putfield_i, mj_F_return_, mj_set, mj_set0, mj_unk, mj_c2, mj_kc, FT_X12, FT_X12_1, PT_X12, L_X12_unit, List.take_succ_cons, List.take_zero, List.drop_succ_cons, List.drop_zero, List.reverse_cons, List.reverse_nil, List.length_cons, List.length_nil, gS_M0, gMf_38, sS_Mf_38, gMl, J_X12_unit]
    refine ⟨fun c => ?_, fun c => ?_⟩
    · replace hw := ok_t hw c
      refine mj_run hG.1 (fun pc => pc == 4 || pc == 15 || pc == 22 || pc == 38 || pc == 51 || pc == 59 || pc == 65 || pc == 72 || pc == 76) 4000 ?_
      simp only [mj_step, mj_W_s, mj_fin, List.getElem?_cons_zero, List.getElem?_cons_succ, mj_go, Nat.reduceAdd, Nat.reduceSub, Nat.reduceLT, Nat.reduceLeDiff, Nat.zero_add, Nat.reduceEqDiff, Nat.reduceBEq, ↓reduceIte, Bool.false_eq_true, List.append_nil, List.nil_append, List.cons_append, Option.toList, and_true, true_and, true_or, or_true, reduceCtorEq, List.map_nil, bI_eq0, bI_eq1, bool_ft, pk_us, vnar0, vnar1, Bool.or_false, Bool.or_true, Bool.false_or, Bool.true_or, mj_kne, eq_self, Int32.reduceLT, Int32.reduceLE, Int32.reduceAdd, Int32.reduceSub, Int32.reduceMul, not_true_eq_false, not_false_eq_true, false_implies, true_implies, D_X12_unit, mj_F_aload_n_k, mj_F_bipush_n, mj_F_dup, mj_F_getfield_i, mj_F_goto_off, mj_F_iconst_n, mj_F_ifCond_eq_off, mj_F_if_icmp_ne_off, mj_F_iload_n_k, mj_F_invokevirtual_i, mj_F_istore_n_k, mj_F_isub, mj_F_putfield_i, mj_F_return_, mj_set, mj_set0, mj_unk, mj_c2, mj_kc, FT_X12, FT_X12_1, PT_X12, L_X12_unit, List.take_succ_cons, List.take_zero, List.drop_succ_cons, List.drop_zero, List.reverse_cons, List.reverse_nil, List.length_cons, List.length_nil, gS_M0, gMf_38, sS_Mf_38, gMl, J_X12_unit]
      exact (ok_some hw :)
    · replace hw := ok_f hw c
      refine cq_X12_unit_in (ok_imp (ok_bind hw) ?_)
      intro p hw
      simp only [Option.toList, List.nil_append, List.cons_append, Nat.reduceSub]
      refine mj_run hG.1 (fun pc => pc == 4 || pc == 15 || pc == 22 || pc == 38 || pc == 51 || pc == 59 || pc == 65 || pc == 72 || pc == 76) 4000 ?_
      simp only [mj_step, mj_W_s, mj_fin, List.getElem?_cons_zero, List.getElem?_cons_succ, mj_go, Nat.reduceAdd, Nat.reduceSub, Nat.reduceLT, Nat.reduceLeDiff, Nat.zero_add, Nat.reduceEqDiff, Nat.reduceBEq, ↓reduceIte, Bool.false_eq_true, List.append_nil, List.nil_append, List.cons_append, Option.toList, and_true, true_and, true_or, or_true, reduceCtorEq, List.map_nil, bI_eq0, bI_eq1, bool_ft, pk_us, vnar0, vnar1, Bool.or_false, Bool.or_true, Bool.false_or, Bool.true_or, mj_kne, eq_self, Int32.reduceLT, Int32.reduceLE, Int32.reduceAdd, Int32.reduceSub, Int32.reduceMul, not_true_eq_false, not_false_eq_true, false_implies, true_implies, D_X12_unit, mj_F_aload_n_k, mj_F_bipush_n, mj_F_dup, mj_F_getfield_i, mj_F_goto_off, mj_F_iconst_n, mj_F_ifCond_eq_off, mj_F_if_icmp_ne_off, mj_F_iload_n_k, mj_F_invokevirtual_i, mj_F_istore_n_k, mj_F_isub, mj_F_putfield_i, mj_F_return_, mj_set, mj_set0, mj_unk, mj_c2, mj_kc, FT_X12, FT_X12_1, PT_X12, L_X12_unit, List.take_succ_cons, List.take_zero, List.drop_succ_cons, List.drop_zero, List.reverse_cons, List.reverse_nil, List.length_cons, List.length_nil, gS_M0, gMf_38, sS_Mf_38, gMl, J_X12_unit]
      replace hw := ok_wI hw
      refine c_X12_say_in (ok_imp (ok_bind hw) ?_)
      intro p hw
      simp only [Option.toList, List.nil_append, List.cons_append, Nat.reduceSub]
      refine mj_run hG.1 (fun pc => pc == 4 || pc == 15 || pc == 22 || pc == 38 || pc == 51 || pc == 59 || pc == 65 || pc == 72 || pc == 76) 4000 ?_
      simp only [mj_step, mj_W_s, mj_fin, List.getElem?_cons_zero, List.getElem?_cons_succ, mj_go, Nat.reduceAdd, Nat.reduceSub, Nat.reduceLT, Nat.reduceLeDiff, Nat.zero_add, Nat.reduceEqDiff, Nat.reduceBEq, ↓reduceIte, Bool.false_eq_true, List.append_nil, List.nil_append, List.cons_append, Option.toList, and_true, true_and, true_or, or_true, reduceCtorEq, List.map_nil, bI_eq0, bI_eq1, bool_ft, pk_us, vnar0, vnar1, Bool.or_false, Bool.or_true, Bool.false_or, Bool.true_or, mj_kne, eq_self, Int32.reduceLT, Int32.reduceLE, Int32.reduceAdd, Int32.reduceSub, Int32.reduceMul, not_true_eq_false, not_false_eq_true, false_implies, true_implies, D_X12_unit, mj_F_aload_n_k, mj_F_bipush_n, mj_F_dup, mj_F_getfield_i, mj_F_goto_off, mj_F_iconst_n, mj_F_ifCond_eq_off, mj_F_if_icmp_ne_off, mj_F_iload_n_k, mj_F_invokevirtual_i, mj_F_istore_n_k, mj_F_isub, mj_F_putfield_i, mj_F_return_, mj_set, mj_set0, mj_unk, mj_c2, mj_kc, FT_X12, FT_X12_1, PT_X12, L_X12_unit, List.take_succ_cons, List.take_zero, List.drop_succ_cons, List.drop_zero, List.reverse_cons, List.reverse_nil, List.length_cons, List.length_nil, gS_M0, gMf_38, sS_Mf_38, gMl, J_X12_unit]
      refine mj_run hG.1 (fun pc => pc == 4 || pc == 15 || pc == 22 || pc == 38 || pc == 51 || pc == 59 || pc == 65 || pc == 72 || pc == 76) 4000 ?_
      simp only [mj_step, mj_W_s, mj_fin, List.getElem?_cons_zero, List.getElem?_cons_succ, mj_go, Nat.reduceAdd, Nat.reduceSub, Nat.reduceLT, Nat.reduceLeDiff, Nat.zero_add, Nat.reduceEqDiff, Nat.reduceBEq, ↓reduceIte, Bool.false_eq_true, List.append_nil, List.nil_append, List.cons_append, Option.toList, and_true, true_and, true_or, or_true, reduceCtorEq, List.map_nil, bI_eq0, bI_eq1, bool_ft, pk_us, vnar0, vnar1, Bool.or_false, Bool.or_true, Bool.false_or, Bool.true_or, mj_kne, eq_self, Int32.reduceLT, Int32.reduceLE, Int32.reduceAdd, Int32.reduceSub, Int32.reduceMul, not_true_eq_false, not_false_eq_true, false_implies, true_implies, D_X12_unit, mj_F_aload_n_k, mj_F_bipush_n, mj_F_dup, mj_F_getfield_i, mj_F_goto_off, mj_F_iconst_n, mj_F_ifCond_eq_off, mj_F_if_icmp_ne_off, mj_F_iload_n_k, mj_F_invokevirtual_i, mj_F_istore_n_k, mj_F_isub, mj_F_putfield_i, mj_F_return_, mj_set, mj_set0, mj_unk, mj_c2, mj_kc, FT_X12, FT_X12_1, PT_X12, L_X12_unit, List.take_succ_cons, List.take_zero, List.drop_succ_cons, List.drop_zero, List.reverse_cons, List.reverse_nil, List.length_cons, List.length_nil, gS_M0, gMf_38, sS_Mf_38, gMl, J_X12_unit]
      exact (ok_some hw :)

theorem J_X12_compare : mj_t 5 10 = 15 ∧ mj_t 12 4 = 16 ∧ mj_t 21 8 = 29 ∧ (0 ≤ ((5 : Nat) : Int) + 10) = True ∧ (0 ≤ ((12 : Nat) : Int) + 4) = True ∧ (0 ≤ ((21 : Nat) : Int) + 8) = True := by and_intros <;> first | rfl | exact eq_true (by decide)
def ct_X12_compare (q : RTM) : List (Nat × mj_Cs) := [(318, 0, 1, 12, 0, 0, c_X12_bad), (321, 0, 1, 12, 0, 0, c_X12_look), (328, 0, 2, 12, 0, 0, c_X12_say), (336, 0, 1, 12, 0, 0, (cq_X12_sum q.1)), (354, 2, 1, 12, 0, 0, c_isRel)]
theorem L_X12_compare (q : RTM) : mj_lk (ct_X12_compare q) 318 = some (0, 1, 12, 0, 0, c_X12_bad) ∧ mj_lk (ct_X12_compare q) 321 = some (0, 1, 12, 0, 0, c_X12_look) ∧ mj_lk (ct_X12_compare q) 328 = some (0, 2, 12, 0, 0, c_X12_say) ∧ mj_lk (ct_X12_compare q) 336 = some (0, 1, 12, 0, 0, (cq_X12_sum q.1)) ∧ mj_lk (ct_X12_compare q) 354 = some (2, 1, 12, 0, 0, c_isRel) := ⟨rfl, rfl, rfl, rfl, rfl⟩
set_option maxHeartbeats 4000000 in
set_option maxRecDepth 20000 in
theorem g_X12_compare {q : RTM} {k : Option Value → mj_H → Prop} {G : mj_K} (hG : mj_cl2 cX12_compare (TbX12 2 (none) (ct_X12_compare q)) k G) {s : St} (hw : ok (F_X12_compare q s) (fun p => k none (mkMs p))) : G 0 [.ref 0] [] (mkMs s) 0 0 := by
  unfold F_X12_compare at hw
  refine mj_run hG.1 (fun pc => pc == 12 || pc == 28 || pc == 43 || pc == 48) 4000 ?_
  simp only [mj_step, mj_W_s, mj_fin, List.getElem?_cons_zero, List.getElem?_cons_succ, mj_go, Nat.reduceAdd, Nat.reduceSub, Nat.reduceLT, Nat.reduceLeDiff, Nat.zero_add, Nat.reduceEqDiff, Nat.reduceBEq, ↓reduceIte, Bool.false_eq_true, List.append_nil, List.nil_append, List.cons_append, Option.toList, and_true, true_and, true_or, or_true, reduceCtorEq, List.map_nil, bI_eq0, bI_eq1, bool_ft, pk_us, vnar0, vnar1, Bool.or_false, Bool.or_true, Bool.false_or, Bool.true_or, mj_kne, eq_self, Int32.reduceLT, Int32.reduceLE, Int32.reduceAdd, Int32.reduceSub, Int32.reduceMul, not_true_eq_false, not_false_eq_true, false_implies, true_implies, D_X12_compare, mj_F_aload_n_k, mj_F_dup, mj_F_getfield_i, mj_F_goto_off, mj_F_iadd, mj_F_iconst_n, mj_F_ifCond_ne_off, mj_F_if_icmp_ne_off, mj_F_iload_n_k, mj_F_invokestatic_i, mj_F_invokevirtual_i, mj_F_istore_n_k, mj_F_putfield_i, mj_F_return_, mj_set, mj_set0, mj_unk, mj_c2, mj_kc, FT_X12, FT_X12_1, PT_X12, L_X12_compare, List.take_succ_cons, List.take_zero, List.drop_succ_cons, List.drop_zero, List.reverse_cons, List.reverse_nil, List.length_cons, List.length_nil, gS_M0, gMf_37, gMf_36, sS_Mf_36, gMl, c_isRel_eq, J_X12_compare]
  refine ⟨fun c => ?_, fun c => ?_⟩
  · replace hw := ok_f hw c
    refine ⟨fun c => ?_, fun c => ?_⟩
    · replace hw := ok_f hw c
      replace hw := ok_wI hw
      refine cq_X12_sum_in (ok_imp (ok_bind hw) ?_)
      intro p hw
      simp only [Option.toList, List.nil_append, List.cons_append, Nat.reduceSub]
      refine mj_run hG.1 (fun pc => pc == 12 || pc == 28 || pc == 43 || pc == 48) 4000 ?_
      simp only [mj_step, mj_W_s, mj_fin, List.getElem?_cons_zero, List.getElem?_cons_succ, mj_go, Nat.reduceAdd, Nat.reduceSub, Nat.reduceLT, Nat.reduceLeDiff, Nat.zero_add, Nat.reduceEqDiff, Nat.reduceBEq, ↓reduceIte, Bool.false_eq_true, List.append_nil, List.nil_append, List.cons_append, Option.toList, and_true, true_and, true_or, or_true, reduceCtorEq, List.map_nil, bI_eq0, bI_eq1, bool_ft, pk_us, vnar0, vnar1, Bool.or_false, Bool.or_true, Bool.false_or, Bool.true_or, mj_kne, eq_self, Int32.reduceLT, Int32.reduceLE, Int32.reduceAdd, Int32.reduceSub, Int32.reduceMul, not_true_eq_false, not_false_eq_true, false_implies, true_implies, D_X12_compare, mj_F_aload_n_k, mj_F_dup, mj_F_getfield_i, mj_F_goto_off, mj_F_iadd, mj_F_iconst_n, mj_F_ifCond_ne_off, mj_F_if_icmp_ne_off, mj_F_iload_n_k, mj_F_invokestatic_i, mj_F_invokevirtual_i, mj_F_istore_n_k, mj_F_putfield_i, mj_F_return_, mj_set, mj_set0, mj_unk, mj_c2, mj_kc, FT_X12, FT_X12_1, PT_X12, L_X12_compare, List.take_succ_cons, List.take_zero, List.drop_succ_cons, List.drop_zero, List.reverse_cons, List.reverse_nil, List.length_cons, List.length_nil, gS_M0, gMf_37, gMf_36, sS_Mf_36, gMl, c_isRel_eq, J_X12_compare]
      refine c_X12_say_in (ok_imp (ok_bind hw) ?_)
      intro p hw
      simp only [Option.toList, List.nil_append, List.cons_append, Nat.reduceSub]
      refine mj_run hG.1 (fun pc => pc == 12 || pc == 28 || pc == 43 || pc == 48) 4000 ?_
      simp only [mj_step, mj_W_s, mj_fin, List.getElem?_cons_zero, List.getElem?_cons_succ, mj_go, Nat.reduceAdd, Nat.reduceSub, Nat.reduceLT, Nat.reduceLeDiff, Nat.zero_add, Nat.reduceEqDiff, Nat.reduceBEq, ↓reduceIte, Bool.false_eq_true, List.append_nil, List.nil_append, List.cons_append, Option.toList, and_true, true_and, true_or, or_true, reduceCtorEq, List.map_nil, bI_eq0, bI_eq1, bool_ft, pk_us, vnar0, vnar1, Bool.or_false, Bool.or_true, Bool.false_or, Bool.true_or, mj_kne, eq_self, Int32.reduceLT, Int32.reduceLE, Int32.reduceAdd, Int32.reduceSub, Int32.reduceMul, not_true_eq_false, not_false_eq_true, false_implies, true_implies, D_X12_compare, mj_F_aload_n_k, mj_F_dup, mj_F_getfield_i, mj_F_goto_off, mj_F_iadd, mj_F_iconst_n, mj_F_ifCond_ne_off, mj_F_if_icmp_ne_off, mj_F_iload_n_k, mj_F_invokestatic_i, mj_F_invokevirtual_i, mj_F_istore_n_k, mj_F_putfield_i, mj_F_return_, mj_set, mj_set0, mj_unk, mj_c2, mj_kc, FT_X12, FT_X12_1, PT_X12, L_X12_compare, List.take_succ_cons, List.take_zero, List.drop_succ_cons, List.drop_zero, List.reverse_cons, List.reverse_nil, List.length_cons, List.length_nil, gS_M0, gMf_37, gMf_36, sS_Mf_36, gMl, c_isRel_eq, J_X12_compare]
      exact (ok_some hw :)
    · replace hw := ok_t hw c
      refine c_X12_bad_in (ok_imp (ok_bind hw) ?_)
      intro p hw
      simp only [Option.toList, List.nil_append, List.cons_append, Nat.reduceSub]
      refine mj_run hG.1 (fun pc => pc == 12 || pc == 28 || pc == 43 || pc == 48) 4000 ?_
      simp only [mj_step, mj_W_s, mj_fin, List.getElem?_cons_zero, List.getElem?_cons_succ, mj_go, Nat.reduceAdd, Nat.reduceSub, Nat.reduceLT, Nat.reduceLeDiff, Nat.zero_add, Nat.reduceEqDiff, Nat.reduceBEq, ↓reduceIte, Bool.false_eq_true, List.append_nil, List.nil_append, List.cons_append, Option.toList, and_true, true_and, true_or, or_true, reduceCtorEq, List.map_nil, bI_eq0, bI_eq1, bool_ft, pk_us, vnar0, vnar1, Bool.or_false, Bool.or_true, Bool.false_or, Bool.true_or, mj_kne, eq_self, Int32.reduceLT, Int32.reduceLE, Int32.reduceAdd, Int32.reduceSub, Int32.reduceMul, not_true_eq_false, not_false_eq_true, false_implies, true_implies, D_X12_compare, mj_F_aload_n_k, mj_F_dup, mj_F_getfield_i, mj_F_goto_off, mj_F_iadd, mj_F_iconst_n, mj_F_ifCond_ne_off, mj_F_if_icmp_ne_off, mj_F_iload_n_k, mj_F_invokestatic_i, mj_F_invokevirtual_i, mj_F_istore_n_k, mj_F_putfield_i, mj_F_return_, mj_set, mj_set0, mj_unk, mj_c2, mj_kc, FT_X12, FT_X12_1, PT_X12, L_X12_compare, List.take_succ_cons, List.take_zero, List.drop_succ_cons, List.drop_zero, List.reverse_cons, List.reverse_nil, List.length_cons, List.length_nil, gS_M0, gMf_37, gMf_36, sS_Mf_36, gMl, c_isRel_eq, J_X12_compare]
      exact (ok_some hw :)
  · replace hw := ok_t hw c
    refine c_X12_look_in (ok_imp (ok_bind hw) ?_)
    intro p hw
    simp only [Option.toList, List.nil_append, List.cons_append, Nat.reduceSub]
    refine mj_run hG.1 (fun pc => pc == 12 || pc == 28 || pc == 43 || pc == 48) 4000 ?_
    simp only [mj_step, mj_W_s, mj_fin, List.getElem?_cons_zero, List.getElem?_cons_succ, mj_go, Nat.reduceAdd, Nat.reduceSub, Nat.reduceLT, Nat.reduceLeDiff, Nat.zero_add, Nat.reduceEqDiff, Nat.reduceBEq, ↓reduceIte, Bool.false_eq_true, List.append_nil, List.nil_append, List.cons_append, Option.toList, and_true, true_and, true_or, or_true, reduceCtorEq, List.map_nil, bI_eq0, bI_eq1, bool_ft, pk_us, vnar0, vnar1, Bool.or_false, Bool.or_true, Bool.false_or, Bool.true_or, mj_kne, eq_self, Int32.reduceLT, Int32.reduceLE, Int32.reduceAdd, Int32.reduceSub, Int32.reduceMul, not_true_eq_false, not_false_eq_true, false_implies, true_implies, D_X12_compare, mj_F_aload_n_k, mj_F_dup, mj_F_getfield_i, mj_F_goto_off, mj_F_iadd, mj_F_iconst_n, mj_F_ifCond_ne_off, mj_F_if_icmp_ne_off, mj_F_iload_n_k, mj_F_invokestatic_i, mj_F_invokevirtual_i, mj_F_istore_n_k, mj_F_putfield_i, mj_F_return_, mj_set, mj_set0, mj_unk, mj_c2, mj_kc, FT_X12, FT_X12_1, PT_X12, L_X12_compare, List.take_succ_cons, List.take_zero, List.drop_succ_cons, List.drop_zero, List.reverse_cons, List.reverse_nil, List.length_cons, List.length_nil, gS_M0, gMf_37, gMf_36, sS_Mf_36, gMl, c_isRel_eq, J_X12_compare]
    refine ⟨fun c => ?_, fun c => ?_⟩
    · replace hw := ok_f hw c
      replace hw := ok_wI hw
      refine cq_X12_sum_in (ok_imp (ok_bind hw) ?_)
      intro p hw
      simp only [Option.toList, List.nil_append, List.cons_append, Nat.reduceSub]
      refine mj_run hG.1 (fun pc => pc == 12 || pc == 28 || pc == 43 || pc == 48) 4000 ?_
      simp only [mj_step, mj_W_s, mj_fin, List.getElem?_cons_zero, List.getElem?_cons_succ, mj_go, Nat.reduceAdd, Nat.reduceSub, Nat.reduceLT, Nat.reduceLeDiff, Nat.zero_add, Nat.reduceEqDiff, Nat.reduceBEq, ↓reduceIte, Bool.false_eq_true, List.append_nil, List.nil_append, List.cons_append, Option.toList, and_true, true_and, true_or, or_true, reduceCtorEq, List.map_nil, bI_eq0, bI_eq1, bool_ft, pk_us, vnar0, vnar1, Bool.or_false, Bool.or_true, Bool.false_or, Bool.true_or, mj_kne, eq_self, Int32.reduceLT, Int32.reduceLE, Int32.reduceAdd, Int32.reduceSub, Int32.reduceMul, not_true_eq_false, not_false_eq_true, false_implies, true_implies, D_X12_compare, mj_F_aload_n_k, mj_F_dup, mj_F_getfield_i, mj_F_goto_off, mj_F_iadd, mj_F_iconst_n, mj_F_ifCond_ne_off, mj_F_if_icmp_ne_off, mj_F_iload_n_k, mj_F_invokestatic_i, mj_F_invokevirtual_i, mj_F_istore_n_k, mj_F_putfield_i, mj_F_return_, mj_set, mj_set0, mj_unk, mj_c2, mj_kc, FT_X12, FT_X12_1, PT_X12, L_X12_compare, List.take_succ_cons, List.take_zero, List.drop_succ_cons, List.drop_zero, List.reverse_cons, List.reverse_nil, List.length_cons, List.length_nil, gS_M0, gMf_37, gMf_36, sS_Mf_36, gMl, c_isRel_eq, J_X12_compare]
      refine c_X12_say_in (ok_imp (ok_bind hw) ?_)
      intro p hw
      simp only [Option.toList, List.nil_append, List.cons_append, Nat.reduceSub]
      refine mj_run hG.1 (fun pc => pc == 12 || pc == 28 || pc == 43 || pc == 48) 4000 ?_
      simp only [mj_step, mj_W_s, mj_fin, List.getElem?_cons_zero, List.getElem?_cons_succ, mj_go, Nat.reduceAdd, Nat.reduceSub, Nat.reduceLT, Nat.reduceLeDiff, Nat.zero_add, Nat.reduceEqDiff, Nat.reduceBEq, ↓reduceIte, Bool.false_eq_true, List.append_nil, List.nil_append, List.cons_append, Option.toList, and_true, true_and, true_or, or_true, reduceCtorEq, List.map_nil, bI_eq0, bI_eq1, bool_ft, pk_us, vnar0, vnar1, Bool.or_false, Bool.or_true, Bool.false_or, Bool.true_or, mj_kne, eq_self, Int32.reduceLT, Int32.reduceLE, Int32.reduceAdd, Int32.reduceSub, Int32.reduceMul, not_true_eq_false, not_false_eq_true, false_implies, true_implies, D_X12_compare, mj_F_aload_n_k, mj_F_dup, mj_F_getfield_i, mj_F_goto_off, mj_F_iadd, mj_F_iconst_n, mj_F_ifCond_ne_off, mj_F_if_icmp_ne_off, mj_F_iload_n_k, mj_F_invokestatic_i, mj_F_invokevirtual_i, mj_F_istore_n_k, mj_F_putfield_i, mj_F_return_, mj_set, mj_set0, mj_unk, mj_c2, mj_kc, FT_X12, FT_X12_1, PT_X12, L_X12_compare, List.take_succ_cons, List.take_zero, List.drop_succ_cons, List.drop_zero, List.reverse_cons, List.reverse_nil, List.length_cons, List.length_nil, gS_M0, gMf_37, gMf_36, sS_Mf_36, gMl, c_isRel_eq, J_X12_compare]
      exact (ok_some hw :)
    · replace hw := ok_t hw c
      refine c_X12_bad_in (ok_imp (ok_bind hw) ?_)
      intro p hw
      simp only [Option.toList, List.nil_append, List.cons_append, Nat.reduceSub]
      refine mj_run hG.1 (fun pc => pc == 12 || pc == 28 || pc == 43 || pc == 48) 4000 ?_
      simp only [mj_step, mj_W_s, mj_fin, List.getElem?_cons_zero, List.getElem?_cons_succ, mj_go, Nat.reduceAdd, Nat.reduceSub, Nat.reduceLT, Nat.reduceLeDiff, Nat.zero_add, Nat.reduceEqDiff, Nat.reduceBEq, ↓reduceIte, Bool.false_eq_true, List.append_nil, List.nil_append, List.cons_append, Option.toList, and_true, true_and, true_or, or_true, reduceCtorEq, List.map_nil, bI_eq0, bI_eq1, bool_ft, pk_us, vnar0, vnar1, Bool.or_false, Bool.or_true, Bool.false_or, Bool.true_or, mj_kne, eq_self, Int32.reduceLT, Int32.reduceLE, Int32.reduceAdd, Int32.reduceSub, Int32.reduceMul, not_true_eq_false, not_false_eq_true, false_implies, true_implies, D_X12_compare, mj_F_aload_n_k, mj_F_dup, mj_F_getfield_i, mj_F_goto_off, mj_F_iadd, mj_F_iconst_n, mj_F_ifCond_ne_off, mj_F_if_icmp_ne_off, mj_F_iload_n_k, mj_F_invokestatic_i, mj_F_invokevirtual_i, mj_F_istore_n_k, mj_F_putfield_i, mj_F_return_, mj_set, mj_set0, mj_unk, mj_c2, mj_kc, FT_X12, FT_X12_1, PT_X12, L_X12_compare, List.take_succ_cons, List.take_zero, List.drop_succ_cons, List.drop_zero, List.reverse_cons, List.reverse_nil, List.length_cons, List.length_nil, gS_M0, gMf_37, gMf_36, sS_Mf_36, gMl, c_isRel_eq, J_X12_compare]
      exact (ok_some hw :)

theorem m_X12_sum_q (l : Launch) (q : RTM) (d : Nat) (h_X12_sum : mj_Met l yX12_sum cX12_sum 2 (none) (d + 3) 0 0 (cq_X12_sum q.1)) (h_X12_term : mj_Met l yX12_term cX12_term 2 (none) (d + 3) 0 0 (cq_X12_term q.2.1)) (h_X12_atom : mj_Met l yX12_atom cX12_atom 2 (none) (d + 3) 0 0 (cq_X12_atom q.2.2.1)) (h_X12_condition : mj_Met l yX12_condition cX12_condition 2 (none) (d + 3) 0 0 (cq_X12_condition q.2.2.2.1)) (h_X12_part : mj_Met l yX12_part cX12_part 2 (none) (d + 3) 0 0 (cq_X12_part q.2.2.2.2.1)) (h_X12_unit : mj_Met l yX12_unit cX12_unit 2 (none) (d + 3) 0 0 (cq_X12_unit q.2.2.2.2.2.1)) (h_X12_compare : mj_Met l yX12_compare cX12_compare 2 (none) (d + 3) 0 0 (cq_X12_compare q.2.2.2.2.2.2)) : mj_Met l yX12_sum cX12_sum 2 (none) (d + 1 + 3) 0 0 (cq_X12_sum (F_X12_sum q)) := by
  refine mj_body2 false (TbX12 2 (none) (ct_X12_sum q)) (by decide) rfl rfl (fun h => nomatch h) (tfX12 _ (List.forall_mem_cons.mpr ⟨cfX12_321 (m_X12_look l) (by omega), List.forall_mem_cons.mpr ⟨cfX12_328 (m_X12_say l) (by omega), List.forall_mem_cons.mpr ⟨cfX12_351 h_X12_term (by omega), fun _ h => nomatch h⟩⟩⟩)) ?_
  rintro as h k ⟨s, rfl, rfl, hw⟩
  exact ⟨rfl, fun G hG => g_X12_sum hG hw⟩
theorem m_X12_term_q (l : Launch) (q : RTM) (d : Nat) (h_X12_sum : mj_Met l yX12_sum cX12_sum 2 (none) (d + 3) 0 0 (cq_X12_sum q.1)) (h_X12_term : mj_Met l yX12_term cX12_term 2 (none) (d + 3) 0 0 (cq_X12_term q.2.1)) (h_X12_atom : mj_Met l yX12_atom cX12_atom 2 (none) (d + 3) 0 0 (cq_X12_atom q.2.2.1)) (h_X12_condition : mj_Met l yX12_condition cX12_condition 2 (none) (d + 3) 0 0 (cq_X12_condition q.2.2.2.1)) (h_X12_part : mj_Met l yX12_part cX12_part 2 (none) (d + 3) 0 0 (cq_X12_part q.2.2.2.2.1)) (h_X12_unit : mj_Met l yX12_unit cX12_unit 2 (none) (d + 3) 0 0 (cq_X12_unit q.2.2.2.2.2.1)) (h_X12_compare : mj_Met l yX12_compare cX12_compare 2 (none) (d + 3) 0 0 (cq_X12_compare q.2.2.2.2.2.2)) : mj_Met l yX12_term cX12_term 2 (none) (d + 1 + 3) 0 0 (cq_X12_term (F_X12_term q)) := by
  refine mj_body2 false (TbX12 2 (none) (ct_X12_term q)) (by decide) rfl rfl (fun h => nomatch h) (tfX12 _ (List.forall_mem_cons.mpr ⟨cfX12_321 (m_X12_look l) (by omega), List.forall_mem_cons.mpr ⟨cfX12_328 (m_X12_say l) (by omega), List.forall_mem_cons.mpr ⟨cfX12_348 h_X12_atom (by omega), fun _ h => nomatch h⟩⟩⟩)) ?_
  rintro as h k ⟨s, rfl, rfl, hw⟩
  exact ⟨rfl, fun G hG => g_X12_term hG hw⟩
theorem m_X12_atom_q (l : Launch) (q : RTM) (d : Nat) (h_X12_sum : mj_Met l yX12_sum cX12_sum 2 (none) (d + 3) 0 0 (cq_X12_sum q.1)) (h_X12_term : mj_Met l yX12_term cX12_term 2 (none) (d + 3) 0 0 (cq_X12_term q.2.1)) (h_X12_atom : mj_Met l yX12_atom cX12_atom 2 (none) (d + 3) 0 0 (cq_X12_atom q.2.2.1)) (h_X12_condition : mj_Met l yX12_condition cX12_condition 2 (none) (d + 3) 0 0 (cq_X12_condition q.2.2.2.1)) (h_X12_part : mj_Met l yX12_part cX12_part 2 (none) (d + 3) 0 0 (cq_X12_part q.2.2.2.2.1)) (h_X12_unit : mj_Met l yX12_unit cX12_unit 2 (none) (d + 3) 0 0 (cq_X12_unit q.2.2.2.2.2.1)) (h_X12_compare : mj_Met l yX12_compare cX12_compare 2 (none) (d + 3) 0 0 (cq_X12_compare q.2.2.2.2.2.2)) : mj_Met l yX12_atom cX12_atom 2 (none) (d + 1 + 3) 0 0 (cq_X12_atom (F_X12_atom q)) := by
  refine mj_body2 false (TbX12 2 (none) (ct_X12_atom q)) (by decide) rfl rfl (fun h => nomatch h) (tfX12 _ (List.forall_mem_cons.mpr ⟨cfX12_321 (m_X12_look l) (by omega), List.forall_mem_cons.mpr ⟨cfX12_328 (m_X12_say l) (by omega), List.forall_mem_cons.mpr ⟨cfX12_332 (m_X12_opens l) (by omega), List.forall_mem_cons.mpr ⟨cfX12_336 h_X12_sum (by omega), List.forall_mem_cons.mpr ⟨cfX12_339 (m_X12_closes l) (by omega), List.forall_mem_cons.mpr ⟨cfX12_342 (m_X12_isLetter l) (by omega), List.forall_mem_cons.mpr ⟨cfX12_345 (m_X12_number l) (by omega), fun _ h => nomatch h⟩⟩⟩⟩⟩⟩⟩)) ?_
  rintro as h k ⟨s, rfl, rfl, hw⟩
  exact ⟨rfl, fun G hG => g_X12_atom hG hw⟩
theorem m_X12_condition_q (l : Launch) (q : RTM) (d : Nat) (h_X12_sum : mj_Met l yX12_sum cX12_sum 2 (none) (d + 3) 0 0 (cq_X12_sum q.1)) (h_X12_term : mj_Met l yX12_term cX12_term 2 (none) (d + 3) 0 0 (cq_X12_term q.2.1)) (h_X12_atom : mj_Met l yX12_atom cX12_atom 2 (none) (d + 3) 0 0 (cq_X12_atom q.2.2.1)) (h_X12_condition : mj_Met l yX12_condition cX12_condition 2 (none) (d + 3) 0 0 (cq_X12_condition q.2.2.2.1)) (h_X12_part : mj_Met l yX12_part cX12_part 2 (none) (d + 3) 0 0 (cq_X12_part q.2.2.2.2.1)) (h_X12_unit : mj_Met l yX12_unit cX12_unit 2 (none) (d + 3) 0 0 (cq_X12_unit q.2.2.2.2.2.1)) (h_X12_compare : mj_Met l yX12_compare cX12_compare 2 (none) (d + 3) 0 0 (cq_X12_compare q.2.2.2.2.2.2)) : mj_Met l yX12_condition cX12_condition 2 (none) (d + 1 + 3) 0 0 (cq_X12_condition (F_X12_condition q)) := by
  refine mj_body2 false (TbX12 2 (none) (ct_X12_condition q)) (by decide) rfl rfl (fun h => nomatch h) (tfX12 _ (List.forall_mem_cons.mpr ⟨cfX12_321 (m_X12_look l) (by omega), List.forall_mem_cons.mpr ⟨cfX12_328 (m_X12_say l) (by omega), List.forall_mem_cons.mpr ⟨cfX12_367 h_X12_part (by omega), fun _ h => nomatch h⟩⟩⟩)) ?_
  rintro as h k ⟨v1, s, rfl, rfl, hw⟩
  exact ⟨rfl, fun G hG => g_X12_condition hG hw⟩
theorem m_X12_part_q (l : Launch) (q : RTM) (d : Nat) (h_X12_sum : mj_Met l yX12_sum cX12_sum 2 (none) (d + 3) 0 0 (cq_X12_sum q.1)) (h_X12_term : mj_Met l yX12_term cX12_term 2 (none) (d + 3) 0 0 (cq_X12_term q.2.1)) (h_X12_atom : mj_Met l yX12_atom cX12_atom 2 (none) (d + 3) 0 0 (cq_X12_atom q.2.2.1)) (h_X12_condition : mj_Met l yX12_condition cX12_condition 2 (none) (d + 3) 0 0 (cq_X12_condition q.2.2.2.1)) (h_X12_part : mj_Met l yX12_part cX12_part 2 (none) (d + 3) 0 0 (cq_X12_part q.2.2.2.2.1)) (h_X12_unit : mj_Met l yX12_unit cX12_unit 2 (none) (d + 3) 0 0 (cq_X12_unit q.2.2.2.2.2.1)) (h_X12_compare : mj_Met l yX12_compare cX12_compare 2 (none) (d + 3) 0 0 (cq_X12_compare q.2.2.2.2.2.2)) : mj_Met l yX12_part cX12_part 2 (none) (d + 1 + 3) 0 0 (cq_X12_part (F_X12_part q)) := by
  refine mj_body2 false (TbX12 2 (none) (ct_X12_part q)) (by decide) rfl rfl (fun h => nomatch h) (tfX12 _ (List.forall_mem_cons.mpr ⟨cfX12_321 (m_X12_look l) (by omega), List.forall_mem_cons.mpr ⟨cfX12_328 (m_X12_say l) (by omega), List.forall_mem_cons.mpr ⟨cfX12_357 h_X12_unit (by omega), List.forall_mem_cons.mpr ⟨cfX12_364 h_X12_compare (by omega), fun _ h => nomatch h⟩⟩⟩⟩)) ?_
  rintro as h k ⟨v1, s, rfl, rfl, hw⟩
  exact ⟨rfl, fun G hG => g_X12_part hG hw⟩
theorem m_X12_unit_q (l : Launch) (q : RTM) (d : Nat) (h_X12_sum : mj_Met l yX12_sum cX12_sum 2 (none) (d + 3) 0 0 (cq_X12_sum q.1)) (h_X12_term : mj_Met l yX12_term cX12_term 2 (none) (d + 3) 0 0 (cq_X12_term q.2.1)) (h_X12_atom : mj_Met l yX12_atom cX12_atom 2 (none) (d + 3) 0 0 (cq_X12_atom q.2.2.1)) (h_X12_condition : mj_Met l yX12_condition cX12_condition 2 (none) (d + 3) 0 0 (cq_X12_condition q.2.2.2.1)) (h_X12_part : mj_Met l yX12_part cX12_part 2 (none) (d + 3) 0 0 (cq_X12_part q.2.2.2.2.1)) (h_X12_unit : mj_Met l yX12_unit cX12_unit 2 (none) (d + 3) 0 0 (cq_X12_unit q.2.2.2.2.2.1)) (h_X12_compare : mj_Met l yX12_compare cX12_compare 2 (none) (d + 3) 0 0 (cq_X12_compare q.2.2.2.2.2.2)) : mj_Met l yX12_unit cX12_unit 2 (none) (d + 1 + 3) 0 0 (cq_X12_unit (F_X12_unit q)) := by
  refine mj_body2 false (TbX12 2 (none) (ct_X12_unit q)) (by decide) rfl rfl (fun h => nomatch h) (tfX12 _ (List.forall_mem_cons.mpr ⟨cfX12_321 (m_X12_look l) (by omega), List.forall_mem_cons.mpr ⟨cfX12_328 (m_X12_say l) (by omega), List.forall_mem_cons.mpr ⟨cfX12_332 (m_X12_opens l) (by omega), List.forall_mem_cons.mpr ⟨cfX12_336 h_X12_sum (by omega), List.forall_mem_cons.mpr ⟨cfX12_339 (m_X12_closes l) (by omega), List.forall_mem_cons.mpr ⟨cfX12_357 h_X12_unit (by omega), List.forall_mem_cons.mpr ⟨cfX12_360 h_X12_condition (by omega), List.forall_mem_cons.mpr ⟨cfX12_364 h_X12_compare (by omega), fun _ h => nomatch h⟩⟩⟩⟩⟩⟩⟩⟩)) ?_
  rintro as h k ⟨s, rfl, rfl, hw⟩
  exact ⟨rfl, fun G hG => g_X12_unit hG hw⟩
theorem m_X12_compare_q (l : Launch) (q : RTM) (d : Nat) (h_X12_sum : mj_Met l yX12_sum cX12_sum 2 (none) (d + 3) 0 0 (cq_X12_sum q.1)) (h_X12_term : mj_Met l yX12_term cX12_term 2 (none) (d + 3) 0 0 (cq_X12_term q.2.1)) (h_X12_atom : mj_Met l yX12_atom cX12_atom 2 (none) (d + 3) 0 0 (cq_X12_atom q.2.2.1)) (h_X12_condition : mj_Met l yX12_condition cX12_condition 2 (none) (d + 3) 0 0 (cq_X12_condition q.2.2.2.1)) (h_X12_part : mj_Met l yX12_part cX12_part 2 (none) (d + 3) 0 0 (cq_X12_part q.2.2.2.2.1)) (h_X12_unit : mj_Met l yX12_unit cX12_unit 2 (none) (d + 3) 0 0 (cq_X12_unit q.2.2.2.2.2.1)) (h_X12_compare : mj_Met l yX12_compare cX12_compare 2 (none) (d + 3) 0 0 (cq_X12_compare q.2.2.2.2.2.2)) : mj_Met l yX12_compare cX12_compare 2 (none) (d + 1 + 3) 0 0 (cq_X12_compare (F_X12_compare q)) := by
  refine mj_body2 false (TbX12 2 (none) (ct_X12_compare q)) (by decide) rfl rfl (fun h => nomatch h) (tfX12 _ (List.forall_mem_cons.mpr ⟨cfX12_318 (m_X12_bad l) (by omega), List.forall_mem_cons.mpr ⟨cfX12_321 (m_X12_look l) (by omega), List.forall_mem_cons.mpr ⟨cfX12_328 (m_X12_say l) (by omega), List.forall_mem_cons.mpr ⟨cfX12_336 h_X12_sum (by omega), List.forall_mem_cons.mpr ⟨cfX12_354 (m_X12_isSign l) (by omega), fun _ h => nomatch h⟩⟩⟩⟩⟩)) ?_
  rintro as h k ⟨s, rfl, rfl, hw⟩
  exact ⟨rfl, fun G hG => g_X12_compare hG hw⟩
theorem rg_M (l : Launch) : ∀ d : Nat, mj_Met l yX12_sum cX12_sum 2 (none) (d + 3) 0 0 (cq_X12_sum (RGM d).1) ∧ mj_Met l yX12_term cX12_term 2 (none) (d + 3) 0 0 (cq_X12_term (RGM d).2.1) ∧ mj_Met l yX12_atom cX12_atom 2 (none) (d + 3) 0 0 (cq_X12_atom (RGM d).2.2.1) ∧ mj_Met l yX12_condition cX12_condition 2 (none) (d + 3) 0 0 (cq_X12_condition (RGM d).2.2.2.1) ∧ mj_Met l yX12_part cX12_part 2 (none) (d + 3) 0 0 (cq_X12_part (RGM d).2.2.2.2.1) ∧ mj_Met l yX12_unit cX12_unit 2 (none) (d + 3) 0 0 (cq_X12_unit (RGM d).2.2.2.2.2.1) ∧ mj_Met l yX12_compare cX12_compare 2 (none) (d + 3) 0 0 (cq_X12_compare (RGM d).2.2.2.2.2.2)
  | 0 => ⟨fun _ _ _ _ _ _ as h k _ ⟨_, _, _, hw⟩ => absurd hw ok_none, fun _ _ _ _ _ _ as h k _ ⟨_, _, _, hw⟩ => absurd hw ok_none, fun _ _ _ _ _ _ as h k _ ⟨_, _, _, hw⟩ => absurd hw ok_none, fun _ _ _ _ _ _ as h k _ ⟨_, _, _, _, hw⟩ => absurd hw ok_none, fun _ _ _ _ _ _ as h k _ ⟨_, _, _, _, hw⟩ => absurd hw ok_none, fun _ _ _ _ _ _ as h k _ ⟨_, _, _, hw⟩ => absurd hw ok_none, fun _ _ _ _ _ _ as h k _ ⟨_, _, _, hw⟩ => absurd hw ok_none⟩
  | d + 1 => by
    obtain ⟨h0, h1, h2, h3, h4, h5, h6⟩ := rg_M l d
    exact ⟨m_X12_sum_q l (RGM d) d h0 h1 h2 h3 h4 h5 h6, m_X12_term_q l (RGM d) d h0 h1 h2 h3 h4 h5 h6, m_X12_atom_q l (RGM d) d h0 h1 h2 h3 h4 h5 h6, m_X12_condition_q l (RGM d) d h0 h1 h2 h3 h4 h5 h6, m_X12_part_q l (RGM d) d h0 h1 h2 h3 h4 h5 h6, m_X12_unit_q l (RGM d) d h0 h1 h2 h3 h4 h5 h6, m_X12_compare_q l (RGM d) d h0 h1 h2 h3 h4 h5 h6⟩
theorem m_X12_sum (l : Launch) : mj_Met l yX12_sum cX12_sum 2 (none) 67 0 0 (cq_X12_sum (RGM 64).1) := (rg_M l 64).1
theorem m_X12_term (l : Launch) : mj_Met l yX12_term cX12_term 2 (none) 67 0 0 (cq_X12_term (RGM 64).2.1) := (rg_M l 64).2.1
theorem m_X12_atom (l : Launch) : mj_Met l yX12_atom cX12_atom 2 (none) 67 0 0 (cq_X12_atom (RGM 64).2.2.1) := (rg_M l 64).2.2.1
theorem m_X12_condition (l : Launch) : mj_Met l yX12_condition cX12_condition 2 (none) 67 0 0 (cq_X12_condition (RGM 64).2.2.2.1) := (rg_M l 64).2.2.2.1
theorem m_X12_part (l : Launch) : mj_Met l yX12_part cX12_part 2 (none) 67 0 0 (cq_X12_part (RGM 64).2.2.2.2.1) := (rg_M l 64).2.2.2.2.1
theorem m_X12_unit (l : Launch) : mj_Met l yX12_unit cX12_unit 2 (none) 67 0 0 (cq_X12_unit (RGM 64).2.2.2.2.2.1) := (rg_M l 64).2.2.2.2.2.1
theorem m_X12_compare (l : Launch) : mj_Met l yX12_compare cX12_compare 2 (none) 67 0 0 (cq_X12_compare (RGM 64).2.2.2.2.2.2) := (rg_M l 64).2.2.2.2.2.2
def F_X12_isLabel (v0 : Int32) : Option (Int32) :=
  if v0 = 99 then
    some 1
  else
  if v0 = 102 then
    some 1
  else
  if v0 = 104 then
    some 1
  else
  if v0 = 115 then
    some 1
  else
  if v0 = 116 then
    some 1
  else
  if v0 = 118 then
    some 1
  else
  if v0 = 119 then
    some 1
  else
  some 0
theorem J_X12_isLabel : mj_t 1 99 = 100 ∧ mj_t 1 101 = 102 ∧ (0 ≤ ((1 : Nat) : Int) + 99) = True ∧ (0 ≤ ((1 : Nat) : Int) + 101) = True := by and_intros <;> first | rfl | exact eq_true (by decide)
set_option maxHeartbeats 4000000 in
set_option maxRecDepth 20000 in
theorem g_X12_isLabel {k : Option Value → mj_H → Prop} {G : mj_K} (hG : mj_cl2 cX12_isLabel (TbX12 1 ((some FieldType.boolean)) []) k G) {h : mj_H} {v0 : Int32} (hw : ok (F_X12_isLabel v0) (fun p => k (some (.int p)) h)) : G 0 [.int v0] [] h 0 0 := by
  unfold F_X12_isLabel at hw
  refine mj_run hG.1 (fun _ => false) 4000 ?_
  simp only [mj_step, mj_W_s, mj_fin, List.getElem?_cons_zero, List.getElem?_cons_succ, mj_go, Nat.reduceAdd, Nat.reduceSub, Nat.reduceLT, Nat.reduceLeDiff, Nat.zero_add, Nat.reduceEqDiff, Nat.reduceBEq, ↓reduceIte, Bool.false_eq_true, List.append_nil, List.nil_append, List.cons_append, Option.toList, and_true, true_and, true_or, or_true, reduceCtorEq, List.map_nil, bI_eq0, bI_eq1, bool_ft, pk_us, vnar0, vnar1, Bool.or_false, Bool.or_true, Bool.false_or, Bool.true_or, mj_kne, eq_self, Int32.reduceLT, Int32.reduceLE, Int32.reduceAdd, Int32.reduceSub, Int32.reduceMul, not_true_eq_false, not_false_eq_true, false_implies, true_implies, D_X12_isLabel, mj_F_iconst_n, mj_F_iload_n_k, mj_F_ireturn, mj_kc, J_X12_isLabel]
  by_cases c1 : v0 = 99
  · replace hw := ok_t hw c1
    have c := c1
    refine mj_tsc 0 99 (by rw [show v0 = 99 from c]; decide) (by decide) rfl (by decide) ?_
    simp only [mj_step, mj_W_s, mj_fin, List.getElem?_cons_zero, List.getElem?_cons_succ, mj_go, Nat.reduceAdd, Nat.reduceSub, Nat.reduceLT, Nat.reduceLeDiff, Nat.zero_add, Nat.reduceEqDiff, Nat.reduceBEq, ↓reduceIte, Bool.false_eq_true, List.append_nil, List.nil_append, List.cons_append, Option.toList, and_true, true_and, true_or, or_true, reduceCtorEq, List.map_nil, bI_eq0, bI_eq1, bool_ft, pk_us, vnar0, vnar1, Bool.or_false, Bool.or_true, Bool.false_or, Bool.true_or, mj_kne, eq_self, Int32.reduceLT, Int32.reduceLE, Int32.reduceAdd, Int32.reduceSub, Int32.reduceMul, not_true_eq_false, not_false_eq_true, false_implies, true_implies, D_X12_isLabel, mj_F_iconst_n, mj_F_iload_n_k, mj_F_ireturn, mj_kc, J_X12_isLabel]
    exact (ok_some hw :)
  replace hw := ok_f hw c1
  by_cases c2 : v0 = 102
  · replace hw := ok_t hw c2
    have c := c2
    refine mj_tsc 3 99 (by rw [show v0 = 102 from c]; decide) (by decide) rfl (by decide) ?_
    simp only [mj_step, mj_W_s, mj_fin, List.getElem?_cons_zero, List.getElem?_cons_succ, mj_go, Nat.reduceAdd, Nat.reduceSub, Nat.reduceLT, Nat.reduceLeDiff, Nat.zero_add, Nat.reduceEqDiff, Nat.reduceBEq, ↓reduceIte, Bool.false_eq_true, List.append_nil, List.nil_append, List.cons_append, Option.toList, and_true, true_and, true_or, or_true, reduceCtorEq, List.map_nil, bI_eq0, bI_eq1, bool_ft, pk_us, vnar0, vnar1, Bool.or_false, Bool.or_true, Bool.false_or, Bool.true_or, mj_kne, eq_self, Int32.reduceLT, Int32.reduceLE, Int32.reduceAdd, Int32.reduceSub, Int32.reduceMul, not_true_eq_false, not_false_eq_true, false_implies, true_implies, D_X12_isLabel, mj_F_iconst_n, mj_F_iload_n_k, mj_F_ireturn, mj_kc, J_X12_isLabel]
    exact (ok_some hw :)
  replace hw := ok_f hw c2
  by_cases c3 : v0 = 104
  · replace hw := ok_t hw c3
    have c := c3
    refine mj_tsc 5 99 (by rw [show v0 = 104 from c]; decide) (by decide) rfl (by decide) ?_
    simp only [mj_step, mj_W_s, mj_fin, List.getElem?_cons_zero, List.getElem?_cons_succ, mj_go, Nat.reduceAdd, Nat.reduceSub, Nat.reduceLT, Nat.reduceLeDiff, Nat.zero_add, Nat.reduceEqDiff, Nat.reduceBEq, ↓reduceIte, Bool.false_eq_true, List.append_nil, List.nil_append, List.cons_append, Option.toList, and_true, true_and, true_or, or_true, reduceCtorEq, List.map_nil, bI_eq0, bI_eq1, bool_ft, pk_us, vnar0, vnar1, Bool.or_false, Bool.or_true, Bool.false_or, Bool.true_or, mj_kne, eq_self, Int32.reduceLT, Int32.reduceLE, Int32.reduceAdd, Int32.reduceSub, Int32.reduceMul, not_true_eq_false, not_false_eq_true, false_implies, true_implies, D_X12_isLabel, mj_F_iconst_n, mj_F_iload_n_k, mj_F_ireturn, mj_kc, J_X12_isLabel]
    exact (ok_some hw :)
  replace hw := ok_f hw c3
  by_cases c4 : v0 = 115
  · replace hw := ok_t hw c4
    have c := c4
    refine mj_tsc 16 99 (by rw [show v0 = 115 from c]; decide) (by decide) rfl (by decide) ?_
    simp only [mj_step, mj_W_s, mj_fin, List.getElem?_cons_zero, List.getElem?_cons_succ, mj_go, Nat.reduceAdd, Nat.reduceSub, Nat.reduceLT, Nat.reduceLeDiff, Nat.zero_add, Nat.reduceEqDiff, Nat.reduceBEq, ↓reduceIte, Bool.false_eq_true, List.append_nil, List.nil_append, List.cons_append, Option.toList, and_true, true_and, true_or, or_true, reduceCtorEq, List.map_nil, bI_eq0, bI_eq1, bool_ft, pk_us, vnar0, vnar1, Bool.or_false, Bool.or_true, Bool.false_or, Bool.true_or, mj_kne, eq_self, Int32.reduceLT, Int32.reduceLE, Int32.reduceAdd, Int32.reduceSub, Int32.reduceMul, not_true_eq_false, not_false_eq_true, false_implies, true_implies, D_X12_isLabel, mj_F_iconst_n, mj_F_iload_n_k, mj_F_ireturn, mj_kc, J_X12_isLabel]
    exact (ok_some hw :)
  replace hw := ok_f hw c4
  by_cases c5 : v0 = 116
  · replace hw := ok_t hw c5
    have c := c5
    refine mj_tsc 17 99 (by rw [show v0 = 116 from c]; decide) (by decide) rfl (by decide) ?_
    simp only [mj_step, mj_W_s, mj_fin, List.getElem?_cons_zero, List.getElem?_cons_succ, mj_go, Nat.reduceAdd, Nat.reduceSub, Nat.reduceLT, Nat.reduceLeDiff, Nat.zero_add, Nat.reduceEqDiff, Nat.reduceBEq, ↓reduceIte, Bool.false_eq_true, List.append_nil, List.nil_append, List.cons_append, Option.toList, and_true, true_and, true_or, or_true, reduceCtorEq, List.map_nil, bI_eq0, bI_eq1, bool_ft, pk_us, vnar0, vnar1, Bool.or_false, Bool.or_true, Bool.false_or, Bool.true_or, mj_kne, eq_self, Int32.reduceLT, Int32.reduceLE, Int32.reduceAdd, Int32.reduceSub, Int32.reduceMul, not_true_eq_false, not_false_eq_true, false_implies, true_implies, D_X12_isLabel, mj_F_iconst_n, mj_F_iload_n_k, mj_F_ireturn, mj_kc, J_X12_isLabel]
    exact (ok_some hw :)
  replace hw := ok_f hw c5
  by_cases c6 : v0 = 118
  · replace hw := ok_t hw c6
    have c := c6
    refine mj_tsc 19 99 (by rw [show v0 = 118 from c]; decide) (by decide) rfl (by decide) ?_
    simp only [mj_step, mj_W_s, mj_fin, List.getElem?_cons_zero, List.getElem?_cons_succ, mj_go, Nat.reduceAdd, Nat.reduceSub, Nat.reduceLT, Nat.reduceLeDiff, Nat.zero_add, Nat.reduceEqDiff, Nat.reduceBEq, ↓reduceIte, Bool.false_eq_true, List.append_nil, List.nil_append, List.cons_append, Option.toList, and_true, true_and, true_or, or_true, reduceCtorEq, List.map_nil, bI_eq0, bI_eq1, bool_ft, pk_us, vnar0, vnar1, Bool.or_false, Bool.or_true, Bool.false_or, Bool.true_or, mj_kne, eq_self, Int32.reduceLT, Int32.reduceLE, Int32.reduceAdd, Int32.reduceSub, Int32.reduceMul, not_true_eq_false, not_false_eq_true, false_implies, true_implies, D_X12_isLabel, mj_F_iconst_n, mj_F_iload_n_k, mj_F_ireturn, mj_kc, J_X12_isLabel]
    exact (ok_some hw :)
  replace hw := ok_f hw c6
  by_cases c7 : v0 = 119
  · replace hw := ok_t hw c7
    have c := c7
    refine mj_tsc 20 99 (by rw [show v0 = 119 from c]; decide) (by decide) rfl (by decide) ?_
    simp only [mj_step, mj_W_s, mj_fin, List.getElem?_cons_zero, List.getElem?_cons_succ, mj_go, Nat.reduceAdd, Nat.reduceSub, Nat.reduceLT, Nat.reduceLeDiff, Nat.zero_add, Nat.reduceEqDiff, Nat.reduceBEq, ↓reduceIte, Bool.false_eq_true, List.append_nil, List.nil_append, List.cons_append, Option.toList, and_true, true_and, true_or, or_true, reduceCtorEq, List.map_nil, bI_eq0, bI_eq1, bool_ft, pk_us, vnar0, vnar1, Bool.or_false, Bool.or_true, Bool.false_or, Bool.true_or, mj_kne, eq_self, Int32.reduceLT, Int32.reduceLE, Int32.reduceAdd, Int32.reduceSub, Int32.reduceMul, not_true_eq_false, not_false_eq_true, false_implies, true_implies, D_X12_isLabel, mj_F_iconst_n, mj_F_iload_n_k, mj_F_ireturn, mj_kc, J_X12_isLabel]
    exact (ok_some hw :)
  replace hw := ok_f hw c7
  by_cases c8 : v0 = 100
  · have c := c8
    refine mj_tsc 1 101 (by rw [show v0 = 100 from c]; decide) (by decide) rfl (by decide) ?_
    simp only [mj_step, mj_W_s, mj_fin, List.getElem?_cons_zero, List.getElem?_cons_succ, mj_go, Nat.reduceAdd, Nat.reduceSub, Nat.reduceLT, Nat.reduceLeDiff, Nat.zero_add, Nat.reduceEqDiff, Nat.reduceBEq, ↓reduceIte, Bool.false_eq_true, List.append_nil, List.nil_append, List.cons_append, Option.toList, and_true, true_and, true_or, or_true, reduceCtorEq, List.map_nil, bI_eq0, bI_eq1, bool_ft, pk_us, vnar0, vnar1, Bool.or_false, Bool.or_true, Bool.false_or, Bool.true_or, mj_kne, eq_self, Int32.reduceLT, Int32.reduceLE, Int32.reduceAdd, Int32.reduceSub, Int32.reduceMul, not_true_eq_false, not_false_eq_true, false_implies, true_implies, D_X12_isLabel, mj_F_iconst_n, mj_F_iload_n_k, mj_F_ireturn, mj_kc, J_X12_isLabel]
    exact (ok_some hw :)
  by_cases c9 : v0 = 101
  · have c := c9
    refine mj_tsc 2 101 (by rw [show v0 = 101 from c]; decide) (by decide) rfl (by decide) ?_
    simp only [mj_step, mj_W_s, mj_fin, List.getElem?_cons_zero, List.getElem?_cons_succ, mj_go, Nat.reduceAdd, Nat.reduceSub, Nat.reduceLT, Nat.reduceLeDiff, Nat.zero_add, Nat.reduceEqDiff, Nat.reduceBEq, ↓reduceIte, Bool.false_eq_true, List.append_nil, List.nil_append, List.cons_append, Option.toList, and_true, true_and, true_or, or_true, reduceCtorEq, List.map_nil, bI_eq0, bI_eq1, bool_ft, pk_us, vnar0, vnar1, Bool.or_false, Bool.or_true, Bool.false_or, Bool.true_or, mj_kne, eq_self, Int32.reduceLT, Int32.reduceLE, Int32.reduceAdd, Int32.reduceSub, Int32.reduceMul, not_true_eq_false, not_false_eq_true, false_implies, true_implies, D_X12_isLabel, mj_F_iconst_n, mj_F_iload_n_k, mj_F_ireturn, mj_kc, J_X12_isLabel]
    exact (ok_some hw :)
  by_cases c10 : v0 = 103
  · have c := c10
    refine mj_tsc 4 101 (by rw [show v0 = 103 from c]; decide) (by decide) rfl (by decide) ?_
    simp only [mj_step, mj_W_s, mj_fin, List.getElem?_cons_zero, List.getElem?_cons_succ, mj_go, Nat.reduceAdd, Nat.reduceSub, Nat.reduceLT, Nat.reduceLeDiff, Nat.zero_add, Nat.reduceEqDiff, Nat.reduceBEq, ↓reduceIte, Bool.false_eq_true, List.append_nil, List.nil_append, List.cons_append, Option.toList, and_true, true_and, true_or, or_true, reduceCtorEq, List.map_nil, bI_eq0, bI_eq1, bool_ft, pk_us, vnar0, vnar1, Bool.or_false, Bool.or_true, Bool.false_or, Bool.true_or, mj_kne, eq_self, Int32.reduceLT, Int32.reduceLE, Int32.reduceAdd, Int32.reduceSub, Int32.reduceMul, not_true_eq_false, not_false_eq_true, false_implies, true_implies, D_X12_isLabel, mj_F_iconst_n, mj_F_iload_n_k, mj_F_ireturn, mj_kc, J_X12_isLabel]
    exact (ok_some hw :)
  by_cases c11 : v0 = 105
  · have c := c11
    refine mj_tsc 6 101 (by rw [show v0 = 105 from c]; decide) (by decide) rfl (by decide) ?_
    simp only [mj_step, mj_W_s, mj_fin, List.getElem?_cons_zero, List.getElem?_cons_succ, mj_go, Nat.reduceAdd, Nat.reduceSub, Nat.reduceLT, Nat.reduceLeDiff, Nat.zero_add, Nat.reduceEqDiff, Nat.reduceBEq, ↓reduceIte, Bool.false_eq_true, List.append_nil, List.nil_append, List.cons_append, Option.toList, and_true, true_and, true_or, or_true, reduceCtorEq, List.map_nil, bI_eq0, bI_eq1, bool_ft, pk_us, vnar0, vnar1, Bool.or_false, Bool.or_true, Bool.false_or, Bool.true_or, mj_kne, eq_self, Int32.reduceLT, Int32.reduceLE, Int32.reduceAdd, Int32.reduceSub, Int32.reduceMul, not_true_eq_false, not_false_eq_true, false_implies, true_implies, D_X12_isLabel, mj_F_iconst_n, mj_F_iload_n_k, mj_F_ireturn, mj_kc, J_X12_isLabel]
    exact (ok_some hw :)
  by_cases c12 : v0 = 106
  · have c := c12
    refine mj_tsc 7 101 (by rw [show v0 = 106 from c]; decide) (by decide) rfl (by decide) ?_
    simp only [mj_step, mj_W_s, mj_fin, List.getElem?_cons_zero, List.getElem?_cons_succ, mj_go, Nat.reduceAdd, Nat.reduceSub, Nat.reduceLT, Nat.reduceLeDiff, Nat.zero_add, Nat.reduceEqDiff, Nat.reduceBEq, ↓reduceIte, Bool.false_eq_true, List.append_nil, List.nil_append, List.cons_append, Option.toList, and_true, true_and, true_or, or_true, reduceCtorEq, List.map_nil, bI_eq0, bI_eq1, bool_ft, pk_us, vnar0, vnar1, Bool.or_false, Bool.or_true, Bool.false_or, Bool.true_or, mj_kne, eq_self, Int32.reduceLT, Int32.reduceLE, Int32.reduceAdd, Int32.reduceSub, Int32.reduceMul, not_true_eq_false, not_false_eq_true, false_implies, true_implies, D_X12_isLabel, mj_F_iconst_n, mj_F_iload_n_k, mj_F_ireturn, mj_kc, J_X12_isLabel]
    exact (ok_some hw :)
  by_cases c13 : v0 = 107
  · have c := c13
    refine mj_tsc 8 101 (by rw [show v0 = 107 from c]; decide) (by decide) rfl (by decide) ?_
    simp only [mj_step, mj_W_s, mj_fin, List.getElem?_cons_zero, List.getElem?_cons_succ, mj_go, Nat.reduceAdd, Nat.reduceSub, Nat.reduceLT, Nat.reduceLeDiff, Nat.zero_add, Nat.reduceEqDiff, Nat.reduceBEq, ↓reduceIte, Bool.false_eq_true, List.append_nil, List.nil_append, List.cons_append, Option.toList, and_true, true_and, true_or, or_true, reduceCtorEq, List.map_nil, bI_eq0, bI_eq1, bool_ft, pk_us, vnar0, vnar1, Bool.or_false, Bool.or_true, Bool.false_or, Bool.true_or, mj_kne, eq_self, Int32.reduceLT, Int32.reduceLE, Int32.reduceAdd, Int32.reduceSub, Int32.reduceMul, not_true_eq_false, not_false_eq_true, false_implies, true_implies, D_X12_isLabel, mj_F_iconst_n, mj_F_iload_n_k, mj_F_ireturn, mj_kc, J_X12_isLabel]
    exact (ok_some hw :)
  by_cases c14 : v0 = 108
  · have c := c14
    refine mj_tsc 9 101 (by rw [show v0 = 108 from c]; decide) (by decide) rfl (by decide) ?_
    simp only [mj_step, mj_W_s, mj_fin, List.getElem?_cons_zero, List.getElem?_cons_succ, mj_go, Nat.reduceAdd, Nat.reduceSub, Nat.reduceLT, Nat.reduceLeDiff, Nat.zero_add, Nat.reduceEqDiff, Nat.reduceBEq, ↓reduceIte, Bool.false_eq_true, List.append_nil, List.nil_append, List.cons_append, Option.toList, and_true, true_and, true_or, or_true, reduceCtorEq, List.map_nil, bI_eq0, bI_eq1, bool_ft, pk_us, vnar0, vnar1, Bool.or_false, Bool.or_true, Bool.false_or, Bool.true_or, mj_kne, eq_self, Int32.reduceLT, Int32.reduceLE, Int32.reduceAdd, Int32.reduceSub, Int32.reduceMul, not_true_eq_false, not_false_eq_true, false_implies, true_implies, D_X12_isLabel, mj_F_iconst_n, mj_F_iload_n_k, mj_F_ireturn, mj_kc, J_X12_isLabel]
    exact (ok_some hw :)
  by_cases c15 : v0 = 109
  · have c := c15
    refine mj_tsc 10 101 (by rw [show v0 = 109 from c]; decide) (by decide) rfl (by decide) ?_
    simp only [mj_step, mj_W_s, mj_fin, List.getElem?_cons_zero, List.getElem?_cons_succ, mj_go, Nat.reduceAdd, Nat.reduceSub, Nat.reduceLT, Nat.reduceLeDiff, Nat.zero_add, Nat.reduceEqDiff, Nat.reduceBEq, ↓reduceIte, Bool.false_eq_true, List.append_nil, List.nil_append, List.cons_append, Option.toList, and_true, true_and, true_or, or_true, reduceCtorEq, List.map_nil, bI_eq0, bI_eq1, bool_ft, pk_us, vnar0, vnar1, Bool.or_false, Bool.or_true, Bool.false_or, Bool.true_or, mj_kne, eq_self, Int32.reduceLT, Int32.reduceLE, Int32.reduceAdd, Int32.reduceSub, Int32.reduceMul, not_true_eq_false, not_false_eq_true, false_implies, true_implies, D_X12_isLabel, mj_F_iconst_n, mj_F_iload_n_k, mj_F_ireturn, mj_kc, J_X12_isLabel]
    exact (ok_some hw :)
  by_cases c16 : v0 = 110
  · have c := c16
    refine mj_tsc 11 101 (by rw [show v0 = 110 from c]; decide) (by decide) rfl (by decide) ?_
    simp only [mj_step, mj_W_s, mj_fin, List.getElem?_cons_zero, List.getElem?_cons_succ, mj_go, Nat.reduceAdd, Nat.reduceSub, Nat.reduceLT, Nat.reduceLeDiff, Nat.zero_add, Nat.reduceEqDiff, Nat.reduceBEq, ↓reduceIte, Bool.false_eq_true, List.append_nil, List.nil_append, List.cons_append, Option.toList, and_true, true_and, true_or, or_true, reduceCtorEq, List.map_nil, bI_eq0, bI_eq1, bool_ft, pk_us, vnar0, vnar1, Bool.or_false, Bool.or_true, Bool.false_or, Bool.true_or, mj_kne, eq_self, Int32.reduceLT, Int32.reduceLE, Int32.reduceAdd, Int32.reduceSub, Int32.reduceMul, not_true_eq_false, not_false_eq_true, false_implies, true_implies, D_X12_isLabel, mj_F_iconst_n, mj_F_iload_n_k, mj_F_ireturn, mj_kc, J_X12_isLabel]
    exact (ok_some hw :)
  by_cases c17 : v0 = 111
  · have c := c17
    refine mj_tsc 12 101 (by rw [show v0 = 111 from c]; decide) (by decide) rfl (by decide) ?_
    simp only [mj_step, mj_W_s, mj_fin, List.getElem?_cons_zero, List.getElem?_cons_succ, mj_go, Nat.reduceAdd, Nat.reduceSub, Nat.reduceLT, Nat.reduceLeDiff, Nat.zero_add, Nat.reduceEqDiff, Nat.reduceBEq, ↓reduceIte, Bool.false_eq_true, List.append_nil, List.nil_append, List.cons_append, Option.toList, and_true, true_and, true_or, or_true, reduceCtorEq, List.map_nil, bI_eq0, bI_eq1, bool_ft, pk_us, vnar0, vnar1, Bool.or_false, Bool.or_true, Bool.false_or, Bool.true_or, mj_kne, eq_self, Int32.reduceLT, Int32.reduceLE, Int32.reduceAdd, Int32.reduceSub, Int32.reduceMul, not_true_eq_false, not_false_eq_true, false_implies, true_implies, D_X12_isLabel, mj_F_iconst_n, mj_F_iload_n_k, mj_F_ireturn, mj_kc, J_X12_isLabel]
    exact (ok_some hw :)
  by_cases c18 : v0 = 112
  · have c := c18
    refine mj_tsc 13 101 (by rw [show v0 = 112 from c]; decide) (by decide) rfl (by decide) ?_
    simp only [mj_step, mj_W_s, mj_fin, List.getElem?_cons_zero, List.getElem?_cons_succ, mj_go, Nat.reduceAdd, Nat.reduceSub, Nat.reduceLT, Nat.reduceLeDiff, Nat.zero_add, Nat.reduceEqDiff, Nat.reduceBEq, ↓reduceIte, Bool.false_eq_true, List.append_nil, List.nil_append, List.cons_append, Option.toList, and_true, true_and, true_or, or_true, reduceCtorEq, List.map_nil, bI_eq0, bI_eq1, bool_ft, pk_us, vnar0, vnar1, Bool.or_false, Bool.or_true, Bool.false_or, Bool.true_or, mj_kne, eq_self, Int32.reduceLT, Int32.reduceLE, Int32.reduceAdd, Int32.reduceSub, Int32.reduceMul, not_true_eq_false, not_false_eq_true, false_implies, true_implies, D_X12_isLabel, mj_F_iconst_n, mj_F_iload_n_k, mj_F_ireturn, mj_kc, J_X12_isLabel]
    exact (ok_some hw :)
  by_cases c19 : v0 = 113
  · have c := c19
    refine mj_tsc 14 101 (by rw [show v0 = 113 from c]; decide) (by decide) rfl (by decide) ?_
    simp only [mj_step, mj_W_s, mj_fin, List.getElem?_cons_zero, List.getElem?_cons_succ, mj_go, Nat.reduceAdd, Nat.reduceSub, Nat.reduceLT, Nat.reduceLeDiff, Nat.zero_add, Nat.reduceEqDiff, Nat.reduceBEq, ↓reduceIte, Bool.false_eq_true, List.append_nil, List.nil_append, List.cons_append, Option.toList, and_true, true_and, true_or, or_true, reduceCtorEq, List.map_nil, bI_eq0, bI_eq1, bool_ft, pk_us, vnar0, vnar1, Bool.or_false, Bool.or_true, Bool.false_or, Bool.true_or, mj_kne, eq_self, Int32.reduceLT, Int32.reduceLE, Int32.reduceAdd, Int32.reduceSub, Int32.reduceMul, not_true_eq_false, not_false_eq_true, false_implies, true_implies, D_X12_isLabel, mj_F_iconst_n, mj_F_iload_n_k, mj_F_ireturn, mj_kc, J_X12_isLabel]
    exact (ok_some hw :)
  by_cases c20 : v0 = 114
  · have c := c20
    refine mj_tsc 15 101 (by rw [show v0 = 114 from c]; decide) (by decide) rfl (by decide) ?_
    simp only [mj_step, mj_W_s, mj_fin, List.getElem?_cons_zero, List.getElem?_cons_succ, mj_go, Nat.reduceAdd, Nat.reduceSub, Nat.reduceLT, Nat.reduceLeDiff, Nat.zero_add, Nat.reduceEqDiff, Nat.reduceBEq, ↓reduceIte, Bool.false_eq_true, List.append_nil, List.nil_append, List.cons_append, Option.toList, and_true, true_and, true_or, or_true, reduceCtorEq, List.map_nil, bI_eq0, bI_eq1, bool_ft, pk_us, vnar0, vnar1, Bool.or_false, Bool.or_true, Bool.false_or, Bool.true_or, mj_kne, eq_self, Int32.reduceLT, Int32.reduceLE, Int32.reduceAdd, Int32.reduceSub, Int32.reduceMul, not_true_eq_false, not_false_eq_true, false_implies, true_implies, D_X12_isLabel, mj_F_iconst_n, mj_F_iload_n_k, mj_F_ireturn, mj_kc, J_X12_isLabel]
    exact (ok_some hw :)
  by_cases c21 : v0 = 117
  · have c := c21
    refine mj_tsc 18 101 (by rw [show v0 = 117 from c]; decide) (by decide) rfl (by decide) ?_
    simp only [mj_step, mj_W_s, mj_fin, List.getElem?_cons_zero, List.getElem?_cons_succ, mj_go, Nat.reduceAdd, Nat.reduceSub, Nat.reduceLT, Nat.reduceLeDiff, Nat.zero_add, Nat.reduceEqDiff, Nat.reduceBEq, ↓reduceIte, Bool.false_eq_true, List.append_nil, List.nil_append, List.cons_append, Option.toList, and_true, true_and, true_or, or_true, reduceCtorEq, List.map_nil, bI_eq0, bI_eq1, bool_ft, pk_us, vnar0, vnar1, Bool.or_false, Bool.or_true, Bool.false_or, Bool.true_or, mj_kne, eq_self, Int32.reduceLT, Int32.reduceLE, Int32.reduceAdd, Int32.reduceSub, Int32.reduceMul, not_true_eq_false, not_false_eq_true, false_implies, true_implies, D_X12_isLabel, mj_F_iconst_n, mj_F_iload_n_k, mj_F_ireturn, mj_kc, J_X12_isLabel]
    exact (ok_some hw :)
  refine mj_tsd (mj_tsr [99, 100, 101, 102, 103, 104, 105, 106, 107, 108, 109, 110, 111, 112, 113, 114, 115, 116, 117, 118, 119] (List.forall_mem_cons.mpr ⟨mj_nt c1 rfl, List.forall_mem_cons.mpr ⟨mj_nt c8 rfl, List.forall_mem_cons.mpr ⟨mj_nt c9 rfl, List.forall_mem_cons.mpr ⟨mj_nt c2 rfl, List.forall_mem_cons.mpr ⟨mj_nt c10 rfl, List.forall_mem_cons.mpr ⟨mj_nt c3 rfl, List.forall_mem_cons.mpr ⟨mj_nt c11 rfl, List.forall_mem_cons.mpr ⟨mj_nt c12 rfl, List.forall_mem_cons.mpr ⟨mj_nt c13 rfl, List.forall_mem_cons.mpr ⟨mj_nt c14 rfl, List.forall_mem_cons.mpr ⟨mj_nt c15 rfl, List.forall_mem_cons.mpr ⟨mj_nt c16 rfl, List.forall_mem_cons.mpr ⟨mj_nt c17 rfl, List.forall_mem_cons.mpr ⟨mj_nt c18 rfl, List.forall_mem_cons.mpr ⟨mj_nt c19 rfl, List.forall_mem_cons.mpr ⟨mj_nt c20 rfl, List.forall_mem_cons.mpr ⟨mj_nt c4 rfl, List.forall_mem_cons.mpr ⟨mj_nt c5 rfl, List.forall_mem_cons.mpr ⟨mj_nt c21 rfl, List.forall_mem_cons.mpr ⟨mj_nt c6 rfl, List.forall_mem_cons.mpr ⟨mj_nt c7 rfl, fun _ h => (nomatch h)⟩⟩⟩⟩⟩⟩⟩⟩⟩⟩⟩⟩⟩⟩⟩⟩⟩⟩⟩⟩⟩) (by decide)) (by decide) ?_
  simp only [mj_step, mj_W_s, mj_fin, List.getElem?_cons_zero, List.getElem?_cons_succ, mj_go, Nat.reduceAdd, Nat.reduceSub, Nat.reduceLT, Nat.reduceLeDiff, Nat.zero_add, Nat.reduceEqDiff, Nat.reduceBEq, ↓reduceIte, Bool.false_eq_true, List.append_nil, List.nil_append, List.cons_append, Option.toList, and_true, true_and, true_or, or_true, reduceCtorEq, List.map_nil, bI_eq0, bI_eq1, bool_ft, pk_us, vnar0, vnar1, Bool.or_false, Bool.or_true, Bool.false_or, Bool.true_or, mj_kne, eq_self, Int32.reduceLT, Int32.reduceLE, Int32.reduceAdd, Int32.reduceSub, Int32.reduceMul, not_true_eq_false, not_false_eq_true, false_implies, true_implies, D_X12_isLabel, mj_F_iconst_n, mj_F_iload_n_k, mj_F_ireturn, mj_kc, J_X12_isLabel]
  exact (ok_some hw :)

def c_X12_isLabel : mj_S := fun as h k => ∃ (v0 : Int32), as = [.int v0] ∧ ok (F_X12_isLabel v0) (fun p => k (some (.int p)) h)
theorem c_X12_isLabel_in {v0 : Int32} {h : mj_H} {k : Option Value → mj_H → Prop} (hw : ok (F_X12_isLabel v0) (fun p => k (some (.int p)) h)) : c_X12_isLabel [.int v0] h k := ⟨v0, rfl, hw⟩
theorem m_X12_isLabel (l : Launch) : mj_Met l yX12_isLabel cX12_isLabel 1 ((some FieldType.boolean)) 0 0 0 c_X12_isLabel := by
  refine mj_body2 false (TbX12 1 ((some FieldType.boolean)) []) (by decide) rfl rfl (fun h => nomatch h) (tfX12 _ (fun _ h => nomatch h)) ?_
  rintro as h k ⟨v0, rfl, hw⟩
  exact ⟨rfl, fun G hG => g_X12_isLabel hG hw⟩
def B_X12_clause_120 (v4 : Int32) : Int32 × St → Option ((Int32 × St) ⊕ ((St)))
  | (v5, s) =>
  if v5 < v4 then
    some (.inr s)
  else
    (rd s 1229 420 v5).bind fun x57 =>
    (wr s 1229 420 (v5 + 3) x57).bind fun s58 =>
    some (.inl ((v5 + (-1)), s58))
def F_X12_clause_149 (v4 : Int32) (s : St) : Option (St) :=
  (wr s 1229 420 v4 0).bind fun s59 =>
  (wr s59 1229 420 (v4 + 1) 1).bind fun s60 =>
  (wr s60 1229 420 (v4 + 2) 2).bind fun s61 =>
  (wI s61 1239 ((s61.1 1239) + 3)).bind fun s62 =>
  (F_X12_say 3 s62).bind fun s63 =>
  some s63
def F_X12_clause_120 (v4 : Int32) (v5 : Int32) (s : St) : Option (St) :=
  (lp (B_X12_clause_120 v4) FU (v5, s)).bind (fun y => F_X12_clause_149 v4 y)
def F_X12_clause (s : St) : Option (St) :=
  (F_X12_look s).bind fun r1 =>
  (F_X12_isLabel r1.1).bind fun r2 =>
  if r2 = 0 then
    (F_X12_bad r1.2).bind fun s56 =>
    some s56
  else
    (wI r1.2 1236 ((r1.2.1 1236) + 1)).bind fun s3 =>
    (F_X12_look s3).bind fun r4 =>
    if r4.1 = 58 then
      (wI r4.2 1236 ((r4.2.1 1236) + 1)).bind fun s5 =>
      (F_X12_say r1.1 s5).bind fun s6 =>
      (F_X12_look s6).bind fun r7 =>
      if r7.1 = 33 then
        ((RGM 64).2.2.2.1 0 r7.2).bind fun s8 =>
        if (s8.1 1237) = (-1) then
          (F_X12_look s8).bind fun r13 =>
          if r13.1 = 63 then
            if (r13.2.1 1237) = (-1) then
              (wI r13.2 1236 ((r13.2.1 1236) + 1)).bind fun s14 =>
              (F_X12_say 2 s14).bind fun s15 =>
              ((RGM 64).1 s15).bind fun s16 =>
              (F_X12_say 3 s16).bind fun s17 =>
              some s17
            else
              some r13.2
          else
            (F_X12_bad r13.2).bind fun s18 =>
            if (s18.1 1237) = (-1) then
              (wI s18 1236 ((s18.1 1236) + 1)).bind fun s19 =>
              (F_X12_say 2 s19).bind fun s20 =>
              ((RGM 64).1 s20).bind fun s21 =>
              (F_X12_say 3 s21).bind fun s22 =>
              some s22
            else
              some s18
        else
          if (s8.1 1237) = (-1) then
            (wI s8 1236 ((s8.1 1236) + 1)).bind fun s9 =>
            (F_X12_say 2 s9).bind fun s10 =>
            ((RGM 64).1 s10).bind fun s11 =>
            (F_X12_say 3 s11).bind fun s12 =>
            some s12
          else
            some s8
      else
        if r7.1 = 40 then
          ((RGM 64).2.2.2.1 0 r7.2).bind fun s23 =>
          if (s23.1 1237) = (-1) then
            (F_X12_look s23).bind fun r28 =>
            if r28.1 = 63 then
              if (r28.2.1 1237) = (-1) then
                (wI r28.2 1236 ((r28.2.1 1236) + 1)).bind fun s29 =>
                (F_X12_say 2 s29).bind fun s30 =>
                ((RGM 64).1 s30).bind fun s31 =>
                (F_X12_say 3 s31).bind fun s32 =>
                some s32
              else
                some r28.2
            else
              (F_X12_bad r28.2).bind fun s33 =>
              if (s33.1 1237) = (-1) then
                (wI s33 1236 ((s33.1 1236) + 1)).bind fun s34 =>
                (F_X12_say 2 s34).bind fun s35 =>
                ((RGM 64).1 s35).bind fun s36 =>
                (F_X12_say 3 s36).bind fun s37 =>
                some s37
              else
                some s33
          else
            if (s23.1 1237) = (-1) then
              (wI s23 1236 ((s23.1 1236) + 1)).bind fun s24 =>
              (F_X12_say 2 s24).bind fun s25 =>
              ((RGM 64).1 s25).bind fun s26 =>
              (F_X12_say 3 s26).bind fun s27 =>
              some s27
            else
              some s23
        else
          ((RGM 64).1 r7.2).bind fun s38 =>
          if (s38.1 1237) = (-1) then
            (F_X12_look s38).bind fun r39 =>
            if isRel r39.1 = false then
              F_X12_clause_120 (r7.2.1 1239) ((r39.2.1 1239) - 1) r39.2
            else
              ((RGM 64).2.2.2.1 1 r39.2).bind fun s40 =>
              if (s40.1 1237) = (-1) then
                (F_X12_look s40).bind fun r45 =>
                if r45.1 = 63 then
                  if (r45.2.1 1237) = (-1) then
                    (wI r45.2 1236 ((r45.2.1 1236) + 1)).bind fun s46 =>
                    (F_X12_say 2 s46).bind fun s47 =>
                    ((RGM 64).1 s47).bind fun s48 =>
                    (F_X12_say 3 s48).bind fun s49 =>
                    some s49
                  else
                    some r45.2
                else
                  (F_X12_bad r45.2).bind fun s50 =>
                  if (s50.1 1237) = (-1) then
                    (wI s50 1236 ((s50.1 1236) + 1)).bind fun s51 =>
                    (F_X12_say 2 s51).bind fun s52 =>
                    ((RGM 64).1 s52).bind fun s53 =>
                    (F_X12_say 3 s53).bind fun s54 =>
                    some s54
                  else
                    some s50
              else
                if (s40.1 1237) = (-1) then
                  (wI s40 1236 ((s40.1 1236) + 1)).bind fun s41 =>
                  (F_X12_say 2 s41).bind fun s42 =>
                  ((RGM 64).1 s42).bind fun s43 =>
                  (F_X12_say 3 s43).bind fun s44 =>
                  some s44
                else
                  some s40
          else
            some s38
    else
      (F_X12_bad r4.2).bind fun s55 =>
      some s55
theorem J_X12_clause : mj_t 9 8 = 17 ∧ mj_t 33 8 = 41 ∧ mj_t 64 13 = 77 ∧ mj_t 70 7 = 77 ∧ mj_t 74 4 = 78 ∧ mj_t 86 107 = 193 ∧ mj_t 98 4 = 102 ∧ mj_t 109 84 = 193 ∧ mj_t 124 25 = 149 ∧ mj_t 146 (-26) = 120 ∧ mj_t 203 16 = 219 ∧ mj_t 212 7 = 219 ∧ mj_t 224 4 = 228 ∧ (0 ≤ ((9 : Nat) : Int) + 8) = True ∧ (0 ≤ ((33 : Nat) : Int) + 8) = True ∧ (0 ≤ ((64 : Nat) : Int) + 13) = True ∧ (0 ≤ ((70 : Nat) : Int) + 7) = True ∧ (0 ≤ ((74 : Nat) : Int) + 4) = True ∧ (0 ≤ ((86 : Nat) : Int) + 107) = True ∧ (0 ≤ ((98 : Nat) : Int) + 4) = True ∧ (0 ≤ ((109 : Nat) : Int) + 84) = True ∧ (0 ≤ ((124 : Nat) : Int) + 25) = True ∧ (0 ≤ ((146 : Nat) : Int) + (-26)) = True ∧ (0 ≤ ((203 : Nat) : Int) + 16) = True ∧ (0 ≤ ((212 : Nat) : Int) + 7) = True ∧ (0 ≤ ((224 : Nat) : Int) + 4) = True := by and_intros <;> first | rfl | exact eq_true (by decide)
def ct_X12_clause : List (Nat × mj_Cs) := [(318, 0, 1, 12, 0, 0, c_X12_bad), (321, 0, 1, 12, 0, 0, c_X12_look), (328, 0, 2, 12, 0, 0, c_X12_say), (336, 0, 1, 12, 0, 0, (cq_X12_sum (RGM 64).1)), (354, 2, 1, 12, 0, 0, c_isRel), (360, 0, 2, 12, 0, 0, (cq_X12_condition (RGM 64).2.2.2.1)), (370, 2, 1, 12, 0, 0, c_X12_isLabel)]
theorem L_X12_clause : mj_lk ct_X12_clause 318 = some (0, 1, 12, 0, 0, c_X12_bad) ∧ mj_lk ct_X12_clause 321 = some (0, 1, 12, 0, 0, c_X12_look) ∧ mj_lk ct_X12_clause 328 = some (0, 2, 12, 0, 0, c_X12_say) ∧ mj_lk ct_X12_clause 336 = some (0, 1, 12, 0, 0, (cq_X12_sum (RGM 64).1)) ∧ mj_lk ct_X12_clause 354 = some (2, 1, 12, 0, 0, c_isRel) ∧ mj_lk ct_X12_clause 360 = some (0, 2, 12, 0, 0, (cq_X12_condition (RGM 64).2.2.2.1)) ∧ mj_lk ct_X12_clause 370 = some (2, 1, 12, 0, 0, c_X12_isLabel) := ⟨rfl, rfl, rfl, rfl, rfl, rfl, rfl⟩
set_option maxHeartbeats 4000000 in
set_option maxRecDepth 20000 in
theorem b_X12_clause_120 {k : Option Value → mj_H → Prop} {G : mj_K} (hG : mj_cl2 cX12_clause (TbX12 6 (none) ct_X12_clause) k G) {v4 : Int32} {P : Int32 × St → Prop} {K : (St) → Prop} (hP : ∀ x, P x → G 120 [.ref 0, mj_unk, mj_unk, mj_unk, .int v4, .int x.1] [] (mkMs x.2) 0 0) (hK0 : ∀ y, K y → G 149 [.ref 0, mj_unk, mj_unk, mj_unk, .int v4] [] (mkMs y) 0 0) {v5 : Int32} {s : St} (hw : ok (B_X12_clause_120 v4 (v5, s)) (Sum.elim P K)) : G 120 [.ref 0, mj_unk, mj_unk, mj_unk, .int v4, .int v5] [] (mkMs s) 0 0 := by
  unfold B_X12_clause_120 at hw
  refine mj_run hG.1 (fun pc => pc == 4 || pc == 9 || pc == 16 || pc == 31 || pc == 40 || pc == 56 || pc == 60 || pc == 93 || pc == 106 || pc == 120 || pc == 149 || pc == 192 || pc == 198 || pc == 210 || pc == 219 || pc == 243 || pc == 247 || pc == 252) 4000 ?_
  simp only [mj_step, mj_W_s, mj_fin, List.getElem?_cons_zero, List.getElem?_cons_succ, mj_go, Nat.reduceAdd, Nat.reduceSub, Nat.reduceLT, Nat.reduceLeDiff, Nat.zero_add, Nat.reduceEqDiff, Nat.reduceBEq, ↓reduceIte, Bool.false_eq_true, List.append_nil, List.nil_append, List.cons_append, Option.toList, and_true, true_and, true_or, or_true, reduceCtorEq, List.map_nil, bI_eq0, bI_eq1, bool_ft, pk_us, vnar0, vnar1, Bool.or_false, Bool.or_true, Bool.false_or, Bool.true_or, mj_kne, eq_self, Int32.reduceLT, Int32.reduceLE, Int32.reduceAdd, Int32.reduceSub, Int32.reduceMul, not_true_eq_false, not_false_eq_true, false_implies, true_implies, D_X12_clause_0, D_X12_clause_1, D_X12_clause_2, mj_F_aload_n_k, mj_F_bipush_n, mj_F_dup, mj_F_getfield_i, mj_F_goto_off, mj_F_iadd, mj_F_iaload, mj_F_iastore, mj_F_iconst_n, mj_F_ifCond_eq_off, mj_F_ifCond_ne_off, mj_F_if_icmp_eq_off, mj_F_if_icmp_lt_off, mj_F_if_icmp_ne_off, mj_F_iinc_k_n, mj_F_iload_k, mj_F_iload_n_k, mj_F_invokestatic_i, mj_F_invokevirtual_i, mj_F_istore_k, mj_F_istore_n_k, mj_F_isub, mj_F_putfield_i, mj_F_return_, mj_set, mj_set0, mj_unk, mj_c2, mj_kc, FT_X12, FT_X12_1, PT_X12, L_X12_clause, List.take_succ_cons, List.take_zero, List.drop_succ_cons, List.drop_zero, List.reverse_cons, List.reverse_nil, List.length_cons, List.length_nil, gS_M0, gMf_36, sS_Mf_36, gMl, gMf_39, gMf_37, gMf_29, gS_M25, sS_Ma_25, sS_Mf_39, c_isRel_eq, J_X12_clause]
  refine ⟨fun c => ?_, fun c => ?_⟩
  · replace hw := ok_t hw c
    exact hG.2 _ _ _ _ _ _ _ _ _ (by refine ⟨Or.inr rfl, ?_⟩; refine ⟨Or.inl rfl, ?_⟩; refine ⟨Or.inl rfl, ?_⟩; refine ⟨Or.inl rfl, ?_⟩; refine ⟨Or.inr rfl, ?_⟩; exact trivial) (Nat.zero_le _) (Nat.zero_le _) (hK0 _ (ok_some hw :) :)
  · replace hw := ok_f hw c
    refine ⟨(ok_rd hw).1, ?_⟩
    replace hw := (ok_rd hw).2
    refine ⟨(ok_wr hw).1, ?_⟩
    replace hw := (ok_wr hw).2
    exact hG.2 _ _ _ _ _ _ _ _ _ (by refine ⟨Or.inr rfl, ?_⟩; refine ⟨Or.inl rfl, ?_⟩; refine ⟨Or.inl rfl, ?_⟩; refine ⟨Or.inl rfl, ?_⟩; refine ⟨Or.inr rfl, ?_⟩; refine ⟨Or.inr rfl, ?_⟩; exact trivial) (Nat.zero_le _) (Nat.zero_le _) (hP _ (ok_some hw :) :)

set_option maxHeartbeats 4000000 in
set_option maxRecDepth 20000 in
theorem g_X12_clause_149 {k : Option Value → mj_H → Prop} {G : mj_K} (hG : mj_cl2 cX12_clause (TbX12 6 (none) ct_X12_clause) k G)   {v4 : Int32} {s : St} (hw : ok (F_X12_clause_149 v4 s) (fun p => k none (mkMs p))) : G 149 [.ref 0, mj_unk, mj_unk, mj_unk, .int v4] [] (mkMs s) 0 0 := by
  unfold F_X12_clause_149 at hw
  refine mj_run hG.1 (fun pc => pc == 4 || pc == 9 || pc == 16 || pc == 31 || pc == 40 || pc == 56 || pc == 60 || pc == 93 || pc == 106 || pc == 120 || pc == 149 || pc == 192 || pc == 198 || pc == 210 || pc == 219 || pc == 243 || pc == 247 || pc == 252) 4000 ?_
  simp only [mj_step, mj_W_s, mj_fin, List.getElem?_cons_zero, List.getElem?_cons_succ, mj_go, Nat.reduceAdd, Nat.reduceSub, Nat.reduceLT, Nat.reduceLeDiff, Nat.zero_add, Nat.reduceEqDiff, Nat.reduceBEq, ↓reduceIte, Bool.false_eq_true, List.append_nil, List.nil_append, List.cons_append, Option.toList, and_true, true_and, true_or, or_true, reduceCtorEq, List.map_nil, bI_eq0, bI_eq1, bool_ft, pk_us, vnar0, vnar1, Bool.or_false, Bool.or_true, Bool.false_or, Bool.true_or, mj_kne, eq_self, Int32.reduceLT, Int32.reduceLE, Int32.reduceAdd, Int32.reduceSub, Int32.reduceMul, not_true_eq_false, not_false_eq_true, false_implies, true_implies, D_X12_clause_0, D_X12_clause_1, D_X12_clause_2, mj_F_aload_n_k, mj_F_bipush_n, mj_F_dup, mj_F_getfield_i, mj_F_goto_off, mj_F_iadd, mj_F_iaload, mj_F_iastore, mj_F_iconst_n, mj_F_ifCond_eq_off, mj_F_ifCond_ne_off, mj_F_if_icmp_eq_off, mj_F_if_icmp_lt_off, mj_F_if_icmp_ne_off, mj_F_iinc_k_n, mj_F_iload_k, mj_F_iload_n_k, mj_F_invokestatic_i, mj_F_invokevirtual_i, mj_F_istore_k, mj_F_istore_n_k, mj_F_isub, mj_F_putfield_i, mj_F_return_, mj_set, mj_set0, mj_unk, mj_c2, mj_kc, FT_X12, FT_X12_1, PT_X12, L_X12_clause, List.take_succ_cons, List.take_zero, List.drop_succ_cons, List.drop_zero, List.reverse_cons, List.reverse_nil, List.length_cons, List.length_nil, gS_M0, gMf_36, sS_Mf_36, gMl, gMf_39, gMf_37, gMf_29, gS_M25, sS_Ma_25, sS_Mf_39, c_isRel_eq, J_X12_clause]
  refine ⟨(ok_wr hw).1, ?_⟩
  replace hw := (ok_wr hw).2
  refine ⟨(ok_wr hw).1, ?_⟩
  replace hw := (ok_wr hw).2
  refine ⟨(ok_wr hw).1, ?_⟩
  replace hw := (ok_wr hw).2
  replace hw := ok_wI hw
  refine c_X12_say_in (ok_imp (ok_bind hw) ?_)
  intro p hw
  simp only [Option.toList, List.nil_append, List.cons_append, Nat.reduceSub]
  refine mj_run hG.1 (fun pc => pc == 4 || pc == 9 || pc == 16 || pc == 31 || pc == 40 || pc == 56 || pc == 60 || pc == 93 || pc == 106 || pc == 120 || pc == 149 || pc == 192 || pc == 198 || pc == 210 || pc == 219 || pc == 243 || pc == 247 || pc == 252) 4000 ?_
  simp only [mj_step, mj_W_s, mj_fin, List.getElem?_cons_zero, List.getElem?_cons_succ, mj_go, Nat.reduceAdd, Nat.reduceSub, Nat.reduceLT, Nat.reduceLeDiff, Nat.zero_add, Nat.reduceEqDiff, Nat.reduceBEq, ↓reduceIte, Bool.false_eq_true, List.append_nil, List.nil_append, List.cons_append, Option.toList, and_true, true_and, true_or, or_true, reduceCtorEq, List.map_nil, bI_eq0, bI_eq1, bool_ft, pk_us, vnar0, vnar1, Bool.or_false, Bool.or_true, Bool.false_or, Bool.true_or, mj_kne, eq_self, Int32.reduceLT, Int32.reduceLE, Int32.reduceAdd, Int32.reduceSub, Int32.reduceMul, not_true_eq_false, not_false_eq_true, false_implies, true_implies, D_X12_clause_0, D_X12_clause_1, D_X12_clause_2, mj_F_aload_n_k, mj_F_bipush_n, mj_F_dup, mj_F_getfield_i, mj_F_goto_off, mj_F_iadd, mj_F_iaload, mj_F_iastore, mj_F_iconst_n, mj_F_ifCond_eq_off, mj_F_ifCond_ne_off, mj_F_if_icmp_eq_off, mj_F_if_icmp_lt_off, mj_F_if_icmp_ne_off, mj_F_iinc_k_n, mj_F_iload_k, mj_F_iload_n_k, mj_F_invokestatic_i, mj_F_invokevirtual_i, mj_F_istore_k, mj_F_istore_n_k, mj_F_isub, mj_F_putfield_i, mj_F_return_, mj_set, mj_set0, mj_unk, mj_c2, mj_kc, FT_X12, FT_X12_1, PT_X12, L_X12_clause, List.take_succ_cons, List.take_zero, List.drop_succ_cons, List.drop_zero, List.reverse_cons, List.reverse_nil, List.length_cons, List.length_nil, gS_M0, gMf_36, sS_Mf_36, gMl, gMf_39, gMf_37, gMf_29, gS_M25, sS_Ma_25, sS_Mf_39, c_isRel_eq, J_X12_clause]
  exact (ok_some hw :)

set_option maxHeartbeats 4000000 in
theorem g_X12_clause_120 {k : Option Value → mj_H → Prop} {G : mj_K} (hG : mj_cl2 cX12_clause (TbX12 6 (none) ct_X12_clause) k G)   {v4 : Int32} {v5 : Int32} {s : St} (hw : ok (F_X12_clause_120 v4 v5 s) (fun p => k none (mkMs p))) : G 120 [.ref 0, mj_unk, mj_unk, mj_unk, .int v4, .int v5] [] (mkMs s) 0 0 := by
  unfold F_X12_clause_120 at hw
  refine lp_ok (B_X12_clause_120 v4) (fun x => G 120 [.ref 0, mj_unk, mj_unk, mj_unk, .int v4, .int x.1] [] (mkMs x.2) 0 0) _ ?_ _ _ (ok_bind hw)
  rintro ⟨v5, s⟩ hb
  exact b_X12_clause_120 hG (fun _ z => z) (fun y hw => by exact hG.2 _ _ _ _ _ _ _ _ _ (by refine ⟨Or.inr rfl, ?_⟩; refine ⟨Or.inl rfl, ?_⟩; refine ⟨Or.inl rfl, ?_⟩; refine ⟨Or.inl rfl, ?_⟩; refine ⟨Or.inr rfl, ?_⟩; exact trivial) (Nat.zero_le _) (Nat.zero_le _) (g_X12_clause_149 hG  hw :)) hb

set_option maxHeartbeats 4000000 in
set_option maxRecDepth 20000 in
theorem g_X12_clause {k : Option Value → mj_H → Prop} {G : mj_K} (hG : mj_cl2 cX12_clause (TbX12 6 (none) ct_X12_clause) k G) {s : St} (hw : ok (F_X12_clause s) (fun p => k none (mkMs p))) : G 0 [.ref 0] [] (mkMs s) 0 0 := by
  unfold F_X12_clause at hw
  refine mj_run hG.1 (fun pc => pc == 4 || pc == 9 || pc == 16 || pc == 31 || pc == 40 || pc == 56 || pc == 60 || pc == 93 || pc == 106 || pc == 120 || pc == 149 || pc == 192 || pc == 198 || pc == 210 || pc == 219 || pc == 243 || pc == 247 || pc == 252) 4000 ?_
  simp only [mj_step, mj_W_s, mj_fin, List.getElem?_cons_zero, List.getElem?_cons_succ, mj_go, Nat.reduceAdd, Nat.reduceSub, Nat.reduceLT, Nat.reduceLeDiff, Nat.zero_add, Nat.reduceEqDiff, Nat.reduceBEq, ↓reduceIte, Bool.false_eq_true, List.append_nil, List.nil_append, List.cons_append, Option.toList, and_true, true_and, true_or, or_true, reduceCtorEq, List.map_nil, bI_eq0, bI_eq1, bool_ft, pk_us, vnar0, vnar1, Bool.or_false, Bool.or_true, Bool.false_or, Bool.true_or, mj_kne, eq_self, Int32.reduceLT, Int32.reduceLE, Int32.reduceAdd, Int32.reduceSub, Int32.reduceMul, not_true_eq_false, not_false_eq_true, false_implies, true_implies, D_X12_clause_0, D_X12_clause_1, D_X12_clause_2, mj_F_aload_n_k, mj_F_bipush_n, mj_F_dup, mj_F_getfield_i, mj_F_goto_off, mj_F_iadd, mj_F_iaload, mj_F_iastore, mj_F_iconst_n, mj_F_ifCond_eq_off, mj_F_ifCond_ne_off, mj_F_if_icmp_eq_off, mj_F_if_icmp_lt_off, mj_F_if_icmp_ne_off, mj_F_iinc_k_n, mj_F_iload_k, mj_F_iload_n_k, mj_F_invokestatic_i, mj_F_invokevirtual_i, mj_F_istore_k, mj_F_istore_n_k, mj_F_isub, mj_F_putfield_i, mj_F_return_, mj_set, mj_set0, mj_unk, mj_c2, mj_kc, FT_X12, FT_X12_1, PT_X12, L_X12_clause, List.take_succ_cons, List.take_zero, List.drop_succ_cons, List.drop_zero, List.reverse_cons, List.reverse_nil, List.length_cons, List.length_nil, gS_M0, gMf_36, sS_Mf_36, gMl, gMf_39, gMf_37, gMf_29, gS_M25, sS_Ma_25, sS_Mf_39, c_isRel_eq, J_X12_clause]
  refine c_X12_look_in (ok_imp (ok_bind hw) ?_)
  intro p hw
  simp only [Option.toList, List.nil_append, List.cons_append, Nat.reduceSub]
  refine mj_run hG.1 (fun pc => pc == 4 || pc == 9 || pc == 16 || pc == 31 || pc == 40 || pc == 56 || pc == 60 || pc == 93 || pc == 106 || pc == 120 || pc == 149 || pc == 192 || pc == 198 || pc == 210 || pc == 219 || pc == 243 || pc == 247 || pc == 252) 4000 ?_
  simp only [mj_step, mj_W_s, mj_fin, List.getElem?_cons_zero, List.getElem?_cons_succ, mj_go, Nat.reduceAdd, Nat.reduceSub, Nat.reduceLT, Nat.reduceLeDiff, Nat.zero_add, Nat.reduceEqDiff, Nat.reduceBEq, ↓reduceIte, Bool.false_eq_true, List.append_nil, List.nil_append, List.cons_append, Option.toList, and_true, true_and, true_or, or_true, reduceCtorEq, List.map_nil, bI_eq0, bI_eq1, bool_ft, pk_us, vnar0, vnar1, Bool.or_false, Bool.or_true, Bool.false_or, Bool.true_or, mj_kne, eq_self, Int32.reduceLT, Int32.reduceLE, Int32.reduceAdd, Int32.reduceSub, Int32.reduceMul, not_true_eq_false, not_false_eq_true, false_implies, true_implies, D_X12_clause_0, D_X12_clause_1, D_X12_clause_2, mj_F_aload_n_k, mj_F_bipush_n, mj_F_dup, mj_F_getfield_i, mj_F_goto_off, mj_F_iadd, mj_F_iaload, mj_F_iastore, mj_F_iconst_n, mj_F_ifCond_eq_off, mj_F_ifCond_ne_off, mj_F_if_icmp_eq_off, mj_F_if_icmp_lt_off, mj_F_if_icmp_ne_off, mj_F_iinc_k_n, mj_F_iload_k, mj_F_iload_n_k, mj_F_invokestatic_i, mj_F_invokevirtual_i, mj_F_istore_k, mj_F_istore_n_k, mj_F_isub, mj_F_putfield_i, mj_F_return_, mj_set, mj_set0, mj_unk, mj_c2, mj_kc, FT_X12, FT_X12_1, PT_X12, L_X12_clause, List.take_succ_cons, List.take_zero, List.drop_succ_cons, List.drop_zero, List.reverse_cons, List.reverse_nil, List.length_cons, List.length_nil, gS_M0, gMf_36, sS_Mf_36, gMl, gMf_39, gMf_37, gMf_29, gS_M25, sS_Ma_25, sS_Mf_39, c_isRel_eq, J_X12_clause]
  refine c_X12_isLabel_in (ok_imp (ok_bind hw) ?_)
  intro p hw
  simp only [Option.toList, List.nil_append, List.cons_append, Nat.reduceSub]
  refine mj_run hG.1 (fun pc => pc == 4 || pc == 9 || pc == 16 || pc == 31 || pc == 40 || pc == 56 || pc == 60 || pc == 93 || pc == 106 || pc == 120 || pc == 149 || pc == 192 || pc == 198 || pc == 210 || pc == 219 || pc == 243 || pc == 247 || pc == 252) 4000 ?_
  simp only [mj_step, mj_W_s, mj_fin, List.getElem?_cons_zero, List.getElem?_cons_succ, mj_go, Nat.reduceAdd, Nat.reduceSub, Nat.reduceLT, Nat.reduceLeDiff, Nat.zero_add, Nat.reduceEqDiff, Nat.reduceBEq, ↓reduceIte, Bool.false_eq_true, List.append_nil, List.nil_append, List.cons_append, Option.toList, and_true, true_and, true_or, or_true, reduceCtorEq, List.map_nil, bI_eq0, bI_eq1, bool_ft, pk_us, vnar0, vnar1, Bool.or_false, Bool.or_true, Bool.false_or, Bool.true_or, mj_kne, eq_self, Int32.reduceLT, Int32.reduceLE, Int32.reduceAdd, Int32.reduceSub, Int32.reduceMul, not_true_eq_false, not_false_eq_true, false_implies, true_implies, D_X12_clause_0, D_X12_clause_1, D_X12_clause_2, mj_F_aload_n_k, mj_F_bipush_n, mj_F_dup, mj_F_getfield_i, mj_F_goto_off, mj_F_iadd, mj_F_iaload, mj_F_iastore, mj_F_iconst_n, mj_F_ifCond_eq_off, mj_F_ifCond_ne_off, mj_F_if_icmp_eq_off, mj_F_if_icmp_lt_off, mj_F_if_icmp_ne_off, mj_F_iinc_k_n, mj_F_iload_k, mj_F_iload_n_k, mj_F_invokestatic_i, mj_F_invokevirtual_i, mj_F_istore_k, mj_F_istore_n_k, mj_F_isub, mj_F_putfield_i, mj_F_return_, mj_set, mj_set0, mj_unk, mj_c2, mj_kc, FT_X12, FT_X12_1, PT_X12, L_X12_clause, List.take_succ_cons, List.take_zero, List.drop_succ_cons, List.drop_zero, List.reverse_cons, List.reverse_nil, List.length_cons, List.length_nil, gS_M0, gMf_36, sS_Mf_36, gMl, gMf_39, gMf_37, gMf_29, gS_M25, sS_Ma_25, sS_Mf_39, c_isRel_eq, J_X12_clause]
  refine ⟨fun c => ?_, fun c => ?_⟩
  · replace hw := ok_f hw c
    replace hw := ok_wI hw
    refine c_X12_look_in (ok_imp (ok_bind hw) ?_)
    intro p hw
    simp only [Option.toList, List.nil_append, List.cons_append, Nat.reduceSub]
    refine mj_run hG.1 (fun pc => pc == 4 || pc == 9 || pc == 16 || pc == 31 || pc == 40 || pc == 56 || pc == 60 || pc == 93 || pc == 106 || pc == 120 || pc == 149 || pc == 192 || pc == 198 || pc == 210 || pc == 219 || pc == 243 || pc == 247 || pc == 252) 4000 ?_
    simp only [mj_step, mj_W_s, mj_fin, List.getElem?_cons_zero, List.getElem?_cons_succ, mj_go, Nat.reduceAdd, Nat.reduceSub, Nat.reduceLT, Nat.reduceLeDiff, Nat.zero_add, Nat.reduceEqDiff, Nat.reduceBEq, ↓reduceIte, Bool.false_eq_true, List.append_nil, List.nil_append, List.cons_append, Option.toList, and_true, true_and, true_or, or_true, reduceCtorEq, List.map_nil, bI_eq0, bI_eq1, bool_ft, pk_us, vnar0, vnar1, Bool.or_false, Bool.or_true, Bool.false_or, Bool.true_or, mj_kne, eq_self, Int32.reduceLT, Int32.reduceLE, Int32.reduceAdd, Int32.reduceSub, Int32.reduceMul, not_true_eq_false, not_false_eq_true, false_implies, true_implies, D_X12_clause_0, D_X12_clause_1, D_X12_clause_2, mj_F_aload_n_k, mj_F_bipush_n, mj_F_dup, mj_F_getfield_i, mj_F_goto_off, mj_F_iadd, mj_F_iaload, mj_F_iastore, mj_F_iconst_n, mj_F_ifCond_eq_off, mj_F_ifCond_ne_off, mj_F_if_icmp_eq_off, mj_F_if_icmp_lt_off, mj_F_if_icmp_ne_off, mj_F_iinc_k_n, mj_F_iload_k, mj_F_iload_n_k, mj_F_invokestatic_i, mj_F_invokevirtual_i, mj_F_istore_k, mj_F_istore_n_k, mj_F_isub, mj_F_putfield_i, mj_F_return_, mj_set, mj_set0, mj_unk, mj_c2, mj_kc, FT_X12, FT_X12_1, PT_X12, L_X12_clause, List.take_succ_cons, List.take_zero, List.drop_succ_cons, List.drop_zero, List.reverse_cons, List.reverse_nil, List.length_cons, List.length_nil, gS_M0, gMf_36, sS_Mf_36, gMl, gMf_39, gMf_37, gMf_29, gS_M25, sS_Ma_25, sS_Mf_39, c_isRel_eq, J_X12_clause]
    refine ⟨fun c => ?_, fun c => ?_⟩
    · replace hw := ok_t hw c
      replace hw := ok_wI hw
      refine c_X12_say_in (ok_imp (ok_bind hw) ?_)
      intro p hw
      simp only [Option.toList, List.nil_append, List.cons_append, Nat.reduceSub]
      refine mj_run hG.1 (fun pc => pc == 4 || pc == 9 || pc == 16 || pc == 31 || pc == 40 || pc == 56 || pc == 60 || pc == 93 || pc == 106 || pc == 120 || pc == 149 || pc == 192 || pc == 198 || pc == 210 || pc == 219 || pc == 243 || pc == 247 || pc == 252) 4000 ?_
      simp only [mj_step, mj_W_s, mj_fin, List.getElem?_cons_zero, List.getElem?_cons_succ, mj_go, Nat.reduceAdd, Nat.reduceSub, Nat.reduceLT, Nat.reduceLeDiff, Nat.zero_add, Nat.reduceEqDiff, Nat.reduceBEq, ↓reduceIte, Bool.false_eq_true, List.append_nil, List.nil_append, List.cons_append, Option.toList, and_true, true_and, true_or, or_true, reduceCtorEq, List.map_nil, bI_eq0, bI_eq1, bool_ft, pk_us, vnar0, vnar1, Bool.or_false, Bool.or_true, Bool.false_or, Bool.true_or, mj_kne, eq_self, Int32.reduceLT, Int32.reduceLE, Int32.reduceAdd, Int32.reduceSub, Int32.reduceMul, not_true_eq_false, not_false_eq_true, false_implies, true_implies, D_X12_clause_0, D_X12_clause_1, D_X12_clause_2, mj_F_aload_n_k, mj_F_bipush_n, mj_F_dup, mj_F_getfield_i, mj_F_goto_off, mj_F_iadd, mj_F_iaload, mj_F_iastore, mj_F_iconst_n, mj_F_ifCond_eq_off, mj_F_ifCond_ne_off, mj_F_if_icmp_eq_off, mj_F_if_icmp_lt_off, mj_F_if_icmp_ne_off, mj_F_iinc_k_n, mj_F_iload_k, mj_F_iload_n_k, mj_F_invokestatic_i, mj_F_invokevirtual_i, mj_F_istore_k, mj_F_istore_n_k, mj_F_isub, mj_F_putfield_i, mj_F_return_, mj_set, mj_set0, mj_unk, mj_c2, mj_kc, FT_X12, FT_X12_1, PT_X12, L_X12_clause, List.take_succ_cons, List.take_zero, List.drop_succ_cons, List.drop_zero, List.reverse_cons, List.reverse_nil, List.length_cons, List.length_nil, gS_M0, gMf_36, sS_Mf_36, gMl, gMf_39, gMf_37, gMf_29, gS_M25, sS_Ma_25, sS_Mf_39, c_isRel_eq, J_X12_clause]
      refine c_X12_look_in (ok_imp (ok_bind hw) ?_)
      intro p hw
      simp only [Option.toList, List.nil_append, List.cons_append, Nat.reduceSub]
      refine mj_run hG.1 (fun pc => pc == 4 || pc == 9 || pc == 16 || pc == 31 || pc == 40 || pc == 56 || pc == 60 || pc == 93 || pc == 106 || pc == 120 || pc == 149 || pc == 192 || pc == 198 || pc == 210 || pc == 219 || pc == 243 || pc == 247 || pc == 252) 4000 ?_
      simp only [mj_step, mj_W_s, mj_fin, List.getElem?_cons_zero, List.getElem?_cons_succ, mj_go, Nat.reduceAdd, Nat.reduceSub, Nat.reduceLT, Nat.reduceLeDiff, Nat.zero_add, Nat.reduceEqDiff, Nat.reduceBEq, ↓reduceIte, Bool.false_eq_true, List.append_nil, List.nil_append, List.cons_append, Option.toList, and_true, true_and, true_or, or_true, reduceCtorEq, List.map_nil, bI_eq0, bI_eq1, bool_ft, pk_us, vnar0, vnar1, Bool.or_false, Bool.or_true, Bool.false_or, Bool.true_or, mj_kne, eq_self, Int32.reduceLT, Int32.reduceLE, Int32.reduceAdd, Int32.reduceSub, Int32.reduceMul, not_true_eq_false, not_false_eq_true, false_implies, true_implies, D_X12_clause_0, D_X12_clause_1, D_X12_clause_2, mj_F_aload_n_k, mj_F_bipush_n, mj_F_dup, mj_F_getfield_i, mj_F_goto_off, mj_F_iadd, mj_F_iaload, mj_F_iastore, mj_F_iconst_n, mj_F_ifCond_eq_off, mj_F_ifCond_ne_off, mj_F_if_icmp_eq_off, mj_F_if_icmp_lt_off, mj_F_if_icmp_ne_off, mj_F_iinc_k_n, mj_F_iload_k, mj_F_iload_n_k, mj_F_invokestatic_i, mj_F_invokevirtual_i, mj_F_istore_k, mj_F_istore_n_k, mj_F_isub, mj_F_putfield_i, mj_F_return_, mj_set, mj_set0, mj_unk, mj_c2, mj_kc, FT_X12, FT_X12_1, PT_X12, L_X12_clause, List.take_succ_cons, List.take_zero, List.drop_succ_cons, List.drop_zero, List.reverse_cons, List.reverse_nil, List.length_cons, List.length_nil, gS_M0, gMf_36, sS_Mf_36, gMl, gMf_39, gMf_37, gMf_29, gS_M25, sS_Ma_25, sS_Mf_39, c_isRel_eq, J_X12_clause]
      refine ⟨fun c => ?_, fun c => ?_⟩
      · replace hw := ok_t hw c
        refine cq_X12_condition_in (ok_imp (ok_bind hw) ?_)
        intro p hw
        simp only [Option.toList, List.nil_append, List.cons_append, Nat.reduceSub]
        refine mj_run hG.1 (fun pc => pc == 4 || pc == 9 || pc == 16 || pc == 31 || pc == 40 || pc == 56 || pc == 60 || pc == 93 || pc == 106 || pc == 120 || pc == 149 || pc == 192 || pc == 198 || pc == 210 || pc == 219 || pc == 243 || pc == 247 || pc == 252) 4000 ?_
        simp only [mj_step, mj_W_s, mj_fin, List.getElem?_cons_zero, List.getElem?_cons_succ, mj_go, Nat.reduceAdd, Nat.reduceSub, Nat.reduceLT, Nat.reduceLeDiff, Nat.zero_add, Nat.reduceEqDiff, Nat.reduceBEq, ↓reduceIte, Bool.false_eq_true, List.append_nil, List.nil_append, List.cons_append, Option.toList, and_true, true_and, true_or, or_true, reduceCtorEq, List.map_nil, bI_eq0, bI_eq1, bool_ft, pk_us, vnar0, vnar1, Bool.or_false, Bool.or_true, Bool.false_or, Bool.true_or, mj_kne, eq_self, Int32.reduceLT, Int32.reduceLE, Int32.reduceAdd, Int32.reduceSub, Int32.reduceMul, not_true_eq_false, not_false_eq_true, false_implies, true_implies, D_X12_clause_0, D_X12_clause_1, D_X12_clause_2, mj_F_aload_n_k, mj_F_bipush_n, mj_F_dup, mj_F_getfield_i, mj_F_goto_off, mj_F_iadd, mj_F_iaload, mj_F_iastore, mj_F_iconst_n, mj_F_ifCond_eq_off, mj_F_ifCond_ne_off, mj_F_if_icmp_eq_off, mj_F_if_icmp_lt_off, mj_F_if_icmp_ne_off, mj_F_iinc_k_n, mj_F_iload_k, mj_F_iload_n_k, mj_F_invokestatic_i, mj_F_invokevirtual_i, mj_F_istore_k, mj_F_istore_n_k, mj_F_isub, mj_F_putfield_i, mj_F_return_, mj_set, mj_set0, mj_unk, mj_c2, mj_kc, FT_X12, FT_X12_1, PT_X12, L_X12_clause, List.take_succ_cons, List.take_zero, List.drop_succ_cons, List.drop_zero, List.reverse_cons, List.reverse_nil, List.length_cons, List.length_nil, gS_M0, gMf_36, sS_Mf_36, gMl, gMf_39, gMf_37, gMf_29, gS_M25, sS_Ma_25, sS_Mf_39, c_isRel_eq, J_X12_clause]
        refine ⟨fun c => ?_, fun c => ?_⟩
        · replace hw := ok_f hw c
          refine mj_run hG.1 (fun pc => pc == 4 || pc == 9 || pc == 16 || pc == 31 || pc == 40 || pc == 56 || pc == 60 || pc == 93 || pc == 106 || pc == 120 || pc == 149 || pc == 192 || pc == 198 || pc == 210 || pc == 219 || pc == 243 || pc == 247 || pc == 252) 4000 ?_
          simp only [mj_step, mj_W_s, mj_fin, List.getElem?_cons_zero, List.getElem?_cons_succ, mj_go, Nat.reduceAdd, Nat.reduceSub, Nat.reduceLT, Nat.reduceLeDiff, Nat.zero_add, Nat.reduceEqDiff, Nat.reduceBEq, ↓reduceIte, Bool.false_eq_true, List.append_nil, List.nil_append, List.cons_append, Option.toList, and_true, true_and, true_or, or_true, reduceCtorEq, List.map_nil, bI_eq0, bI_eq1, bool_ft, pk_us, vnar0, vnar1, Bool.or_false, Bool.or_true, Bool.false_or, Bool.true_or, mj_kne, eq_self, Int32.reduceLT, Int32.reduceLE, Int32.reduceAdd, Int32.reduceSub, Int32.reduceMul, not_true_eq_false, not_false_eq_true, false_implies, true_implies, D_X12_clause_0, D_X12_clause_1, D_X12_clause_2, mj_F_aload_n_k, mj_F_bipush_n, mj_F_dup, mj_F_getfield_i, mj_F_goto_off, mj_F_iadd, mj_F_iaload, mj_F_iastore, mj_F_iconst_n, mj_F_ifCond_eq_off, mj_F_ifCond_ne_off, mj_F_if_icmp_eq_off, mj_F_if_icmp_lt_off, mj_F_if_icmp_ne_off, mj_F_iinc_k_n, mj_F_iload_k, mj_F_iload_n_k, mj_F_invokestatic_i, mj_F_invokevirtual_i, mj_F_istore_k, mj_F_istore_n_k, mj_F_isub, mj_F_putfield_i, mj_F_return_, mj_set, mj_set0, mj_unk, mj_c2, mj_kc, FT_X12, FT_X12_1, PT_X12, L_X12_clause, List.take_succ_cons, List.take_zero, List.drop_succ_cons, List.drop_zero, List.reverse_cons, List.reverse_nil, List.length_cons, List.length_nil, gS_M0, gMf_36, sS_Mf_36, gMl, gMf_39, gMf_37, gMf_29, gS_M25, sS_Ma_25, sS_Mf_39, c_isRel_eq, J_X12_clause]
          refine ⟨fun c => ?_, fun c => ?_⟩
          · replace hw := ok_t hw c
            replace hw := ok_wI hw
            refine c_X12_say_in (ok_imp (ok_bind hw) ?_)
            intro p hw
            simp only [Option.toList, List.nil_append, List.cons_append, Nat.reduceSub]
            refine mj_run hG.1 (fun pc => pc == 4 || pc == 9 || pc == 16 || pc == 31 || pc == 40 || pc == 56 || pc == 60 || pc == 93 || pc == 106 || pc == 120 || pc == 149 || pc == 192 || pc == 198 || pc == 210 || pc == 219 || pc == 243 || pc == 247 || pc == 252) 4000 ?_
            simp only [mj_step, mj_W_s, mj_fin, List.getElem?_cons_zero, List.getElem?_cons_succ, mj_go, Nat.reduceAdd, Nat.reduceSub, Nat.reduceLT, Nat.reduceLeDiff, Nat.zero_add, Nat.reduceEqDiff, Nat.reduceBEq, ↓reduceIte, Bool.false_eq_true, List.append_nil, List.nil_append, List.cons_append, Option.toList, and_true, true_and, true_or, or_true, reduceCtorEq, List.map_nil, bI_eq0, bI_eq1, bool_ft, pk_us, vnar0, vnar1, Bool.or_false, Bool.or_true, Bool.false_or, Bool.true_or, mj_kne, eq_self, Int32.reduceLT, Int32.reduceLE, Int32.reduceAdd, Int32.reduceSub, Int32.reduceMul, not_true_eq_false, not_false_eq_true, false_implies, true_implies, D_X12_clause_0, D_X12_clause_1, D_X12_clause_2, mj_F_aload_n_k, mj_F_bipush_n, mj_F_dup, mj_F_getfield_i, mj_F_goto_off, mj_F_iadd, mj_F_iaload, mj_F_iastore, mj_F_iconst_n, mj_F_ifCond_eq_off, mj_F_ifCond_ne_off, mj_F_if_icmp_eq_off, mj_F_if_icmp_lt_off, mj_F_if_icmp_ne_off, mj_F_iinc_k_n, mj_F_iload_k, mj_F_iload_n_k, mj_F_invokestatic_i, mj_F_invokevirtual_i, mj_F_istore_k, mj_F_istore_n_k, mj_F_isub, mj_F_putfield_i, mj_F_return_, mj_set, mj_set0, mj_unk, mj_c2, mj_kc, FT_X12, FT_X12_1, PT_X12, L_X12_clause, List.take_succ_cons, List.take_zero, List.drop_succ_cons, List.drop_zero, List.reverse_cons, List.reverse_nil, List.length_cons, List.length_nil, gS_M0, gMf_36, sS_Mf_36, gMl, gMf_39, gMf_37, gMf_29, gS_M25, sS_Ma_25, sS_Mf_39, c_isRel_eq, J_X12_clause]
            refine cq_X12_sum_in (ok_imp (ok_bind hw) ?_)
            intro p hw
            simp only [Option.toList, List.nil_append, List.cons_append, Nat.reduceSub]
            refine mj_run hG.1 (fun pc => pc == 4 || pc == 9 || pc == 16 || pc == 31 || pc == 40 || pc == 56 || pc == 60 || pc == 93 || pc == 106 || pc == 120 || pc == 149 || pc == 192 || pc == 198 || pc == 210 || pc == 219 || pc == 243 || pc == 247 || pc == 252) 4000 ?_
            simp only [mj_step, mj_W_s, mj_fin, List.getElem?_cons_zero, List.getElem?_cons_succ, mj_go, Nat.reduceAdd, Nat.reduceSub, Nat.reduceLT, Nat.reduceLeDiff, Nat.zero_add, Nat.reduceEqDiff, Nat.reduceBEq, ↓reduceIte, Bool.false_eq_true, List.append_nil, List.nil_append, List.cons_append, Option.toList, and_true, true_and, true_or, or_true, reduceCtorEq, List.map_nil, bI_eq0, bI_eq1, bool_ft, pk_us, vnar0, vnar1, Bool.or_false, Bool.or_true, Bool.false_or, Bool.true_or, mj_kne, eq_self, Int32.reduceLT, Int32.reduceLE, Int32.reduceAdd, Int32.reduceSub, Int32.reduceMul, not_true_eq_false, not_false_eq_true, false_implies, true_implies, D_X12_clause_0, D_X12_clause_1, D_X12_clause_2, mj_F_aload_n_k, mj_F_bipush_n, mj_F_dup, mj_F_getfield_i, mj_F_goto_off, mj_F_iadd, mj_F_iaload, mj_F_iastore, mj_F_iconst_n, mj_F_ifCond_eq_off, mj_F_ifCond_ne_off, mj_F_if_icmp_eq_off, mj_F_if_icmp_lt_off, mj_F_if_icmp_ne_off, mj_F_iinc_k_n, mj_F_iload_k, mj_F_iload_n_k, mj_F_invokestatic_i, mj_F_invokevirtual_i, mj_F_istore_k, mj_F_istore_n_k, mj_F_isub, mj_F_putfield_i, mj_F_return_, mj_set, mj_set0, mj_unk, mj_c2, mj_kc, FT_X12, FT_X12_1, PT_X12, L_X12_clause, List.take_succ_cons, List.take_zero, List.drop_succ_cons, List.drop_zero, List.reverse_cons, List.reverse_nil, List.length_cons, List.length_nil, gS_M0, gMf_36, sS_Mf_36, gMl, gMf_39, gMf_37, gMf_29, gS_M25, sS_Ma_25, sS_Mf_39, c_isRel_eq, J_X12_clause]
            refine c_X12_say_in (ok_imp (ok_bind hw) ?_)
            intro p hw
            simp only [Option.toList, List.nil_append, List.cons_append, Nat.reduceSub]
            refine mj_run hG.1 (fun pc => pc == 4 || pc == 9 || pc == 16 || pc == 31 || pc == 40 || pc == 56 || pc == 60 || pc == 93 || pc == 106 || pc == 120 || pc == 149 || pc == 192 || pc == 198 || pc == 210 || pc == 219 || pc == 243 || pc == 247 || pc == 252) 4000 ?_
            simp only [mj_step, mj_W_s, mj_fin, List.getElem?_cons_zero, List.getElem?_cons_succ, mj_go, Nat.reduceAdd, Nat.reduceSub, Nat.reduceLT, Nat.reduceLeDiff, Nat.zero_add, Nat.reduceEqDiff, Nat.reduceBEq, ↓reduceIte, Bool.false_eq_true, List.append_nil, List.nil_append, List.cons_append, Option.toList, and_true, true_and, true_or, or_true, reduceCtorEq, List.map_nil, bI_eq0, bI_eq1, bool_ft, pk_us, vnar0, vnar1, Bool.or_false, Bool.or_true, Bool.false_or, Bool.true_or, mj_kne, eq_self, Int32.reduceLT, Int32.reduceLE, Int32.reduceAdd, Int32.reduceSub, Int32.reduceMul, not_true_eq_false, not_false_eq_true, false_implies, true_implies, D_X12_clause_0, D_X12_clause_1, D_X12_clause_2, mj_F_aload_n_k, mj_F_bipush_n, mj_F_dup, mj_F_getfield_i, mj_F_goto_off, mj_F_iadd, mj_F_iaload, mj_F_iastore, mj_F_iconst_n, mj_F_ifCond_eq_off, mj_F_ifCond_ne_off, mj_F_if_icmp_eq_off, mj_F_if_icmp_lt_off, mj_F_if_icmp_ne_off, mj_F_iinc_k_n, mj_F_iload_k, mj_F_iload_n_k, mj_F_invokestatic_i, mj_F_invokevirtual_i, mj_F_istore_k, mj_F_istore_n_k, mj_F_isub, mj_F_putfield_i, mj_F_return_, mj_set, mj_set0, mj_unk, mj_c2, mj_kc, FT_X12, FT_X12_1, PT_X12, L_X12_clause, List.take_succ_cons, List.take_zero, List.drop_succ_cons, List.drop_zero, List.reverse_cons, List.reverse_nil, List.length_cons, List.length_nil, gS_M0, gMf_36, sS_Mf_36, gMl, gMf_39, gMf_37, gMf_29, gS_M25, sS_Ma_25, sS_Mf_39, c_isRel_eq, J_X12_clause]
            exact (ok_some hw :)
          · replace hw := ok_f hw c
            exact (ok_some hw :)
        · replace hw := ok_t hw c
          refine c_X12_look_in (ok_imp (ok_bind hw) ?_)
          intro p hw
          simp only [Option.toList, List.nil_append, List.cons_append, Nat.reduceSub]
          refine mj_run hG.1 (fun pc => pc == 4 || pc == 9 || pc == 16 || pc == 31 || pc == 40 || pc == 56 || pc == 60 || pc == 93 || pc == 106 || pc == 120 || pc == 149 || pc == 192 || pc == 198 || pc == 210 || pc == 219 || pc == 243 || pc == 247 || pc == 252) 4000 ?_
          simp only [mj_step, mj_W_s, mj_fin, List.getElem?_cons_zero, List.getElem?_cons_succ, mj_go, Nat.reduceAdd, Nat.reduceSub, Nat.reduceLT, Nat.reduceLeDiff, Nat.zero_add, Nat.reduceEqDiff, Nat.reduceBEq, ↓reduceIte, Bool.false_eq_true, List.append_nil, List.nil_append, List.cons_append, Option.toList, and_true, true_and, true_or, or_true, reduceCtorEq, List.map_nil, bI_eq0, bI_eq1, bool_ft, pk_us, vnar0, vnar1, Bool.or_false, Bool.or_true, Bool.false_or, Bool.true_or, mj_kne, eq_self, Int32.reduceLT, Int32.reduceLE, Int32.reduceAdd, Int32.reduceSub, Int32.reduceMul, not_true_eq_false, not_false_eq_true, false_implies, true_implies, D_X12_clause_0, D_X12_clause_1, D_X12_clause_2, mj_F_aload_n_k, mj_F_bipush_n, mj_F_dup, mj_F_getfield_i, mj_F_goto_off, mj_F_iadd, mj_F_iaload, mj_F_iastore, mj_F_iconst_n, mj_F_ifCond_eq_off, mj_F_ifCond_ne_off, mj_F_if_icmp_eq_off, mj_F_if_icmp_lt_off, mj_F_if_icmp_ne_off, mj_F_iinc_k_n, mj_F_iload_k, mj_F_iload_n_k, mj_F_invokestatic_i, mj_F_invokevirtual_i, mj_F_istore_k, mj_F_istore_n_k, mj_F_isub, mj_F_putfield_i, mj_F_return_, mj_set, mj_set0, mj_unk, mj_c2, mj_kc, FT_X12, FT_X12_1, PT_X12, L_X12_clause, List.take_succ_cons, List.take_zero, List.drop_succ_cons, List.drop_zero, List.reverse_cons, List.reverse_nil, List.length_cons, List.length_nil, gS_M0, gMf_36, sS_Mf_36, gMl, gMf_39, gMf_37, gMf_29, gS_M25, sS_Ma_25, sS_Mf_39, c_isRel_eq, J_X12_clause]
          refine ⟨fun c => ?_, fun c => ?_⟩
          · replace hw := ok_t hw c
            refine mj_run hG.1 (fun pc => pc == 4 || pc == 9 || pc == 16 || pc == 31 || pc == 40 || pc == 56 || pc == 60 || pc == 93 || pc == 106 || pc == 120 || pc == 149 || pc == 192 || pc == 198 || pc == 210 || pc == 219 || pc == 243 || pc == 247 || pc == 252) 4000 ?_
            simp only [mj_step, mj_W_s, mj_fin, List.getElem?_cons_zero, List.getElem?_cons_succ, mj_go, Nat.reduceAdd, Nat.reduceSub, Nat.reduceLT, Nat.reduceLeDiff, Nat.zero_add, Nat.reduceEqDiff, Nat.reduceBEq, ↓reduceIte, Bool.false_eq_true, List.append_nil, List.nil_append, List.cons_append, Option.toList, and_true, true_and, true_or, or_true, reduceCtorEq, List.map_nil, bI_eq0, bI_eq1, bool_ft, pk_us, vnar0, vnar1, Bool.or_false, Bool.or_true, Bool.false_or, Bool.true_or, mj_kne, eq_self, Int32.reduceLT, Int32.reduceLE, Int32.reduceAdd, Int32.reduceSub, Int32.reduceMul, not_true_eq_false, not_false_eq_true, false_implies, true_implies, D_X12_clause_0, D_X12_clause_1, D_X12_clause_2, mj_F_aload_n_k, mj_F_bipush_n, mj_F_dup, mj_F_getfield_i, mj_F_goto_off, mj_F_iadd, mj_F_iaload, mj_F_iastore, mj_F_iconst_n, mj_F_ifCond_eq_off, mj_F_ifCond_ne_off, mj_F_if_icmp_eq_off, mj_F_if_icmp_lt_off, mj_F_if_icmp_ne_off, mj_F_iinc_k_n, mj_F_iload_k, mj_F_iload_n_k, mj_F_invokestatic_i, mj_F_invokevirtual_i, mj_F_istore_k, mj_F_istore_n_k, mj_F_isub, mj_F_putfield_i, mj_F_return_, mj_set, mj_set0, mj_unk, mj_c2, mj_kc, FT_X12, FT_X12_1, PT_X12, L_X12_clause, List.take_succ_cons, List.take_zero, List.drop_succ_cons, List.drop_zero, List.reverse_cons, List.reverse_nil, List.length_cons, List.length_nil, gS_M0, gMf_36, sS_Mf_36, gMl, gMf_39, gMf_37, gMf_29, gS_M25, sS_Ma_25, sS_Mf_39, c_isRel_eq, J_X12_clause]
            refine ⟨fun c => ?_, fun c => ?_⟩
            · replace hw := ok_t hw c
              replace hw := ok_wI hw
              refine c_X12_say_in (ok_imp (ok_bind hw) ?_)
              intro p hw
              simp only [Option.toList, List.nil_append, List.cons_append, Nat.reduceSub]
              refine mj_run hG.1 (fun pc => pc == 4 || pc == 9 || pc == 16 || pc == 31 || pc == 40 || pc == 56 || pc == 60 || pc == 93 || pc == 106 || pc == 120 || pc == 149 || pc == 192 || pc == 198 || pc == 210 || pc == 219 || pc == 243 || pc == 247 || pc == 252) 4000 ?_
              simp only [mj_step, mj_W_s, mj_fin, List.getElem?_cons_zero, List.getElem?_cons_succ, mj_go, Nat.reduceAdd, Nat.reduceSub, Nat.reduceLT, Nat.reduceLeDiff, Nat.zero_add, Nat.reduceEqDiff, Nat.reduceBEq, ↓reduceIte, Bool.false_eq_true, List.append_nil, List.nil_append, List.cons_append, Option.toList, and_true, true_and, true_or, or_true, reduceCtorEq, List.map_nil, bI_eq0, bI_eq1, bool_ft, pk_us, vnar0, vnar1, Bool.or_false, Bool.or_true, Bool.false_or, Bool.true_or, mj_kne, eq_self, Int32.reduceLT, Int32.reduceLE, Int32.reduceAdd, Int32.reduceSub, Int32.reduceMul, not_true_eq_false, not_false_eq_true, false_implies, true_implies, D_X12_clause_0, D_X12_clause_1, D_X12_clause_2, mj_F_aload_n_k, mj_F_bipush_n, mj_F_dup, mj_F_getfield_i, mj_F_goto_off, mj_F_iadd, mj_F_iaload, mj_F_iastore, mj_F_iconst_n, mj_F_ifCond_eq_off, mj_F_ifCond_ne_off, mj_F_if_icmp_eq_off, mj_F_if_icmp_lt_off, mj_F_if_icmp_ne_off, mj_F_iinc_k_n, mj_F_iload_k, mj_F_iload_n_k, mj_F_invokestatic_i, mj_F_invokevirtual_i, mj_F_istore_k, mj_F_istore_n_k, mj_F_isub, mj_F_putfield_i, mj_F_return_, mj_set, mj_set0, mj_unk, mj_c2, mj_kc, FT_X12, FT_X12_1, PT_X12, L_X12_clause, List.take_succ_cons, List.take_zero, List.drop_succ_cons, List.drop_zero, List.reverse_cons, List.reverse_nil, List.length_cons, List.length_nil, gS_M0, gMf_36, sS_Mf_36, gMl, gMf_39, gMf_37, gMf_29, gS_M25, sS_Ma_25, sS_Mf_39, c_isRel_eq, J_X12_clause]
              refine cq_X12_sum_in (ok_imp (ok_bind hw) ?_)
              intro p hw
              simp only [Option.toList, List.nil_append, List.cons_append, Nat.reduceSub]
              refine mj_run hG.1 (fun pc => pc == 4 || pc == 9 || pc == 16 || pc == 31 || pc == 40 || pc == 56 || pc == 60 || pc == 93 || pc == 106 || pc == 120 || pc == 149 || pc == 192 || pc == 198 || pc == 210 || pc == 219 || pc == 243 || pc == 247 || pc == 252) 4000 ?_
              simp only [mj_step, mj_W_s, mj_fin, List.getElem?_cons_zero, List.getElem?_cons_succ, mj_go, Nat.reduceAdd, Nat.reduceSub, Nat.reduceLT, Nat.reduceLeDiff, Nat.zero_add, Nat.reduceEqDiff, Nat.reduceBEq, ↓reduceIte, Bool.false_eq_true, List.append_nil, List.nil_append, List.cons_append, Option.toList, and_true, true_and, true_or, or_true, reduceCtorEq, List.map_nil, bI_eq0, bI_eq1, bool_ft, pk_us, vnar0, vnar1, Bool.or_false, Bool.or_true, Bool.false_or, Bool.true_or, mj_kne, eq_self, Int32.reduceLT, Int32.reduceLE, Int32.reduceAdd, Int32.reduceSub, Int32.reduceMul, not_true_eq_false, not_false_eq_true, false_implies, true_implies, D_X12_clause_0, D_X12_clause_1, D_X12_clause_2, mj_F_aload_n_k, mj_F_bipush_n, mj_F_dup, mj_F_getfield_i, mj_F_goto_off, mj_F_iadd, mj_F_iaload, mj_F_iastore, mj_F_iconst_n, mj_F_ifCond_eq_off, mj_F_ifCond_ne_off, mj_F_if_icmp_eq_off, mj_F_if_icmp_lt_off, mj_F_if_icmp_ne_off, mj_F_iinc_k_n, mj_F_iload_k, mj_F_iload_n_k, mj_F_invokestatic_i, mj_F_invokevirtual_i, mj_F_istore_k, mj_F_istore_n_k, mj_F_isub, mj_F_putfield_i, mj_F_return_, mj_set, mj_set0, mj_unk, mj_c2, mj_kc, FT_X12, FT_X12_1, PT_X12, L_X12_clause, List.take_succ_cons, List.take_zero, List.drop_succ_cons, List.drop_zero, List.reverse_cons, List.reverse_nil, List.length_cons, List.length_nil, gS_M0, gMf_36, sS_Mf_36, gMl, gMf_39, gMf_37, gMf_29, gS_M25, sS_Ma_25, sS_Mf_39, c_isRel_eq, J_X12_clause]
              refine c_X12_say_in (ok_imp (ok_bind hw) ?_)
              intro p hw
              simp only [Option.toList, List.nil_append, List.cons_append, Nat.reduceSub]
              refine mj_run hG.1 (fun pc => pc == 4 || pc == 9 || pc == 16 || pc == 31 || pc == 40 || pc == 56 || pc == 60 || pc == 93 || pc == 106 || pc == 120 || pc == 149 || pc == 192 || pc == 198 || pc == 210 || pc == 219 || pc == 243 || pc == 247 || pc == 252) 4000 ?_
              simp only [mj_step, mj_W_s, mj_fin, List.getElem?_cons_zero, List.getElem?_cons_succ, mj_go, Nat.reduceAdd, Nat.reduceSub, Nat.reduceLT, Nat.reduceLeDiff, Nat.zero_add, Nat.reduceEqDiff, Nat.reduceBEq, ↓reduceIte, Bool.false_eq_true, List.append_nil, List.nil_append, List.cons_append, Option.toList, and_true, true_and, true_or, or_true, reduceCtorEq, List.map_nil, bI_eq0, bI_eq1, bool_ft, pk_us, vnar0, vnar1, Bool.or_false, Bool.or_true, Bool.false_or, Bool.true_or, mj_kne, eq_self, Int32.reduceLT, Int32.reduceLE, Int32.reduceAdd, Int32.reduceSub, Int32.reduceMul, not_true_eq_false, not_false_eq_true, false_implies, true_implies, D_X12_clause_0, D_X12_clause_1, D_X12_clause_2, mj_F_aload_n_k, mj_F_bipush_n, mj_F_dup, mj_F_getfield_i, mj_F_goto_off, mj_F_iadd, mj_F_iaload, mj_F_iastore, mj_F_iconst_n, mj_F_ifCond_eq_off, mj_F_ifCond_ne_off, mj_F_if_icmp_eq_off, mj_F_if_icmp_lt_off, mj_F_if_icmp_ne_off, mj_F_iinc_k_n, mj_F_iload_k, mj_F_iload_n_k, mj_F_invokestatic_i, mj_F_invokevirtual_i, mj_F_istore_k, mj_F_istore_n_k, mj_F_isub, mj_F_putfield_i, mj_F_return_, mj_set, mj_set0, mj_unk, mj_c2, mj_kc, FT_X12, FT_X12_1, PT_X12, L_X12_clause, List.take_succ_cons, List.take_zero, List.drop_succ_cons, List.drop_zero, List.reverse_cons, List.reverse_nil, List.length_cons, List.length_nil, gS_M0, gMf_36, sS_Mf_36, gMl, gMf_39, gMf_37, gMf_29, gS_M25, sS_Ma_25, sS_Mf_39, c_isRel_eq, J_X12_clause]
              exact (ok_some hw :)
            · replace hw := ok_f hw c
              exact (ok_some hw :)
          · replace hw := ok_f hw c
            refine c_X12_bad_in (ok_imp (ok_bind hw) ?_)
            intro p hw
            simp only [Option.toList, List.nil_append, List.cons_append, Nat.reduceSub]
            refine mj_run hG.1 (fun pc => pc == 4 || pc == 9 || pc == 16 || pc == 31 || pc == 40 || pc == 56 || pc == 60 || pc == 93 || pc == 106 || pc == 120 || pc == 149 || pc == 192 || pc == 198 || pc == 210 || pc == 219 || pc == 243 || pc == 247 || pc == 252) 4000 ?_
            simp only [mj_step, mj_W_s, mj_fin, List.getElem?_cons_zero, List.getElem?_cons_succ, mj_go, Nat.reduceAdd, Nat.reduceSub, Nat.reduceLT, Nat.reduceLeDiff, Nat.zero_add, Nat.reduceEqDiff, Nat.reduceBEq, ↓reduceIte, Bool.false_eq_true, List.append_nil, List.nil_append, List.cons_append, Option.toList, and_true, true_and, true_or, or_true, reduceCtorEq, List.map_nil, bI_eq0, bI_eq1, bool_ft, pk_us, vnar0, vnar1, Bool.or_false, Bool.or_true, Bool.false_or, Bool.true_or, mj_kne, eq_self, Int32.reduceLT, Int32.reduceLE, Int32.reduceAdd, Int32.reduceSub, Int32.reduceMul, not_true_eq_false, not_false_eq_true, false_implies, true_implies, D_X12_clause_0, D_X12_clause_1, D_X12_clause_2, mj_F_aload_n_k, mj_F_bipush_n, mj_F_dup, mj_F_getfield_i, mj_F_goto_off, mj_F_iadd, mj_F_iaload, mj_F_iastore, mj_F_iconst_n, mj_F_ifCond_eq_off, mj_F_ifCond_ne_off, mj_F_if_icmp_eq_off, mj_F_if_icmp_lt_off, mj_F_if_icmp_ne_off, mj_F_iinc_k_n, mj_F_iload_k, mj_F_iload_n_k, mj_F_invokestatic_i, mj_F_invokevirtual_i, mj_F_istore_k, mj_F_istore_n_k, mj_F_isub, mj_F_putfield_i, mj_F_return_, mj_set, mj_set0, mj_unk, mj_c2, mj_kc, FT_X12, FT_X12_1, PT_X12, L_X12_clause, List.take_succ_cons, List.take_zero, List.drop_succ_cons, List.drop_zero, List.reverse_cons, List.reverse_nil, List.length_cons, List.length_nil, gS_M0, gMf_36, sS_Mf_36, gMl, gMf_39, gMf_37, gMf_29, gS_M25, sS_Ma_25, sS_Mf_39, c_isRel_eq, J_X12_clause]
            refine ⟨fun c => ?_, fun c => ?_⟩
            · replace hw := ok_t hw c
              replace hw := ok_wI hw
              refine c_X12_say_in (ok_imp (ok_bind hw) ?_)
              intro p hw
              simp only [Option.toList, List.nil_append, List.cons_append, Nat.reduceSub]
              refine mj_run hG.1 (fun pc => pc == 4 || pc == 9 || pc == 16 || pc == 31 || pc == 40 || pc == 56 || pc == 60 || pc == 93 || pc == 106 || pc == 120 || pc == 149 || pc == 192 || pc == 198 || pc == 210 || pc == 219 || pc == 243 || pc == 247 || pc == 252) 4000 ?_
              simp only [mj_step, mj_W_s, mj_fin, List.getElem?_cons_zero, List.getElem?_cons_succ, mj_go, Nat.reduceAdd, Nat.reduceSub, Nat.reduceLT, Nat.reduceLeDiff, Nat.zero_add, Nat.reduceEqDiff, Nat.reduceBEq, ↓reduceIte, Bool.false_eq_true, List.append_nil, List.nil_append, List.cons_append, Option.toList, and_true, true_and, true_or, or_true, reduceCtorEq, List.map_nil, bI_eq0, bI_eq1, bool_ft, pk_us, vnar0, vnar1, Bool.or_false, Bool.or_true, Bool.false_or, Bool.true_or, mj_kne, eq_self, Int32.reduceLT, Int32.reduceLE, Int32.reduceAdd, Int32.reduceSub, Int32.reduceMul, not_true_eq_false, not_false_eq_true, false_implies, true_implies, D_X12_clause_0, D_X12_clause_1, D_X12_clause_2, mj_F_aload_n_k, mj_F_bipush_n, mj_F_dup, mj_F_getfield_i, mj_F_goto_off, mj_F_iadd, mj_F_iaload, mj_F_iastore, mj_F_iconst_n, mj_F_ifCond_eq_off, mj_F_ifCond_ne_off, mj_F_if_icmp_eq_off, mj_F_if_icmp_lt_off, mj_F_if_icmp_ne_off, mj_F_iinc_k_n, mj_F_iload_k, mj_F_iload_n_k, mj_F_invokestatic_i, mj_F_invokevirtual_i, mj_F_istore_k, mj_F_istore_n_k, mj_F_isub, mj_F_putfield_i, mj_F_return_, mj_set, mj_set0, mj_unk, mj_c2, mj_kc, FT_X12, FT_X12_1, PT_X12, L_X12_clause, List.take_succ_cons, List.take_zero, List.drop_succ_cons, List.drop_zero, List.reverse_cons, List.reverse_nil, List.length_cons, List.length_nil, gS_M0, gMf_36, sS_Mf_36, gMl, gMf_39, gMf_37, gMf_29, gS_M25, sS_Ma_25, sS_Mf_39, c_isRel_eq, J_X12_clause]
              refine cq_X12_sum_in (ok_imp (ok_bind hw) ?_)
              intro p hw
              simp only [Option.toList, List.nil_append, List.cons_append, Nat.reduceSub]
              refine mj_run hG.1 (fun pc => pc == 4 || pc == 9 || pc == 16 || pc == 31 || pc == 40 || pc == 56 || pc == 60 || pc == 93 || pc == 106 || pc == 120 || pc == 149 || pc == 192 || pc == 198 || pc == 210 || pc == 219 || pc == 243 || pc == 247 || pc == 252) 4000 ?_
              simp only [mj_step, mj_W_s, mj_fin, List.getElem?_cons_zero, List.getElem?_cons_succ, mj_go, Nat.reduceAdd, Nat.reduceSub, Nat.reduceLT, Nat.reduceLeDiff, Nat.zero_add, Nat.reduceEqDiff, Nat.reduceBEq, ↓reduceIte, Bool.false_eq_true, List.append_nil, List.nil_append, List.cons_append, Option.toList, and_true, true_and, true_or, or_true, reduceCtorEq, List.map_nil, bI_eq0, bI_eq1, bool_ft, pk_us, vnar0, vnar1, Bool.or_false, Bool.or_true, Bool.false_or, Bool.true_or, mj_kne, eq_self, Int32.reduceLT, Int32.reduceLE, Int32.reduceAdd, Int32.reduceSub, Int32.reduceMul, not_true_eq_false, not_false_eq_true, false_implies, true_implies, D_X12_clause_0, D_X12_clause_1, D_X12_clause_2, mj_F_aload_n_k, mj_F_bipush_n, mj_F_dup, mj_F_getfield_i, mj_F_goto_off, mj_F_iadd, mj_F_iaload, mj_F_iastore, mj_F_iconst_n, mj_F_ifCond_eq_off, mj_F_ifCond_ne_off, mj_F_if_icmp_eq_off, mj_F_if_icmp_lt_off, mj_F_if_icmp_ne_off, mj_F_iinc_k_n, mj_F_iload_k, mj_F_iload_n_k, mj_F_invokestatic_i, mj_F_invokevirtual_i, mj_F_istore_k, mj_F_istore_n_k, mj_F_isub, mj_F_putfield_i, mj_F_return_, mj_set, mj_set0, mj_unk, mj_c2, mj_kc, FT_X12, FT_X12_1, PT_X12, L_X12_clause, List.take_succ_cons, List.take_zero, List.drop_succ_cons, List.drop_zero, List.reverse_cons, List.reverse_nil, List.length_cons, List.length_nil, gS_M0, gMf_36, sS_Mf_36, gMl, gMf_39, gMf_37, gMf_29, gS_M25, sS_Ma_25, sS_Mf_39, c_isRel_eq, J_X12_clause]
              refine c_X12_say_in (ok_imp (ok_bind hw) ?_)
              intro p hw
              simp only [Option.toList, List.nil_append, List.cons_append, Nat.reduceSub]
              refine mj_run hG.1 (fun pc => pc == 4 || pc == 9 || pc == 16 || pc == 31 || pc == 40 || pc == 56 || pc == 60 || pc == 93 || pc == 106 || pc == 120 || pc == 149 || pc == 192 || pc == 198 || pc == 210 || pc == 219 || pc == 243 || pc == 247 || pc == 252) 4000 ?_
              simp only [mj_step, mj_W_s, mj_fin, List.getElem?_cons_zero, List.getElem?_cons_succ, mj_go, Nat.reduceAdd, Nat.reduceSub, Nat.reduceLT, Nat.reduceLeDiff, Nat.zero_add, Nat.reduceEqDiff, Nat.reduceBEq, ↓reduceIte, Bool.false_eq_true, List.append_nil, List.nil_append, List.cons_append, Option.toList, and_true, true_and, true_or, or_true, reduceCtorEq, List.map_nil, bI_eq0, bI_eq1, bool_ft, pk_us, vnar0, vnar1, Bool.or_false, Bool.or_true, Bool.false_or, Bool.true_or, mj_kne, eq_self, Int32.reduceLT, Int32.reduceLE, Int32.reduceAdd, Int32.reduceSub, Int32.reduceMul, not_true_eq_false, not_false_eq_true, false_implies, true_implies, D_X12_clause_0, D_X12_clause_1, D_X12_clause_2, mj_F_aload_n_k, mj_F_bipush_n, mj_F_dup, mj_F_getfield_i, mj_F_goto_off, mj_F_iadd, mj_F_iaload, mj_F_iastore, mj_F_iconst_n, mj_F_ifCond_eq_off, mj_F_ifCond_ne_off, mj_F_if_icmp_eq_off, mj_F_if_icmp_lt_off, mj_F_if_icmp_ne_off, mj_F_iinc_k_n, mj_F_iload_k, mj_F_iload_n_k, mj_F_invokestatic_i, mj_F_invokevirtual_i, mj_F_istore_k, mj_F_istore_n_k, mj_F_isub, mj_F_putfield_i, mj_F_return_, mj_set, mj_set0, mj_unk, mj_c2, mj_kc, FT_X12, FT_X12_1, PT_X12, L_X12_clause, List.take_succ_cons, List.take_zero, List.drop_succ_cons, List.drop_zero, List.reverse_cons, List.reverse_nil, List.length_cons, List.length_nil, gS_M0, gMf_36, sS_Mf_36, gMl, gMf_39, gMf_37, gMf_29, gS_M25, sS_Ma_25, sS_Mf_39, c_isRel_eq, J_X12_clause]
              exact (ok_some hw :)
            · replace hw := ok_f hw c
              exact (ok_some hw :)
      · replace hw := ok_f hw c
        refine ⟨fun c => ?_, fun c => ?_⟩
        · replace hw := ok_t hw c
          refine cq_X12_condition_in (ok_imp (ok_bind hw) ?_)
          intro p hw
          simp only [Option.toList, List.nil_append, List.cons_append, Nat.reduceSub]
          refine mj_run hG.1 (fun pc => pc == 4 || pc == 9 || pc == 16 || pc == 31 || pc == 40 || pc == 56 || pc == 60 || pc == 93 || pc == 106 || pc == 120 || pc == 149 || pc == 192 || pc == 198 || pc == 210 || pc == 219 || pc == 243 || pc == 247 || pc == 252) 4000 ?_
          simp only [mj_step, mj_W_s, mj_fin, List.getElem?_cons_zero, List.getElem?_cons_succ, mj_go, Nat.reduceAdd, Nat.reduceSub, Nat.reduceLT, Nat.reduceLeDiff, Nat.zero_add, Nat.reduceEqDiff, Nat.reduceBEq, ↓reduceIte, Bool.false_eq_true, List.append_nil, List.nil_append, List.cons_append, Option.toList, and_true, true_and, true_or, or_true, reduceCtorEq, List.map_nil, bI_eq0, bI_eq1, bool_ft, pk_us, vnar0, vnar1, Bool.or_false, Bool.or_true, Bool.false_or, Bool.true_or, mj_kne, eq_self, Int32.reduceLT, Int32.reduceLE, Int32.reduceAdd, Int32.reduceSub, Int32.reduceMul, not_true_eq_false, not_false_eq_true, false_implies, true_implies, D_X12_clause_0, D_X12_clause_1, D_X12_clause_2, mj_F_aload_n_k, mj_F_bipush_n, mj_F_dup, mj_F_getfield_i, mj_F_goto_off, mj_F_iadd, mj_F_iaload, mj_F_iastore, mj_F_iconst_n, mj_F_ifCond_eq_off, mj_F_ifCond_ne_off, mj_F_if_icmp_eq_off, mj_F_if_icmp_lt_off, mj_F_if_icmp_ne_off, mj_F_iinc_k_n, mj_F_iload_k, mj_F_iload_n_k, mj_F_invokestatic_i, mj_F_invokevirtual_i, mj_F_istore_k, mj_F_istore_n_k, mj_F_isub, mj_F_putfield_i, mj_F_return_, mj_set, mj_set0, mj_unk, mj_c2, mj_kc, FT_X12, FT_X12_1, PT_X12, L_X12_clause, List.take_succ_cons, List.take_zero, List.drop_succ_cons, List.drop_zero, List.reverse_cons, List.reverse_nil, List.length_cons, List.length_nil, gS_M0, gMf_36, sS_Mf_36, gMl, gMf_39, gMf_37, gMf_29, gS_M25, sS_Ma_25, sS_Mf_39, c_isRel_eq, J_X12_clause]
          refine ⟨fun c => ?_, fun c => ?_⟩
          · replace hw := ok_f hw c
            refine mj_run hG.1 (fun pc => pc == 4 || pc == 9 || pc == 16 || pc == 31 || pc == 40 || pc == 56 || pc == 60 || pc == 93 || pc == 106 || pc == 120 || pc == 149 || pc == 192 || pc == 198 || pc == 210 || pc == 219 || pc == 243 || pc == 247 || pc == 252) 4000 ?_
            simp only [mj_step, mj_W_s, mj_fin, List.getElem?_cons_zero, List.getElem?_cons_succ, mj_go, Nat.reduceAdd, Nat.reduceSub, Nat.reduceLT, Nat.reduceLeDiff, Nat.zero_add, Nat.reduceEqDiff, Nat.reduceBEq, ↓reduceIte, Bool.false_eq_true, List.append_nil, List.nil_append, List.cons_append, Option.toList, and_true, true_and, true_or, or_true, reduceCtorEq, List.map_nil, bI_eq0, bI_eq1, bool_ft, pk_us, vnar0, vnar1, Bool.or_false, Bool.or_true, Bool.false_or, Bool.true_or, mj_kne, eq_self, Int32.reduceLT, Int32.reduceLE, Int32.reduceAdd, Int32.reduceSub, Int32.reduceMul, not_true_eq_false, not_false_eq_true, false_implies, true_implies, D_X12_clause_0, D_X12_clause_1, D_X12_clause_2, mj_F_aload_n_k, mj_F_bipush_n, mj_F_dup, mj_F_getfield_i, mj_F_goto_off, mj_F_iadd, mj_F_iaload, mj_F_iastore, mj_F_iconst_n, mj_F_ifCond_eq_off, mj_F_ifCond_ne_off, mj_F_if_icmp_eq_off, mj_F_if_icmp_lt_off, mj_F_if_icmp_ne_off, mj_F_iinc_k_n, mj_F_iload_k, mj_F_iload_n_k, mj_F_invokestatic_i, mj_F_invokevirtual_i, mj_F_istore_k, mj_F_istore_n_k, mj_F_isub, mj_F_putfield_i, mj_F_return_, mj_set, mj_set0, mj_unk, mj_c2, mj_kc, FT_X12, FT_X12_1, PT_X12, L_X12_clause, List.take_succ_cons, List.take_zero, List.drop_succ_cons, List.drop_zero, List.reverse_cons, List.reverse_nil, List.length_cons, List.length_nil, gS_M0, gMf_36, sS_Mf_36, gMl, gMf_39, gMf_37, gMf_29, gS_M25, sS_Ma_25, sS_Mf_39, c_isRel_eq, J_X12_clause]
            refine ⟨fun c => ?_, fun c => ?_⟩
            · replace hw := ok_t hw c
              replace hw := ok_wI hw
              refine c_X12_say_in (ok_imp (ok_bind hw) ?_)
              intro p hw
              simp only [Option.toList, List.nil_append, List.cons_append, Nat.reduceSub]
              refine mj_run hG.1 (fun pc => pc == 4 || pc == 9 || pc == 16 || pc == 31 || pc == 40 || pc == 56 || pc == 60 || pc == 93 || pc == 106 || pc == 120 || pc == 149 || pc == 192 || pc == 198 || pc == 210 || pc == 219 || pc == 243 || pc == 247 || pc == 252) 4000 ?_
              simp only [mj_step, mj_W_s, mj_fin, List.getElem?_cons_zero, List.getElem?_cons_succ, mj_go, Nat.reduceAdd, Nat.reduceSub, Nat.reduceLT, Nat.reduceLeDiff, Nat.zero_add, Nat.reduceEqDiff, Nat.reduceBEq, ↓reduceIte, Bool.false_eq_true, List.append_nil, List.nil_append, List.cons_append, Option.toList, and_true, true_and, true_or, or_true, reduceCtorEq, List.map_nil, bI_eq0, bI_eq1, bool_ft, pk_us, vnar0, vnar1, Bool.or_false, Bool.or_true, Bool.false_or, Bool.true_or, mj_kne, eq_self, Int32.reduceLT, Int32.reduceLE, Int32.reduceAdd, Int32.reduceSub, Int32.reduceMul, not_true_eq_false, not_false_eq_true, false_implies, true_implies, D_X12_clause_0, D_X12_clause_1, D_X12_clause_2, mj_F_aload_n_k, mj_F_bipush_n, mj_F_dup, mj_F_getfield_i, mj_F_goto_off, mj_F_iadd, mj_F_iaload, mj_F_iastore, mj_F_iconst_n, mj_F_ifCond_eq_off, mj_F_ifCond_ne_off, mj_F_if_icmp_eq_off, mj_F_if_icmp_lt_off, mj_F_if_icmp_ne_off, mj_F_iinc_k_n, mj_F_iload_k, mj_F_iload_n_k, mj_F_invokestatic_i, mj_F_invokevirtual_i, mj_F_istore_k, mj_F_istore_n_k, mj_F_isub, mj_F_putfield_i, mj_F_return_, mj_set, mj_set0, mj_unk, mj_c2, mj_kc, FT_X12, FT_X12_1, PT_X12, L_X12_clause, List.take_succ_cons, List.take_zero, List.drop_succ_cons, List.drop_zero, List.reverse_cons, List.reverse_nil, List.length_cons, List.length_nil, gS_M0, gMf_36, sS_Mf_36, gMl, gMf_39, gMf_37, gMf_29, gS_M25, sS_Ma_25, sS_Mf_39, c_isRel_eq, J_X12_clause]
              refine cq_X12_sum_in (ok_imp (ok_bind hw) ?_)
              intro p hw
              simp only [Option.toList, List.nil_append, List.cons_append, Nat.reduceSub]
              refine mj_run hG.1 (fun pc => pc == 4 || pc == 9 || pc == 16 || pc == 31 || pc == 40 || pc == 56 || pc == 60 || pc == 93 || pc == 106 || pc == 120 || pc == 149 || pc == 192 || pc == 198 || pc == 210 || pc == 219 || pc == 243 || pc == 247 || pc == 252) 4000 ?_
              simp only [mj_step, mj_W_s, mj_fin, List.getElem?_cons_zero, List.getElem?_cons_succ, mj_go, Nat.reduceAdd, Nat.reduceSub, Nat.reduceLT, Nat.reduceLeDiff, Nat.zero_add, Nat.reduceEqDiff, Nat.reduceBEq, ↓reduceIte, Bool.false_eq_true, List.append_nil, List.nil_append, List.cons_append, Option.toList, and_true, true_and, true_or, or_true, reduceCtorEq, List.map_nil, bI_eq0, bI_eq1, bool_ft, pk_us, vnar0, vnar1, Bool.or_false, Bool.or_true, Bool.false_or, Bool.true_or, mj_kne, eq_self, Int32.reduceLT, Int32.reduceLE, Int32.reduceAdd, Int32.reduceSub, Int32.reduceMul, not_true_eq_false, not_false_eq_true, false_implies, true_implies, D_X12_clause_0, D_X12_clause_1, D_X12_clause_2, mj_F_aload_n_k, mj_F_bipush_n, mj_F_dup, mj_F_getfield_i, mj_F_goto_off, mj_F_iadd, mj_F_iaload, mj_F_iastore, mj_F_iconst_n, mj_F_ifCond_eq_off, mj_F_ifCond_ne_off, mj_F_if_icmp_eq_off, mj_F_if_icmp_lt_off, mj_F_if_icmp_ne_off, mj_F_iinc_k_n, mj_F_iload_k, mj_F_iload_n_k, mj_F_invokestatic_i, mj_F_invokevirtual_i, mj_F_istore_k, mj_F_istore_n_k, mj_F_isub, mj_F_putfield_i, mj_F_return_, mj_set, mj_set0, mj_unk, mj_c2, mj_kc, FT_X12, FT_X12_1, PT_X12, L_X12_clause, List.take_succ_cons, List.take_zero, List.drop_succ_cons, List.drop_zero, List.reverse_cons, List.reverse_nil, List.length_cons, List.length_nil, gS_M0, gMf_36, sS_Mf_36, gMl, gMf_39, gMf_37, gMf_29, gS_M25, sS_Ma_25, sS_Mf_39, c_isRel_eq, J_X12_clause]
              refine c_X12_say_in (ok_imp (ok_bind hw) ?_)
              intro p hw
              simp only [Option.toList, List.nil_append, List.cons_append, Nat.reduceSub]
              refine mj_run hG.1 (fun pc => pc == 4 || pc == 9 || pc == 16 || pc == 31 || pc == 40 || pc == 56 || pc == 60 || pc == 93 || pc == 106 || pc == 120 || pc == 149 || pc == 192 || pc == 198 || pc == 210 || pc == 219 || pc == 243 || pc == 247 || pc == 252) 4000 ?_
              simp only [mj_step, mj_W_s, mj_fin, List.getElem?_cons_zero, List.getElem?_cons_succ, mj_go, Nat.reduceAdd, Nat.reduceSub, Nat.reduceLT, Nat.reduceLeDiff, Nat.zero_add, Nat.reduceEqDiff, Nat.reduceBEq, ↓reduceIte, Bool.false_eq_true, List.append_nil, List.nil_append, List.cons_append, Option.toList, and_true, true_and, true_or, or_true, reduceCtorEq, List.map_nil, bI_eq0, bI_eq1, bool_ft, pk_us, vnar0, vnar1, Bool.or_false, Bool.or_true, Bool.false_or, Bool.true_or, mj_kne, eq_self, Int32.reduceLT, Int32.reduceLE, Int32.reduceAdd, Int32.reduceSub, Int32.reduceMul, not_true_eq_false, not_false_eq_true, false_implies, true_implies, D_X12_clause_0, D_X12_clause_1, D_X12_clause_2, mj_F_aload_n_k, mj_F_bipush_n, mj_F_dup, mj_F_getfield_i, mj_F_goto_off, mj_F_iadd, mj_F_iaload, mj_F_iastore, mj_F_iconst_n, mj_F_ifCond_eq_off, mj_F_ifCond_ne_off, mj_F_if_icmp_eq_off, mj_F_if_icmp_lt_off, mj_F_if_icmp_ne_off, mj_F_iinc_k_n, mj_F_iload_k, mj_F_iload_n_k, mj_F_invokestatic_i, mj_F_invokevirtual_i, mj_F_istore_k, mj_F_istore_n_k, mj_F_isub, mj_F_putfield_i, mj_F_return_, mj_set, mj_set0, mj_unk, mj_c2, mj_kc, FT_X12, FT_X12_1, PT_X12, L_X12_clause, List.take_succ_cons, List.take_zero, List.drop_succ_cons, List.drop_zero, List.reverse_cons, List.reverse_nil, List.length_cons, List.length_nil, gS_M0, gMf_36, sS_Mf_36, gMl, gMf_39, gMf_37, gMf_29, gS_M25, sS_Ma_25, sS_Mf_39, c_isRel_eq, J_X12_clause]
              exact (ok_some hw :)
            · replace hw := ok_f hw c
              exact (ok_some hw :)
          · replace hw := ok_t hw c
            refine c_X12_look_in (ok_imp (ok_bind hw) ?_)
            intro p hw
            simp only [Option.toList, List.nil_append, List.cons_append, Nat.reduceSub]
            refine mj_run hG.1 (fun pc => pc == 4 || pc == 9 || pc == 16 || pc == 31 || pc == 40 || pc == 56 || pc == 60 || pc == 93 || pc == 106 || pc == 120 || pc == 149 || pc == 192 || pc == 198 || pc == 210 || pc == 219 || pc == 243 || pc == 247 || pc == 252) 4000 ?_
            simp only [mj_step, mj_W_s, mj_fin, List.getElem?_cons_zero, List.getElem?_cons_succ, mj_go, Nat.reduceAdd, Nat.reduceSub, Nat.reduceLT, Nat.reduceLeDiff, Nat.zero_add, Nat.reduceEqDiff, Nat.reduceBEq, ↓reduceIte, Bool.false_eq_true, List.append_nil, List.nil_append, List.cons_append, Option.toList, and_true, true_and, true_or, or_true, reduceCtorEq, List.map_nil, bI_eq0, bI_eq1, bool_ft, pk_us, vnar0, vnar1, Bool.or_false, Bool.or_true, Bool.false_or, Bool.true_or, mj_kne, eq_self, Int32.reduceLT, Int32.reduceLE, Int32.reduceAdd, Int32.reduceSub, Int32.reduceMul, not_true_eq_false, not_false_eq_true, false_implies, true_implies, D_X12_clause_0, D_X12_clause_1, D_X12_clause_2, mj_F_aload_n_k, mj_F_bipush_n, mj_F_dup, mj_F_getfield_i, mj_F_goto_off, mj_F_iadd, mj_F_iaload, mj_F_iastore, mj_F_iconst_n, mj_F_ifCond_eq_off, mj_F_ifCond_ne_off, mj_F_if_icmp_eq_off, mj_F_if_icmp_lt_off, mj_F_if_icmp_ne_off, mj_F_iinc_k_n, mj_F_iload_k, mj_F_iload_n_k, mj_F_invokestatic_i, mj_F_invokevirtual_i, mj_F_istore_k, mj_F_istore_n_k, mj_F_isub, mj_F_putfield_i, mj_F_return_, mj_set, mj_set0, mj_unk, mj_c2, mj_kc, FT_X12, FT_X12_1, PT_X12, L_X12_clause, List.take_succ_cons, List.take_zero, List.drop_succ_cons, List.drop_zero, List.reverse_cons, List.reverse_nil, List.length_cons, List.length_nil, gS_M0, gMf_36, sS_Mf_36, gMl, gMf_39, gMf_37, gMf_29, gS_M25, sS_Ma_25, sS_Mf_39, c_isRel_eq, J_X12_clause]
            refine ⟨fun c => ?_, fun c => ?_⟩
            · replace hw := ok_t hw c
              refine mj_run hG.1 (fun pc => pc == 4 || pc == 9 || pc == 16 || pc == 31 || pc == 40 || pc == 56 || pc == 60 || pc == 93 || pc == 106 || pc == 120 || pc == 149 || pc == 192 || pc == 198 || pc == 210 || pc == 219 || pc == 243 || pc == 247 || pc == 252) 4000 ?_
              simp only [mj_step, mj_W_s, mj_fin, List.getElem?_cons_zero, List.getElem?_cons_succ, mj_go, Nat.reduceAdd, Nat.reduceSub, Nat.reduceLT, Nat.reduceLeDiff, Nat.zero_add, Nat.reduceEqDiff, Nat.reduceBEq, ↓reduceIte, Bool.false_eq_true, List.append_nil, List.nil_append, List.cons_append, Option.toList, and_true, true_and, true_or, or_true, reduceCtorEq, List.map_nil, bI_eq0, bI_eq1, bool_ft, pk_us, vnar0, vnar1, Bool.or_false, Bool.or_true, Bool.false_or, Bool.true_or, mj_kne, eq_self, Int32.reduceLT, Int32.reduceLE, Int32.reduceAdd, Int32.reduceSub, Int32.reduceMul, not_true_eq_false, not_false_eq_true, false_implies, true_implies, D_X12_clause_0, D_X12_clause_1, D_X12_clause_2, mj_F_aload_n_k, mj_F_bipush_n, mj_F_dup, mj_F_getfield_i, mj_F_goto_off, mj_F_iadd, mj_F_iaload, mj_F_iastore, mj_F_iconst_n, mj_F_ifCond_eq_off, mj_F_ifCond_ne_off, mj_F_if_icmp_eq_off, mj_F_if_icmp_lt_off, mj_F_if_icmp_ne_off, mj_F_iinc_k_n, mj_F_iload_k, mj_F_iload_n_k, mj_F_invokestatic_i, mj_F_invokevirtual_i, mj_F_istore_k, mj_F_istore_n_k, mj_F_isub, mj_F_putfield_i, mj_F_return_, mj_set, mj_set0, mj_unk, mj_c2, mj_kc, FT_X12, FT_X12_1, PT_X12, L_X12_clause, List.take_succ_cons, List.take_zero, List.drop_succ_cons, List.drop_zero, List.reverse_cons, List.reverse_nil, List.length_cons, List.length_nil, gS_M0, gMf_36, sS_Mf_36, gMl, gMf_39, gMf_37, gMf_29, gS_M25, sS_Ma_25, sS_Mf_39, c_isRel_eq, J_X12_clause]
              refine ⟨fun c => ?_, fun c => ?_⟩
              · replace hw := ok_t hw c
                replace hw := ok_wI hw
                refine c_X12_say_in (ok_imp (ok_bind hw) ?_)
                intro p hw
                simp only [Option.toList, List.nil_append, List.cons_append, Nat.reduceSub]
                refine mj_run hG.1 (fun pc => pc == 4 || pc == 9 || pc == 16 || pc == 31 || pc == 40 || pc == 56 || pc == 60 || pc == 93 || pc == 106 || pc == 120 || pc == 149 || pc == 192 || pc == 198 || pc == 210 || pc == 219 || pc == 243 || pc == 247 || pc == 252) 4000 ?_
                simp only [mj_step, mj_W_s, mj_fin, List.getElem?_cons_zero, List.getElem?_cons_succ, mj_go, Nat.reduceAdd, Nat.reduceSub, Nat.reduceLT, Nat.reduceLeDiff, Nat.zero_add, Nat.reduceEqDiff, Nat.reduceBEq, ↓reduceIte, Bool.false_eq_true, List.append_nil, List.nil_append, List.cons_append, Option.toList, and_true, true_and, true_or, or_true, reduceCtorEq, List.map_nil, bI_eq0, bI_eq1, bool_ft, pk_us, vnar0, vnar1, Bool.or_false, Bool.or_true, Bool.false_or, Bool.true_or, mj_kne, eq_self, Int32.reduceLT, Int32.reduceLE, Int32.reduceAdd, Int32.reduceSub, Int32.reduceMul, not_true_eq_false, not_false_eq_true, false_implies, true_implies, D_X12_clause_0, D_X12_clause_1, D_X12_clause_2, mj_F_aload_n_k, mj_F_bipush_n, mj_F_dup, mj_F_getfield_i, mj_F_goto_off, mj_F_iadd, mj_F_iaload, mj_F_iastore, mj_F_iconst_n, mj_F_ifCond_eq_off, mj_F_ifCond_ne_off, mj_F_if_icmp_eq_off, mj_F_if_icmp_lt_off, mj_F_if_icmp_ne_off, mj_F_iinc_k_n, mj_F_iload_k, mj_F_iload_n_k, mj_F_invokestatic_i, mj_F_invokevirtual_i, mj_F_istore_k, mj_F_istore_n_k, mj_F_isub, mj_F_putfield_i, mj_F_return_, mj_set, mj_set0, mj_unk, mj_c2, mj_kc, FT_X12, FT_X12_1, PT_X12, L_X12_clause, List.take_succ_cons, List.take_zero, List.drop_succ_cons, List.drop_zero, List.reverse_cons, List.reverse_nil, List.length_cons, List.length_nil, gS_M0, gMf_36, sS_Mf_36, gMl, gMf_39, gMf_37, gMf_29, gS_M25, sS_Ma_25, sS_Mf_39, c_isRel_eq, J_X12_clause]
                refine cq_X12_sum_in (ok_imp (ok_bind hw) ?_)
                intro p hw
                simp only [Option.toList, List.nil_append, List.cons_append, Nat.reduceSub]
                refine mj_run hG.1 (fun pc => pc == 4 || pc == 9 || pc == 16 || pc == 31 || pc == 40 || pc == 56 || pc == 60 || pc == 93 || pc == 106 || pc == 120 || pc == 149 || pc == 192 || pc == 198 || pc == 210 || pc == 219 || pc == 243 || pc == 247 || pc == 252) 4000 ?_
                simp only [mj_step, mj_W_s, mj_fin, List.getElem?_cons_zero, List.getElem?_cons_succ, mj_go, Nat.reduceAdd, Nat.reduceSub, Nat.reduceLT, Nat.reduceLeDiff, Nat.zero_add, Nat.reduceEqDiff, Nat.reduceBEq, ↓reduceIte, Bool.false_eq_true, List.append_nil, List.nil_append, List.cons_append, Option.toList, and_true, true_and, true_or, or_true, reduceCtorEq, List.map_nil, bI_eq0, bI_eq1, bool_ft, pk_us, vnar0, vnar1, Bool.or_false, Bool.or_true, Bool.false_or, Bool.true_or, mj_kne, eq_self, Int32.reduceLT, Int32.reduceLE, Int32.reduceAdd, Int32.reduceSub, Int32.reduceMul, not_true_eq_false, not_false_eq_true, false_implies, true_implies, D_X12_clause_0, D_X12_clause_1, D_X12_clause_2, mj_F_aload_n_k, mj_F_bipush_n, mj_F_dup, mj_F_getfield_i, mj_F_goto_off, mj_F_iadd, mj_F_iaload, mj_F_iastore, mj_F_iconst_n, mj_F_ifCond_eq_off, mj_F_ifCond_ne_off, mj_F_if_icmp_eq_off, mj_F_if_icmp_lt_off, mj_F_if_icmp_ne_off, mj_F_iinc_k_n, mj_F_iload_k, mj_F_iload_n_k, mj_F_invokestatic_i, mj_F_invokevirtual_i, mj_F_istore_k, mj_F_istore_n_k, mj_F_isub, mj_F_putfield_i, mj_F_return_, mj_set, mj_set0, mj_unk, mj_c2, mj_kc, FT_X12, FT_X12_1, PT_X12, L_X12_clause, List.take_succ_cons, List.take_zero, List.drop_succ_cons, List.drop_zero, List.reverse_cons, List.reverse_nil, List.length_cons, List.length_nil, gS_M0, gMf_36, sS_Mf_36, gMl, gMf_39, gMf_37, gMf_29, gS_M25, sS_Ma_25, sS_Mf_39, c_isRel_eq, J_X12_clause]
                refine c_X12_say_in (ok_imp (ok_bind hw) ?_)
                intro p hw
                simp only [Option.toList, List.nil_append, List.cons_append, Nat.reduceSub]
                refine mj_run hG.1 (fun pc => pc == 4 || pc == 9 || pc == 16 || pc == 31 || pc == 40 || pc == 56 || pc == 60 || pc == 93 || pc == 106 || pc == 120 || pc == 149 || pc == 192 || pc == 198 || pc == 210 || pc == 219 || pc == 243 || pc == 247 || pc == 252) 4000 ?_
                simp only [mj_step, mj_W_s, mj_fin, List.getElem?_cons_zero, List.getElem?_cons_succ, mj_go, Nat.reduceAdd, Nat.reduceSub, Nat.reduceLT, Nat.reduceLeDiff, Nat.zero_add, Nat.reduceEqDiff, Nat.reduceBEq, ↓reduceIte, Bool.false_eq_true, List.append_nil, List.nil_append, List.cons_append, Option.toList, and_true, true_and, true_or, or_true, reduceCtorEq, List.map_nil, bI_eq0, bI_eq1, bool_ft, pk_us, vnar0, vnar1, Bool.or_false, Bool.or_true, Bool.false_or, Bool.true_or, mj_kne, eq_self, Int32.reduceLT, Int32.reduceLE, Int32.reduceAdd, Int32.reduceSub, Int32.reduceMul, not_true_eq_false, not_false_eq_true, false_implies, true_implies, D_X12_clause_0, D_X12_clause_1, D_X12_clause_2, mj_F_aload_n_k, mj_F_bipush_n, mj_F_dup, mj_F_getfield_i, mj_F_goto_off, mj_F_iadd, mj_F_iaload, mj_F_iastore, mj_F_iconst_n, mj_F_ifCond_eq_off, mj_F_ifCond_ne_off, mj_F_if_icmp_eq_off, mj_F_if_icmp_lt_off, mj_F_if_icmp_ne_off, mj_F_iinc_k_n, mj_F_iload_k, mj_F_iload_n_k, mj_F_invokestatic_i, mj_F_invokevirtual_i, mj_F_istore_k, mj_F_istore_n_k, mj_F_isub, mj_F_putfield_i, mj_F_return_, mj_set, mj_set0, mj_unk, mj_c2, mj_kc, FT_X12, FT_X12_1, PT_X12, L_X12_clause, List.take_succ_cons, List.take_zero, List.drop_succ_cons, List.drop_zero, List.reverse_cons, List.reverse_nil, List.length_cons, List.length_nil, gS_M0, gMf_36, sS_Mf_36, gMl, gMf_39, gMf_37, gMf_29, gS_M25, sS_Ma_25, sS_Mf_39, c_isRel_eq, J_X12_clause]
                exact (ok_some hw :)
              · replace hw := ok_f hw c
                exact (ok_some hw :)
            · replace hw := ok_f hw c
              refine c_X12_bad_in (ok_imp (ok_bind hw) ?_)
              intro p hw
              simp only [Option.toList, List.nil_append, List.cons_append, Nat.reduceSub]
              refine mj_run hG.1 (fun pc => pc == 4 || pc == 9 || pc == 16 || pc == 31 || pc == 40 || pc == 56 || pc == 60 || pc == 93 || pc == 106 || pc == 120 || pc == 149 || pc == 192 || pc == 198 || pc == 210 || pc == 219 || pc == 243 || pc == 247 || pc == 252) 4000 ?_
              simp only [mj_step, mj_W_s, mj_fin, List.getElem?_cons_zero, List.getElem?_cons_succ, mj_go, Nat.reduceAdd, Nat.reduceSub, Nat.reduceLT, Nat.reduceLeDiff, Nat.zero_add, Nat.reduceEqDiff, Nat.reduceBEq, ↓reduceIte, Bool.false_eq_true, List.append_nil, List.nil_append, List.cons_append, Option.toList, and_true, true_and, true_or, or_true, reduceCtorEq, List.map_nil, bI_eq0, bI_eq1, bool_ft, pk_us, vnar0, vnar1, Bool.or_false, Bool.or_true, Bool.false_or, Bool.true_or, mj_kne, eq_self, Int32.reduceLT, Int32.reduceLE, Int32.reduceAdd, Int32.reduceSub, Int32.reduceMul, not_true_eq_false, not_false_eq_true, false_implies, true_implies, D_X12_clause_0, D_X12_clause_1, D_X12_clause_2, mj_F_aload_n_k, mj_F_bipush_n, mj_F_dup, mj_F_getfield_i, mj_F_goto_off, mj_F_iadd, mj_F_iaload, mj_F_iastore, mj_F_iconst_n, mj_F_ifCond_eq_off, mj_F_ifCond_ne_off, mj_F_if_icmp_eq_off, mj_F_if_icmp_lt_off, mj_F_if_icmp_ne_off, mj_F_iinc_k_n, mj_F_iload_k, mj_F_iload_n_k, mj_F_invokestatic_i, mj_F_invokevirtual_i, mj_F_istore_k, mj_F_istore_n_k, mj_F_isub, mj_F_putfield_i, mj_F_return_, mj_set, mj_set0, mj_unk, mj_c2, mj_kc, FT_X12, FT_X12_1, PT_X12, L_X12_clause, List.take_succ_cons, List.take_zero, List.drop_succ_cons, List.drop_zero, List.reverse_cons, List.reverse_nil, List.length_cons, List.length_nil, gS_M0, gMf_36, sS_Mf_36, gMl, gMf_39, gMf_37, gMf_29, gS_M25, sS_Ma_25, sS_Mf_39, c_isRel_eq, J_X12_clause]
              refine ⟨fun c => ?_, fun c => ?_⟩
              · replace hw := ok_t hw c
                replace hw := ok_wI hw
                refine c_X12_say_in (ok_imp (ok_bind hw) ?_)
                intro p hw
                simp only [Option.toList, List.nil_append, List.cons_append, Nat.reduceSub]
                refine mj_run hG.1 (fun pc => pc == 4 || pc == 9 || pc == 16 || pc == 31 || pc == 40 || pc == 56 || pc == 60 || pc == 93 || pc == 106 || pc == 120 || pc == 149 || pc == 192 || pc == 198 || pc == 210 || pc == 219 || pc == 243 || pc == 247 || pc == 252) 4000 ?_
                simp only [mj_step, mj_W_s, mj_fin, List.getElem?_cons_zero, List.getElem?_cons_succ, mj_go, Nat.reduceAdd, Nat.reduceSub, Nat.reduceLT, Nat.reduceLeDiff, Nat.zero_add, Nat.reduceEqDiff, Nat.reduceBEq, ↓reduceIte, Bool.false_eq_true, List.append_nil, List.nil_append, List.cons_append, Option.toList, and_true, true_and, true_or, or_true, reduceCtorEq, List.map_nil, bI_eq0, bI_eq1, bool_ft, pk_us, vnar0, vnar1, Bool.or_false, Bool.or_true, Bool.false_or, Bool.true_or, mj_kne, eq_self, Int32.reduceLT, Int32.reduceLE, Int32.reduceAdd, Int32.reduceSub, Int32.reduceMul, not_true_eq_false, not_false_eq_true, false_implies, true_implies, D_X12_clause_0, D_X12_clause_1, D_X12_clause_2, mj_F_aload_n_k, mj_F_bipush_n, mj_F_dup, mj_F_getfield_i, mj_F_goto_off, mj_F_iadd, mj_F_iaload, mj_F_iastore, mj_F_iconst_n, mj_F_ifCond_eq_off, mj_F_ifCond_ne_off, mj_F_if_icmp_eq_off, mj_F_if_icmp_lt_off, mj_F_if_icmp_ne_off, mj_F_iinc_k_n, mj_F_iload_k, mj_F_iload_n_k, mj_F_invokestatic_i, mj_F_invokevirtual_i, mj_F_istore_k, mj_F_istore_n_k, mj_F_isub, mj_F_putfield_i, mj_F_return_, mj_set, mj_set0, mj_unk, mj_c2, mj_kc, FT_X12, FT_X12_1, PT_X12, L_X12_clause, List.take_succ_cons, List.take_zero, List.drop_succ_cons, List.drop_zero, List.reverse_cons, List.reverse_nil, List.length_cons, List.length_nil, gS_M0, gMf_36, sS_Mf_36, gMl, gMf_39, gMf_37, gMf_29, gS_M25, sS_Ma_25, sS_Mf_39, c_isRel_eq, J_X12_clause]
                refine cq_X12_sum_in (ok_imp (ok_bind hw) ?_)
                intro p hw
                simp only [Option.toList, List.nil_append, List.cons_append, Nat.reduceSub]
                refine mj_run hG.1 (fun pc => pc == 4 || pc == 9 || pc == 16 || pc == 31 || pc == 40 || pc == 56 || pc == 60 || pc == 93 || pc == 106 || pc == 120 || pc == 149 || pc == 192 || pc == 198 || pc == 210 || pc == 219 || pc == 243 || pc == 247 || pc == 252) 4000 ?_
                simp only [mj_step, mj_W_s, mj_fin, List.getElem?_cons_zero, List.getElem?_cons_succ, mj_go, Nat.reduceAdd, Nat.reduceSub, Nat.reduceLT, Nat.reduceLeDiff, Nat.zero_add, Nat.reduceEqDiff, Nat.reduceBEq, ↓reduceIte, Bool.false_eq_true, List.append_nil, List.nil_append, List.cons_append, Option.toList, and_true, true_and, true_or, or_true, reduceCtorEq, List.map_nil, bI_eq0, bI_eq1, bool_ft, pk_us, vnar0, vnar1, Bool.or_false, Bool.or_true, Bool.false_or, Bool.true_or, mj_kne, eq_self, Int32.reduceLT, Int32.reduceLE, Int32.reduceAdd, Int32.reduceSub, Int32.reduceMul, not_true_eq_false, not_false_eq_true, false_implies, true_implies, D_X12_clause_0, D_X12_clause_1, D_X12_clause_2, mj_F_aload_n_k, mj_F_bipush_n, mj_F_dup, mj_F_getfield_i, mj_F_goto_off, mj_F_iadd, mj_F_iaload, mj_F_iastore, mj_F_iconst_n, mj_F_ifCond_eq_off, mj_F_ifCond_ne_off, mj_F_if_icmp_eq_off, mj_F_if_icmp_lt_off, mj_F_if_icmp_ne_off, mj_F_iinc_k_n, mj_F_iload_k, mj_F_iload_n_k, mj_F_invokestatic_i, mj_F_invokevirtual_i, mj_F_istore_k, mj_F_istore_n_k, mj_F_isub, mj_F_putfield_i, mj_F_return_, mj_set, mj_set0, mj_unk, mj_c2, mj_kc, FT_X12, FT_X12_1, PT_X12, L_X12_clause, List.take_succ_cons, List.take_zero, List.drop_succ_cons, List.drop_zero, List.reverse_cons, List.reverse_nil, List.length_cons, List.length_nil, gS_M0, gMf_36, sS_Mf_36, gMl, gMf_39, gMf_37, gMf_29, gS_M25, sS_Ma_25, sS_Mf_39, c_isRel_eq, J_X12_clause]
                refine c_X12_say_in (ok_imp (ok_bind hw) ?_)
                intro p hw
                simp only [Option.toList, List.nil_append, List.cons_append, Nat.reduceSub]
                refine mj_run hG.1 (fun pc => pc == 4 || pc == 9 || pc == 16 || pc == 31 || pc == 40 || pc == 56 || pc == 60 || pc == 93 || pc == 106 || pc == 120 || pc == 149 || pc == 192 || pc == 198 || pc == 210 || pc == 219 || pc == 243 || pc == 247 || pc == 252) 4000 ?_
                simp only [mj_step, mj_W_s, mj_fin, List.getElem?_cons_zero, List.getElem?_cons_succ, mj_go, Nat.reduceAdd, Nat.reduceSub, Nat.reduceLT, Nat.reduceLeDiff, Nat.zero_add, Nat.reduceEqDiff, Nat.reduceBEq, ↓reduceIte, Bool.false_eq_true, List.append_nil, List.nil_append, List.cons_append, Option.toList, and_true, true_and, true_or, or_true, reduceCtorEq, List.map_nil, bI_eq0, bI_eq1, bool_ft, pk_us, vnar0, vnar1, Bool.or_false, Bool.or_true, Bool.false_or, Bool.true_or, mj_kne, eq_self, Int32.reduceLT, Int32.reduceLE, Int32.reduceAdd, Int32.reduceSub, Int32.reduceMul, not_true_eq_false, not_false_eq_true, false_implies, true_implies, D_X12_clause_0, D_X12_clause_1, D_X12_clause_2, mj_F_aload_n_k, mj_F_bipush_n, mj_F_dup, mj_F_getfield_i, mj_F_goto_off, mj_F_iadd, mj_F_iaload, mj_F_iastore, mj_F_iconst_n, mj_F_ifCond_eq_off, mj_F_ifCond_ne_off, mj_F_if_icmp_eq_off, mj_F_if_icmp_lt_off, mj_F_if_icmp_ne_off, mj_F_iinc_k_n, mj_F_iload_k, mj_F_iload_n_k, mj_F_invokestatic_i, mj_F_invokevirtual_i, mj_F_istore_k, mj_F_istore_n_k, mj_F_isub, mj_F_putfield_i, mj_F_return_, mj_set, mj_set0, mj_unk, mj_c2, mj_kc, FT_X12, FT_X12_1, PT_X12, L_X12_clause, List.take_succ_cons, List.take_zero, List.drop_succ_cons, List.drop_zero, List.reverse_cons, List.reverse_nil, List.length_cons, List.length_nil, gS_M0, gMf_36, sS_Mf_36, gMl, gMf_39, gMf_37, gMf_29, gS_M25, sS_Ma_25, sS_Mf_39, c_isRel_eq, J_X12_clause]
                exact (ok_some hw :)
              · replace hw := ok_f hw c
                exact (ok_some hw :)
        · replace hw := ok_f hw c
          refine cq_X12_sum_in (ok_imp (ok_bind hw) ?_)
          intro p hw
          simp only [Option.toList, List.nil_append, List.cons_append, Nat.reduceSub]
          refine mj_run hG.1 (fun pc => pc == 4 || pc == 9 || pc == 16 || pc == 31 || pc == 40 || pc == 56 || pc == 60 || pc == 93 || pc == 106 || pc == 120 || pc == 149 || pc == 192 || pc == 198 || pc == 210 || pc == 219 || pc == 243 || pc == 247 || pc == 252) 4000 ?_
          simp only [mj_step, mj_W_s, mj_fin, List.getElem?_cons_zero, List.getElem?_cons_succ, mj_go, Nat.reduceAdd, Nat.reduceSub, Nat.reduceLT, Nat.reduceLeDiff, Nat.zero_add, Nat.reduceEqDiff, Nat.reduceBEq, ↓reduceIte, Bool.false_eq_true, List.append_nil, List.nil_append, List.cons_append, Option.toList, and_true, true_and, true_or, or_true, reduceCtorEq, List.map_nil, bI_eq0, bI_eq1, bool_ft, pk_us, vnar0, vnar1, Bool.or_false, Bool.or_true, Bool.false_or, Bool.true_or, mj_kne, eq_self, Int32.reduceLT, Int32.reduceLE, Int32.reduceAdd, Int32.reduceSub, Int32.reduceMul, not_true_eq_false, not_false_eq_true, false_implies, true_implies, D_X12_clause_0, D_X12_clause_1, D_X12_clause_2, mj_F_aload_n_k, mj_F_bipush_n, mj_F_dup, mj_F_getfield_i, mj_F_goto_off, mj_F_iadd, mj_F_iaload, mj_F_iastore, mj_F_iconst_n, mj_F_ifCond_eq_off, mj_F_ifCond_ne_off, mj_F_if_icmp_eq_off, mj_F_if_icmp_lt_off, mj_F_if_icmp_ne_off, mj_F_iinc_k_n, mj_F_iload_k, mj_F_iload_n_k, mj_F_invokestatic_i, mj_F_invokevirtual_i, mj_F_istore_k, mj_F_istore_n_k, mj_F_isub, mj_F_putfield_i, mj_F_return_, mj_set, mj_set0, mj_unk, mj_c2, mj_kc, FT_X12, FT_X12_1, PT_X12, L_X12_clause, List.take_succ_cons, List.take_zero, List.drop_succ_cons, List.drop_zero, List.reverse_cons, List.reverse_nil, List.length_cons, List.length_nil, gS_M0, gMf_36, sS_Mf_36, gMl, gMf_39, gMf_37, gMf_29, gS_M25, sS_Ma_25, sS_Mf_39, c_isRel_eq, J_X12_clause]
          refine ⟨fun c => ?_, fun c => ?_⟩
          · replace hw := ok_t hw c
            refine c_X12_look_in (ok_imp (ok_bind hw) ?_)
            intro p hw
            simp only [Option.toList, List.nil_append, List.cons_append, Nat.reduceSub]
            refine mj_run hG.1 (fun pc => pc == 4 || pc == 9 || pc == 16 || pc == 31 || pc == 40 || pc == 56 || pc == 60 || pc == 93 || pc == 106 || pc == 120 || pc == 149 || pc == 192 || pc == 198 || pc == 210 || pc == 219 || pc == 243 || pc == 247 || pc == 252) 4000 ?_
            simp only [mj_step, mj_W_s, mj_fin, List.getElem?_cons_zero, List.getElem?_cons_succ, mj_go, Nat.reduceAdd, Nat.reduceSub, Nat.reduceLT, Nat.reduceLeDiff, Nat.zero_add, Nat.reduceEqDiff, Nat.reduceBEq, ↓reduceIte, Bool.false_eq_true, List.append_nil, List.nil_append, List.cons_append, Option.toList, and_true, true_and, true_or, or_true, reduceCtorEq, List.map_nil, bI_eq0, bI_eq1, bool_ft, pk_us, vnar0, vnar1, Bool.or_false, Bool.or_true, Bool.false_or, Bool.true_or, mj_kne, eq_self, Int32.reduceLT, Int32.reduceLE, Int32.reduceAdd, Int32.reduceSub, Int32.reduceMul, not_true_eq_false, not_false_eq_true, false_implies, true_implies, D_X12_clause_0, D_X12_clause_1, D_X12_clause_2, mj_F_aload_n_k, mj_F_bipush_n, mj_F_dup, mj_F_getfield_i, mj_F_goto_off, mj_F_iadd, mj_F_iaload, mj_F_iastore, mj_F_iconst_n, mj_F_ifCond_eq_off, mj_F_ifCond_ne_off, mj_F_if_icmp_eq_off, mj_F_if_icmp_lt_off, mj_F_if_icmp_ne_off, mj_F_iinc_k_n, mj_F_iload_k, mj_F_iload_n_k, mj_F_invokestatic_i, mj_F_invokevirtual_i, mj_F_istore_k, mj_F_istore_n_k, mj_F_isub, mj_F_putfield_i, mj_F_return_, mj_set, mj_set0, mj_unk, mj_c2, mj_kc, FT_X12, FT_X12_1, PT_X12, L_X12_clause, List.take_succ_cons, List.take_zero, List.drop_succ_cons, List.drop_zero, List.reverse_cons, List.reverse_nil, List.length_cons, List.length_nil, gS_M0, gMf_36, sS_Mf_36, gMl, gMf_39, gMf_37, gMf_29, gS_M25, sS_Ma_25, sS_Mf_39, c_isRel_eq, J_X12_clause]
            refine ⟨fun c => ?_, fun c => ?_⟩
            · replace hw := ok_f hw c
              refine cq_X12_condition_in (ok_imp (ok_bind hw) ?_)
              intro p hw
              simp only [Option.toList, List.nil_append, List.cons_append, Nat.reduceSub]
              refine mj_run hG.1 (fun pc => pc == 4 || pc == 9 || pc == 16 || pc == 31 || pc == 40 || pc == 56 || pc == 60 || pc == 93 || pc == 106 || pc == 120 || pc == 149 || pc == 192 || pc == 198 || pc == 210 || pc == 219 || pc == 243 || pc == 247 || pc == 252) 4000 ?_
              simp only [mj_step, mj_W_s, mj_fin, List.getElem?_cons_zero, List.getElem?_cons_succ, mj_go, Nat.reduceAdd, Nat.reduceSub, Nat.reduceLT, Nat.reduceLeDiff, Nat.zero_add, Nat.reduceEqDiff, Nat.reduceBEq, ↓reduceIte, Bool.false_eq_true, List.append_nil, List.nil_append, List.cons_append, Option.toList, and_true, true_and, true_or, or_true, reduceCtorEq, List.map_nil, bI_eq0, bI_eq1, bool_ft, pk_us, vnar0, vnar1, Bool.or_false, Bool.or_true, Bool.false_or, Bool.true_or, mj_kne, eq_self, Int32.reduceLT, Int32.reduceLE, Int32.reduceAdd, Int32.reduceSub, Int32.reduceMul, not_true_eq_false, not_false_eq_true, false_implies, true_implies, D_X12_clause_0, D_X12_clause_1, D_X12_clause_2, mj_F_aload_n_k, mj_F_bipush_n, mj_F_dup, mj_F_getfield_i, mj_F_goto_off, mj_F_iadd, mj_F_iaload, mj_F_iastore, mj_F_iconst_n, mj_F_ifCond_eq_off, mj_F_ifCond_ne_off, mj_F_if_icmp_eq_off, mj_F_if_icmp_lt_off, mj_F_if_icmp_ne_off, mj_F_iinc_k_n, mj_F_iload_k, mj_F_iload_n_k, mj_F_invokestatic_i, mj_F_invokevirtual_i, mj_F_istore_k, mj_F_istore_n_k, mj_F_isub, mj_F_putfield_i, mj_F_return_, mj_set, mj_set0, mj_unk, mj_c2, mj_kc, FT_X12, FT_X12_1, PT_X12, L_X12_clause, List.take_succ_cons, List.take_zero, List.drop_succ_cons, List.drop_zero, List.reverse_cons, List.reverse_nil, List.length_cons, List.length_nil, gS_M0, gMf_36, sS_Mf_36, gMl, gMf_39, gMf_37, gMf_29, gS_M25, sS_Ma_25, sS_Mf_39, c_isRel_eq, J_X12_clause]
              refine ⟨fun c => ?_, fun c => ?_⟩
              · replace hw := ok_f hw c
                refine mj_run hG.1 (fun pc => pc == 4 || pc == 9 || pc == 16 || pc == 31 || pc == 40 || pc == 56 || pc == 60 || pc == 93 || pc == 106 || pc == 120 || pc == 149 || pc == 192 || pc == 198 || pc == 210 || pc == 219 || pc == 243 || pc == 247 || pc == 252) 4000 ?_
                simp only [mj_step, mj_W_s, mj_fin, List.getElem?_cons_zero, List.getElem?_cons_succ, mj_go, Nat.reduceAdd, Nat.reduceSub, Nat.reduceLT, Nat.reduceLeDiff, Nat.zero_add, Nat.reduceEqDiff, Nat.reduceBEq, ↓reduceIte, Bool.false_eq_true, List.append_nil, List.nil_append, List.cons_append, Option.toList, and_true, true_and, true_or, or_true, reduceCtorEq, List.map_nil, bI_eq0, bI_eq1, bool_ft, pk_us, vnar0, vnar1, Bool.or_false, Bool.or_true, Bool.false_or, Bool.true_or, mj_kne, eq_self, Int32.reduceLT, Int32.reduceLE, Int32.reduceAdd, Int32.reduceSub, Int32.reduceMul, not_true_eq_false, not_false_eq_true, false_implies, true_implies, D_X12_clause_0, D_X12_clause_1, D_X12_clause_2, mj_F_aload_n_k, mj_F_bipush_n, mj_F_dup, mj_F_getfield_i, mj_F_goto_off, mj_F_iadd, mj_F_iaload, mj_F_iastore, mj_F_iconst_n, mj_F_ifCond_eq_off, mj_F_ifCond_ne_off, mj_F_if_icmp_eq_off, mj_F_if_icmp_lt_off, mj_F_if_icmp_ne_off, mj_F_iinc_k_n, mj_F_iload_k, mj_F_iload_n_k, mj_F_invokestatic_i, mj_F_invokevirtual_i, mj_F_istore_k, mj_F_istore_n_k, mj_F_isub, mj_F_putfield_i, mj_F_return_, mj_set, mj_set0, mj_unk, mj_c2, mj_kc, FT_X12, FT_X12_1, PT_X12, L_X12_clause, List.take_succ_cons, List.take_zero, List.drop_succ_cons, List.drop_zero, List.reverse_cons, List.reverse_nil, List.length_cons, List.length_nil, gS_M0, gMf_36, sS_Mf_36, gMl, gMf_39, gMf_37, gMf_29, gS_M25, sS_Ma_25, sS_Mf_39, c_isRel_eq, J_X12_clause]
                refine ⟨fun c => ?_, fun c => ?_⟩
                · replace hw := ok_t hw c
                  replace hw := ok_wI hw
                  refine c_X12_say_in (ok_imp (ok_bind hw) ?_)
                  intro p hw
                  simp only [Option.toList, List.nil_append, List.cons_append, Nat.reduceSub]
                  refine mj_run hG.1 (fun pc => pc == 4 || pc == 9 || pc == 16 || pc == 31 || pc == 40 || pc == 56 || pc == 60 || pc == 93 || pc == 106 || pc == 120 || pc == 149 || pc == 192 || pc == 198 || pc == 210 || pc == 219 || pc == 243 || pc == 247 || pc == 252) 4000 ?_
                  simp only [mj_step, mj_W_s, mj_fin, List.getElem?_cons_zero, List.getElem?_cons_succ, mj_go, Nat.reduceAdd, Nat.reduceSub, Nat.reduceLT, Nat.reduceLeDiff, Nat.zero_add, Nat.reduceEqDiff, Nat.reduceBEq, ↓reduceIte, Bool.false_eq_true, List.append_nil, List.nil_append, List.cons_append, Option.toList, and_true, true_and, true_or, or_true, reduceCtorEq, List.map_nil, bI_eq0, bI_eq1, bool_ft, pk_us, vnar0, vnar1, Bool.or_false, Bool.or_true, Bool.false_or, Bool.true_or, mj_kne, eq_self, Int32.reduceLT, Int32.reduceLE, Int32.reduceAdd, Int32.reduceSub, Int32.reduceMul, not_true_eq_false, not_false_eq_true, false_implies, true_implies, D_X12_clause_0, D_X12_clause_1, D_X12_clause_2, mj_F_aload_n_k, mj_F_bipush_n, mj_F_dup, mj_F_getfield_i, mj_F_goto_off, mj_F_iadd, mj_F_iaload, mj_F_iastore, mj_F_iconst_n, mj_F_ifCond_eq_off, mj_F_ifCond_ne_off, mj_F_if_icmp_eq_off, mj_F_if_icmp_lt_off, mj_F_if_icmp_ne_off, mj_F_iinc_k_n, mj_F_iload_k, mj_F_iload_n_k, mj_F_invokestatic_i, mj_F_invokevirtual_i, mj_F_istore_k, mj_F_istore_n_k, mj_F_isub, mj_F_putfield_i, mj_F_return_, mj_set, mj_set0, mj_unk, mj_c2, mj_kc, FT_X12, FT_X12_1, PT_X12, L_X12_clause, List.take_succ_cons, List.take_zero, List.drop_succ_cons, List.drop_zero, List.reverse_cons, List.reverse_nil, List.length_cons, List.length_nil, gS_M0, gMf_36, sS_Mf_36, gMl, gMf_39, gMf_37, gMf_29, gS_M25, sS_Ma_25, sS_Mf_39, c_isRel_eq, J_X12_clause]
                  refine cq_X12_sum_in (ok_imp (ok_bind hw) ?_)
                  intro p hw
                  simp only [Option.toList, List.nil_append, List.cons_append, Nat.reduceSub]
                  refine mj_run hG.1 (fun pc => pc == 4 || pc == 9 || pc == 16 || pc == 31 || pc == 40 || pc == 56 || pc == 60 || pc == 93 || pc == 106 || pc == 120 || pc == 149 || pc == 192 || pc == 198 || pc == 210 || pc == 219 || pc == 243 || pc == 247 || pc == 252) 4000 ?_
                  simp only [mj_step, mj_W_s, mj_fin, List.getElem?_cons_zero, List.getElem?_cons_succ, mj_go, Nat.reduceAdd, Nat.reduceSub, Nat.reduceLT, Nat.reduceLeDiff, Nat.zero_add, Nat.reduceEqDiff, Nat.reduceBEq, ↓reduceIte, Bool.false_eq_true, List.append_nil, List.nil_append, List.cons_append, Option.toList, and_true, true_and, true_or, or_true, reduceCtorEq, List.map_nil, bI_eq0, bI_eq1, bool_ft, pk_us, vnar0, vnar1, Bool.or_false, Bool.or_true, Bool.false_or, Bool.true_or, mj_kne, eq_self, Int32.reduceLT, Int32.reduceLE, Int32.reduceAdd, Int32.reduceSub, Int32.reduceMul, not_true_eq_false, not_false_eq_true, false_implies, true_implies, D_X12_clause_0, D_X12_clause_1, D_X12_clause_2, mj_F_aload_n_k, mj_F_bipush_n, mj_F_dup, mj_F_getfield_i, mj_F_goto_off, mj_F_iadd, mj_F_iaload, mj_F_iastore, mj_F_iconst_n, mj_F_ifCond_eq_off, mj_F_ifCond_ne_off, mj_F_if_icmp_eq_off, mj_F_if_icmp_lt_off, mj_F_if_icmp_ne_off, mj_F_iinc_k_n, mj_F_iload_k, mj_F_iload_n_k, mj_F_invokestatic_i, mj_F_invokevirtual_i, mj_F_istore_k, mj_F_istore_n_k, mj_F_isub, mj_F_putfield_i, mj_F_return_, mj_set, mj_set0, mj_unk, mj_c2, mj_kc, FT_X12, FT_X12_1, PT_X12, L_X12_clause, List.take_succ_cons, List.take_zero, List.drop_succ_cons, List.drop_zero, List.reverse_cons, List.reverse_nil, List.length_cons, List.length_nil, gS_M0, gMf_36, sS_Mf_36, gMl, gMf_39, gMf_37, gMf_29, gS_M25, sS_Ma_25, sS_Mf_39, c_isRel_eq, J_X12_clause]
                  refine c_X12_say_in (ok_imp (ok_bind hw) ?_)
                  intro p hw
                  simp only [Option.toList, List.nil_append, List.cons_append, Nat.reduceSub]
                  refine mj_run hG.1 (fun pc => pc == 4 || pc == 9 || pc == 16 || pc == 31 || pc == 40 || pc == 56 || pc == 60 || pc == 93 || pc == 106 || pc == 120 || pc == 149 || pc == 192 || pc == 198 || pc == 210 || pc == 219 || pc == 243 || pc == 247 || pc == 252) 4000 ?_
                  simp only [mj_step, mj_W_s, mj_fin, List.getElem?_cons_zero, List.getElem?_cons_succ, mj_go, Nat.reduceAdd, Nat.reduceSub, Nat.reduceLT, Nat.reduceLeDiff, Nat.zero_add, Nat.reduceEqDiff, Nat.reduceBEq, ↓reduceIte, Bool.false_eq_true, List.append_nil, List.nil_append, List.cons_append, Option.toList, and_true, true_and, true_or, or_true, reduceCtorEq, List.map_nil, bI_eq0, bI_eq1, bool_ft, pk_us, vnar0, vnar1, Bool.or_false, Bool.or_true, Bool.false_or, Bool.true_or, mj_kne, eq_self, Int32.reduceLT, Int32.reduceLE, Int32.reduceAdd, Int32.reduceSub, Int32.reduceMul, not_true_eq_false, not_false_eq_true, false_implies, true_implies, D_X12_clause_0, D_X12_clause_1, D_X12_clause_2, mj_F_aload_n_k, mj_F_bipush_n, mj_F_dup, mj_F_getfield_i, mj_F_goto_off, mj_F_iadd, mj_F_iaload, mj_F_iastore, mj_F_iconst_n, mj_F_ifCond_eq_off, mj_F_ifCond_ne_off, mj_F_if_icmp_eq_off, mj_F_if_icmp_lt_off, mj_F_if_icmp_ne_off, mj_F_iinc_k_n, mj_F_iload_k, mj_F_iload_n_k, mj_F_invokestatic_i, mj_F_invokevirtual_i, mj_F_istore_k, mj_F_istore_n_k, mj_F_isub, mj_F_putfield_i, mj_F_return_, mj_set, mj_set0, mj_unk, mj_c2, mj_kc, FT_X12, FT_X12_1, PT_X12, L_X12_clause, List.take_succ_cons, List.take_zero, List.drop_succ_cons, List.drop_zero, List.reverse_cons, List.reverse_nil, List.length_cons, List.length_nil, gS_M0, gMf_36, sS_Mf_36, gMl, gMf_39, gMf_37, gMf_29, gS_M25, sS_Ma_25, sS_Mf_39, c_isRel_eq, J_X12_clause]
                  exact (ok_some hw :)
                · replace hw := ok_f hw c
                  exact (ok_some hw :)
              · replace hw := ok_t hw c
                refine c_X12_look_in (ok_imp (ok_bind hw) ?_)
                intro p hw
                simp only [Option.toList, List.nil_append, List.cons_append, Nat.reduceSub]
                refine mj_run hG.1 (fun pc => pc == 4 || pc == 9 || pc == 16 || pc == 31 || pc == 40 || pc == 56 || pc == 60 || pc == 93 || pc == 106 || pc == 120 || pc == 149 || pc == 192 || pc == 198 || pc == 210 || pc == 219 || pc == 243 || pc == 247 || pc == 252) 4000 ?_
                simp only [mj_step, mj_W_s, mj_fin, List.getElem?_cons_zero, List.getElem?_cons_succ, mj_go, Nat.reduceAdd, Nat.reduceSub, Nat.reduceLT, Nat.reduceLeDiff, Nat.zero_add, Nat.reduceEqDiff, Nat.reduceBEq, ↓reduceIte, Bool.false_eq_true, List.append_nil, List.nil_append, List.cons_append, Option.toList, and_true, true_and, true_or, or_true, reduceCtorEq, List.map_nil, bI_eq0, bI_eq1, bool_ft, pk_us, vnar0, vnar1, Bool.or_false, Bool.or_true, Bool.false_or, Bool.true_or, mj_kne, eq_self, Int32.reduceLT, Int32.reduceLE, Int32.reduceAdd, Int32.reduceSub, Int32.reduceMul, not_true_eq_false, not_false_eq_true, false_implies, true_implies, D_X12_clause_0, D_X12_clause_1, D_X12_clause_2, mj_F_aload_n_k, mj_F_bipush_n, mj_F_dup, mj_F_getfield_i, mj_F_goto_off, mj_F_iadd, mj_F_iaload, mj_F_iastore, mj_F_iconst_n, mj_F_ifCond_eq_off, mj_F_ifCond_ne_off, mj_F_if_icmp_eq_off, mj_F_if_icmp_lt_off, mj_F_if_icmp_ne_off, mj_F_iinc_k_n, mj_F_iload_k, mj_F_iload_n_k, mj_F_invokestatic_i, mj_F_invokevirtual_i, mj_F_istore_k, mj_F_istore_n_k, mj_F_isub, mj_F_putfield_i, mj_F_return_, mj_set, mj_set0, mj_unk, mj_c2, mj_kc, FT_X12, FT_X12_1, PT_X12, L_X12_clause, List.take_succ_cons, List.take_zero, List.drop_succ_cons, List.drop_zero, List.reverse_cons, List.reverse_nil, List.length_cons, List.length_nil, gS_M0, gMf_36, sS_Mf_36, gMl, gMf_39, gMf_37, gMf_29, gS_M25, sS_Ma_25, sS_Mf_39, c_isRel_eq, J_X12_clause]
                refine ⟨fun c => ?_, fun c => ?_⟩
                · replace hw := ok_t hw c
                  refine mj_run hG.1 (fun pc => pc == 4 || pc == 9 || pc == 16 || pc == 31 || pc == 40 || pc == 56 || pc == 60 || pc == 93 || pc == 106 || pc == 120 || pc == 149 || pc == 192 || pc == 198 || pc == 210 || pc == 219 || pc == 243 || pc == 247 || pc == 252) 4000 ?_
                  simp only [mj_step, mj_W_s, mj_fin, List.getElem?_cons_zero, List.getElem?_cons_succ, mj_go, Nat.reduceAdd, Nat.reduceSub, Nat.reduceLT, Nat.reduceLeDiff, Nat.zero_add, Nat.reduceEqDiff, Nat.reduceBEq, ↓reduceIte, Bool.false_eq_true, List.append_nil, List.nil_append, List.cons_append, Option.toList, and_true, true_and, true_or, or_true, reduceCtorEq, List.map_nil, bI_eq0, bI_eq1, bool_ft, pk_us, vnar0, vnar1, Bool.or_false, Bool.or_true, Bool.false_or, Bool.true_or, mj_kne, eq_self, Int32.reduceLT, Int32.reduceLE, Int32.reduceAdd, Int32.reduceSub, Int32.reduceMul, not_true_eq_false, not_false_eq_true, false_implies, true_implies, D_X12_clause_0, D_X12_clause_1, D_X12_clause_2, mj_F_aload_n_k, mj_F_bipush_n, mj_F_dup, mj_F_getfield_i, mj_F_goto_off, mj_F_iadd, mj_F_iaload, mj_F_iastore, mj_F_iconst_n, mj_F_ifCond_eq_off, mj_F_ifCond_ne_off, mj_F_if_icmp_eq_off, mj_F_if_icmp_lt_off, mj_F_if_icmp_ne_off, mj_F_iinc_k_n, mj_F_iload_k, mj_F_iload_n_k, mj_F_invokestatic_i, mj_F_invokevirtual_i, mj_F_istore_k, mj_F_istore_n_k, mj_F_isub, mj_F_putfield_i, mj_F_return_, mj_set, mj_set0, mj_unk, mj_c2, mj_kc, FT_X12, FT_X12_1, PT_X12, L_X12_clause, List.take_succ_cons, List.take_zero, List.drop_succ_cons, List.drop_zero, List.reverse_cons, List.reverse_nil, List.length_cons, List.length_nil, gS_M0, gMf_36, sS_Mf_36, gMl, gMf_39, gMf_37, gMf_29, gS_M25, sS_Ma_25, sS_Mf_39, c_isRel_eq, J_X12_clause]
                  refine ⟨fun c => ?_, fun c => ?_⟩
                  · replace hw := ok_t hw c
                    replace hw := ok_wI hw
                    refine c_X12_say_in (ok_imp (ok_bind hw) ?_)
                    intro p hw
                    simp only [Option.toList, List.nil_append, List.cons_append, Nat.reduceSub]
                    refine mj_run hG.1 (fun pc => pc == 4 || pc == 9 || pc == 16 || pc == 31 || pc == 40 || pc == 56 || pc == 60 || pc == 93 || pc == 106 || pc == 120 || pc == 149 || pc == 192 || pc == 198 || pc == 210 || pc == 219 || pc == 243 || pc == 247 || pc == 252) 4000 ?_
                    simp only [mj_step, mj_W_s, mj_fin, List.getElem?_cons_zero, List.getElem?_cons_succ, mj_go, Nat.reduceAdd, Nat.reduceSub, Nat.reduceLT, Nat.reduceLeDiff, Nat.zero_add, Nat.reduceEqDiff, Nat.reduceBEq, ↓reduceIte, Bool.false_eq_true, List.append_nil, List.nil_append, List.cons_append, Option.toList, and_true, true_and, true_or, or_true, reduceCtorEq, List.map_nil, bI_eq0, bI_eq1, bool_ft, pk_us, vnar0, vnar1, Bool.or_false, Bool.or_true, Bool.false_or, Bool.true_or, mj_kne, eq_self, Int32.reduceLT, Int32.reduceLE, Int32.reduceAdd, Int32.reduceSub, Int32.reduceMul, not_true_eq_false, not_false_eq_true, false_implies, true_implies, D_X12_clause_0, D_X12_clause_1, D_X12_clause_2, mj_F_aload_n_k, mj_F_bipush_n, mj_F_dup, mj_F_getfield_i, mj_F_goto_off, mj_F_iadd, mj_F_iaload, mj_F_iastore, mj_F_iconst_n, mj_F_ifCond_eq_off, mj_F_ifCond_ne_off, mj_F_if_icmp_eq_off, mj_F_if_icmp_lt_off, mj_F_if_icmp_ne_off, mj_F_iinc_k_n, mj_F_iload_k, mj_F_iload_n_k, mj_F_invokestatic_i, mj_F_invokevirtual_i, mj_F_istore_k, mj_F_istore_n_k, mj_F_isub, mj_F_putfield_i, mj_F_return_, mj_set, mj_set0, mj_unk, mj_c2, mj_kc, FT_X12, FT_X12_1, PT_X12, L_X12_clause, List.take_succ_cons, List.take_zero, List.drop_succ_cons, List.drop_zero, List.reverse_cons, List.reverse_nil, List.length_cons, List.length_nil, gS_M0, gMf_36, sS_Mf_36, gMl, gMf_39, gMf_37, gMf_29, gS_M25, sS_Ma_25, sS_Mf_39, c_isRel_eq, J_X12_clause]
                    refine cq_X12_sum_in (ok_imp (ok_bind hw) ?_)
                    intro p hw
                    simp only [Option.toList, List.nil_append, List.cons_append, Nat.reduceSub]
                    refine mj_run hG.1 (fun pc => pc == 4 || pc == 9 || pc == 16 || pc == 31 || pc == 40 || pc == 56 || pc == 60 || pc == 93 || pc == 106 || pc == 120 || pc == 149 || pc == 192 || pc == 198 || pc == 210 || pc == 219 || pc == 243 || pc == 247 || pc == 252) 4000 ?_
                    simp only [mj_step, mj_W_s, mj_fin, List.getElem?_cons_zero, List.getElem?_cons_succ, mj_go, Nat.reduceAdd, Nat.reduceSub, Nat.reduceLT, Nat.reduceLeDiff, Nat.zero_add, Nat.reduceEqDiff, Nat.reduceBEq, ↓reduceIte, Bool.false_eq_true, List.append_nil, List.nil_append, List.cons_append, Option.toList, and_true, true_and, true_or, or_true, reduceCtorEq, List.map_nil, bI_eq0, bI_eq1, bool_ft, pk_us, vnar0, vnar1, Bool.or_false, Bool.or_true, Bool.false_or, Bool.true_or, mj_kne, eq_self, Int32.reduceLT, Int32.reduceLE, Int32.reduceAdd, Int32.reduceSub, Int32.reduceMul, not_true_eq_false, not_false_eq_true, false_implies, true_implies, D_X12_clause_0, D_X12_clause_1, D_X12_clause_2, mj_F_aload_n_k, mj_F_bipush_n, mj_F_dup, mj_F_getfield_i, mj_F_goto_off, mj_F_iadd, mj_F_iaload, mj_F_iastore, mj_F_iconst_n, mj_F_ifCond_eq_off, mj_F_ifCond_ne_off, mj_F_if_icmp_eq_off, mj_F_if_icmp_lt_off, mj_F_if_icmp_ne_off, mj_F_iinc_k_n, mj_F_iload_k, mj_F_iload_n_k, mj_F_invokestatic_i, mj_F_invokevirtual_i, mj_F_istore_k, mj_F_istore_n_k, mj_F_isub, mj_F_putfield_i, mj_F_return_, mj_set, mj_set0, mj_unk, mj_c2, mj_kc, FT_X12, FT_X12_1, PT_X12, L_X12_clause, List.take_succ_cons, List.take_zero, List.drop_succ_cons, List.drop_zero, List.reverse_cons, List.reverse_nil, List.length_cons, List.length_nil, gS_M0, gMf_36, sS_Mf_36, gMl, gMf_39, gMf_37, gMf_29, gS_M25, sS_Ma_25, sS_Mf_39, c_isRel_eq, J_X12_clause]
                    refine c_X12_say_in (ok_imp (ok_bind hw) ?_)
                    intro p hw
                    simp only [Option.toList, List.nil_append, List.cons_append, Nat.reduceSub]
                    refine mj_run hG.1 (fun pc => pc == 4 || pc == 9 || pc == 16 || pc == 31 || pc == 40 || pc == 56 || pc == 60 || pc == 93 || pc == 106 || pc == 120 || pc == 149 || pc == 192 || pc == 198 || pc == 210 || pc == 219 || pc == 243 || pc == 247 || pc == 252) 4000 ?_
                    simp only [mj_step, mj_W_s, mj_fin, List.getElem?_cons_zero, List.getElem?_cons_succ, mj_go, Nat.reduceAdd, Nat.reduceSub, Nat.reduceLT, Nat.reduceLeDiff, Nat.zero_add, Nat.reduceEqDiff, Nat.reduceBEq, ↓reduceIte, Bool.false_eq_true, List.append_nil, List.nil_append, List.cons_append, Option.toList, and_true, true_and, true_or, or_true, reduceCtorEq, List.map_nil, bI_eq0, bI_eq1, bool_ft, pk_us, vnar0, vnar1, Bool.or_false, Bool.or_true, Bool.false_or, Bool.true_or, mj_kne, eq_self, Int32.reduceLT, Int32.reduceLE, Int32.reduceAdd, Int32.reduceSub, Int32.reduceMul, not_true_eq_false, not_false_eq_true, false_implies, true_implies, D_X12_clause_0, D_X12_clause_1, D_X12_clause_2, mj_F_aload_n_k, mj_F_bipush_n, mj_F_dup, mj_F_getfield_i, mj_F_goto_off, mj_F_iadd, mj_F_iaload, mj_F_iastore, mj_F_iconst_n, mj_F_ifCond_eq_off, mj_F_ifCond_ne_off, mj_F_if_icmp_eq_off, mj_F_if_icmp_lt_off, mj_F_if_icmp_ne_off, mj_F_iinc_k_n, mj_F_iload_k, mj_F_iload_n_k, mj_F_invokestatic_i, mj_F_invokevirtual_i, mj_F_istore_k, mj_F_istore_n_k, mj_F_isub, mj_F_putfield_i, mj_F_return_, mj_set, mj_set0, mj_unk, mj_c2, mj_kc, FT_X12, FT_X12_1, PT_X12, L_X12_clause, List.take_succ_cons, List.take_zero, List.drop_succ_cons, List.drop_zero, List.reverse_cons, List.reverse_nil, List.length_cons, List.length_nil, gS_M0, gMf_36, sS_Mf_36, gMl, gMf_39, gMf_37, gMf_29, gS_M25, sS_Ma_25, sS_Mf_39, c_isRel_eq, J_X12_clause]
                    exact (ok_some hw :)
                  · replace hw := ok_f hw c
                    exact (ok_some hw :)
                · replace hw := ok_f hw c
                  refine c_X12_bad_in (ok_imp (ok_bind hw) ?_)
                  intro p hw
                  simp only [Option.toList, List.nil_append, List.cons_append, Nat.reduceSub]
                  refine mj_run hG.1 (fun pc => pc == 4 || pc == 9 || pc == 16 || pc == 31 || pc == 40 || pc == 56 || pc == 60 || pc == 93 || pc == 106 || pc == 120 || pc == 149 || pc == 192 || pc == 198 || pc == 210 || pc == 219 || pc == 243 || pc == 247 || pc == 252) 4000 ?_
                  simp only [mj_step, mj_W_s, mj_fin, List.getElem?_cons_zero, List.getElem?_cons_succ, mj_go, Nat.reduceAdd, Nat.reduceSub, Nat.reduceLT, Nat.reduceLeDiff, Nat.zero_add, Nat.reduceEqDiff, Nat.reduceBEq, ↓reduceIte, Bool.false_eq_true, List.append_nil, List.nil_append, List.cons_append, Option.toList, and_true, true_and, true_or, or_true, reduceCtorEq, List.map_nil, bI_eq0, bI_eq1, bool_ft, pk_us, vnar0, vnar1, Bool.or_false, Bool.or_true, Bool.false_or, Bool.true_or, mj_kne, eq_self, Int32.reduceLT, Int32.reduceLE, Int32.reduceAdd, Int32.reduceSub, Int32.reduceMul, not_true_eq_false, not_false_eq_true, false_implies, true_implies, D_X12_clause_0, D_X12_clause_1, D_X12_clause_2, mj_F_aload_n_k, mj_F_bipush_n, mj_F_dup, mj_F_getfield_i, mj_F_goto_off, mj_F_iadd, mj_F_iaload, mj_F_iastore, mj_F_iconst_n, mj_F_ifCond_eq_off, mj_F_ifCond_ne_off, mj_F_if_icmp_eq_off, mj_F_if_icmp_lt_off, mj_F_if_icmp_ne_off, mj_F_iinc_k_n, mj_F_iload_k, mj_F_iload_n_k, mj_F_invokestatic_i, mj_F_invokevirtual_i, mj_F_istore_k, mj_F_istore_n_k, mj_F_isub, mj_F_putfield_i, mj_F_return_, mj_set, mj_set0, mj_unk, mj_c2, mj_kc, FT_X12, FT_X12_1, PT_X12, L_X12_clause, List.take_succ_cons, List.take_zero, List.drop_succ_cons, List.drop_zero, List.reverse_cons, List.reverse_nil, List.length_cons, List.length_nil, gS_M0, gMf_36, sS_Mf_36, gMl, gMf_39, gMf_37, gMf_29, gS_M25, sS_Ma_25, sS_Mf_39, c_isRel_eq, J_X12_clause]
                  refine ⟨fun c => ?_, fun c => ?_⟩
                  · replace hw := ok_t hw c
                    replace hw := ok_wI hw
                    refine c_X12_say_in (ok_imp (ok_bind hw) ?_)
                    intro p hw
                    simp only [Option.toList, List.nil_append, List.cons_append, Nat.reduceSub]
                    refine mj_run hG.1 (fun pc => pc == 4 || pc == 9 || pc == 16 || pc == 31 || pc == 40 || pc == 56 || pc == 60 || pc == 93 || pc == 106 || pc == 120 || pc == 149 || pc == 192 || pc == 198 || pc == 210 || pc == 219 || pc == 243 || pc == 247 || pc == 252) 4000 ?_
                    simp only [mj_step, mj_W_s, mj_fin, List.getElem?_cons_zero, List.getElem?_cons_succ, mj_go, Nat.reduceAdd, Nat.reduceSub, Nat.reduceLT, Nat.reduceLeDiff, Nat.zero_add, Nat.reduceEqDiff, Nat.reduceBEq, ↓reduceIte, Bool.false_eq_true, List.append_nil, List.nil_append, List.cons_append, Option.toList, and_true, true_and, true_or, or_true, reduceCtorEq, List.map_nil, bI_eq0, bI_eq1, bool_ft, pk_us, vnar0, vnar1, Bool.or_false, Bool.or_true, Bool.false_or, Bool.true_or, mj_kne, eq_self, Int32.reduceLT, Int32.reduceLE, Int32.reduceAdd, Int32.reduceSub, Int32.reduceMul, not_true_eq_false, not_false_eq_true, false_implies, true_implies, D_X12_clause_0, D_X12_clause_1, D_X12_clause_2, mj_F_aload_n_k, mj_F_bipush_n, mj_F_dup, mj_F_getfield_i, mj_F_goto_off, mj_F_iadd, mj_F_iaload, mj_F_iastore, mj_F_iconst_n, mj_F_ifCond_eq_off, mj_F_ifCond_ne_off, mj_F_if_icmp_eq_off, mj_F_if_icmp_lt_off, mj_F_if_icmp_ne_off, mj_F_iinc_k_n, mj_F_iload_k, mj_F_iload_n_k, mj_F_invokestatic_i, mj_F_invokevirtual_i, mj_F_istore_k, mj_F_istore_n_k, mj_F_isub, mj_F_putfield_i, mj_F_return_, mj_set, mj_set0, mj_unk, mj_c2, mj_kc, FT_X12, FT_X12_1, PT_X12, L_X12_clause, List.take_succ_cons, List.take_zero, List.drop_succ_cons, List.drop_zero, List.reverse_cons, List.reverse_nil, List.length_cons, List.length_nil, gS_M0, gMf_36, sS_Mf_36, gMl, gMf_39, gMf_37, gMf_29, gS_M25, sS_Ma_25, sS_Mf_39, c_isRel_eq, J_X12_clause]
                    refine cq_X12_sum_in (ok_imp (ok_bind hw) ?_)
                    intro p hw
                    simp only [Option.toList, List.nil_append, List.cons_append, Nat.reduceSub]
                    refine mj_run hG.1 (fun pc => pc == 4 || pc == 9 || pc == 16 || pc == 31 || pc == 40 || pc == 56 || pc == 60 || pc == 93 || pc == 106 || pc == 120 || pc == 149 || pc == 192 || pc == 198 || pc == 210 || pc == 219 || pc == 243 || pc == 247 || pc == 252) 4000 ?_
                    simp only [mj_step, mj_W_s, mj_fin, List.getElem?_cons_zero, List.getElem?_cons_succ, mj_go, Nat.reduceAdd, Nat.reduceSub, Nat.reduceLT, Nat.reduceLeDiff, Nat.zero_add, Nat.reduceEqDiff, Nat.reduceBEq, ↓reduceIte, Bool.false_eq_true, List.append_nil, List.nil_append, List.cons_append, Option.toList, and_true, true_and, true_or, or_true, reduceCtorEq, List.map_nil, bI_eq0, bI_eq1, bool_ft, pk_us, vnar0, vnar1, Bool.or_false, Bool.or_true, Bool.false_or, Bool.true_or, mj_kne, eq_self, Int32.reduceLT, Int32.reduceLE, Int32.reduceAdd, Int32.reduceSub, Int32.reduceMul, not_true_eq_false, not_false_eq_true, false_implies, true_implies, D_X12_clause_0, D_X12_clause_1, D_X12_clause_2, mj_F_aload_n_k, mj_F_bipush_n, mj_F_dup, mj_F_getfield_i, mj_F_goto_off, mj_F_iadd, mj_F_iaload, mj_F_iastore, mj_F_iconst_n, mj_F_ifCond_eq_off, mj_F_ifCond_ne_off, mj_F_if_icmp_eq_off, mj_F_if_icmp_lt_off, mj_F_if_icmp_ne_off, mj_F_iinc_k_n, mj_F_iload_k, mj_F_iload_n_k, mj_F_invokestatic_i, mj_F_invokevirtual_i, mj_F_istore_k, mj_F_istore_n_k, mj_F_isub, mj_F_putfield_i, mj_F_return_, mj_set, mj_set0, mj_unk, mj_c2, mj_kc, FT_X12, FT_X12_1, PT_X12, L_X12_clause, List.take_succ_cons, List.take_zero, List.drop_succ_cons, List.drop_zero, List.reverse_cons, List.reverse_nil, List.length_cons, List.length_nil, gS_M0, gMf_36, sS_Mf_36, gMl, gMf_39, gMf_37, gMf_29, gS_M25, sS_Ma_25, sS_Mf_39, c_isRel_eq, J_X12_clause]
                    refine c_X12_say_in (ok_imp (ok_bind hw) ?_)
                    intro p hw
                    simp only [Option.toList, List.nil_append, List.cons_append, Nat.reduceSub]
                    refine mj_run hG.1 (fun pc => pc == 4 || pc == 9 || pc == 16 || pc == 31 || pc == 40 || pc == 56 || pc == 60 || pc == 93 || pc == 106 || pc == 120 || pc == 149 || pc == 192 || pc == 198 || pc == 210 || pc == 219 || pc == 243 || pc == 247 || pc == 252) 4000 ?_
                    simp only [mj_step, mj_W_s, mj_fin, List.getElem?_cons_zero, List.getElem?_cons_succ, mj_go, Nat.reduceAdd, Nat.reduceSub, Nat.reduceLT, Nat.reduceLeDiff, Nat.zero_add, Nat.reduceEqDiff, Nat.reduceBEq, ↓reduceIte, Bool.false_eq_true, List.append_nil, List.nil_append, List.cons_append, Option.toList, and_true, true_and, true_or, or_true, reduceCtorEq, List.map_nil, bI_eq0, bI_eq1, bool_ft, pk_us, vnar0, vnar1, Bool.or_false, Bool.or_true, Bool.false_or, Bool.true_or, mj_kne, eq_self, Int32.reduceLT, Int32.reduceLE, Int32.reduceAdd, Int32.reduceSub, Int32.reduceMul, not_true_eq_false, not_false_eq_true, false_implies, true_implies, D_X12_clause_0, D_X12_clause_1, D_X12_clause_2, mj_F_aload_n_k, mj_F_bipush_n, mj_F_dup, mj_F_getfield_i, mj_F_goto_off, mj_F_iadd, mj_F_iaload, mj_F_iastore, mj_F_iconst_n, mj_F_ifCond_eq_off, mj_F_ifCond_ne_off, mj_F_if_icmp_eq_off, mj_F_if_icmp_lt_off, mj_F_if_icmp_ne_off, mj_F_iinc_k_n, mj_F_iload_k, mj_F_iload_n_k, mj_F_invokestatic_i, mj_F_invokevirtual_i, mj_F_istore_k, mj_F_istore_n_k, mj_F_isub, mj_F_putfield_i, mj_F_return_, mj_set, mj_set0, mj_unk, mj_c2, mj_kc, FT_X12, FT_X12_1, PT_X12, L_X12_clause, List.take_succ_cons, List.take_zero, List.drop_succ_cons, List.drop_zero, List.reverse_cons, List.reverse_nil, List.length_cons, List.length_nil, gS_M0, gMf_36, sS_Mf_36, gMl, gMf_39, gMf_37, gMf_29, gS_M25, sS_Ma_25, sS_Mf_39, c_isRel_eq, J_X12_clause]
                    exact (ok_some hw :)
                  · replace hw := ok_f hw c
                    exact (ok_some hw :)
            · replace hw := ok_t hw c
              exact hG.2 _ _ _ _ _ _ _ _ _ (by refine ⟨Or.inr rfl, ?_⟩; refine ⟨Or.inl rfl, ?_⟩; refine ⟨Or.inl rfl, ?_⟩; refine ⟨Or.inl rfl, ?_⟩; refine ⟨Or.inr rfl, ?_⟩; refine ⟨Or.inr rfl, ?_⟩; exact trivial) (Nat.zero_le _) (Nat.zero_le _) (g_X12_clause_120 hG  hw :)
          · replace hw := ok_f hw c
            exact (ok_some hw :)
    · replace hw := ok_f hw c
      refine c_X12_bad_in (ok_imp (ok_bind hw) ?_)
      intro p hw
      simp only [Option.toList, List.nil_append, List.cons_append, Nat.reduceSub]
      refine mj_run hG.1 (fun pc => pc == 4 || pc == 9 || pc == 16 || pc == 31 || pc == 40 || pc == 56 || pc == 60 || pc == 93 || pc == 106 || pc == 120 || pc == 149 || pc == 192 || pc == 198 || pc == 210 || pc == 219 || pc == 243 || pc == 247 || pc == 252) 4000 ?_
      simp only [mj_step, mj_W_s, mj_fin, List.getElem?_cons_zero, List.getElem?_cons_succ, mj_go, Nat.reduceAdd, Nat.reduceSub, Nat.reduceLT, Nat.reduceLeDiff, Nat.zero_add, Nat.reduceEqDiff, Nat.reduceBEq, ↓reduceIte, Bool.false_eq_true, List.append_nil, List.nil_append, List.cons_append, Option.toList, and_true, true_and, true_or, or_true, reduceCtorEq, List.map_nil, bI_eq0, bI_eq1, bool_ft, pk_us, vnar0, vnar1, Bool.or_false, Bool.or_true, Bool.false_or, Bool.true_or, mj_kne, eq_self, Int32.reduceLT, Int32.reduceLE, Int32.reduceAdd, Int32.reduceSub, Int32.reduceMul, not_true_eq_false, not_false_eq_true, false_implies, true_implies, D_X12_clause_0, D_X12_clause_1, D_X12_clause_2, mj_F_aload_n_k, mj_F_bipush_n, mj_F_dup, mj_F_getfield_i, mj_F_goto_off, mj_F_iadd, mj_F_iaload, mj_F_iastore, mj_F_iconst_n, mj_F_ifCond_eq_off, mj_F_ifCond_ne_off, mj_F_if_icmp_eq_off, mj_F_if_icmp_lt_off, mj_F_if_icmp_ne_off, mj_F_iinc_k_n, mj_F_iload_k, mj_F_iload_n_k, mj_F_invokestatic_i, mj_F_invokevirtual_i, mj_F_istore_k, mj_F_istore_n_k, mj_F_isub, mj_F_putfield_i, mj_F_return_, mj_set, mj_set0, mj_unk, mj_c2, mj_kc, FT_X12, FT_X12_1, PT_X12, L_X12_clause, List.take_succ_cons, List.take_zero, List.drop_succ_cons, List.drop_zero, List.reverse_cons, List.reverse_nil, List.length_cons, List.length_nil, gS_M0, gMf_36, sS_Mf_36, gMl, gMf_39, gMf_37, gMf_29, gS_M25, sS_Ma_25, sS_Mf_39, c_isRel_eq, J_X12_clause]
      exact (ok_some hw :)
  · replace hw := ok_t hw c
    refine c_X12_bad_in (ok_imp (ok_bind hw) ?_)
    intro p hw
    simp only [Option.toList, List.nil_append, List.cons_append, Nat.reduceSub]
    refine mj_run hG.1 (fun pc => pc == 4 || pc == 9 || pc == 16 || pc == 31 || pc == 40 || pc == 56 || pc == 60 || pc == 93 || pc == 106 || pc == 120 || pc == 149 || pc == 192 || pc == 198 || pc == 210 || pc == 219 || pc == 243 || pc == 247 || pc == 252) 4000 ?_
    simp only [mj_step, mj_W_s, mj_fin, List.getElem?_cons_zero, List.getElem?_cons_succ, mj_go, Nat.reduceAdd, Nat.reduceSub, Nat.reduceLT, Nat.reduceLeDiff, Nat.zero_add, Nat.reduceEqDiff, Nat.reduceBEq, ↓reduceIte, Bool.false_eq_true, List.append_nil, List.nil_append, List.cons_append, Option.toList, and_true, true_and, true_or, or_true, reduceCtorEq, List.map_nil, bI_eq0, bI_eq1, bool_ft, pk_us, vnar0, vnar1, Bool.or_false, Bool.or_true, Bool.false_or, Bool.true_or, mj_kne, eq_self, Int32.reduceLT, Int32.reduceLE, Int32.reduceAdd, Int32.reduceSub, Int32.reduceMul, not_true_eq_false, not_false_eq_true, false_implies, true_implies, D_X12_clause_0, D_X12_clause_1, D_X12_clause_2, mj_F_aload_n_k, mj_F_bipush_n, mj_F_dup, mj_F_getfield_i, mj_F_goto_off, mj_F_iadd, mj_F_iaload, mj_F_iastore, mj_F_iconst_n, mj_F_ifCond_eq_off, mj_F_ifCond_ne_off, mj_F_if_icmp_eq_off, mj_F_if_icmp_lt_off, mj_F_if_icmp_ne_off, mj_F_iinc_k_n, mj_F_iload_k, mj_F_iload_n_k, mj_F_invokestatic_i, mj_F_invokevirtual_i, mj_F_istore_k, mj_F_istore_n_k, mj_F_isub, mj_F_putfield_i, mj_F_return_, mj_set, mj_set0, mj_unk, mj_c2, mj_kc, FT_X12, FT_X12_1, PT_X12, L_X12_clause, List.take_succ_cons, List.take_zero, List.drop_succ_cons, List.drop_zero, List.reverse_cons, List.reverse_nil, List.length_cons, List.length_nil, gS_M0, gMf_36, sS_Mf_36, gMl, gMf_39, gMf_37, gMf_29, gS_M25, sS_Ma_25, sS_Mf_39, c_isRel_eq, J_X12_clause]
    exact (ok_some hw :)

def c_X12_clause : mj_S := fun as h k => ∃ (s : St), as = [.ref 0] ∧ h = mkMs s ∧ ok (F_X12_clause s) (fun p => k none (mkMs p))
theorem c_X12_clause_in {s : St} {k : Option Value → mj_H → Prop} (hw : ok (F_X12_clause s) (fun p => k none (mkMs p))) : c_X12_clause [.ref 0] (mkMs s) k := ⟨s, rfl, rfl, hw⟩
theorem m_X12_clause (l : Launch) : mj_Met l yX12_clause cX12_clause 6 (none) 68 0 0 c_X12_clause := by
  refine mj_body2 false (TbX12 6 (none) ct_X12_clause) (by decide) rfl rfl (fun h => nomatch h) (tfX12 _ (List.forall_mem_cons.mpr ⟨cfX12_318 (m_X12_bad l) (by decide), List.forall_mem_cons.mpr ⟨cfX12_321 (m_X12_look l) (by decide), List.forall_mem_cons.mpr ⟨cfX12_328 (m_X12_say l) (by decide), List.forall_mem_cons.mpr ⟨cfX12_336 (m_X12_sum l) (by decide), List.forall_mem_cons.mpr ⟨cfX12_354 (m_X12_isSign l) (by decide), List.forall_mem_cons.mpr ⟨cfX12_360 (m_X12_condition l) (by decide), List.forall_mem_cons.mpr ⟨cfX12_370 (m_X12_isLabel l) (by decide), fun _ h => nomatch h⟩⟩⟩⟩⟩⟩⟩)) ?_
  rintro as h k ⟨s, rfl, rfl, hw⟩
  exact ⟨rfl, fun G hG => g_X12_clause hG hw⟩
def B_X12_fault_24  : St → Option ((St) ⊕ ((St)))
  | s =>
  if (s.1 1237) = (-1) then
    (F_X12_look s).bind fun r6 =>
    if r6.1 = 59 then
      (wI r6.2 1236 ((r6.2.1 1236) + 1)).bind fun s7 =>
      (F_X12_clause s7).bind fun s8 =>
      some (.inl s8)
    else
      some (.inr r6.2)
  else
    some (.inr s)
def F_X12_fault_58 (s : St) : Option (Int32 × St) :=
  if (s.1 1237) = (-1) then
    (F_X12_look s).bind fun r9 =>
    if r9.1 = (-1) then
      some ((r9.2.1 1237), r9.2)
    else
      (F_X12_bad r9.2).bind fun s10 =>
      some ((s10.1 1237), s10)
  else
    some ((s.1 1237), s)
def F_X12_fault_24 (s : St) : Option (Int32 × St) :=
  (lp (B_X12_fault_24 ) FU s).bind (fun y => F_X12_fault_58 y)
def F_X12_fault (s : St) : Option (Int32 × St) :=
  (wI s 1236 0).bind fun s1 =>
  (wI s1 1237 (-1)).bind fun s2 =>
  (wI s2 1238 0).bind fun s3 =>
  (wI s3 1239 0).bind fun s4 =>
  (F_X12_clause s4).bind fun s5 =>
  F_X12_fault_24 s5
theorem J_X12_fault : mj_t 29 29 = 58 ∧ mj_t 38 20 = 58 ∧ mj_t 55 (-31) = 24 ∧ mj_t 63 15 = 78 ∧ mj_t 71 7 = 78 ∧ (0 ≤ ((29 : Nat) : Int) + 29) = True ∧ (0 ≤ ((38 : Nat) : Int) + 20) = True ∧ (0 ≤ ((55 : Nat) : Int) + (-31)) = True ∧ (0 ≤ ((63 : Nat) : Int) + 15) = True ∧ (0 ≤ ((71 : Nat) : Int) + 7) = True := by and_intros <;> first | rfl | exact eq_true (by decide)
def ct_X12_fault : List (Nat × mj_Cs) := [(318, 0, 1, 12, 0, 0, c_X12_bad), (321, 0, 1, 12, 0, 0, c_X12_look), (373, 0, 1, 12, 0, 0, c_X12_clause)]
theorem L_X12_fault : mj_lk ct_X12_fault 318 = some (0, 1, 12, 0, 0, c_X12_bad) ∧ mj_lk ct_X12_fault 321 = some (0, 1, 12, 0, 0, c_X12_look) ∧ mj_lk ct_X12_fault 373 = some (0, 1, 12, 0, 0, c_X12_clause) := ⟨rfl, rfl, rfl⟩
set_option maxHeartbeats 4000000 in
set_option maxRecDepth 20000 in
theorem b_X12_fault_24 {k : Option Value → mj_H → Prop} {G : mj_K} (hG : mj_cl2 cX12_fault (TbX12 1 ((some FieldType.int)) ct_X12_fault) k G)  {P : St → Prop} {K : (St) → Prop} (hP : ∀ x, P x → G 24 [.ref 0] [] (mkMs x) 0 0) (hK0 : ∀ y, K y → G 58 [.ref 0] [] (mkMs y) 0 0) {s : St} (hw : ok (B_X12_fault_24  s) (Sum.elim P K)) : G 24 [.ref 0] [] (mkMs s) 0 0 := by
  unfold B_X12_fault_24 at hw
  refine mj_run hG.1 (fun pc => pc == 24 || pc == 36 || pc == 55 || pc == 58 || pc == 70 || pc == 78) 4000 ?_
  simp only [mj_step, mj_W_s, mj_fin, List.getElem?_cons_zero, List.getElem?_cons_succ, mj_go, Nat.reduceAdd, Nat.reduceSub, Nat.reduceLT, Nat.reduceLeDiff, Nat.zero_add, Nat.reduceEqDiff, Nat.reduceBEq, ↓reduceIte, Bool.false_eq_true, List.append_nil, List.nil_append, List.cons_append, Option.toList, and_true, true_and, true_or, or_true, reduceCtorEq, List.map_nil, bI_eq0, bI_eq1, bool_ft, pk_us, vnar0, vnar1, Bool.or_false, Bool.or_true, Bool.false_or, Bool.true_or, mj_kne, eq_self, Int32.reduceLT, Int32.reduceLE, Int32.reduceAdd, Int32.reduceSub, Int32.reduceMul, not_true_eq_false, not_false_eq_true, false_implies, true_implies, D_X12_fault, mj_F_aload_n_k, mj_F_bipush_n, mj_F_dup, mj_F_getfield_i, mj_F_goto_off, mj_F_iadd, mj_F_iconst_n, mj_F_if_icmp_eq_off, mj_F_if_icmp_ne_off, mj_F_invokevirtual_i, mj_F_ireturn, mj_F_putfield_i, mj_c2, mj_kc, FT_X12, FT_X12_1, PT_X12, L_X12_fault, List.take_succ_cons, List.take_zero, List.drop_succ_cons, List.drop_zero, List.reverse_cons, List.reverse_nil, List.length_cons, List.length_nil, gS_M0, gMf_36, sS_Mf_36, gMl, gMf_37, sS_Mf_37, gMf_38, sS_Mf_38, gMf_39, sS_Mf_39, J_X12_fault]
  refine ⟨fun c => ?_, fun c => ?_⟩
  · replace hw := ok_f hw c
    exact hG.2 _ _ _ _ _ _ _ _ _ (by refine ⟨Or.inr rfl, ?_⟩; exact trivial) (Nat.zero_le _) (Nat.zero_le _) (hK0 _ (ok_some hw :) :)
  · replace hw := ok_t hw c
    refine c_X12_look_in (ok_imp (ok_bind hw) ?_)
    intro p hw
    simp only [Option.toList, List.nil_append, List.cons_append, Nat.reduceSub]
    refine mj_run hG.1 (fun pc => pc == 24 || pc == 36 || pc == 55 || pc == 58 || pc == 70 || pc == 78) 4000 ?_
    simp only [mj_step, mj_W_s, mj_fin, List.getElem?_cons_zero, List.getElem?_cons_succ, mj_go, Nat.reduceAdd, Nat.reduceSub, Nat.reduceLT, Nat.reduceLeDiff, Nat.zero_add, Nat.reduceEqDiff, Nat.reduceBEq, ↓reduceIte, Bool.false_eq_true, List.append_nil, List.nil_append, List.cons_append, Option.toList, and_true, true_and, true_or, or_true, reduceCtorEq, List.map_nil, bI_eq0, bI_eq1, bool_ft, pk_us, vnar0, vnar1, Bool.or_false, Bool.or_true, Bool.false_or, Bool.true_or, mj_kne, eq_self, Int32.reduceLT, Int32.reduceLE, Int32.reduceAdd, Int32.reduceSub, Int32.reduceMul, not_true_eq_false, not_false_eq_true, false_implies, true_implies, D_X12_fault, mj_F_aload_n_k, mj_F_bipush_n, mj_F_dup, mj_F_getfield_i, mj_F_goto_off, mj_F_iadd, mj_F_iconst_n, mj_F_if_icmp_eq_off, mj_F_if_icmp_ne_off, mj_F_invokevirtual_i, mj_F_ireturn, mj_F_putfield_i, mj_c2, mj_kc, FT_X12, FT_X12_1, PT_X12, L_X12_fault, List.take_succ_cons, List.take_zero, List.drop_succ_cons, List.drop_zero, List.reverse_cons, List.reverse_nil, List.length_cons, List.length_nil, gS_M0, gMf_36, sS_Mf_36, gMl, gMf_37, sS_Mf_37, gMf_38, sS_Mf_38, gMf_39, sS_Mf_39, J_X12_fault]
    refine ⟨fun c => ?_, fun c => ?_⟩
    · replace hw := ok_f hw c
      exact hG.2 _ _ _ _ _ _ _ _ _ (by refine ⟨Or.inr rfl, ?_⟩; exact trivial) (Nat.zero_le _) (Nat.zero_le _) (hK0 _ (ok_some hw :) :)
    · replace hw := ok_t hw c
      replace hw := ok_wI hw
      refine c_X12_clause_in (ok_imp (ok_bind hw) ?_)
      intro p hw
      simp only [Option.toList, List.nil_append, List.cons_append, Nat.reduceSub]
      refine mj_run hG.1 (fun pc => pc == 24 || pc == 36 || pc == 55 || pc == 58 || pc == 70 || pc == 78) 4000 ?_
      simp only [mj_step, mj_W_s, mj_fin, List.getElem?_cons_zero, List.getElem?_cons_succ, mj_go, Nat.reduceAdd, Nat.reduceSub, Nat.reduceLT, Nat.reduceLeDiff, Nat.zero_add, Nat.reduceEqDiff, Nat.reduceBEq, ↓reduceIte, Bool.false_eq_true, List.append_nil, List.nil_append, List.cons_append, Option.toList, and_true, true_and, true_or, or_true, reduceCtorEq, List.map_nil, bI_eq0, bI_eq1, bool_ft, pk_us, vnar0, vnar1, Bool.or_false, Bool.or_true, Bool.false_or, Bool.true_or, mj_kne, eq_self, Int32.reduceLT, Int32.reduceLE, Int32.reduceAdd, Int32.reduceSub, Int32.reduceMul, not_true_eq_false, not_false_eq_true, false_implies, true_implies, D_X12_fault, mj_F_aload_n_k, mj_F_bipush_n, mj_F_dup, mj_F_getfield_i, mj_F_goto_off, mj_F_iadd, mj_F_iconst_n, mj_F_if_icmp_eq_off, mj_F_if_icmp_ne_off, mj_F_invokevirtual_i, mj_F_ireturn, mj_F_putfield_i, mj_c2, mj_kc, FT_X12, FT_X12_1, PT_X12, L_X12_fault, List.take_succ_cons, List.take_zero, List.drop_succ_cons, List.drop_zero, List.reverse_cons, List.reverse_nil, List.length_cons, List.length_nil, gS_M0, gMf_36, sS_Mf_36, gMl, gMf_37, sS_Mf_37, gMf_38, sS_Mf_38, gMf_39, sS_Mf_39, J_X12_fault]
      exact hG.2 _ _ _ _ _ _ _ _ _ (by refine ⟨Or.inr rfl, ?_⟩; exact trivial) (Nat.zero_le _) (Nat.zero_le _) (hP _ (ok_some hw :) :)

set_option maxHeartbeats 4000000 in
set_option maxRecDepth 20000 in
theorem g_X12_fault_58 {k : Option Value → mj_H → Prop} {G : mj_K} (hG : mj_cl2 cX12_fault (TbX12 1 ((some FieldType.int)) ct_X12_fault) k G)   {s : St} (hw : ok (F_X12_fault_58 s) (fun p => k (some (.int p.1)) (mkMs p.2))) : G 58 [.ref 0] [] (mkMs s) 0 0 := by
  unfold F_X12_fault_58 at hw
  refine mj_run hG.1 (fun pc => pc == 24 || pc == 36 || pc == 55 || pc == 58 || pc == 70 || pc == 78) 4000 ?_
  simp only [mj_step, mj_W_s, mj_fin, List.getElem?_cons_zero, List.getElem?_cons_succ, mj_go, Nat.reduceAdd, Nat.reduceSub, Nat.reduceLT, Nat.reduceLeDiff, Nat.zero_add, Nat.reduceEqDiff, Nat.reduceBEq, ↓reduceIte, Bool.false_eq_true, List.append_nil, List.nil_append, List.cons_append, Option.toList, and_true, true_and, true_or, or_true, reduceCtorEq, List.map_nil, bI_eq0, bI_eq1, bool_ft, pk_us, vnar0, vnar1, Bool.or_false, Bool.or_true, Bool.false_or, Bool.true_or, mj_kne, eq_self, Int32.reduceLT, Int32.reduceLE, Int32.reduceAdd, Int32.reduceSub, Int32.reduceMul, not_true_eq_false, not_false_eq_true, false_implies, true_implies, D_X12_fault, mj_F_aload_n_k, mj_F_bipush_n, mj_F_dup, mj_F_getfield_i, mj_F_goto_off, mj_F_iadd, mj_F_iconst_n, mj_F_if_icmp_eq_off, mj_F_if_icmp_ne_off, mj_F_invokevirtual_i, mj_F_ireturn, mj_F_putfield_i, mj_c2, mj_kc, FT_X12, FT_X12_1, PT_X12, L_X12_fault, List.take_succ_cons, List.take_zero, List.drop_succ_cons, List.drop_zero, List.reverse_cons, List.reverse_nil, List.length_cons, List.length_nil, gS_M0, gMf_36, sS_Mf_36, gMl, gMf_37, sS_Mf_37, gMf_38, sS_Mf_38, gMf_39, sS_Mf_39, J_X12_fault]
  refine ⟨fun c => ?_, fun c => ?_⟩
  · replace hw := ok_f hw c
    refine mj_run hG.1 (fun pc => pc == 24 || pc == 36 || pc == 55 || pc == 58 || pc == 70 || pc == 78) 4000 ?_
    simp only [mj_step, mj_W_s, mj_fin, List.getElem?_cons_zero, List.getElem?_cons_succ, mj_go, Nat.reduceAdd, Nat.reduceSub, Nat.reduceLT, Nat.reduceLeDiff, Nat.zero_add, Nat.reduceEqDiff, Nat.reduceBEq, ↓reduceIte, Bool.false_eq_true, List.append_nil, List.nil_append, List.cons_append, Option.toList, and_true, true_and, true_or, or_true, reduceCtorEq, List.map_nil, bI_eq0, bI_eq1, bool_ft, pk_us, vnar0, vnar1, Bool.or_false, Bool.or_true, Bool.false_or, Bool.true_or, mj_kne, eq_self, Int32.reduceLT, Int32.reduceLE, Int32.reduceAdd, Int32.reduceSub, Int32.reduceMul, not_true_eq_false, not_false_eq_true, false_implies, true_implies, D_X12_fault, mj_F_aload_n_k, mj_F_bipush_n, mj_F_dup, mj_F_getfield_i, mj_F_goto_off, mj_F_iadd, mj_F_iconst_n, mj_F_if_icmp_eq_off, mj_F_if_icmp_ne_off, mj_F_invokevirtual_i, mj_F_ireturn, mj_F_putfield_i, mj_c2, mj_kc, FT_X12, FT_X12_1, PT_X12, L_X12_fault, List.take_succ_cons, List.take_zero, List.drop_succ_cons, List.drop_zero, List.reverse_cons, List.reverse_nil, List.length_cons, List.length_nil, gS_M0, gMf_36, sS_Mf_36, gMl, gMf_37, sS_Mf_37, gMf_38, sS_Mf_38, gMf_39, sS_Mf_39, J_X12_fault]
    exact (ok_some hw :)
  · replace hw := ok_t hw c
    refine c_X12_look_in (ok_imp (ok_bind hw) ?_)
    intro p hw
    simp only [Option.toList, List.nil_append, List.cons_append, Nat.reduceSub]
    refine mj_run hG.1 (fun pc => pc == 24 || pc == 36 || pc == 55 || pc == 58 || pc == 70 || pc == 78) 4000 ?_
    simp only [mj_step, mj_W_s, mj_fin, List.getElem?_cons_zero, List.getElem?_cons_succ, mj_go, Nat.reduceAdd, Nat.reduceSub, Nat.reduceLT, Nat.reduceLeDiff, Nat.zero_add, Nat.reduceEqDiff, Nat.reduceBEq, ↓reduceIte, Bool.false_eq_true, List.append_nil, List.nil_append, List.cons_append, Option.toList, and_true, true_and, true_or, or_true, reduceCtorEq, List.map_nil, bI_eq0, bI_eq1, bool_ft, pk_us, vnar0, vnar1, Bool.or_false, Bool.or_true, Bool.false_or, Bool.true_or, mj_kne, eq_self, Int32.reduceLT, Int32.reduceLE, Int32.reduceAdd, Int32.reduceSub, Int32.reduceMul, not_true_eq_false, not_false_eq_true, false_implies, true_implies, D_X12_fault, mj_F_aload_n_k, mj_F_bipush_n, mj_F_dup, mj_F_getfield_i, mj_F_goto_off, mj_F_iadd, mj_F_iconst_n, mj_F_if_icmp_eq_off, mj_F_if_icmp_ne_off, mj_F_invokevirtual_i, mj_F_ireturn, mj_F_putfield_i, mj_c2, mj_kc, FT_X12, FT_X12_1, PT_X12, L_X12_fault, List.take_succ_cons, List.take_zero, List.drop_succ_cons, List.drop_zero, List.reverse_cons, List.reverse_nil, List.length_cons, List.length_nil, gS_M0, gMf_36, sS_Mf_36, gMl, gMf_37, sS_Mf_37, gMf_38, sS_Mf_38, gMf_39, sS_Mf_39, J_X12_fault]
    refine ⟨fun c => ?_, fun c => ?_⟩
    · replace hw := ok_t hw c
      refine mj_run hG.1 (fun pc => pc == 24 || pc == 36 || pc == 55 || pc == 58 || pc == 70 || pc == 78) 4000 ?_
      simp only [mj_step, mj_W_s, mj_fin, List.getElem?_cons_zero, List.getElem?_cons_succ, mj_go, Nat.reduceAdd, Nat.reduceSub, Nat.reduceLT, Nat.reduceLeDiff, Nat.zero_add, Nat.reduceEqDiff, Nat.reduceBEq, ↓reduceIte, Bool.false_eq_true, List.append_nil, List.nil_append, List.cons_append, Option.toList, and_true, true_and, true_or, or_true, reduceCtorEq, List.map_nil, bI_eq0, bI_eq1, bool_ft, pk_us, vnar0, vnar1, Bool.or_false, Bool.or_true, Bool.false_or, Bool.true_or, mj_kne, eq_self, Int32.reduceLT, Int32.reduceLE, Int32.reduceAdd, Int32.reduceSub, Int32.reduceMul, not_true_eq_false, not_false_eq_true, false_implies, true_implies, D_X12_fault, mj_F_aload_n_k, mj_F_bipush_n, mj_F_dup, mj_F_getfield_i, mj_F_goto_off, mj_F_iadd, mj_F_iconst_n, mj_F_if_icmp_eq_off, mj_F_if_icmp_ne_off, mj_F_invokevirtual_i, mj_F_ireturn, mj_F_putfield_i, mj_c2, mj_kc, FT_X12, FT_X12_1, PT_X12, L_X12_fault, List.take_succ_cons, List.take_zero, List.drop_succ_cons, List.drop_zero, List.reverse_cons, List.reverse_nil, List.length_cons, List.length_nil, gS_M0, gMf_36, sS_Mf_36, gMl, gMf_37, sS_Mf_37, gMf_38, sS_Mf_38, gMf_39, sS_Mf_39, J_X12_fault]
      exact (ok_some hw :)
    · replace hw := ok_f hw c
      refine c_X12_bad_in (ok_imp (ok_bind hw) ?_)
      intro p hw
      simp only [Option.toList, List.nil_append, List.cons_append, Nat.reduceSub]
      refine mj_run hG.1 (fun pc => pc == 24 || pc == 36 || pc == 55 || pc == 58 || pc == 70 || pc == 78) 4000 ?_
      simp only [mj_step, mj_W_s, mj_fin, List.getElem?_cons_zero, List.getElem?_cons_succ, mj_go, Nat.reduceAdd, Nat.reduceSub, Nat.reduceLT, Nat.reduceLeDiff, Nat.zero_add, Nat.reduceEqDiff, Nat.reduceBEq, ↓reduceIte, Bool.false_eq_true, List.append_nil, List.nil_append, List.cons_append, Option.toList, and_true, true_and, true_or, or_true, reduceCtorEq, List.map_nil, bI_eq0, bI_eq1, bool_ft, pk_us, vnar0, vnar1, Bool.or_false, Bool.or_true, Bool.false_or, Bool.true_or, mj_kne, eq_self, Int32.reduceLT, Int32.reduceLE, Int32.reduceAdd, Int32.reduceSub, Int32.reduceMul, not_true_eq_false, not_false_eq_true, false_implies, true_implies, D_X12_fault, mj_F_aload_n_k, mj_F_bipush_n, mj_F_dup, mj_F_getfield_i, mj_F_goto_off, mj_F_iadd, mj_F_iconst_n, mj_F_if_icmp_eq_off, mj_F_if_icmp_ne_off, mj_F_invokevirtual_i, mj_F_ireturn, mj_F_putfield_i, mj_c2, mj_kc, FT_X12, FT_X12_1, PT_X12, L_X12_fault, List.take_succ_cons, List.take_zero, List.drop_succ_cons, List.drop_zero, List.reverse_cons, List.reverse_nil, List.length_cons, List.length_nil, gS_M0, gMf_36, sS_Mf_36, gMl, gMf_37, sS_Mf_37, gMf_38, sS_Mf_38, gMf_39, sS_Mf_39, J_X12_fault]
      exact (ok_some hw :)

set_option maxHeartbeats 4000000 in
theorem g_X12_fault_24 {k : Option Value → mj_H → Prop} {G : mj_K} (hG : mj_cl2 cX12_fault (TbX12 1 ((some FieldType.int)) ct_X12_fault) k G)   {s : St} (hw : ok (F_X12_fault_24 s) (fun p => k (some (.int p.1)) (mkMs p.2))) : G 24 [.ref 0] [] (mkMs s) 0 0 := by
  unfold F_X12_fault_24 at hw
  refine lp_ok (B_X12_fault_24 ) (fun x => G 24 [.ref 0] [] (mkMs x) 0 0) _ ?_ _ _ (ok_bind hw)
  rintro s hb
  exact b_X12_fault_24 hG (fun _ z => z) (fun y hw => by exact hG.2 _ _ _ _ _ _ _ _ _ (by refine ⟨Or.inr rfl, ?_⟩; exact trivial) (Nat.zero_le _) (Nat.zero_le _) (g_X12_fault_58 hG  hw :)) hb

set_option maxHeartbeats 4000000 in
set_option maxRecDepth 20000 in
theorem g_X12_fault {k : Option Value → mj_H → Prop} {G : mj_K} (hG : mj_cl2 cX12_fault (TbX12 1 ((some FieldType.int)) ct_X12_fault) k G) {s : St} (hw : ok (F_X12_fault s) (fun p => k (some (.int p.1)) (mkMs p.2))) : G 0 [.ref 0] [] (mkMs s) 0 0 := by
  unfold F_X12_fault at hw
  refine mj_run hG.1 (fun pc => pc == 24 || pc == 36 || pc == 55 || pc == 58 || pc == 70 || pc == 78) 4000 ?_
  simp only [mj_step, mj_W_s, mj_fin, List.getElem?_cons_zero, List.getElem?_cons_succ, mj_go, Nat.reduceAdd, Nat.reduceSub, Nat.reduceLT, Nat.reduceLeDiff, Nat.zero_add, Nat.reduceEqDiff, Nat.reduceBEq, ↓reduceIte, Bool.false_eq_true, List.append_nil, List.nil_append, List.cons_append, Option.toList, and_true, true_and, true_or, or_true, reduceCtorEq, List.map_nil, bI_eq0, bI_eq1, bool_ft, pk_us, vnar0, vnar1, Bool.or_false, Bool.or_true, Bool.false_or, Bool.true_or, mj_kne, eq_self, Int32.reduceLT, Int32.reduceLE, Int32.reduceAdd, Int32.reduceSub, Int32.reduceMul, not_true_eq_false, not_false_eq_true, false_implies, true_implies, D_X12_fault, mj_F_aload_n_k, mj_F_bipush_n, mj_F_dup, mj_F_getfield_i, mj_F_goto_off, mj_F_iadd, mj_F_iconst_n, mj_F_if_icmp_eq_off, mj_F_if_icmp_ne_off, mj_F_invokevirtual_i, mj_F_ireturn, mj_F_putfield_i, mj_c2, mj_kc, FT_X12, FT_X12_1, PT_X12, L_X12_fault, List.take_succ_cons, List.take_zero, List.drop_succ_cons, List.drop_zero, List.reverse_cons, List.reverse_nil, List.length_cons, List.length_nil, gS_M0, gMf_36, sS_Mf_36, gMl, gMf_37, sS_Mf_37, gMf_38, sS_Mf_38, gMf_39, sS_Mf_39, J_X12_fault]
  replace hw := ok_wI hw
  replace hw := ok_wI hw
  replace hw := ok_wI hw
  replace hw := ok_wI hw
  refine c_X12_clause_in (ok_imp (ok_bind hw) ?_)
  intro p hw
  simp only [Option.toList, List.nil_append, List.cons_append, Nat.reduceSub]
  exact hG.2 _ _ _ _ _ _ _ _ _ (by refine ⟨Or.inr rfl, ?_⟩; exact trivial) (Nat.zero_le _) (Nat.zero_le _) (g_X12_fault_24 hG  hw :)

def c_X12_fault : mj_S := fun as h k => ∃ (s : St), as = [.ref 0] ∧ h = mkMs s ∧ ok (F_X12_fault s) (fun p => k (some (.int p.1)) (mkMs p.2))
theorem c_X12_fault_in {s : St} {k : Option Value → mj_H → Prop} (hw : ok (F_X12_fault s) (fun p => k (some (.int p.1)) (mkMs p.2))) : c_X12_fault [.ref 0] (mkMs s) k := ⟨s, rfl, rfl, hw⟩
theorem m_X12_fault (l : Launch) : mj_Met l yX12_fault cX12_fault 1 ((some FieldType.int)) 69 0 0 c_X12_fault := by
  refine mj_body2 false (TbX12 1 ((some FieldType.int)) ct_X12_fault) (by decide) rfl rfl (fun h => nomatch h) (tfX12 _ (List.forall_mem_cons.mpr ⟨cfX12_318 (m_X12_bad l) (by decide), List.forall_mem_cons.mpr ⟨cfX12_321 (m_X12_look l) (by decide), List.forall_mem_cons.mpr ⟨cfX12_373 (m_X12_clause l) (by decide), fun _ h => nomatch h⟩⟩⟩)) ?_
  rintro as h k ⟨s, rfl, rfl, hw⟩
  exact ⟨rfl, fun G hG => g_X12_fault hG hw⟩
