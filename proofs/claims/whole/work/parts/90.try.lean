/-! try -/
def F_X12_isVillage (v1 : Int32) (s : St) : Option (Int32) :=
  some (bI (inb v1 0 ((s.1 1212) - 1)))
def ct_X12_isVillage : List (Nat × mj_Cs) := [(243, 2, 3, 12, 0, 0, c_in)]
theorem L_X12_isVillage : mj_lk ct_X12_isVillage 243 = some (2, 3, 12, 0, 0, c_in) := rfl
set_option maxHeartbeats 4000000 in
set_option maxRecDepth 20000 in
theorem g_X12_isVillage {k : Option Value → mj_H → Prop} {G : mj_K} (hG : mj_cl2 cX12_isVillage (TbX12 2 ((some FieldType.boolean)) ct_X12_isVillage) k G) {v1 : Int32} {s : St} (hw : ok (F_X12_isVillage v1 s) (fun p => k (some (.int p)) (mkMs s))) : G 0 [.ref 0, .int v1] [] (mkMs s) 0 0 := by
  unfold F_X12_isVillage at hw
  refine mj_run hG.1 (fun _ => false) 4000 ?_
  simp only [mj_step, mj_W_s, mj_fin, List.getElem?_cons_zero, List.getElem?_cons_succ, mj_go, Nat.reduceAdd, Nat.reduceSub, Nat.reduceLT, Nat.reduceLeDiff, Nat.zero_add, Nat.reduceEqDiff, Nat.reduceBEq, ↓reduceIte, Bool.false_eq_true, List.append_nil, List.nil_append, List.cons_append, Option.toList, and_true, true_and, true_or, or_true, reduceCtorEq, List.map_nil, bI_eq0, bI_eq1, bool_ft, pk_us, Bool.or_false, Bool.or_true, Bool.false_or, Bool.true_or, mj_kne, eq_self, Int32.reduceLT, Int32.reduceLE, Int32.reduceAdd, Int32.reduceSub, Int32.reduceMul, not_true_eq_false, not_false_eq_true, false_implies, true_implies, D_X12_isVillage, mj_F_aload_n_k, mj_F_getfield_i, mj_F_iconst_n, mj_F_iload_n_k, mj_F_invokestatic_i, mj_F_ireturn, mj_F_isub, mj_kc, FT_X12, FT_X12_1, L_X12_isVillage, List.take_succ_cons, List.take_zero, List.drop_succ_cons, List.drop_zero, List.reverse_cons, List.reverse_nil, List.length_cons, List.length_nil, gS_M0, gMf_12, c_in_eq]
  exact (ok_some hw :)

def c_X12_isVillage : mj_S := fun as h k => ∃ (v1 : Int32) (s : St), as = [.ref 0, .int v1] ∧ h = mkMs s ∧ ok (F_X12_isVillage v1 s) (fun p => k (some (.int p)) (mkMs s))
theorem c_X12_isVillage_in {v1 : Int32} {s : St} {k : Option Value → mj_H → Prop} (hw : ok (F_X12_isVillage v1 s) (fun p => k (some (.int p)) (mkMs s))) : c_X12_isVillage [.ref 0, .int v1] (mkMs s) k := ⟨v1, s, rfl, rfl, hw⟩
theorem m_X12_isVillage (l : Launch) : mj_Met l yX12_isVillage cX12_isVillage 2 ((some FieldType.boolean)) 1 0 0 c_X12_isVillage := by
  refine mj_body2 false (TbX12 2 ((some FieldType.boolean)) ct_X12_isVillage) (by decide) rfl rfl (fun h => nomatch h) (tfX12 _ (List.forall_mem_cons.mpr ⟨cfX12_243 (m_X12_in l) (by decide), fun _ h => nomatch h⟩)) ?_
  rintro as h k ⟨v1, s, rfl, rfl, hw⟩
  exact ⟨rfl, fun G hG => g_X12_isVillage hG hw⟩
def B_X12_childOf_6 (v1 : Int32) (v2 : Int32) (v3 : Int32) (v4 : Int32) (s : St) : Int32 × Int32 → Option ((Int32 × Int32) ⊕ ((Int32)))
  | (v5, v6) =>
  if (s.1 1213) ≤ v6 then
    some (.inr v5)
  else
    (rd s 1207 200 v6).bind fun x1 =>
    if x1 = v1 then
      (rd s 1211 200 v6).bind fun x2 =>
      if v3 < x2 then
        some (.inl (v5, (v6 + 1)))
      else
        (rd s 1208 200 v6).bind fun x3 =>
        if v2 < x3 then
          some (.inl (v5, (v6 + 1)))
        else
          if v5 = (-1) then
            some (.inl (v6, (v6 + 1)))
          else
            (rd s 1208 200 v6).bind fun x4 =>
            (rd s 1208 200 v5).bind fun x5 =>
            if x4 < x5 then
              some (.inl (v5, (v6 + 1)))
            else
              some (.inl (v6, (v6 + 1)))
    else
      some (.inl (v5, (v6 + 1)))
def F_X12_childOf_81 (v4 : Int32) (v5 : Int32) (s : St) : Option (Int32) :=
  if v5 = (-1) then
    some 0
  else
    if v4 = 0 then
      (rd s 1209 200 v5).bind fun x7 =>
      some x7
    else
      (rd s 1210 200 v5).bind fun x6 =>
      some x6
def F_X12_childOf_6 (v1 : Int32) (v2 : Int32) (v3 : Int32) (v4 : Int32) (v5 : Int32) (v6 : Int32) (s : St) : Option (Int32) :=
  (lp (B_X12_childOf_6 v1 v2 v3 v4 s) FU (v5, v6)).bind (fun y => F_X12_childOf_81 v4 y s)
def F_X12_childOf (v1 : Int32) (v2 : Int32) (v3 : Int32) (v4 : Int32) (s : St) : Option (Int32) :=
  F_X12_childOf_6 v1 v2 v3 v4 (-1) 0 s
theorem J_X12_childOf : mj_t 12 69 = 81 ∧ mj_t 23 52 = 75 ∧ mj_t 34 41 = 75 ∧ mj_t 45 30 = 75 ∧ mj_t 51 20 = 71 ∧ mj_t 68 7 = 75 ∧ mj_t 78 (-72) = 6 ∧ mj_t 84 7 = 91 ∧ mj_t 88 25 = 113 ∧ mj_t 93 13 = 106 ∧ mj_t 103 10 = 113 ∧ (0 ≤ ((12 : Nat) : Int) + 69) = True ∧ (0 ≤ ((23 : Nat) : Int) + 52) = True ∧ (0 ≤ ((34 : Nat) : Int) + 41) = True ∧ (0 ≤ ((45 : Nat) : Int) + 30) = True ∧ (0 ≤ ((51 : Nat) : Int) + 20) = True ∧ (0 ≤ ((68 : Nat) : Int) + 7) = True ∧ (0 ≤ ((78 : Nat) : Int) + (-72)) = True ∧ (0 ≤ ((84 : Nat) : Int) + 7) = True ∧ (0 ≤ ((88 : Nat) : Int) + 25) = True ∧ (0 ≤ ((93 : Nat) : Int) + 13) = True ∧ (0 ≤ ((103 : Nat) : Int) + 10) = True := by and_intros <;> first | rfl | exact eq_true (by decide)
set_option maxHeartbeats 4000000 in
set_option maxRecDepth 20000 in
theorem b_X12_childOf_6 {k : Option Value → mj_H → Prop} {G : mj_K} (hG : mj_cl2 cX12_childOf (TbX12 7 ((some FieldType.int)) []) k G) {v1 : Int32} {v2 : Int32} {v3 : Int32} {v4 : Int32} {s : St} {P : Int32 × Int32 → Prop} {K : (Int32) → Prop} (hP : ∀ x, P x → G 6 [.ref 0, .int v1, .int v2, .int v3, .int v4, .int x.1, .int x.2] [] (mkMs s) 0 0) (hK0 : ∀ y, K y → G 81 [.ref 0, mj_unk, mj_unk, mj_unk, .int v4, .int y] [] (mkMs s) 0 0) {v5 : Int32} {v6 : Int32} (hw : ok (B_X12_childOf_6 v1 v2 v3 v4 s (v5, v6)) (Sum.elim P K)) : G 6 [.ref 0, .int v1, .int v2, .int v3, .int v4, .int v5, .int v6] [] (mkMs s) 0 0 := by
  unfold B_X12_childOf_6 at hw
  refine mj_run hG.1 (fun pc => pc == 6 || pc == 81) 4000 ?_
  simp only [mj_step, mj_W_s, mj_fin, List.getElem?_cons_zero, List.getElem?_cons_succ, mj_go, Nat.reduceAdd, Nat.reduceSub, Nat.reduceLT, Nat.reduceLeDiff, Nat.zero_add, Nat.reduceEqDiff, Nat.reduceBEq, ↓reduceIte, Bool.false_eq_true, List.append_nil, List.nil_append, List.cons_append, Option.toList, and_true, true_and, true_or, or_true, reduceCtorEq, List.map_nil, bI_eq0, bI_eq1, bool_ft, pk_us, Bool.or_false, Bool.or_true, Bool.false_or, Bool.true_or, mj_kne, eq_self, Int32.reduceLT, Int32.reduceLE, Int32.reduceAdd, Int32.reduceSub, Int32.reduceMul, not_true_eq_false, not_false_eq_true, false_implies, true_implies, D_X12_childOf_0, D_X12_childOf_1, mj_F_aload_n_k, mj_F_getfield_i, mj_F_goto_off, mj_F_iaload, mj_F_iconst_n, mj_F_ifCond_ne_off, mj_F_if_icmp_eq_off, mj_F_if_icmp_ge_off, mj_F_if_icmp_gt_off, mj_F_if_icmp_lt_off, mj_F_if_icmp_ne_off, mj_F_iinc_k_n, mj_F_iload_k, mj_F_iload_n_k, mj_F_ireturn, mj_F_istore_k, mj_set, mj_set0, mj_unk, mj_c2, mj_kc, FT_X12, FT_X12_1, gS_M0, gMf_13, gMf_7, gS_M7, sS_Ma_7, gMf_11, gS_M11, sS_Ma_11, gMf_8, gS_M8, sS_Ma_8, gMf_9, gS_M9, sS_Ma_9, gMf_10, gS_M10, sS_Ma_10, J_X12_childOf]
  refine ⟨fun c => ?_, fun c => ?_⟩
  · replace hw := ok_t hw c
    exact hG.2 _ _ _ _ _ _ _ _ _ (by refine ⟨Or.inr rfl, ?_⟩; refine ⟨Or.inl rfl, ?_⟩; refine ⟨Or.inl rfl, ?_⟩; refine ⟨Or.inl rfl, ?_⟩; refine ⟨Or.inr rfl, ?_⟩; refine ⟨Or.inr rfl, ?_⟩; exact trivial) (Nat.le_refl _) (Nat.le_refl _) (hK0 _ (ok_some hw :))
  · replace hw := ok_f hw c
    refine ⟨(ok_rd hw).1, ?_⟩
    replace hw := (ok_rd hw).2
    refine ⟨fun c => ?_, fun c => ?_⟩
    · replace hw := ok_f hw c
      exact hG.2 _ _ _ _ _ _ _ _ _ (by refine ⟨Or.inr rfl, ?_⟩; refine ⟨Or.inr rfl, ?_⟩; refine ⟨Or.inr rfl, ?_⟩; refine ⟨Or.inr rfl, ?_⟩; refine ⟨Or.inr rfl, ?_⟩; refine ⟨Or.inr rfl, ?_⟩; refine ⟨Or.inr rfl, ?_⟩; exact trivial) (Nat.le_refl _) (Nat.le_refl _) (hP _ (ok_some hw :))
    · replace hw := ok_t hw c
      refine ⟨(ok_rd hw).1, ?_⟩
      replace hw := (ok_rd hw).2
      refine ⟨fun c => ?_, fun c => ?_⟩
      · replace hw := ok_t hw c
        exact hG.2 _ _ _ _ _ _ _ _ _ (by refine ⟨Or.inr rfl, ?_⟩; refine ⟨Or.inr rfl, ?_⟩; refine ⟨Or.inr rfl, ?_⟩; refine ⟨Or.inr rfl, ?_⟩; refine ⟨Or.inr rfl, ?_⟩; refine ⟨Or.inr rfl, ?_⟩; refine ⟨Or.inr rfl, ?_⟩; exact trivial) (Nat.le_refl _) (Nat.le_refl _) (hP _ (ok_some hw :))
      · replace hw := ok_f hw c
        refine ⟨(ok_rd hw).1, ?_⟩
        replace hw := (ok_rd hw).2
        refine ⟨fun c => ?_, fun c => ?_⟩
        · replace hw := ok_t hw c
          exact hG.2 _ _ _ _ _ _ _ _ _ (by refine ⟨Or.inr rfl, ?_⟩; refine ⟨Or.inr rfl, ?_⟩; refine ⟨Or.inr rfl, ?_⟩; refine ⟨Or.inr rfl, ?_⟩; refine ⟨Or.inr rfl, ?_⟩; refine ⟨Or.inr rfl, ?_⟩; refine ⟨Or.inr rfl, ?_⟩; exact trivial) (Nat.le_refl _) (Nat.le_refl _) (hP _ (ok_some hw :))
        · replace hw := ok_f hw c
          refine ⟨fun c => ?_, fun c => ?_⟩
          · replace hw := ok_t hw c
            exact hG.2 _ _ _ _ _ _ _ _ _ (by refine ⟨Or.inr rfl, ?_⟩; refine ⟨Or.inr rfl, ?_⟩; refine ⟨Or.inr rfl, ?_⟩; refine ⟨Or.inr rfl, ?_⟩; refine ⟨Or.inr rfl, ?_⟩; refine ⟨Or.inr rfl, ?_⟩; refine ⟨Or.inr rfl, ?_⟩; exact trivial) (Nat.le_refl _) (Nat.le_refl _) (hP _ (ok_some hw :))
          · replace hw := ok_f hw c
            refine ⟨(ok_rd hw).1, ?_⟩
            replace hw := (ok_rd hw).2
            refine ⟨(ok_rd hw).1, ?_⟩
            replace hw := (ok_rd hw).2
            refine ⟨fun c => ?_, fun c => ?_⟩
            · replace hw := ok_t hw c
              exact hG.2 _ _ _ _ _ _ _ _ _ (by refine ⟨Or.inr rfl, ?_⟩; refine ⟨Or.inr rfl, ?_⟩; refine ⟨Or.inr rfl, ?_⟩; refine ⟨Or.inr rfl, ?_⟩; refine ⟨Or.inr rfl, ?_⟩; refine ⟨Or.inr rfl, ?_⟩; refine ⟨Or.inr rfl, ?_⟩; exact trivial) (Nat.le_refl _) (Nat.le_refl _) (hP _ (ok_some hw :))
            · replace hw := ok_f hw c
              exact hG.2 _ _ _ _ _ _ _ _ _ (by refine ⟨Or.inr rfl, ?_⟩; refine ⟨Or.inr rfl, ?_⟩; refine ⟨Or.inr rfl, ?_⟩; refine ⟨Or.inr rfl, ?_⟩; refine ⟨Or.inr rfl, ?_⟩; refine ⟨Or.inr rfl, ?_⟩; refine ⟨Or.inr rfl, ?_⟩; exact trivial) (Nat.le_refl _) (Nat.le_refl _) (hP _ (ok_some hw :))

set_option maxHeartbeats 4000000 in
set_option maxRecDepth 20000 in
theorem g_X12_childOf_81 {k : Option Value → mj_H → Prop} {G : mj_K} (hG : mj_cl2 cX12_childOf (TbX12 7 ((some FieldType.int)) []) k G)   {v4 : Int32} {v5 : Int32} {s : St} (hw : ok (F_X12_childOf_81 v4 v5 s) (fun p => k (some (.int p)) (mkMs s))) : G 81 [.ref 0, mj_unk, mj_unk, mj_unk, .int v4, .int v5] [] (mkMs s) 0 0 := by
  unfold F_X12_childOf_81 at hw
  refine mj_run hG.1 (fun pc => pc == 6 || pc == 81) 4000 ?_
  simp only [mj_step, mj_W_s, mj_fin, List.getElem?_cons_zero, List.getElem?_cons_succ, mj_go, Nat.reduceAdd, Nat.reduceSub, Nat.reduceLT, Nat.reduceLeDiff, Nat.zero_add, Nat.reduceEqDiff, Nat.reduceBEq, ↓reduceIte, Bool.false_eq_true, List.append_nil, List.nil_append, List.cons_append, Option.toList, and_true, true_and, true_or, or_true, reduceCtorEq, List.map_nil, bI_eq0, bI_eq1, bool_ft, pk_us, Bool.or_false, Bool.or_true, Bool.false_or, Bool.true_or, mj_kne, eq_self, Int32.reduceLT, Int32.reduceLE, Int32.reduceAdd, Int32.reduceSub, Int32.reduceMul, not_true_eq_false, not_false_eq_true, false_implies, true_implies, D_X12_childOf_0, D_X12_childOf_1, mj_F_aload_n_k, mj_F_getfield_i, mj_F_goto_off, mj_F_iaload, mj_F_iconst_n, mj_F_ifCond_ne_off, mj_F_if_icmp_eq_off, mj_F_if_icmp_ge_off, mj_F_if_icmp_gt_off, mj_F_if_icmp_lt_off, mj_F_if_icmp_ne_off, mj_F_iinc_k_n, mj_F_iload_k, mj_F_iload_n_k, mj_F_ireturn, mj_F_istore_k, mj_set, mj_set0, mj_unk, mj_c2, mj_kc, FT_X12, FT_X12_1, gS_M0, gMf_13, gMf_7, gS_M7, sS_Ma_7, gMf_11, gS_M11, sS_Ma_11, gMf_8, gS_M8, sS_Ma_8, gMf_9, gS_M9, sS_Ma_9, gMf_10, gS_M10, sS_Ma_10, J_X12_childOf]
  refine ⟨fun c => ?_, fun c => ?_⟩
  · replace hw := ok_f hw c
    refine ⟨fun c => ?_, fun c => ?_⟩
    · replace hw := ok_f hw c
      refine ⟨(ok_rd hw).1, ?_⟩
      replace hw := (ok_rd hw).2
      exact (ok_some hw :)
    · replace hw := ok_t hw c
      refine ⟨(ok_rd hw).1, ?_⟩
      replace hw := (ok_rd hw).2
      exact (ok_some hw :)
  · replace hw := ok_t hw c
    exact (ok_some hw :)

set_option maxHeartbeats 4000000 in
theorem g_X12_childOf_6 {k : Option Value → mj_H → Prop} {G : mj_K} (hG : mj_cl2 cX12_childOf (TbX12 7 ((some FieldType.int)) []) k G)   {v1 : Int32} {v2 : Int32} {v3 : Int32} {v4 : Int32} {v5 : Int32} {v6 : Int32} {s : St} (hw : ok (F_X12_childOf_6 v1 v2 v3 v4 v5 v6 s) (fun p => k (some (.int p)) (mkMs s))) : G 6 [.ref 0, .int v1, .int v2, .int v3, .int v4, .int v5, .int v6] [] (mkMs s) 0 0 := by
  unfold F_X12_childOf_6 at hw
  refine lp_ok (B_X12_childOf_6 v1 v2 v3 v4 s) (fun x => G 6 [.ref 0, .int v1, .int v2, .int v3, .int v4, .int x.1, .int x.2] [] (mkMs s) 0 0) _ ?_ _ _ (ok_bind hw)
  rintro ⟨v5, v6⟩ hb
  exact b_X12_childOf_6 hG (fun _ z => z) (fun y hw => by exact hG.2 _ _ _ _ _ _ _ _ _ (by refine ⟨Or.inr rfl, ?_⟩; refine ⟨Or.inl rfl, ?_⟩; refine ⟨Or.inl rfl, ?_⟩; refine ⟨Or.inl rfl, ?_⟩; refine ⟨Or.inr rfl, ?_⟩; refine ⟨Or.inr rfl, ?_⟩; exact trivial) (Nat.le_refl _) (Nat.le_refl _) (g_X12_childOf_81 hG  hw)) hb

set_option maxHeartbeats 4000000 in
set_option maxRecDepth 20000 in
theorem g_X12_childOf {k : Option Value → mj_H → Prop} {G : mj_K} (hG : mj_cl2 cX12_childOf (TbX12 7 ((some FieldType.int)) []) k G) {v1 : Int32} {v2 : Int32} {v3 : Int32} {v4 : Int32} {s : St} (hw : ok (F_X12_childOf v1 v2 v3 v4 s) (fun p => k (some (.int p)) (mkMs s))) : G 0 [.ref 0, .int v1, .int v2, .int v3, .int v4] [] (mkMs s) 0 0 := by
  unfold F_X12_childOf at hw
  refine mj_run hG.1 (fun pc => pc == 6 || pc == 81) 4000 ?_
  simp only [mj_step, mj_W_s, mj_fin, List.getElem?_cons_zero, List.getElem?_cons_succ, mj_go, Nat.reduceAdd, Nat.reduceSub, Nat.reduceLT, Nat.reduceLeDiff, Nat.zero_add, Nat.reduceEqDiff, Nat.reduceBEq, ↓reduceIte, Bool.false_eq_true, List.append_nil, List.nil_append, List.cons_append, Option.toList, and_true, true_and, true_or, or_true, reduceCtorEq, List.map_nil, bI_eq0, bI_eq1, bool_ft, pk_us, Bool.or_false, Bool.or_true, Bool.false_or, Bool.true_or, mj_kne, eq_self, Int32.reduceLT, Int32.reduceLE, Int32.reduceAdd, Int32.reduceSub, Int32.reduceMul, not_true_eq_false, not_false_eq_true, false_implies, true_implies, D_X12_childOf_0, D_X12_childOf_1, mj_F_aload_n_k, mj_F_getfield_i, mj_F_goto_off, mj_F_iaload, mj_F_iconst_n, mj_F_ifCond_ne_off, mj_F_if_icmp_eq_off, mj_F_if_icmp_ge_off, mj_F_if_icmp_gt_off, mj_F_if_icmp_lt_off, mj_F_if_icmp_ne_off, mj_F_iinc_k_n, mj_F_iload_k, mj_F_iload_n_k, mj_F_ireturn, mj_F_istore_k, mj_set, mj_set0, mj_unk, mj_c2, mj_kc, FT_X12, FT_X12_1, gS_M0, gMf_13, gMf_7, gS_M7, sS_Ma_7, gMf_11, gS_M11, sS_Ma_11, gMf_8, gS_M8, sS_Ma_8, gMf_9, gS_M9, sS_Ma_9, gMf_10, gS_M10, sS_Ma_10, J_X12_childOf]
  exact hG.2 _ _ _ _ _ _ _ _ _ (by refine ⟨Or.inr rfl, ?_⟩; refine ⟨Or.inr rfl, ?_⟩; refine ⟨Or.inr rfl, ?_⟩; refine ⟨Or.inr rfl, ?_⟩; refine ⟨Or.inr rfl, ?_⟩; refine ⟨Or.inr rfl, ?_⟩; refine ⟨Or.inr rfl, ?_⟩; exact trivial) (Nat.le_refl _) (Nat.le_refl _) (g_X12_childOf_6 hG  hw)

def c_X12_childOf : mj_S := fun as h k => ∃ (v1 : Int32) (v2 : Int32) (v3 : Int32) (v4 : Int32) (s : St), as = [.ref 0, .int v1, .int v2, .int v3, .int v4] ∧ h = mkMs s ∧ ok (F_X12_childOf v1 v2 v3 v4 s) (fun p => k (some (.int p)) (mkMs s))
theorem c_X12_childOf_in {v1 : Int32} {v2 : Int32} {v3 : Int32} {v4 : Int32} {s : St} {k : Option Value → mj_H → Prop} (hw : ok (F_X12_childOf v1 v2 v3 v4 s) (fun p => k (some (.int p)) (mkMs s))) : c_X12_childOf [.ref 0, .int v1, .int v2, .int v3, .int v4] (mkMs s) k := ⟨v1, v2, v3, v4, s, rfl, rfl, hw⟩
theorem m_X12_childOf (l : Launch) : mj_Met l yX12_childOf cX12_childOf 7 ((some FieldType.int)) 0 0 0 c_X12_childOf := by
  refine mj_body2 false (TbX12 7 ((some FieldType.int)) []) (by decide) rfl rfl (fun h => nomatch h) (tfX12 _ (fun _ h => nomatch h)) ?_
  rintro as h k ⟨v1, v2, v3, v4, s, rfl, rfl, hw⟩
  exact ⟨rfl, fun G hG => g_X12_childOf hG hw⟩
def F_X12_village (v1 : Int32) (v2 : Int32) (v3 : Int32) (s : St) : Option (Int32 × St) :=
  if inb v1 0 119 = false then
    some ((-1), s)
  else
    if inb v2 0 3 = false then
      some ((-1), s)
    else
      if inb v3 0 7 = false then
        some ((-1), s)
      else
        if (s.1 1212) = 24 then
          some ((-1), s)
        else
          (wr s 1204 24 (s.1 1212) v1).bind fun s1 =>
          (wr s1 1205 24 (s1.1 1212) v2).bind fun s2 =>
          (wr s2 1206 24 (s2.1 1212) v3).bind fun s3 =>
          (wI s3 1212 ((s3.1 1212) + 1)).bind fun s4 =>
          some (((s4.1 1212) - 1), s4)
theorem J_X12_village : mj_t 4 29 = 33 ∧ mj_t 11 22 = 33 ∧ mj_t 21 12 = 33 ∧ mj_t 30 5 = 35 ∧ (0 ≤ ((4 : Nat) : Int) + 29) = True ∧ (0 ≤ ((11 : Nat) : Int) + 22) = True ∧ (0 ≤ ((21 : Nat) : Int) + 12) = True ∧ (0 ≤ ((30 : Nat) : Int) + 5) = True := by and_intros <;> first | rfl | exact eq_true (by decide)
def ct_X12_village : List (Nat × mj_Cs) := [(243, 2, 3, 12, 0, 0, c_in), (260, 2, 1, 12, 0, 0, c_isCell), (271, 2, 1, 12, 0, 0, c_isShire)]
theorem L_X12_village : mj_lk ct_X12_village 243 = some (2, 3, 12, 0, 0, c_in) ∧ mj_lk ct_X12_village 260 = some (2, 1, 12, 0, 0, c_isCell) ∧ mj_lk ct_X12_village 271 = some (2, 1, 12, 0, 0, c_isShire) := ⟨rfl, rfl, rfl⟩
set_option maxHeartbeats 4000000 in
set_option maxRecDepth 20000 in
theorem g_X12_village {k : Option Value → mj_H → Prop} {G : mj_K} (hG : mj_cl2 cX12_village (TbX12 4 ((some FieldType.int)) ct_X12_village) k G) {v1 : Int32} {v2 : Int32} {v3 : Int32} {s : St} (hw : ok (F_X12_village v1 v2 v3 s) (fun p => k (some (.int p.1)) (mkMs p.2))) : G 0 [.ref 0, .int v1, .int v2, .int v3] [] (mkMs s) 0 0 := by
  unfold F_X12_village at hw
  refine mj_run hG.1 (fun _ => false) 4000 ?_
  simp only [mj_step, mj_W_s, mj_fin, List.getElem?_cons_zero, List.getElem?_cons_succ, mj_go, Nat.reduceAdd, Nat.reduceSub, Nat.reduceLT, Nat.reduceLeDiff, Nat.zero_add, Nat.reduceEqDiff, Nat.reduceBEq, ↓reduceIte, Bool.false_eq_true, List.append_nil, List.nil_append, List.cons_append, Option.toList, and_true, true_and, true_or, or_true, reduceCtorEq, List.map_nil, bI_eq0, bI_eq1, bool_ft, pk_us, Bool.or_false, Bool.or_true, Bool.false_or, Bool.true_or, mj_kne, eq_self, Int32.reduceLT, Int32.reduceLE, Int32.reduceAdd, Int32.reduceSub, Int32.reduceMul, not_true_eq_false, not_false_eq_true, false_implies, true_implies, D_X12_village, mj_F_aload_n_k, mj_F_bipush_n, mj_F_dup, mj_F_getfield_i, mj_F_iadd, mj_F_iastore, mj_F_iconst_n, mj_F_ifCond_eq_off, mj_F_if_icmp_ne_off, mj_F_iload_n_k, mj_F_invokestatic_i, mj_F_ireturn, mj_F_isub, mj_F_putfield_i, mj_c2, mj_kc, FT_X12, FT_X12_1, PT_X12, L_X12_village, List.take_succ_cons, List.take_zero, List.drop_succ_cons, List.drop_zero, List.reverse_cons, List.reverse_nil, List.length_cons, List.length_nil, gS_M0, gMf_12, gMf_4, gS_M4, sS_Ma_4, gMf_5, gS_M5, sS_Ma_5, gMf_6, gS_M6, sS_Ma_6, sS_Mf_12, gMl, c_isCell_eq, c_isShire_eq, c_in_eq, J_X12_village]
  refine ⟨fun c => ?_, fun c => ?_⟩
  · replace hw := ok_t hw c
    exact (ok_some hw :)
  · replace hw := ok_f hw c
    refine ⟨fun c => ?_, fun c => ?_⟩
    · replace hw := ok_t hw c
      exact (ok_some hw :)
    · replace hw := ok_f hw c
      refine ⟨fun c => ?_, fun c => ?_⟩
      · replace hw := ok_t hw c
        exact (ok_some hw :)
      · replace hw := ok_f hw c
        refine ⟨fun c => ?_, fun c => ?_⟩
        · replace hw := ok_f hw c
          refine ⟨(ok_wr hw).1, ?_⟩
          replace hw := (ok_wr hw).2
          refine ⟨(ok_wr hw).1, ?_⟩
          replace hw := (ok_wr hw).2
          refine ⟨(ok_wr hw).1, ?_⟩
          replace hw := (ok_wr hw).2
          replace hw := ok_wI hw
          exact (ok_some hw :)
        · replace hw := ok_t hw c
          exact (ok_some hw :)

def c_X12_village : mj_S := fun as h k => ∃ (v1 : Int32) (v2 : Int32) (v3 : Int32) (s : St), as = [.ref 0, .int v1, .int v2, .int v3] ∧ h = mkMs s ∧ ok (F_X12_village v1 v2 v3 s) (fun p => k (some (.int p.1)) (mkMs p.2))
theorem c_X12_village_in {v1 : Int32} {v2 : Int32} {v3 : Int32} {s : St} {k : Option Value → mj_H → Prop} (hw : ok (F_X12_village v1 v2 v3 s) (fun p => k (some (.int p.1)) (mkMs p.2))) : c_X12_village [.ref 0, .int v1, .int v2, .int v3] (mkMs s) k := ⟨v1, v2, v3, s, rfl, rfl, hw⟩
theorem m_X12_village (l : Launch) : mj_Met l yX12_village cX12_village 4 ((some FieldType.int)) 2 0 0 c_X12_village := by
  refine mj_body2 false (TbX12 4 ((some FieldType.int)) ct_X12_village) (by decide) rfl rfl (fun h => nomatch h) (tfX12 _ (List.forall_mem_cons.mpr ⟨cfX12_243 (m_X12_in l) (by decide), List.forall_mem_cons.mpr ⟨cfX12_260 (m_X12_isCell l) (by decide), List.forall_mem_cons.mpr ⟨cfX12_271 (m_X12_isShire l) (by decide), fun _ h => nomatch h⟩⟩⟩)) ?_
  rintro as h k ⟨v1, v2, v3, s, rfl, rfl, hw⟩
  exact ⟨rfl, fun G hG => g_X12_village hG hw⟩
