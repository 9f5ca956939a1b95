/-! pictures of enact and law -/
def pNf (s : St) (n : Nat) (f : Nat → Int32) : St := (s.1, s.2.1, s.2.2.1, s.2.2.2 ++ [(n, f)])
theorem sS_newf (s : St) (n : Nat) (f : Nat → Int32) : mkCs s ++ [.inl (.int, n, .inl f)] = mkCs (pNf s n f) := by
  unfold mkCs mkC pNf
  simp only [List.map_append, List.map_cons, List.map_nil, List.append_assoc]
def cpA (s : St) (k n : Nat) (v : Int32) : Option St := if 0 ≤ v.toInt ∧ v.toInt ≤ n ∧ n ≤ 164 then some (pNf s v.toNatClampNeg (cpf (s.2.1 k) n v.toNatClampNeg)) else none
theorem ok_cpA {β : Type} {s : St} {k n : Nat} {v : Int32} {f : St → Option β} {Q : β → Prop} (h : ok ((cpA s k n v).bind f) Q) : ∃ w, v = nI w ∧ n ≤ 164 ∧ w ≤ n ∧ ok (f (pNf s w (cpf (s.2.1 k) n w))) Q := by
  unfold cpA at h
  obtain ⟨⟨h1, h2, h3⟩, h4⟩ := ok_gd h
  have e : v.toNatClampNeg = v.toInt.toNat := rfl
  have e2 : v.toInt = (v.toNatClampNeg : Int) := by omega
  exact ⟨v.toNatClampNeg, i32_of e2, h3, by omega, h4⟩
theorem c_copy_in {a n0 w : Nat} {f : Nat → Int32} {v : Int32} {h : mj_H} {k : Option Value → mj_H → Prop} (hv : v = nI w) (ha : h[a]? = some (.inl (.int, n0, .inl f))) (hn : n0 ≤ 164) (hw : w ≤ n0) (hk : k (some (.ref h.length)) (h ++ [.inl (.int, w, .inl (cpf f n0 w))])) : c_copy [.ref a, .int v] h k := ⟨a, n0, w, f, by rw [hv], ha, hn, hw, hk⟩
def F_X0_enact (v1 : Int32) (v2 : Int32) (v3 : Int32) (s : St) : Option (Int32 × St) :=
  if (s.1 0) < 20 then
    (wr s 1 20 (s.1 0) v1).bind fun s1 =>
    (wr s1 2 20 (s1.1 0) v2).bind fun s2 =>
    (wr s2 3 20 (s2.1 0) v3).bind fun s3 =>
    (wr s3 4 20 (s3.1 0) (s3.1 909)).bind fun s4 =>
    (cpA s4 905 160 (s4.1 906)).bind fun s5 =>
    (wR s5 5 20 (s4.1 0) (aL s4)).bind fun s6 =>
    (cpA s6 907 164 (4 * (s6.1 908))).bind fun s7 =>
    (wR s7 6 20 (s6.1 0) (aL s6)).bind fun s8 =>
    (wI s8 0 ((s8.1 0) + 1)).bind fun s9 =>
    some (((s9.1 0) - 1), s9)
  else
    some ((-1), s)
theorem J_X0_enact : mj_t 6 5 = 11 ∧ (0 ≤ ((6 : Nat) : Int) + 5) = True := by and_intros <;> first | rfl | exact eq_true (by decide)
def ct_X0_enact : List (Nat × mj_Cs) := [(53, 2, 2, 99, 1, 164, c_copy)]
theorem L_X0_enact : mj_lk ct_X0_enact 53 = some (2, 2, 99, 1, 164, c_copy) := rfl
set_option maxHeartbeats 4000000 in
set_option maxRecDepth 20000 in
theorem g_X0_enact {k : Option Value → mj_H → Prop} {G : mj_K} (hG : mj_cl2 cX0_enact (TbX0 5 ((some FieldType.int)) ct_X0_enact) k G) {v1 : Int32} {v2 : Int32} {v3 : Int32} {s : St} (hw : ok (F_X0_enact v1 v2 v3 s) (fun p => k (some (.int p.1)) (mkCs p.2))) : G 0 [.ref 11, .int v1, .int v2, .int v3, .ref 7] [] (mkCs s) 2 328 := by
  unfold F_X0_enact at hw
  refine mj_run hG.1 (fun pc => pc == 76 || pc == 100) 4000 ?_
  simp only [mj_step, mj_W_s, mj_fin, List.getElem?_cons_zero, List.getElem?_cons_succ, mj_go, Nat.reduceAdd, Nat.reduceSub, Nat.reduceLT, Nat.reduceLeDiff, Nat.zero_add, Nat.reduceEqDiff, Nat.reduceBEq, ↓reduceIte, Bool.false_eq_true, List.append_nil, List.nil_append, List.cons_append, Option.toList, and_true, true_and, true_or, or_true, reduceCtorEq, List.map_nil, bI_eq0, bI_eq1, bool_ft, pk_us, vnar0, vnar1, Bool.or_false, Bool.or_true, Bool.false_or, Bool.true_or, mj_kne, eq_self, Int32.reduceLT, Int32.reduceLE, Int32.reduceAdd, Int32.reduceSub, Int32.reduceMul, not_true_eq_false, not_false_eq_true, false_implies, true_implies, D_X0_enact_0, D_X0_enact_1, mj_F_aastore, mj_F_aload_k, mj_F_aload_n_k, mj_F_bipush_n, mj_F_dup, mj_F_getfield_i, mj_F_iadd, mj_F_iastore, mj_F_iconst_n, mj_F_if_icmp_lt_off, mj_F_iload_n_k, mj_F_imul, mj_F_invokestatic_i, mj_F_ireturn, mj_F_isub, mj_F_putfield_i, mj_c2, mj_kc, FT_X0, PT_X0, L_X0_enact, List.take_succ_cons, List.take_zero, List.drop_succ_cons, List.drop_zero, List.reverse_cons, List.reverse_nil, List.length_cons, List.length_nil, gS_C11, gCf0_0, gCf0_1, gS_C12, sS_Ca_12, gCf0_2, gS_C13, sS_Ca_13, gCf0_3, gS_C14, sS_Ca_14, gCf0_4, gS_C15, sS_Ca_15, gS_C7, gCf9_9, gCf0_5, gS_C16, sS_Cr_16, gCf9_5, gS_C9, sS_Ca_9, gCf9_6, gCf0_6, gS_C17, sS_Cr_17, gCf9_7, gS_C10, sS_Ca_10, gCf9_8, sS_Cf_0_0, gCf0len, J_X0_enact]
  refine ⟨fun c => ?_, fun c => ?_⟩
  · replace hw := ok_t hw c
    refine ⟨(ok_wr hw).1, ?_⟩
    replace hw := (ok_wr hw).2
    refine ⟨(ok_wr hw).1, ?_⟩
    replace hw := (ok_wr hw).2
    refine ⟨(ok_wr hw).1, ?_⟩
    replace hw := (ok_wr hw).2
    refine ⟨(ok_wr hw).1, ?_⟩
    replace hw := (ok_wr hw).2
    obtain ⟨w11, e10, z2, z3, hw⟩ := ok_cpA hw
    refine c_copy_in e10 (gS_C9 _) z2 z3 ?_
    simp only [sS_newf, mkCs_len, Option.toList, List.nil_append, List.cons_append, Nat.reduceSub]
    obtain ⟨_, _, e12, z, hw⟩ := ok_wR hw
    refine mj_run hG.1 (fun pc => pc == 76 || pc == 100) 4000 ?_
    simp only [e12, mj_step, mj_W_s, mj_fin, List.getElem?_cons_zero, List.getElem?_cons_succ, mj_go, Nat.reduceAdd, Nat.reduceSub, Nat.reduceLT, Nat.reduceLeDiff, Nat.zero_add, Nat.reduceEqDiff, Nat.reduceBEq, ↓reduceIte, Bool.false_eq_true, List.append_nil, List.nil_append, List.cons_append, Option.toList, and_true, true_and, true_or, or_true, reduceCtorEq, List.map_nil, bI_eq0, bI_eq1, bool_ft, pk_us, vnar0, vnar1, Bool.or_false, Bool.or_true, Bool.false_or, Bool.true_or, mj_kne, eq_self, Int32.reduceLT, Int32.reduceLE, Int32.reduceAdd, Int32.reduceSub, Int32.reduceMul, not_true_eq_false, not_false_eq_true, false_implies, true_implies, D_X0_enact_0, D_X0_enact_1, mj_F_aastore, mj_F_aload_k, mj_F_aload_n_k, mj_F_bipush_n, mj_F_dup, mj_F_getfield_i, mj_F_iadd, mj_F_iastore, mj_F_iconst_n, mj_F_if_icmp_lt_off, mj_F_iload_n_k, mj_F_imul, mj_F_invokestatic_i, mj_F_ireturn, mj_F_isub, mj_F_putfield_i, mj_c2, mj_kc, FT_X0, PT_X0, L_X0_enact, List.take_succ_cons, List.take_zero, List.drop_succ_cons, List.drop_zero, List.reverse_cons, List.reverse_nil, List.length_cons, List.length_nil, gS_C11, gCf0_0, gCf0_1, gS_C12, sS_Ca_12, gCf0_2, gS_C13, sS_Ca_13, gCf0_3, gS_C14, sS_Ca_14, gCf0_4, gS_C15, sS_Ca_15, gS_C7, gCf9_9, gCf0_5, gS_C16, sS_Cr_16, gCf9_5, gS_C9, sS_Ca_9, gCf9_6, gCf0_6, gS_C17, sS_Cr_17, gCf9_7, gS_C10, sS_Ca_10, gCf9_8, sS_Cf_0_0, gCf0len, J_X0_enact]
    refine ⟨z, ?_⟩
    obtain ⟨w14, e13, z2, z3, hw⟩ := ok_cpA hw
    refine c_copy_in e13 (gS_C10 _) z2 z3 ?_
    simp only [sS_newf, mkCs_len, Option.toList, List.nil_append, List.cons_append, Nat.reduceSub]
    obtain ⟨_, _, e15, z, hw⟩ := ok_wR hw
    refine mj_run hG.1 (fun pc => pc == 76 || pc == 100) 4000 ?_
    simp only [e15, mj_step, mj_W_s, mj_fin, List.getElem?_cons_zero, List.getElem?_cons_succ, mj_go, Nat.reduceAdd, Nat.reduceSub, Nat.reduceLT, Nat.reduceLeDiff, Nat.zero_add, Nat.reduceEqDiff, Nat.reduceBEq, ↓reduceIte, Bool.false_eq_true, List.append_nil, List.nil_append, List.cons_append, Option.toList, and_true, true_and, true_or, or_true, reduceCtorEq, List.map_nil, bI_eq0, bI_eq1, bool_ft, pk_us, vnar0, vnar1, Bool.or_false, Bool.or_true, Bool.false_or, Bool.true_or, mj_kne, eq_self, Int32.reduceLT, Int32.reduceLE, Int32.reduceAdd, Int32.reduceSub, Int32.reduceMul, not_true_eq_false, not_false_eq_true, false_implies, true_implies, D_X0_enact_0, D_X0_enact_1, mj_F_aastore, mj_F_aload_k, mj_F_aload_n_k, mj_F_bipush_n, mj_F_dup, mj_F_getfield_i, mj_F_iadd, mj_F_iastore, mj_F_iconst_n, mj_F_if_icmp_lt_off, mj_F_iload_n_k, mj_F_imul, mj_F_invokestatic_i, mj_F_ireturn, mj_F_isub, mj_F_putfield_i, mj_c2, mj_kc, FT_X0, PT_X0, L_X0_enact, List.take_succ_cons, List.take_zero, List.drop_succ_cons, List.drop_zero, List.reverse_cons, List.reverse_nil, List.length_cons, List.length_nil, gS_C11, gCf0_0, gCf0_1, gS_C12, sS_Ca_12, gCf0_2, gS_C13, sS_Ca_13, gCf0_3, gS_C14, sS_Ca_14, gCf0_4, gS_C15, sS_Ca_15, gS_C7, gCf9_9, gCf0_5, gS_C16, sS_Cr_16, gCf9_5, gS_C9, sS_Ca_9, gCf9_6, gCf0_6, gS_C17, sS_Cr_17, gCf9_7, gS_C10, sS_Ca_10, gCf9_8, sS_Cf_0_0, gCf0len, J_X0_enact]
    refine ⟨z, ?_⟩
    replace hw := ok_wI hw
    exact (ok_some hw :)
  · replace hw := ok_f hw c
    exact (ok_some hw :)

def c_X0_enact : mj_S := fun as h k => ∃ (v1 : Int32) (v2 : Int32) (v3 : Int32) (s : St), as = [.ref 11, .int v1, .int v2, .int v3, .ref 7] ∧ h = mkCs s ∧ ok (F_X0_enact v1 v2 v3 s) (fun p => k (some (.int p.1)) (mkCs p.2))
theorem c_X0_enact_in {v1 : Int32} {v2 : Int32} {v3 : Int32} {s : St} {k : Option Value → mj_H → Prop} (hw : ok (F_X0_enact v1 v2 v3 s) (fun p => k (some (.int p.1)) (mkCs p.2))) : c_X0_enact [.ref 11, .int v1, .int v2, .int v3, .ref 7] (mkCs s) k := ⟨v1, v2, v3, s, rfl, rfl, hw⟩
theorem m_X0_enact (l : Launch) : mj_Met l yX0_enact cX0_enact 5 ((some FieldType.int)) 2 2 328 c_X0_enact := by
  refine mj_body2 false (TbX0 5 ((some FieldType.int)) ct_X0_enact) (by decide) rfl rfl (fun h => nomatch h) (tfX0 _ (List.forall_mem_cons.mpr ⟨cfX0_53 (m_J7_copyOf l) (by decide), fun _ h => nomatch h⟩)) ?_
  rintro as h k ⟨v1, v2, v3, s, rfl, rfl, hw⟩
  exact ⟨rfl, fun G hG => g_X0_enact hG hw⟩
def F_X11_law (v1 : Int32) (v2 : Int32) (s : St) : Option (Int32 × St) :=
  if inb v1 (-1) 3 = false then
    some ((-1), s)
  else
    if inb v2 0 11 = false then
      some ((-1), s)
    else
      if 20 ≤ (s.1 0) then
        some ((-1), s)
      else
        (F_X9_compile s).bind fun r1 =>
        if r1.1 = (-1) then
          (F_X0_enact v1 v2 (r1.2.1 1100) r1.2).bind fun r2 =>
          (wI r2.2 901 0).bind fun s3 =>
          some (r2.1, s3)
        else
          some ((-1), r1.2)
theorem J_X11_law : mj_t 6 33 = 39 ∧ mj_t 13 26 = 39 ∧ mj_t 25 14 = 39 ∧ mj_t 36 5 = 41 ∧ (0 ≤ ((6 : Nat) : Int) + 33) = True ∧ (0 ≤ ((13 : Nat) : Int) + 26) = True ∧ (0 ≤ ((25 : Nat) : Int) + 14) = True ∧ (0 ≤ ((36 : Nat) : Int) + 5) = True := by and_intros <;> first | rfl | exact eq_true (by decide)
def ct_X11_law : List (Nat × mj_Cs) := [(96, 2, 3, 11, 0, 0, c_in), (141, 2, 1, 11, 0, 0, c_isYear), (211, 0, 1, 9, 0, 0, c_X9_compile), (218, 0, 5, 0, 2, 328, c_X0_enact)]
theorem L_X11_law : mj_lk ct_X11_law 96 = some (2, 3, 11, 0, 0, c_in) ∧ mj_lk ct_X11_law 141 = some (2, 1, 11, 0, 0, c_isYear) ∧ mj_lk ct_X11_law 211 = some (0, 1, 9, 0, 0, c_X9_compile) ∧ mj_lk ct_X11_law 218 = some (0, 5, 0, 2, 328, c_X0_enact) := ⟨rfl, rfl, rfl, rfl⟩
set_option maxHeartbeats 4000000 in
set_option maxRecDepth 20000 in
theorem g_X11_law {k : Option Value → mj_H → Prop} {G : mj_K} (hG : mj_cl2 cX11_law (TbX11 4 ((some FieldType.int)) ct_X11_law) k G) {v1 : Int32} {v2 : Int32} {s : St} (hw : ok (F_X11_law v1 v2 s) (fun p => k (some (.int p.1)) (mkCs p.2))) : G 0 [.ref 0, .int v1, .int v2] [] (mkCs s) 2 328 := by
  unfold F_X11_law at hw
  refine mj_run hG.1 (fun pc => pc == 35 || pc == 58) 4000 ?_
  simp only [mj_step, mj_W_s, mj_fin, List.getElem?_cons_zero, List.getElem?_cons_succ, mj_go, Nat.reduceAdd, Nat.reduceSub, Nat.reduceLT, Nat.reduceLeDiff, Nat.zero_add, Nat.reduceEqDiff, Nat.reduceBEq, ↓reduceIte, Bool.false_eq_true, List.append_nil, List.nil_append, List.cons_append, Option.toList, and_true, true_and, true_or, or_true, reduceCtorEq, List.map_nil, bI_eq0, bI_eq1, bool_ft, pk_us, vnar0, vnar1, Bool.or_false, Bool.or_true, Bool.false_or, Bool.true_or, mj_kne, eq_self, Int32.reduceLT, Int32.reduceLE, Int32.reduceAdd, Int32.reduceSub, Int32.reduceMul, not_true_eq_false, not_false_eq_true, false_implies, true_implies, D_X11_law, mj_F_aload_n_k, mj_F_bipush_n, mj_F_getfield_i, mj_F_iconst_n, mj_F_ifCond_eq_off, mj_F_if_icmp_eq_off, mj_F_if_icmp_ge_off, mj_F_iload_n_k, mj_F_invokestatic_i, mj_F_invokevirtual_i, mj_F_ireturn, mj_F_istore_n_k, mj_F_putfield_i, mj_set, mj_set0, mj_unk, mj_c2, mj_kc, FT_X11, PT_X11, L_X11_law, List.take_succ_cons, List.take_zero, List.drop_succ_cons, List.drop_zero, List.reverse_cons, List.reverse_nil, List.length_cons, List.length_nil, gS_C0, gCf11_3, gS_C11, gCf0_0, gCf11_2, gCf11_0, gS_C7, gCf9_1, sS_Cf_9_1, gCf9len, c_in_eq, c_isYear_eq, J_X11_law]
  refine ⟨fun c => ?_, fun c => ?_⟩
  · replace hw := ok_t hw c
    exact (ok_some hw :)
  · replace hw := ok_f hw c
    refine ⟨fun c => ?_, fun c => ?_⟩
    · replace hw := ok_t hw c
      exact (ok_some hw :)
    · replace hw := ok_f hw c
      refine ⟨fun c => ?_, fun c => ?_⟩
      · replace hw := ok_t hw c
        exact (ok_some hw :)
      · replace hw := ok_f hw c
        refine c_X9_compile_in (ok_imp (ok_bind hw) ?_)
        intro p hw
        simp only [Option.toList, List.nil_append, List.cons_append, Nat.reduceSub]
        refine mj_run hG.1 (fun pc => pc == 35 || pc == 58) 4000 ?_
        simp only [mj_step, mj_W_s, mj_fin, List.getElem?_cons_zero, List.getElem?_cons_succ, mj_go, Nat.reduceAdd, Nat.reduceSub, Nat.reduceLT, Nat.reduceLeDiff, Nat.zero_add, Nat.reduceEqDiff, Nat.reduceBEq, ↓reduceIte, Bool.false_eq_true, List.append_nil, List.nil_append, List.cons_append, Option.toList, and_true, true_and, true_or, or_true, reduceCtorEq, List.map_nil, bI_eq0, bI_eq1, bool_ft, pk_us, vnar0, vnar1, Bool.or_false, Bool.or_true, Bool.false_or, Bool.true_or, mj_kne, eq_self, Int32.reduceLT, Int32.reduceLE, Int32.reduceAdd, Int32.reduceSub, Int32.reduceMul, not_true_eq_false, not_false_eq_true, false_implies, true_implies, D_X11_law, mj_F_aload_n_k, mj_F_bipush_n, mj_F_getfield_i, mj_F_iconst_n, mj_F_ifCond_eq_off, mj_F_if_icmp_eq_off, mj_F_if_icmp_ge_off, mj_F_iload_n_k, mj_F_invokestatic_i, mj_F_invokevirtual_i, mj_F_ireturn, mj_F_istore_n_k, mj_F_putfield_i, mj_set, mj_set0, mj_unk, mj_c2, mj_kc, FT_X11, PT_X11, L_X11_law, List.take_succ_cons, List.take_zero, List.drop_succ_cons, List.drop_zero, List.reverse_cons, List.reverse_nil, List.length_cons, List.length_nil, gS_C0, gCf11_3, gS_C11, gCf0_0, gCf11_2, gCf11_0, gS_C7, gCf9_1, sS_Cf_9_1, gCf9len, c_in_eq, c_isYear_eq, J_X11_law]
        refine ⟨fun c => ?_, fun c => ?_⟩
        · replace hw := ok_t hw c
          refine c_X0_enact_in (ok_imp (ok_bind hw) ?_)
          intro p hw
          simp only [Option.toList, List.nil_append, List.cons_append, Nat.reduceSub]
          refine mj_run hG.1 (fun pc => pc == 35 || pc == 58) 4000 ?_
          simp only [mj_step, mj_W_s, mj_fin, List.getElem?_cons_zero, List.getElem?_cons_succ, mj_go, Nat.reduceAdd, Nat.reduceSub, Nat.reduceLT, Nat.reduceLeDiff, Nat.zero_add, Nat.reduceEqDiff, Nat.reduceBEq, ↓reduceIte, Bool.false_eq_true, List.append_nil, List.nil_append, List.cons_append, Option.toList, and_true, true_and, true_or, or_true, reduceCtorEq, List.map_nil, bI_eq0, bI_eq1, bool_ft, pk_us, vnar0, vnar1, Bool.or_false, Bool.or_true, Bool.false_or, Bool.true_or, mj_kne, eq_self, Int32.reduceLT, Int32.reduceLE, Int32.reduceAdd, Int32.reduceSub, Int32.reduceMul, not_true_eq_false, not_false_eq_true, false_implies, true_implies, D_X11_law, mj_F_aload_n_k, mj_F_bipush_n, mj_F_getfield_i, mj_F_iconst_n, mj_F_ifCond_eq_off, mj_F_if_icmp_eq_off, mj_F_if_icmp_ge_off, mj_F_iload_n_k, mj_F_invokestatic_i, mj_F_invokevirtual_i, mj_F_ireturn, mj_F_istore_n_k, mj_F_putfield_i, mj_set, mj_set0, mj_unk, mj_c2, mj_kc, FT_X11, PT_X11, L_X11_law, List.take_succ_cons, List.take_zero, List.drop_succ_cons, List.drop_zero, List.reverse_cons, List.reverse_nil, List.length_cons, List.length_nil, gS_C0, gCf11_3, gS_C11, gCf0_0, gCf11_2, gCf11_0, gS_C7, gCf9_1, sS_Cf_9_1, gCf9len, c_in_eq, c_isYear_eq, J_X11_law]
          replace hw := ok_wI hw
          exact (ok_some hw :)
        · replace hw := ok_f hw c
          exact (ok_some hw :)

def c_X11_law : mj_S := fun as h k => ∃ (v1 : Int32) (v2 : Int32) (s : St), as = [.ref 0, .int v1, .int v2] ∧ h = mkCs s ∧ ok (F_X11_law v1 v2 s) (fun p => k (some (.int p.1)) (mkCs p.2))
theorem c_X11_law_in {v1 : Int32} {v2 : Int32} {s : St} {k : Option Value → mj_H → Prop} (hw : ok (F_X11_law v1 v2 s) (fun p => k (some (.int p.1)) (mkCs p.2))) : c_X11_law [.ref 0, .int v1, .int v2] (mkCs s) k := ⟨v1, v2, s, rfl, rfl, hw⟩
theorem m_X11_law (l : Launch) : mj_Met l yX11_law cX11_law 4 ((some FieldType.int)) 70 2 328 c_X11_law := by
  refine mj_body2 false (TbX11 4 ((some FieldType.int)) ct_X11_law) (by decide) rfl rfl (fun h => nomatch h) (tfX11 _ (List.forall_mem_cons.mpr ⟨cfX11_96 (m_X11_within l) (by decide), List.forall_mem_cons.mpr ⟨cfX11_141 (m_X11_isYear l) (by decide), List.forall_mem_cons.mpr ⟨cfX11_211 (m_X9_compile l) (by decide), List.forall_mem_cons.mpr ⟨cfX11_218 (m_X0_enact l) (by decide), fun _ h => nomatch h⟩⟩⟩⟩)) ?_
  rintro as h k ⟨v1, v2, s, rfl, rfl, hw⟩
  exact ⟨rfl, fun G hG => g_X11_law hG hw⟩
