/-! leaf methods of the reference -/
def bI (b : Bool) : Int32 := if b = true then 1 else 0
def inb (v lo hi : Int32) : Bool := decide (lo ≤ v) && decide (v ≤ hi)
theorem bI_eq0 (b : Bool) : (bI b = 0) = (b = false) := by cases b <;> simp [bI]
theorem bI_ne0 (b : Bool) : (¬ bI b = 0) = (b = true) := by cases b <;> simp [bI]
theorem gMl (I : Nat → Int32) : (fM I).length = 100 := gMfl I (fun _ _ => 0)
theorem va_up_n {α : Type} {f : Nat → α} {k j : Nat} {v : α} (h : (j == k) = false) : va_up f k v j = f j := by simp only [beq_eq_false_iff_ne, ne_eq] at h; simp [va_up, h]
theorem upd_n {f : Nat → Int32} {k j : Nat} {v : Int32} (h : (j == k) = false) : upd f k v j = f j := by simp only [beq_eq_false_iff_ne, ne_eq] at h; simp [upd, h]
theorem va_up_s {α : Type} (f : Nat → α) (k : Nat) (v : α) : va_up f k v k = v := by simp [va_up]
theorem bI_eq1 (b : Bool) : (bI b = 1) = (b = true) := by cases b <;> simp [bI]
theorem bool_ft (b : Bool) : (b = false ∨ b = true) = True := by cases b <;> simp
theorem bI_01 (b : Bool) : bI b = 0 ∨ bI b = 1 := by cases b <;> simp [bI]
theorem mj_fin : ((0 : Fin 4) : Nat) = 0 ∧ ((1 : Fin 4) : Nat) = 1 ∧ ((2 : Fin 4) : Nat) = 2 ∧ ((3 : Fin 4) : Nat) = 3 := ⟨rfl, rfl, rfl, rfl⟩
theorem mj_W_s (cc : ByteArray) (T : mj_T) (k : Option Value → mj_H → Prop) (G : mj_K) (cut : Nat → Bool) (n pc : Nat) (L st : List Value) (h : mj_H) (bc bs : Nat) : mj_W cc T k G cut (n + 1) pc L st h bc bs = if cut pc = true then G pc L st h bc bs else mj_step cc T k (mj_W cc T k G cut n) pc L st h bc bs := rfl
theorem mj_nd {a b : Nat} : (a == b) = decide (a = b) := rfl
theorem mj_set0 (v : Value) : mj_set [] 0 v = [v] := rfl
theorem inb_t {a b c : Int32} (h1 : ¬ a < b) (h2 : ¬ c < a) : inb a b c = true := by
  simp [inb, Int32.not_lt.mp h1, Int32.not_lt.mp h2]
theorem inb_f1 {a b c : Int32} (h1 : a < b) : inb a b c = false := by
  have := Int32.not_le.mpr h1
  simp [inb, this]
theorem inb_f2 {a b c : Int32} (h1 : c < a) : inb a b c = false := by
  have := Int32.not_le.mpr h1
  simp [inb, this]
theorem mj_kc : (Int8.ofInt (-2)).toInt32 = (-2) ∧ (Int8.ofInt 6).toInt32 = 6 ∧ (Int8.ofInt 7).toInt32 = 7 ∧ (Int8.ofInt 8).toInt32 = 8 ∧ (Int8.ofInt 9).toInt32 = 9 ∧ (Int8.ofInt 10).toInt32 = 10 ∧ (Int8.ofInt 11).toInt32 = 11 ∧ (Int8.ofInt 12).toInt32 = 12 ∧ (Int8.ofInt 15).toInt32 = 15 ∧ (Int8.ofInt 16).toInt32 = 16 ∧ (Int8.ofInt 20).toInt32 = 20 ∧ (Int8.ofInt 24).toInt32 = 24 ∧ (Int8.ofInt 26).toInt32 = 26 ∧ (Int8.ofInt 30).toInt32 = 30 ∧ (Int8.ofInt 32).toInt32 = 32 ∧ (Int8.ofInt 33).toInt32 = 33 ∧ (Int8.ofInt 38).toInt32 = 38 ∧ (Int8.ofInt 40).toInt32 = 40 ∧ (Int8.ofInt 41).toInt32 = 41 ∧ (Int8.ofInt 42).toInt32 = 42 ∧ (Int8.ofInt 43).toInt32 = 43 ∧ (Int8.ofInt 45).toInt32 = 45 ∧ (Int8.ofInt 47).toInt32 = 47 ∧ (Int8.ofInt 48).toInt32 = 48 ∧ (Int8.ofInt 50).toInt32 = 50 ∧ (Int8.ofInt 52).toInt32 = 52 ∧ (Int8.ofInt 57).toInt32 = 57 ∧ (Int8.ofInt 58).toInt32 = 58 ∧ (Int8.ofInt 59).toInt32 = 59 ∧ (Int8.ofInt 60).toInt32 = 60 ∧ (Int8.ofInt 61).toInt32 = 61 ∧ (Int8.ofInt 62).toInt32 = 62 ∧ (Int8.ofInt 63).toInt32 = 63 ∧ (Int8.ofInt 64).toInt32 = 64 ∧ (Int8.ofInt 91).toInt32 = 91 ∧ (Int8.ofInt 93).toInt32 = 93 ∧ (Int8.ofInt 99).toInt32 = 99 ∧ (Int8.ofInt 100).toInt32 = 100 ∧ (Int8.ofInt 102).toInt32 = 102 ∧ (Int8.ofInt 104).toInt32 = 104 ∧ (Int8.ofInt 105).toInt32 = 105 ∧ (Int8.ofInt 108).toInt32 = 108 ∧ (Int8.ofInt 110).toInt32 = 110 ∧ (Int8.ofInt 114).toInt32 = 114 ∧ (Int8.ofInt 115).toInt32 = 115 ∧ (Int8.ofInt 116).toInt32 = 116 ∧ (Int8.ofInt 118).toInt32 = 118 ∧ (Int8.ofInt 119).toInt32 = 119 ∧ (Int8.ofInt 120).toInt32 = 120 ∧ (Int8.ofInt 121).toInt32 = 121 ∧ (Int8.ofInt 124).toInt32 = 124 ∧ Int32.ofInt (-8) = (-8) ∧ Int32.ofInt (-1) = (-1) ∧ Int32.ofInt 0 = 0 ∧ Int32.ofInt 1 = 1 ∧ Int32.ofInt 2 = 2 ∧ Int32.ofInt 3 = 3 ∧ Int32.ofInt 4 = 4 ∧ Int32.ofInt 5 = 5 ∧ Int32.ofInt 9 = 9 ∧ (Int16.ofInt 128).toInt32 = 128 ∧ (Int16.ofInt 160).toInt32 = 160 ∧ (Int16.ofInt 164).toInt32 = 164 ∧ (Int16.ofInt 200).toInt32 = 200 ∧ (Int16.ofInt 240).toInt32 = 240 ∧ (Int16.ofInt 255).toInt32 = 255 ∧ (Int16.ofInt 300).toInt32 = 300 ∧ (Int16.ofInt 420).toInt32 = 420 ∧ (Int16.ofInt 480).toInt32 = 480 ∧ (Int16.ofInt 600).toInt32 = 600 ∧ (Int16.ofInt 601).toInt32 = 601 ∧ (Int16.ofInt 999).toInt32 = 999 ∧ (Int16.ofInt 1000).toInt32 = 1000 ∧ (Int16.ofInt 1998).toInt32 = 1998 ∧ (Int16.ofInt 4096).toInt32 = 4096 ∧ (Int16.ofInt 8400).toInt32 = 8400 ∧ (Int16.ofInt 10000).toInt32 = 10000 ∧ (Int16.ofInt 20000).toInt32 = 20000 ∧ (Int16.ofInt 20033).toInt32 = 20033 ∧ (Int16.ofInt 20038).toInt32 = 20038 ∧ (Int16.ofInt 20124).toInt32 = 20124 ∧ Int64.ofNat ((0 : Fin 2) : Nat) = 0 ∧ Int64.ofNat ((1 : Fin 2) : Nat) = 1 := by and_intros <;> decide
def c_in : mj_S := fun as h k => ∃ (a b c : Int32), as = [.int a, .int b, .int c] ∧ k (some (.int (bI (inb a b c)))) h
theorem c_in_in {h : mj_H} {a b c : Int32} {k : Option Value → mj_H → Prop} (hk : k (some (.int (bI (inb a b c)))) h) : c_in [.int a, .int b, .int c] h k := ⟨a, b, c, rfl, hk⟩
theorem J_X12_in : mj_t 2 12 = 14 ∧ mj_t 7 7 = 14 ∧ mj_t 11 4 = 15 ∧ (0 ≤ ((2 : Nat) : Int) + 12) = True ∧ (0 ≤ ((7 : Nat) : Int) + 7) = True ∧ (0 ≤ ((11 : Nat) : Int) + 4) = True := by and_intros <;> first | rfl | exact eq_true (by decide)
set_option maxHeartbeats 4000000 in
set_option maxRecDepth 20000 in
theorem m_X12_in (l : Launch) : mj_Met l yX12_in cX12_in 3 ((some FieldType.boolean)) 0 0 0 c_in := by
  refine mj_body false (TbX12 3 ((some FieldType.boolean)) []) (by decide) rfl rfl (fun h => nomatch h) (tfX12 _ (fun _ h => nomatch h)) ?_
  rintro as h k ⟨a, b, c, rfl, hk⟩
  refine ⟨rfl, fun G hG => mj_run hG (fun _ => false) 30 ?_⟩
  simp only [mj_step, mj_W_s, mj_al, mj_fin, List.getElem?_cons_zero, List.getElem?_cons_succ, mj_go, Nat.reduceAdd, Nat.reduceSub, Nat.reduceLT, Nat.reduceLeDiff, Nat.zero_add, Nat.reduceEqDiff, Nat.reduceBEq, if_false, if_true, Bool.false_eq_true, List.append_nil, List.nil_append, List.cons_append, Option.toList, and_true, true_and, true_or, or_true, reduceCtorEq, List.map_nil, bI_eq0, bI_ne0, bI_eq1, bool_ft, pk_us, va_up_s, D_X12_in, mj_F_goto_off, mj_F_iconst_n, mj_F_if_icmp_gt_off, mj_F_if_icmp_lt_off, mj_F_iload_n_k, mj_F_ireturn, mj_kc, J_X12_in]
  refine ⟨fun h1 => ?_, fun h1 => ⟨fun h2 => ?_, fun h2 => ?_⟩⟩
  · rw [inb_f1 h1] at hk; exact hk
  · rw [inb_f2 h2] at hk; exact hk
  · rw [inb_t h1 h2] at hk; exact hk
theorem J_X11_within : mj_t 2 12 = 14 ∧ mj_t 7 7 = 14 ∧ mj_t 11 4 = 15 ∧ (0 ≤ ((2 : Nat) : Int) + 12) = True ∧ (0 ≤ ((7 : Nat) : Int) + 7) = True ∧ (0 ≤ ((11 : Nat) : Int) + 4) = True := by and_intros <;> first | rfl | exact eq_true (by decide)
set_option maxHeartbeats 4000000 in
set_option maxRecDepth 20000 in
theorem m_X11_within (l : Launch) : mj_Met l yX11_within cX11_within 3 ((some FieldType.boolean)) 0 0 0 c_in := by
  refine mj_body false (TbX11 3 ((some FieldType.boolean)) []) (by decide) rfl rfl (fun h => nomatch h) (tfX11 _ (fun _ h => nomatch h)) ?_
  rintro as h k ⟨a, b, c, rfl, hk⟩
  refine ⟨rfl, fun G hG => mj_run hG (fun _ => false) 30 ?_⟩
  simp only [mj_step, mj_W_s, mj_al, mj_fin, List.getElem?_cons_zero, List.getElem?_cons_succ, mj_go, Nat.reduceAdd, Nat.reduceSub, Nat.reduceLT, Nat.reduceLeDiff, Nat.zero_add, Nat.reduceEqDiff, Nat.reduceBEq, if_false, if_true, Bool.false_eq_true, List.append_nil, List.nil_append, List.cons_append, Option.toList, and_true, true_and, true_or, or_true, reduceCtorEq, List.map_nil, bI_eq0, bI_ne0, bI_eq1, bool_ft, pk_us, va_up_s, D_X11_within, mj_F_goto_off, mj_F_iconst_n, mj_F_if_icmp_gt_off, mj_F_if_icmp_lt_off, mj_F_iload_n_k, mj_F_ireturn, mj_kc, J_X11_within]
  refine ⟨fun h1 => ?_, fun h1 => ⟨fun h2 => ?_, fun h2 => ?_⟩⟩
  · rw [inb_f1 h1] at hk; exact hk
  · rw [inb_f2 h2] at hk; exact hk
  · rw [inb_t h1 h2] at hk; exact hk
def c_isCell : mj_S := fun as h k => ∃ (a : Int32), as = [.int a] ∧ k (some (.int (bI (inb a 0 119)))) h
theorem c_isCell_in {h : mj_H} {a : Int32} {k : Option Value → mj_H → Prop} (hk : k (some (.int (bI (inb a 0 119)))) h) : c_isCell [.int a] h k := ⟨a, rfl, hk⟩
def ct_X12_isCell : List (Nat × mj_Cs) := [(243, 2, 3, 12, 0, 0, c_in)]
theorem L_X12_isCell : mj_lk ct_X12_isCell 243 = some (2, 3, 12, 0, 0, c_in) := rfl
set_option maxHeartbeats 4000000 in
set_option maxRecDepth 20000 in
theorem m_X12_isCell (l : Launch) : mj_Met l yX12_isCell cX12_isCell 1 ((some FieldType.boolean)) 1 0 0 c_isCell := by
  refine mj_body false (TbX12 1 ((some FieldType.boolean)) ct_X12_isCell) (by decide) rfl rfl (fun h => nomatch h) (tfX12 _ (List.forall_mem_cons.mpr ⟨cfX12_243 (m_X12_in l) (by decide), fun _ h => nomatch h⟩)) ?_
  rintro as h k ⟨a, rfl, hk⟩
  refine ⟨rfl, fun G hG => mj_run hG (fun _ => false) 400 ?_⟩
  simp only [mj_step, mj_W_s, mj_al, mj_fin, List.getElem?_cons_zero, List.getElem?_cons_succ, mj_go, Nat.reduceAdd, Nat.reduceSub, Nat.reduceLT, Nat.reduceLeDiff, Nat.zero_add, Nat.reduceEqDiff, Nat.reduceBEq, if_false, if_true, Bool.false_eq_true, List.append_nil, List.nil_append, List.cons_append, Option.toList, and_true, true_and, true_or, or_true, reduceCtorEq, List.map_nil, bI_eq0, bI_ne0, bI_eq1, bool_ft, pk_us, va_up_s, D_X12_isCell, mj_F_bipush_n, mj_F_iconst_n, mj_F_iload_n_k, mj_F_invokestatic_i, mj_F_ireturn, mj_kc, L_X12_isCell, List.take_succ_cons, List.take_zero, List.drop_succ_cons, List.drop_zero, List.reverse_cons, List.reverse_nil, List.length_cons, List.length_nil]
  repeat' (first
    | (refine c_in_in ?_; simp only [mj_step, mj_W_s, mj_al, mj_fin, List.getElem?_cons_zero, List.getElem?_cons_succ, mj_go, Nat.reduceAdd, Nat.reduceSub, Nat.reduceLT, Nat.reduceLeDiff, Nat.zero_add, Nat.reduceEqDiff, Nat.reduceBEq, if_false, if_true, Bool.false_eq_true, List.append_nil, List.nil_append, List.cons_append, Option.toList, and_true, true_and, true_or, or_true, reduceCtorEq, List.map_nil, bI_eq0, bI_ne0, bI_eq1, bool_ft, pk_us, va_up_s, D_X12_isCell, mj_F_bipush_n, mj_F_iconst_n, mj_F_iload_n_k, mj_F_invokestatic_i, mj_F_ireturn, mj_kc, L_X12_isCell, List.take_succ_cons, List.take_zero, List.drop_succ_cons, List.drop_zero, List.reverse_cons, List.reverse_nil, List.length_cons, List.length_nil])
    | (intro _)
    | (apply And.intro))
  all_goals exact hk
def ct_X11_isCell : List (Nat × mj_Cs) := [(96, 2, 3, 11, 0, 0, c_in)]
theorem L_X11_isCell : mj_lk ct_X11_isCell 96 = some (2, 3, 11, 0, 0, c_in) := rfl
set_option maxHeartbeats 4000000 in
set_option maxRecDepth 20000 in
theorem m_X11_isCell (l : Launch) : mj_Met l yX11_isCell cX11_isCell 1 ((some FieldType.boolean)) 1 0 0 c_isCell := by
  refine mj_body false (TbX11 1 ((some FieldType.boolean)) ct_X11_isCell) (by decide) rfl rfl (fun h => nomatch h) (tfX11 _ (List.forall_mem_cons.mpr ⟨cfX11_96 (m_X11_within l) (by decide), fun _ h => nomatch h⟩)) ?_
  rintro as h k ⟨a, rfl, hk⟩
  refine ⟨rfl, fun G hG => mj_run hG (fun _ => false) 400 ?_⟩
  simp only [mj_step, mj_W_s, mj_al, mj_fin, List.getElem?_cons_zero, List.getElem?_cons_succ, mj_go, Nat.reduceAdd, Nat.reduceSub, Nat.reduceLT, Nat.reduceLeDiff, Nat.zero_add, Nat.reduceEqDiff, Nat.reduceBEq, if_false, if_true, Bool.false_eq_true, List.append_nil, List.nil_append, List.cons_append, Option.toList, and_true, true_and, true_or, or_true, reduceCtorEq, List.map_nil, bI_eq0, bI_ne0, bI_eq1, bool_ft, pk_us, va_up_s, D_X11_isCell, mj_F_bipush_n, mj_F_iconst_n, mj_F_iload_n_k, mj_F_invokestatic_i, mj_F_ireturn, mj_kc, L_X11_isCell, List.take_succ_cons, List.take_zero, List.drop_succ_cons, List.drop_zero, List.reverse_cons, List.reverse_nil, List.length_cons, List.length_nil]
  repeat' (first
    | (refine c_in_in ?_; simp only [mj_step, mj_W_s, mj_al, mj_fin, List.getElem?_cons_zero, List.getElem?_cons_succ, mj_go, Nat.reduceAdd, Nat.reduceSub, Nat.reduceLT, Nat.reduceLeDiff, Nat.zero_add, Nat.reduceEqDiff, Nat.reduceBEq, if_false, if_true, Bool.false_eq_true, List.append_nil, List.nil_append, List.cons_append, Option.toList, and_true, true_and, true_or, or_true, reduceCtorEq, List.map_nil, bI_eq0, bI_ne0, bI_eq1, bool_ft, pk_us, va_up_s, D_X11_isCell, mj_F_bipush_n, mj_F_iconst_n, mj_F_iload_n_k, mj_F_invokestatic_i, mj_F_ireturn, mj_kc, L_X11_isCell, List.take_succ_cons, List.take_zero, List.drop_succ_cons, List.drop_zero, List.reverse_cons, List.reverse_nil, List.length_cons, List.length_nil])
    | (intro _)
    | (apply And.intro))
  all_goals exact hk
def c_isShire : mj_S := fun as h k => ∃ (a : Int32), as = [.int a] ∧ k (some (.int (bI (inb a 0 3)))) h
theorem c_isShire_in {h : mj_H} {a : Int32} {k : Option Value → mj_H → Prop} (hk : k (some (.int (bI (inb a 0 3)))) h) : c_isShire [.int a] h k := ⟨a, rfl, hk⟩
def ct_X12_isShire : List (Nat × mj_Cs) := [(243, 2, 3, 12, 0, 0, c_in)]
theorem L_X12_isShire : mj_lk ct_X12_isShire 243 = some (2, 3, 12, 0, 0, c_in) := rfl
set_option maxHeartbeats 4000000 in
set_option maxRecDepth 20000 in
theorem m_X12_isShire (l : Launch) : mj_Met l yX12_isShire cX12_isShire 1 ((some FieldType.boolean)) 1 0 0 c_isShire := by
  refine mj_body false (TbX12 1 ((some FieldType.boolean)) ct_X12_isShire) (by decide) rfl rfl (fun h => nomatch h) (tfX12 _ (List.forall_mem_cons.mpr ⟨cfX12_243 (m_X12_in l) (by decide), fun _ h => nomatch h⟩)) ?_
  rintro as h k ⟨a, rfl, hk⟩
  refine ⟨rfl, fun G hG => mj_run hG (fun _ => false) 400 ?_⟩
  simp only [mj_step, mj_W_s, mj_al, mj_fin, List.getElem?_cons_zero, List.getElem?_cons_succ, mj_go, Nat.reduceAdd, Nat.reduceSub, Nat.reduceLT, Nat.reduceLeDiff, Nat.zero_add, Nat.reduceEqDiff, Nat.reduceBEq, if_false, if_true, Bool.false_eq_true, List.append_nil, List.nil_append, List.cons_append, Option.toList, and_true, true_and, true_or, or_true, reduceCtorEq, List.map_nil, bI_eq0, bI_ne0, bI_eq1, bool_ft, pk_us, va_up_s, D_X12_isShire, mj_F_iconst_n, mj_F_iload_n_k, mj_F_invokestatic_i, mj_F_ireturn, mj_kc, L_X12_isShire, List.take_succ_cons, List.take_zero, List.drop_succ_cons, List.drop_zero, List.reverse_cons, List.reverse_nil, List.length_cons, List.length_nil]
  repeat' (first
    | (refine c_in_in ?_; simp only [mj_step, mj_W_s, mj_al, mj_fin, List.getElem?_cons_zero, List.getElem?_cons_succ, mj_go, Nat.reduceAdd, Nat.reduceSub, Nat.reduceLT, Nat.reduceLeDiff, Nat.zero_add, Nat.reduceEqDiff, Nat.reduceBEq, if_false, if_true, Bool.false_eq_true, List.append_nil, List.nil_append, List.cons_append, Option.toList, and_true, true_and, true_or, or_true, reduceCtorEq, List.map_nil, bI_eq0, bI_ne0, bI_eq1, bool_ft, pk_us, va_up_s, D_X12_isShire, mj_F_iconst_n, mj_F_iload_n_k, mj_F_invokestatic_i, mj_F_ireturn, mj_kc, L_X12_isShire, List.take_succ_cons, List.take_zero, List.drop_succ_cons, List.drop_zero, List.reverse_cons, List.reverse_nil, List.length_cons, List.length_nil])
    | (intro _)
    | (apply And.intro))
  all_goals exact hk
def ct_X11_isShire : List (Nat × mj_Cs) := [(96, 2, 3, 11, 0, 0, c_in)]
theorem L_X11_isShire : mj_lk ct_X11_isShire 96 = some (2, 3, 11, 0, 0, c_in) := rfl
set_option maxHeartbeats 4000000 in
set_option maxRecDepth 20000 in
theorem m_X11_isShire (l : Launch) : mj_Met l yX11_isShire cX11_isShire 1 ((some FieldType.boolean)) 1 0 0 c_isShire := by
  refine mj_body false (TbX11 1 ((some FieldType.boolean)) ct_X11_isShire) (by decide) rfl rfl (fun h => nomatch h) (tfX11 _ (List.forall_mem_cons.mpr ⟨cfX11_96 (m_X11_within l) (by decide), fun _ h => nomatch h⟩)) ?_
  rintro as h k ⟨a, rfl, hk⟩
  refine ⟨rfl, fun G hG => mj_run hG (fun _ => false) 400 ?_⟩
  simp only [mj_step, mj_W_s, mj_al, mj_fin, List.getElem?_cons_zero, List.getElem?_cons_succ, mj_go, Nat.reduceAdd, Nat.reduceSub, Nat.reduceLT, Nat.reduceLeDiff, Nat.zero_add, Nat.reduceEqDiff, Nat.reduceBEq, if_false, if_true, Bool.false_eq_true, List.append_nil, List.nil_append, List.cons_append, Option.toList, and_true, true_and, true_or, or_true, reduceCtorEq, List.map_nil, bI_eq0, bI_ne0, bI_eq1, bool_ft, pk_us, va_up_s, D_X11_isShire, mj_F_iconst_n, mj_F_iload_n_k, mj_F_invokestatic_i, mj_F_ireturn, mj_kc, L_X11_isShire, List.take_succ_cons, List.take_zero, List.drop_succ_cons, List.drop_zero, List.reverse_cons, List.reverse_nil, List.length_cons, List.length_nil]
  repeat' (first
    | (refine c_in_in ?_; simp only [mj_step, mj_W_s, mj_al, mj_fin, List.getElem?_cons_zero, List.getElem?_cons_succ, mj_go, Nat.reduceAdd, Nat.reduceSub, Nat.reduceLT, Nat.reduceLeDiff, Nat.zero_add, Nat.reduceEqDiff, Nat.reduceBEq, if_false, if_true, Bool.false_eq_true, List.append_nil, List.nil_append, List.cons_append, Option.toList, and_true, true_and, true_or, or_true, reduceCtorEq, List.map_nil, bI_eq0, bI_ne0, bI_eq1, bool_ft, pk_us, va_up_s, D_X11_isShire, mj_F_iconst_n, mj_F_iload_n_k, mj_F_invokestatic_i, mj_F_ireturn, mj_kc, L_X11_isShire, List.take_succ_cons, List.take_zero, List.drop_succ_cons, List.drop_zero, List.reverse_cons, List.reverse_nil, List.length_cons, List.length_nil])
    | (intro _)
    | (apply And.intro))
  all_goals exact hk
def c_isYear : mj_S := fun as h k => ∃ (a : Int32), as = [.int a] ∧ k (some (.int (bI (inb a 0 11)))) h
theorem c_isYear_in {h : mj_H} {a : Int32} {k : Option Value → mj_H → Prop} (hk : k (some (.int (bI (inb a 0 11)))) h) : c_isYear [.int a] h k := ⟨a, rfl, hk⟩
def ct_X12_isYear : List (Nat × mj_Cs) := [(243, 2, 3, 12, 0, 0, c_in)]
theorem L_X12_isYear : mj_lk ct_X12_isYear 243 = some (2, 3, 12, 0, 0, c_in) := rfl
set_option maxHeartbeats 4000000 in
set_option maxRecDepth 20000 in
theorem m_X12_isYear (l : Launch) : mj_Met l yX12_isYear cX12_isYear 1 ((some FieldType.boolean)) 1 0 0 c_isYear := by
  refine mj_body false (TbX12 1 ((some FieldType.boolean)) ct_X12_isYear) (by decide) rfl rfl (fun h => nomatch h) (tfX12 _ (List.forall_mem_cons.mpr ⟨cfX12_243 (m_X12_in l) (by decide), fun _ h => nomatch h⟩)) ?_
  rintro as h k ⟨a, rfl, hk⟩
  refine ⟨rfl, fun G hG => mj_run hG (fun _ => false) 400 ?_⟩
  simp only [mj_step, mj_W_s, mj_al, mj_fin, List.getElem?_cons_zero, List.getElem?_cons_succ, mj_go, Nat.reduceAdd, Nat.reduceSub, Nat.reduceLT, Nat.reduceLeDiff, Nat.zero_add, Nat.reduceEqDiff, Nat.reduceBEq, if_false, if_true, Bool.false_eq_true, List.append_nil, List.nil_append, List.cons_append, Option.toList, and_true, true_and, true_or, or_true, reduceCtorEq, List.map_nil, bI_eq0, bI_ne0, bI_eq1, bool_ft, pk_us, va_up_s, D_X12_isYear, mj_F_bipush_n, mj_F_iconst_n, mj_F_iload_n_k, mj_F_invokestatic_i, mj_F_ireturn, mj_kc, L_X12_isYear, List.take_succ_cons, List.take_zero, List.drop_succ_cons, List.drop_zero, List.reverse_cons, List.reverse_nil, List.length_cons, List.length_nil]
  repeat' (first
    | (refine c_in_in ?_; simp only [mj_step, mj_W_s, mj_al, mj_fin, List.getElem?_cons_zero, List.getElem?_cons_succ, mj_go, Nat.reduceAdd, Nat.reduceSub, Nat.reduceLT, Nat.reduceLeDiff, Nat.zero_add, Nat.reduceEqDiff, Nat.reduceBEq, if_false, if_true, Bool.false_eq_true, List.append_nil, List.nil_append, List.cons_append, Option.toList, and_true, true_and, true_or, or_true, reduceCtorEq, List.map_nil, bI_eq0, bI_ne0, bI_eq1, bool_ft, pk_us, va_up_s, D_X12_isYear, mj_F_bipush_n, mj_F_iconst_n, mj_F_iload_n_k, mj_F_invokestatic_i, mj_F_ireturn, mj_kc, L_X12_isYear, List.take_succ_cons, List.take_zero, List.drop_succ_cons, List.drop_zero, List.reverse_cons, List.reverse_nil, List.length_cons, List.length_nil])
    | (intro _)
    | (apply And.intro))
  all_goals exact hk
def ct_X11_isYear : List (Nat × mj_Cs) := [(96, 2, 3, 11, 0, 0, c_in)]
theorem L_X11_isYear : mj_lk ct_X11_isYear 96 = some (2, 3, 11, 0, 0, c_in) := rfl
set_option maxHeartbeats 4000000 in
set_option maxRecDepth 20000 in
theorem m_X11_isYear (l : Launch) : mj_Met l yX11_isYear cX11_isYear 1 ((some FieldType.boolean)) 1 0 0 c_isYear := by
  refine mj_body false (TbX11 1 ((some FieldType.boolean)) ct_X11_isYear) (by decide) rfl rfl (fun h => nomatch h) (tfX11 _ (List.forall_mem_cons.mpr ⟨cfX11_96 (m_X11_within l) (by decide), fun _ h => nomatch h⟩)) ?_
  rintro as h k ⟨a, rfl, hk⟩
  refine ⟨rfl, fun G hG => mj_run hG (fun _ => false) 400 ?_⟩
  simp only [mj_step, mj_W_s, mj_al, mj_fin, List.getElem?_cons_zero, List.getElem?_cons_succ, mj_go, Nat.reduceAdd, Nat.reduceSub, Nat.reduceLT, Nat.reduceLeDiff, Nat.zero_add, Nat.reduceEqDiff, Nat.reduceBEq, if_false, if_true, Bool.false_eq_true, List.append_nil, List.nil_append, List.cons_append, Option.toList, and_true, true_and, true_or, or_true, reduceCtorEq, List.map_nil, bI_eq0, bI_ne0, bI_eq1, bool_ft, pk_us, va_up_s, D_X11_isYear, mj_F_bipush_n, mj_F_iconst_n, mj_F_iload_n_k, mj_F_invokestatic_i, mj_F_ireturn, mj_kc, L_X11_isYear, List.take_succ_cons, List.take_zero, List.drop_succ_cons, List.drop_zero, List.reverse_cons, List.reverse_nil, List.length_cons, List.length_nil]
  repeat' (first
    | (refine c_in_in ?_; simp only [mj_step, mj_W_s, mj_al, mj_fin, List.getElem?_cons_zero, List.getElem?_cons_succ, mj_go, Nat.reduceAdd, Nat.reduceSub, Nat.reduceLT, Nat.reduceLeDiff, Nat.zero_add, Nat.reduceEqDiff, Nat.reduceBEq, if_false, if_true, Bool.false_eq_true, List.append_nil, List.nil_append, List.cons_append, Option.toList, and_true, true_and, true_or, or_true, reduceCtorEq, List.map_nil, bI_eq0, bI_ne0, bI_eq1, bool_ft, pk_us, va_up_s, D_X11_isYear, mj_F_bipush_n, mj_F_iconst_n, mj_F_iload_n_k, mj_F_invokestatic_i, mj_F_ireturn, mj_kc, L_X11_isYear, List.take_succ_cons, List.take_zero, List.drop_succ_cons, List.drop_zero, List.reverse_cons, List.reverse_nil, List.length_cons, List.length_nil])
    | (intro _)
    | (apply And.intro))
  all_goals exact hk
def c_isKind : mj_S := fun as h k => ∃ (a : Int32), as = [.int a] ∧ k (some (.int (bI (inb a 0 4)))) h
theorem c_isKind_in {h : mj_H} {a : Int32} {k : Option Value → mj_H → Prop} (hk : k (some (.int (bI (inb a 0 4)))) h) : c_isKind [.int a] h k := ⟨a, rfl, hk⟩
def ct_X11_isKind : List (Nat × mj_Cs) := [(96, 2, 3, 11, 0, 0, c_in)]
theorem L_X11_isKind : mj_lk ct_X11_isKind 96 = some (2, 3, 11, 0, 0, c_in) := rfl
set_option maxHeartbeats 4000000 in
set_option maxRecDepth 20000 in
theorem m_X11_isKind (l : Launch) : mj_Met l yX11_isKind cX11_isKind 1 ((some FieldType.boolean)) 1 0 0 c_isKind := by
  refine mj_body false (TbX11 1 ((some FieldType.boolean)) ct_X11_isKind) (by decide) rfl rfl (fun h => nomatch h) (tfX11 _ (List.forall_mem_cons.mpr ⟨cfX11_96 (m_X11_within l) (by decide), fun _ h => nomatch h⟩)) ?_
  rintro as h k ⟨a, rfl, hk⟩
  refine ⟨rfl, fun G hG => mj_run hG (fun _ => false) 400 ?_⟩
  simp only [mj_step, mj_W_s, mj_al, mj_fin, List.getElem?_cons_zero, List.getElem?_cons_succ, mj_go, Nat.reduceAdd, Nat.reduceSub, Nat.reduceLT, Nat.reduceLeDiff, Nat.zero_add, Nat.reduceEqDiff, Nat.reduceBEq, if_false, if_true, Bool.false_eq_true, List.append_nil, List.nil_append, List.cons_append, Option.toList, and_true, true_and, true_or, or_true, reduceCtorEq, List.map_nil, bI_eq0, bI_ne0, bI_eq1, bool_ft, pk_us, va_up_s, D_X11_isKind, mj_F_iconst_n, mj_F_iload_n_k, mj_F_invokestatic_i, mj_F_ireturn, mj_kc, L_X11_isKind, List.take_succ_cons, List.take_zero, List.drop_succ_cons, List.drop_zero, List.reverse_cons, List.reverse_nil, List.length_cons, List.length_nil]
  repeat' (first
    | (refine c_in_in ?_; simp only [mj_step, mj_W_s, mj_al, mj_fin, List.getElem?_cons_zero, List.getElem?_cons_succ, mj_go, Nat.reduceAdd, Nat.reduceSub, Nat.reduceLT, Nat.reduceLeDiff, Nat.zero_add, Nat.reduceEqDiff, Nat.reduceBEq, if_false, if_true, Bool.false_eq_true, List.append_nil, List.nil_append, List.cons_append, Option.toList, and_true, true_and, true_or, or_true, reduceCtorEq, List.map_nil, bI_eq0, bI_ne0, bI_eq1, bool_ft, pk_us, va_up_s, D_X11_isKind, mj_F_iconst_n, mj_F_iload_n_k, mj_F_invokestatic_i, mj_F_ireturn, mj_kc, L_X11_isKind, List.take_succ_cons, List.take_zero, List.drop_succ_cons, List.drop_zero, List.reverse_cons, List.reverse_nil, List.length_cons, List.length_nil])
    | (intro _)
    | (apply And.intro))
  all_goals exact hk
def cM_isKnowing : mj_S := fun as h k => ∃ (I : Nat → Int32) (A : Nat → Nat → Int32) (a : Int32), as = [.ref 0, .int a] ∧ h = (mkM I A) ∧ k (some (.int (bI (inb a 0 (I 1200))))) (mkM I A)
theorem cM_isKnowing_in {I : Nat → Int32} {A : Nat → Nat → Int32} {a : Int32} {k : Option Value → mj_H → Prop} (hk : k (some (.int (bI (inb a 0 (I 1200))))) (mkM I A)) : cM_isKnowing [.ref 0, .int a] (mkM I A) k := ⟨I, A, a, rfl, rfl, hk⟩
def ct_X12_isKnowing : List (Nat × mj_Cs) := [(243, 2, 3, 12, 0, 0, c_in)]
theorem L_X12_isKnowing : mj_lk ct_X12_isKnowing 243 = some (2, 3, 12, 0, 0, c_in) := rfl
set_option maxHeartbeats 4000000 in
set_option maxRecDepth 20000 in
theorem m_X12_isKnowing (l : Launch) : mj_Met l yX12_isKnowing cX12_isKnowing 2 ((some FieldType.boolean)) 1 0 0 cM_isKnowing := by
  refine mj_body false (TbX12 2 ((some FieldType.boolean)) ct_X12_isKnowing) (by decide) rfl rfl (fun h => nomatch h) (tfX12 _ (List.forall_mem_cons.mpr ⟨cfX12_243 (m_X12_in l) (by decide), fun _ h => nomatch h⟩)) ?_
  rintro as h k ⟨I, A, a, rfl, rfl, hk⟩
  refine ⟨rfl, fun G hG => mj_run hG (fun _ => false) 400 ?_⟩
  simp only [mj_step, mj_W_s, mj_al, mj_fin, List.getElem?_cons_zero, List.getElem?_cons_succ, mj_go, Nat.reduceAdd, Nat.reduceSub, Nat.reduceLT, Nat.reduceLeDiff, Nat.zero_add, Nat.reduceEqDiff, Nat.reduceBEq, if_false, if_true, Bool.false_eq_true, List.append_nil, List.nil_append, List.cons_append, Option.toList, and_true, true_and, true_or, or_true, reduceCtorEq, List.map_nil, bI_eq0, bI_ne0, bI_eq1, bool_ft, pk_us, va_up_s, D_X12_isKnowing, mj_F_aload_n_k, mj_F_getfield_i, mj_F_iconst_n, mj_F_iload_n_k, mj_F_invokestatic_i, mj_F_ireturn, mj_kc, FT_X12, FT_X12_1, L_X12_isKnowing, List.take_succ_cons, List.take_zero, List.drop_succ_cons, List.drop_zero, List.reverse_cons, List.reverse_nil, List.length_cons, List.length_nil, gM_0, gMf_0]
  repeat' (first
    | (refine c_in_in ?_; simp only [mj_step, mj_W_s, mj_al, mj_fin, List.getElem?_cons_zero, List.getElem?_cons_succ, mj_go, Nat.reduceAdd, Nat.reduceSub, Nat.reduceLT, Nat.reduceLeDiff, Nat.zero_add, Nat.reduceEqDiff, Nat.reduceBEq, if_false, if_true, Bool.false_eq_true, List.append_nil, List.nil_append, List.cons_append, Option.toList, and_true, true_and, true_or, or_true, reduceCtorEq, List.map_nil, bI_eq0, bI_ne0, bI_eq1, bool_ft, pk_us, va_up_s, D_X12_isKnowing, mj_F_aload_n_k, mj_F_getfield_i, mj_F_iconst_n, mj_F_iload_n_k, mj_F_invokestatic_i, mj_F_ireturn, mj_kc, FT_X12, FT_X12_1, L_X12_isKnowing, List.take_succ_cons, List.take_zero, List.drop_succ_cons, List.drop_zero, List.reverse_cons, List.reverse_nil, List.length_cons, List.length_nil, gM_0, gMf_0])
    | (intro _)
    | (apply And.intro))
  all_goals exact hk
def cM_isWeek : mj_S := fun as h k => ∃ (I : Nat → Int32) (A : Nat → Nat → Int32) (a : Int32), as = [.ref 0, .int a] ∧ h = (mkM I A) ∧ k (some (.int (bI (inb a 0 (I 1200))))) (mkM I A)
theorem cM_isWeek_in {I : Nat → Int32} {A : Nat → Nat → Int32} {a : Int32} {k : Option Value → mj_H → Prop} (hk : k (some (.int (bI (inb a 0 (I 1200))))) (mkM I A)) : cM_isWeek [.ref 0, .int a] (mkM I A) k := ⟨I, A, a, rfl, rfl, hk⟩
def ct_X12_isWeek : List (Nat × mj_Cs) := [(243, 2, 3, 12, 0, 0, c_in)]
theorem L_X12_isWeek : mj_lk ct_X12_isWeek 243 = some (2, 3, 12, 0, 0, c_in) := rfl
set_option maxHeartbeats 4000000 in
set_option maxRecDepth 20000 in
theorem m_X12_isWeek (l : Launch) : mj_Met l yX12_isWeek cX12_isWeek 2 ((some FieldType.boolean)) 1 0 0 cM_isWeek := by
  refine mj_body false (TbX12 2 ((some FieldType.boolean)) ct_X12_isWeek) (by decide) rfl rfl (fun h => nomatch h) (tfX12 _ (List.forall_mem_cons.mpr ⟨cfX12_243 (m_X12_in l) (by decide), fun _ h => nomatch h⟩)) ?_
  rintro as h k ⟨I, A, a, rfl, rfl, hk⟩
  refine ⟨rfl, fun G hG => mj_run hG (fun _ => false) 400 ?_⟩
  simp only [mj_step, mj_W_s, mj_al, mj_fin, List.getElem?_cons_zero, List.getElem?_cons_succ, mj_go, Nat.reduceAdd, Nat.reduceSub, Nat.reduceLT, Nat.reduceLeDiff, Nat.zero_add, Nat.reduceEqDiff, Nat.reduceBEq, if_false, if_true, Bool.false_eq_true, List.append_nil, List.nil_append, List.cons_append, Option.toList, and_true, true_and, true_or, or_true, reduceCtorEq, List.map_nil, bI_eq0, bI_ne0, bI_eq1, bool_ft, pk_us, va_up_s, D_X12_isWeek, mj_F_aload_n_k, mj_F_getfield_i, mj_F_iconst_n, mj_F_iload_n_k, mj_F_invokestatic_i, mj_F_ireturn, mj_kc, FT_X12, FT_X12_1, L_X12_isWeek, List.take_succ_cons, List.take_zero, List.drop_succ_cons, List.drop_zero, List.reverse_cons, List.reverse_nil, List.length_cons, List.length_nil, gM_0, gMf_0]
  repeat' (first
    | (refine c_in_in ?_; simp only [mj_step, mj_W_s, mj_al, mj_fin, List.getElem?_cons_zero, List.getElem?_cons_succ, mj_go, Nat.reduceAdd, Nat.reduceSub, Nat.reduceLT, Nat.reduceLeDiff, Nat.zero_add, Nat.reduceEqDiff, Nat.reduceBEq, if_false, if_true, Bool.false_eq_true, List.append_nil, List.nil_append, List.cons_append, Option.toList, and_true, true_and, true_or, or_true, reduceCtorEq, List.map_nil, bI_eq0, bI_ne0, bI_eq1, bool_ft, pk_us, va_up_s, D_X12_isWeek, mj_F_aload_n_k, mj_F_getfield_i, mj_F_iconst_n, mj_F_iload_n_k, mj_F_invokestatic_i, mj_F_ireturn, mj_kc, FT_X12, FT_X12_1, L_X12_isWeek, List.take_succ_cons, List.take_zero, List.drop_succ_cons, List.drop_zero, List.reverse_cons, List.reverse_nil, List.length_cons, List.length_nil, gM_0, gMf_0])
    | (intro _)
    | (apply And.intro))
  all_goals exact hk
def cM_isVillage : mj_S := fun as h k => ∃ (I : Nat → Int32) (A : Nat → Nat → Int32) (a : Int32), as = [.ref 0, .int a] ∧ h = (mkM I A) ∧ k (some (.int (bI (inb a 0 (I 1212 - 1))))) (mkM I A)
theorem cM_isVillage_in {I : Nat → Int32} {A : Nat → Nat → Int32} {a : Int32} {k : Option Value → mj_H → Prop} (hk : k (some (.int (bI (inb a 0 (I 1212 - 1))))) (mkM I A)) : cM_isVillage [.ref 0, .int a] (mkM I A) k := ⟨I, A, a, rfl, rfl, hk⟩
def ct_X12_isVillage : List (Nat × mj_Cs) := [(243, 2, 3, 12, 0, 0, c_in)]
theorem L_X12_isVillage : mj_lk ct_X12_isVillage 243 = some (2, 3, 12, 0, 0, c_in) := rfl
set_option maxHeartbeats 4000000 in
set_option maxRecDepth 20000 in
theorem m_X12_isVillage (l : Launch) : mj_Met l yX12_isVillage cX12_isVillage 2 ((some FieldType.boolean)) 1 0 0 cM_isVillage := by
  refine mj_body false (TbX12 2 ((some FieldType.boolean)) ct_X12_isVillage) (by decide) rfl rfl (fun h => nomatch h) (tfX12 _ (List.forall_mem_cons.mpr ⟨cfX12_243 (m_X12_in l) (by decide), fun _ h => nomatch h⟩)) ?_
  rintro as h k ⟨I, A, a, rfl, rfl, hk⟩
  refine ⟨rfl, fun G hG => mj_run hG (fun _ => false) 400 ?_⟩
  simp only [mj_step, mj_W_s, mj_al, mj_fin, List.getElem?_cons_zero, List.getElem?_cons_succ, mj_go, Nat.reduceAdd, Nat.reduceSub, Nat.reduceLT, Nat.reduceLeDiff, Nat.zero_add, Nat.reduceEqDiff, Nat.reduceBEq, if_false, if_true, Bool.false_eq_true, List.append_nil, List.nil_append, List.cons_append, Option.toList, and_true, true_and, true_or, or_true, reduceCtorEq, List.map_nil, bI_eq0, bI_ne0, bI_eq1, bool_ft, pk_us, va_up_s, D_X12_isVillage, mj_F_aload_n_k, mj_F_getfield_i, mj_F_iconst_n, mj_F_iload_n_k, mj_F_invokestatic_i, mj_F_ireturn, mj_F_isub, mj_kc, FT_X12, FT_X12_1, L_X12_isVillage, List.take_succ_cons, List.take_zero, List.drop_succ_cons, List.drop_zero, List.reverse_cons, List.reverse_nil, List.length_cons, List.length_nil, gM_0, gMf_12]
  repeat' (first
    | (refine c_in_in ?_; simp only [mj_step, mj_W_s, mj_al, mj_fin, List.getElem?_cons_zero, List.getElem?_cons_succ, mj_go, Nat.reduceAdd, Nat.reduceSub, Nat.reduceLT, Nat.reduceLeDiff, Nat.zero_add, Nat.reduceEqDiff, Nat.reduceBEq, if_false, if_true, Bool.false_eq_true, List.append_nil, List.nil_append, List.cons_append, Option.toList, and_true, true_and, true_or, or_true, reduceCtorEq, List.map_nil, bI_eq0, bI_ne0, bI_eq1, bool_ft, pk_us, va_up_s, D_X12_isVillage, mj_F_aload_n_k, mj_F_getfield_i, mj_F_iconst_n, mj_F_iload_n_k, mj_F_invokestatic_i, mj_F_ireturn, mj_F_isub, mj_kc, FT_X12, FT_X12_1, L_X12_isVillage, List.take_succ_cons, List.take_zero, List.drop_succ_cons, List.drop_zero, List.reverse_cons, List.reverse_nil, List.length_cons, List.length_nil, gM_0, gMf_12])
    | (intro _)
    | (apply And.intro))
  all_goals exact hk
def cM_isSchool : mj_S := fun as h k => ∃ (I : Nat → Int32) (A : Nat → Nat → Int32) (a : Int32), as = [.ref 0, .int a] ∧ h = (mkM I A) ∧ k (some (.int (bI (inb a 0 (I 1223 - 1))))) (mkM I A)
theorem cM_isSchool_in {I : Nat → Int32} {A : Nat → Nat → Int32} {a : Int32} {k : Option Value → mj_H → Prop} (hk : k (some (.int (bI (inb a 0 (I 1223 - 1))))) (mkM I A)) : cM_isSchool [.ref 0, .int a] (mkM I A) k := ⟨I, A, a, rfl, rfl, hk⟩
def ct_X12_isSchool : List (Nat × mj_Cs) := [(243, 2, 3, 12, 0, 0, c_in)]
theorem L_X12_isSchool : mj_lk ct_X12_isSchool 243 = some (2, 3, 12, 0, 0, c_in) := rfl
set_option maxHeartbeats 4000000 in
set_option maxRecDepth 20000 in
theorem m_X12_isSchool (l : Launch) : mj_Met l yX12_isSchool cX12_isSchool 2 ((some FieldType.boolean)) 1 0 0 cM_isSchool := by
  refine mj_body false (TbX12 2 ((some FieldType.boolean)) ct_X12_isSchool) (by decide) rfl rfl (fun h => nomatch h) (tfX12 _ (List.forall_mem_cons.mpr ⟨cfX12_243 (m_X12_in l) (by decide), fun _ h => nomatch h⟩)) ?_
  rintro as h k ⟨I, A, a, rfl, rfl, hk⟩
  refine ⟨rfl, fun G hG => mj_run hG (fun _ => false) 400 ?_⟩
  simp only [mj_step, mj_W_s, mj_al, mj_fin, List.getElem?_cons_zero, List.getElem?_cons_succ, mj_go, Nat.reduceAdd, Nat.reduceSub, Nat.reduceLT, Nat.reduceLeDiff, Nat.zero_add, Nat.reduceEqDiff, Nat.reduceBEq, if_false, if_true, Bool.false_eq_true, List.append_nil, List.nil_append, List.cons_append, Option.toList, and_true, true_and, true_or, or_true, reduceCtorEq, List.map_nil, bI_eq0, bI_ne0, bI_eq1, bool_ft, pk_us, va_up_s, D_X12_isSchool, mj_F_aload_n_k, mj_F_getfield_i, mj_F_iconst_n, mj_F_iload_n_k, mj_F_invokestatic_i, mj_F_ireturn, mj_F_isub, mj_kc, FT_X12, FT_X12_1, L_X12_isSchool, List.take_succ_cons, List.take_zero, List.drop_succ_cons, List.drop_zero, List.reverse_cons, List.reverse_nil, List.length_cons, List.length_nil, gM_0, gMf_23]
  repeat' (first
    | (refine c_in_in ?_; simp only [mj_step, mj_W_s, mj_al, mj_fin, List.getElem?_cons_zero, List.getElem?_cons_succ, mj_go, Nat.reduceAdd, Nat.reduceSub, Nat.reduceLT, Nat.reduceLeDiff, Nat.zero_add, Nat.reduceEqDiff, Nat.reduceBEq, if_false, if_true, Bool.false_eq_true, List.append_nil, List.nil_append, List.cons_append, Option.toList, and_true, true_and, true_or, or_true, reduceCtorEq, List.map_nil, bI_eq0, bI_ne0, bI_eq1, bool_ft, pk_us, va_up_s, D_X12_isSchool, mj_F_aload_n_k, mj_F_getfield_i, mj_F_iconst_n, mj_F_iload_n_k, mj_F_invokestatic_i, mj_F_ireturn, mj_F_isub, mj_kc, FT_X12, FT_X12_1, L_X12_isSchool, List.take_succ_cons, List.take_zero, List.drop_succ_cons, List.drop_zero, List.reverse_cons, List.reverse_nil, List.length_cons, List.length_nil, gM_0, gMf_23])
    | (intro _)
    | (apply And.intro))
  all_goals exact hk
def cC_isPast : mj_S := fun as h k => ∃ (I : Nat → Int32) (A : Nat → Nat → Int32) (R : Nat → Nat → Option Nat) (d : List (Nat × (Nat → Int32))) (a : Int32), as = [.ref 0, .int a] ∧ h = (mkC I A R d) ∧ k (some (.int (bI (inb a 0 (I 1100))))) (mkC I A R d)
theorem cC_isPast_in {I : Nat → Int32} {A : Nat → Nat → Int32} {R : Nat → Nat → Option Nat} {d : List (Nat × (Nat → Int32))} {a : Int32} {k : Option Value → mj_H → Prop} (hk : k (some (.int (bI (inb a 0 (I 1100))))) (mkC I A R d)) : cC_isPast [.ref 0, .int a] (mkC I A R d) k := ⟨I, A, R, d, a, rfl, rfl, hk⟩
def ct_X11_isPast : List (Nat × mj_Cs) := [(96, 2, 3, 11, 0, 0, c_in)]
theorem L_X11_isPast : mj_lk ct_X11_isPast 96 = some (2, 3, 11, 0, 0, c_in) := rfl
set_option maxHeartbeats 4000000 in
set_option maxRecDepth 20000 in
theorem m_X11_isPast (l : Launch) : mj_Met l yX11_isPast cX11_isPast 2 ((some FieldType.boolean)) 1 0 0 cC_isPast := by
  refine mj_body false (TbX11 2 ((some FieldType.boolean)) ct_X11_isPast) (by decide) rfl rfl (fun h => nomatch h) (tfX11 _ (List.forall_mem_cons.mpr ⟨cfX11_96 (m_X11_within l) (by decide), fun _ h => nomatch h⟩)) ?_
  rintro as h k ⟨I, A, R, d, a, rfl, rfl, hk⟩
  refine ⟨rfl, fun G hG => mj_run hG (fun _ => false) 400 ?_⟩
  simp only [mj_step, mj_W_s, mj_al, mj_fin, List.getElem?_cons_zero, List.getElem?_cons_succ, mj_go, Nat.reduceAdd, Nat.reduceSub, Nat.reduceLT, Nat.reduceLeDiff, Nat.zero_add, Nat.reduceEqDiff, Nat.reduceBEq, if_false, if_true, Bool.false_eq_true, List.append_nil, List.nil_append, List.cons_append, Option.toList, and_true, true_and, true_or, or_true, reduceCtorEq, List.map_nil, bI_eq0, bI_ne0, bI_eq1, bool_ft, pk_us, va_up_s, D_X11_isPast, mj_F_aload_n_k, mj_F_getfield_i, mj_F_iconst_n, mj_F_iload_n_k, mj_F_invokestatic_i, mj_F_ireturn, mj_kc, FT_X11, L_X11_isPast, List.take_succ_cons, List.take_zero, List.drop_succ_cons, List.drop_zero, List.reverse_cons, List.reverse_nil, List.length_cons, List.length_nil, gC_0, gCf11_0]
  repeat' (first
    | (refine c_in_in ?_; simp only [mj_step, mj_W_s, mj_al, mj_fin, List.getElem?_cons_zero, List.getElem?_cons_succ, mj_go, Nat.reduceAdd, Nat.reduceSub, Nat.reduceLT, Nat.reduceLeDiff, Nat.zero_add, Nat.reduceEqDiff, Nat.reduceBEq, if_false, if_true, Bool.false_eq_true, List.append_nil, List.nil_append, List.cons_append, Option.toList, and_true, true_and, true_or, or_true, reduceCtorEq, List.map_nil, bI_eq0, bI_ne0, bI_eq1, bool_ft, pk_us, va_up_s, D_X11_isPast, mj_F_aload_n_k, mj_F_getfield_i, mj_F_iconst_n, mj_F_iload_n_k, mj_F_invokestatic_i, mj_F_ireturn, mj_kc, FT_X11, L_X11_isPast, List.take_succ_cons, List.take_zero, List.drop_succ_cons, List.drop_zero, List.reverse_cons, List.reverse_nil, List.length_cons, List.length_nil, gC_0, gCf11_0])
    | (intro _)
    | (apply And.intro))
  all_goals exact hk
def cC_isVillage : mj_S := fun as h k => ∃ (I : Nat → Int32) (A : Nat → Nat → Int32) (R : Nat → Nat → Option Nat) (d : List (Nat × (Nat → Int32))) (a : Int32), as = [.ref 0, .int a] ∧ h = (mkC I A R d) ∧ k (some (.int (bI (inb a 0 (I 101 - 1))))) (mkC I A R d)
theorem cC_isVillage_in {I : Nat → Int32} {A : Nat → Nat → Int32} {R : Nat → Nat → Option Nat} {d : List (Nat × (Nat → Int32))} {a : Int32} {k : Option Value → mj_H → Prop} (hk : k (some (.int (bI (inb a 0 (I 101 - 1))))) (mkC I A R d)) : cC_isVillage [.ref 0, .int a] (mkC I A R d) k := ⟨I, A, R, d, a, rfl, rfl, hk⟩
def ct_X11_isVillage : List (Nat × mj_Cs) := [(96, 2, 3, 11, 0, 0, c_in)]
theorem L_X11_isVillage : mj_lk ct_X11_isVillage 96 = some (2, 3, 11, 0, 0, c_in) := rfl
set_option maxHeartbeats 4000000 in
set_option maxRecDepth 20000 in
theorem m_X11_isVillage (l : Launch) : mj_Met l yX11_isVillage cX11_isVillage 2 ((some FieldType.boolean)) 1 0 0 cC_isVillage := by
  refine mj_body false (TbX11 2 ((some FieldType.boolean)) ct_X11_isVillage) (by decide) rfl rfl (fun h => nomatch h) (tfX11 _ (List.forall_mem_cons.mpr ⟨cfX11_96 (m_X11_within l) (by decide), fun _ h => nomatch h⟩)) ?_
  rintro as h k ⟨I, A, R, d, a, rfl, rfl, hk⟩
  refine ⟨rfl, fun G hG => mj_run hG (fun _ => false) 400 ?_⟩
  simp only [mj_step, mj_W_s, mj_al, mj_fin, List.getElem?_cons_zero, List.getElem?_cons_succ, mj_go, Nat.reduceAdd, Nat.reduceSub, Nat.reduceLT, Nat.reduceLeDiff, Nat.zero_add, Nat.reduceEqDiff, Nat.reduceBEq, if_false, if_true, Bool.false_eq_true, List.append_nil, List.nil_append, List.cons_append, Option.toList, and_true, true_and, true_or, or_true, reduceCtorEq, List.map_nil, bI_eq0, bI_ne0, bI_eq1, bool_ft, pk_us, va_up_s, D_X11_isVillage, mj_F_aload_n_k, mj_F_getfield_i, mj_F_iconst_n, mj_F_iload_n_k, mj_F_invokestatic_i, mj_F_ireturn, mj_F_isub, mj_kc, FT_X11, L_X11_isVillage, List.take_succ_cons, List.take_zero, List.drop_succ_cons, List.drop_zero, List.reverse_cons, List.reverse_nil, List.length_cons, List.length_nil, gC_0, gCf11_4, gC_20, gCf1_1]
  repeat' (first
    | (refine c_in_in ?_; simp only [mj_step, mj_W_s, mj_al, mj_fin, List.getElem?_cons_zero, List.getElem?_cons_succ, mj_go, Nat.reduceAdd, Nat.reduceSub, Nat.reduceLT, Nat.reduceLeDiff, Nat.zero_add, Nat.reduceEqDiff, Nat.reduceBEq, if_false, if_true, Bool.false_eq_true, List.append_nil, List.nil_append, List.cons_append, Option.toList, and_true, true_and, true_or, or_true, reduceCtorEq, List.map_nil, bI_eq0, bI_ne0, bI_eq1, bool_ft, pk_us, va_up_s, D_X11_isVillage, mj_F_aload_n_k, mj_F_getfield_i, mj_F_iconst_n, mj_F_iload_n_k, mj_F_invokestatic_i, mj_F_ireturn, mj_F_isub, mj_kc, FT_X11, L_X11_isVillage, List.take_succ_cons, List.take_zero, List.drop_succ_cons, List.drop_zero, List.reverse_cons, List.reverse_nil, List.length_cons, List.length_nil, gC_0, gCf11_4, gC_20, gCf1_1])
    | (intro _)
    | (apply And.intro))
  all_goals exact hk
def cC_isSchool : mj_S := fun as h k => ∃ (I : Nat → Int32) (A : Nat → Nat → Int32) (R : Nat → Nat → Option Nat) (d : List (Nat × (Nat → Int32))) (a : Int32), as = [.ref 0, .int a] ∧ h = (mkC I A R d) ∧ k (some (.int (bI (inb a 0 (I 501 - 1))))) (mkC I A R d)
theorem cC_isSchool_in {I : Nat → Int32} {A : Nat → Nat → Int32} {R : Nat → Nat → Option Nat} {d : List (Nat × (Nat → Int32))} {a : Int32} {k : Option Value → mj_H → Prop} (hk : k (some (.int (bI (inb a 0 (I 501 - 1))))) (mkC I A R d)) : cC_isSchool [.ref 0, .int a] (mkC I A R d) k := ⟨I, A, R, d, a, rfl, rfl, hk⟩
def ct_X11_isSchool : List (Nat × mj_Cs) := [(96, 2, 3, 11, 0, 0, c_in)]
theorem L_X11_isSchool : mj_lk ct_X11_isSchool 96 = some (2, 3, 11, 0, 0, c_in) := rfl
set_option maxHeartbeats 4000000 in
set_option maxRecDepth 20000 in
theorem m_X11_isSchool (l : Launch) : mj_Met l yX11_isSchool cX11_isSchool 2 ((some FieldType.boolean)) 1 0 0 cC_isSchool := by
  refine mj_body false (TbX11 2 ((some FieldType.boolean)) ct_X11_isSchool) (by decide) rfl rfl (fun h => nomatch h) (tfX11 _ (List.forall_mem_cons.mpr ⟨cfX11_96 (m_X11_within l) (by decide), fun _ h => nomatch h⟩)) ?_
  rintro as h k ⟨I, A, R, d, a, rfl, rfl, hk⟩
  refine ⟨rfl, fun G hG => mj_run hG (fun _ => false) 400 ?_⟩
  simp only [mj_step, mj_W_s, mj_al, mj_fin, List.getElem?_cons_zero, List.getElem?_cons_succ, mj_go, Nat.reduceAdd, Nat.reduceSub, Nat.reduceLT, Nat.reduceLeDiff, Nat.zero_add, Nat.reduceEqDiff, Nat.reduceBEq, if_false, if_true, Bool.false_eq_true, List.append_nil, List.nil_append, List.cons_append, Option.toList, and_true, true_and, true_or, or_true, reduceCtorEq, List.map_nil, bI_eq0, bI_ne0, bI_eq1, bool_ft, pk_us, va_up_s, D_X11_isSchool, mj_F_aload_n_k, mj_F_getfield_i, mj_F_iconst_n, mj_F_iload_n_k, mj_F_invokestatic_i, mj_F_ireturn, mj_F_isub, mj_kc, FT_X11, L_X11_isSchool, List.take_succ_cons, List.take_zero, List.drop_succ_cons, List.drop_zero, List.reverse_cons, List.reverse_nil, List.length_cons, List.length_nil, gC_0, gCf11_5, gC_35, gCf5_1]
  repeat' (first
    | (refine c_in_in ?_; simp only [mj_step, mj_W_s, mj_al, mj_fin, List.getElem?_cons_zero, List.getElem?_cons_succ, mj_go, Nat.reduceAdd, Nat.reduceSub, Nat.reduceLT, Nat.reduceLeDiff, Nat.zero_add, Nat.reduceEqDiff, Nat.reduceBEq, if_false, if_true, Bool.false_eq_true, List.append_nil, List.nil_append, List.cons_append, Option.toList, and_true, true_and, true_or, or_true, reduceCtorEq, List.map_nil, bI_eq0, bI_ne0, bI_eq1, bool_ft, pk_us, va_up_s, D_X11_isSchool, mj_F_aload_n_k, mj_F_getfield_i, mj_F_iconst_n, mj_F_iload_n_k, mj_F_invokestatic_i, mj_F_ireturn, mj_F_isub, mj_kc, FT_X11, L_X11_isSchool, List.take_succ_cons, List.take_zero, List.drop_succ_cons, List.drop_zero, List.reverse_cons, List.reverse_nil, List.length_cons, List.length_nil, gC_0, gCf11_5, gC_35, gCf5_1])
    | (intro _)
    | (apply And.intro))
  all_goals exact hk
def cC_isSchoolOrAll : mj_S := fun as h k => ∃ (I : Nat → Int32) (A : Nat → Nat → Int32) (R : Nat → Nat → Option Nat) (d : List (Nat × (Nat → Int32))) (a : Int32), as = [.ref 0, .int a] ∧ h = (mkC I A R d) ∧ k (some (.int (bI (inb a (-1) (I 501 - 1))))) (mkC I A R d)
theorem cC_isSchoolOrAll_in {I : Nat → Int32} {A : Nat → Nat → Int32} {R : Nat → Nat → Option Nat} {d : List (Nat × (Nat → Int32))} {a : Int32} {k : Option Value → mj_H → Prop} (hk : k (some (.int (bI (inb a (-1) (I 501 - 1))))) (mkC I A R d)) : cC_isSchoolOrAll [.ref 0, .int a] (mkC I A R d) k := ⟨I, A, R, d, a, rfl, rfl, hk⟩
def ct_X11_isSchoolOrAll : List (Nat × mj_Cs) := [(96, 2, 3, 11, 0, 0, c_in)]
theorem L_X11_isSchoolOrAll : mj_lk ct_X11_isSchoolOrAll 96 = some (2, 3, 11, 0, 0, c_in) := rfl
set_option maxHeartbeats 4000000 in
set_option maxRecDepth 20000 in
theorem m_X11_isSchoolOrAll (l : Launch) : mj_Met l yX11_isSchoolOrAll cX11_isSchoolOrAll 2 ((some FieldType.boolean)) 1 0 0 cC_isSchoolOrAll := by
  refine mj_body false (TbX11 2 ((some FieldType.boolean)) ct_X11_isSchoolOrAll) (by decide) rfl rfl (fun h => nomatch h) (tfX11 _ (List.forall_mem_cons.mpr ⟨cfX11_96 (m_X11_within l) (by decide), fun _ h => nomatch h⟩)) ?_
  rintro as h k ⟨I, A, R, d, a, rfl, rfl, hk⟩
  refine ⟨rfl, fun G hG => mj_run hG (fun _ => false) 400 ?_⟩
  simp only [mj_step, mj_W_s, mj_al, mj_fin, List.getElem?_cons_zero, List.getElem?_cons_succ, mj_go, Nat.reduceAdd, Nat.reduceSub, Nat.reduceLT, Nat.reduceLeDiff, Nat.zero_add, Nat.reduceEqDiff, Nat.reduceBEq, if_false, if_true, Bool.false_eq_true, List.append_nil, List.nil_append, List.cons_append, Option.toList, and_true, true_and, true_or, or_true, reduceCtorEq, List.map_nil, bI_eq0, bI_ne0, bI_eq1, bool_ft, pk_us, va_up_s, D_X11_isSchoolOrAll, mj_F_aload_n_k, mj_F_getfield_i, mj_F_iconst_n, mj_F_iload_n_k, mj_F_invokestatic_i, mj_F_ireturn, mj_F_isub, mj_kc, FT_X11, L_X11_isSchoolOrAll, List.take_succ_cons, List.take_zero, List.drop_succ_cons, List.drop_zero, List.reverse_cons, List.reverse_nil, List.length_cons, List.length_nil, gC_0, gCf11_5, gC_35, gCf5_1]
  repeat' (first
    | (refine c_in_in ?_; simp only [mj_step, mj_W_s, mj_al, mj_fin, List.getElem?_cons_zero, List.getElem?_cons_succ, mj_go, Nat.reduceAdd, Nat.reduceSub, Nat.reduceLT, Nat.reduceLeDiff, Nat.zero_add, Nat.reduceEqDiff, Nat.reduceBEq, if_false, if_true, Bool.false_eq_true, List.append_nil, List.nil_append, List.cons_append, Option.toList, and_true, true_and, true_or, or_true, reduceCtorEq, List.map_nil, bI_eq0, bI_ne0, bI_eq1, bool_ft, pk_us, va_up_s, D_X11_isSchoolOrAll, mj_F_aload_n_k, mj_F_getfield_i, mj_F_iconst_n, mj_F_iload_n_k, mj_F_invokestatic_i, mj_F_ireturn, mj_F_isub, mj_kc, FT_X11, L_X11_isSchoolOrAll, List.take_succ_cons, List.take_zero, List.drop_succ_cons, List.drop_zero, List.reverse_cons, List.reverse_nil, List.length_cons, List.length_nil, gC_0, gCf11_5, gC_35, gCf5_1])
    | (intro _)
    | (apply And.intro))
  all_goals exact hk
