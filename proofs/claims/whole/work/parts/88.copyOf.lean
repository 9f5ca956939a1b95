/-! copyOf -/
section CB
variable {p : Program} {l : Launch} {lev : Nat} {mc ms : Nat}
theorem mj_body6 {y : MethodName} {cc : ByteArray} {maxL : Nat} {rt : Option FieldType} {cs : mj_S} (ini : Bool) (T : mj_T) (hlev : 1 ≤ lev) (hy : plainName y.cls = true) (hT : T.1 = maxL) (hr : T.2.1 = rt) (hini : ini = true → y.name = "<init>") (hTF : mj_TF l y.cls ini lev T)
    (hmain : ∀ (as : List Value) (h : mj_H) (k : Option Value → mj_H → Prop), cs as h k → mj_aok maxL as = true ∧ ∀ G : mj_K, mj_cl2 cc T k G → mj_ml cc y.cls G → mj_c1 cc y.cls G → mj_c3 cc y.cls G → mj_c5 cc y.cls G → G 0 (mj_al as) [] h mc ms) : mj_Met l y cc maxL rt lev mc ms cs := by
  intro D cA sd adK adV ad as h k sz hc
  subst hT; subst hr
  refine Met.ofW (cc := cc) (maxL := T.1) (ret := T.2.1) hy rfl ?_
  intro p e s m args below meth c s₁ B hml hv
  obtain ⟨rfl, hsz, ⟨hP, hK, hD0, h5⟩, hX, hsv⟩ := hv
  have hts : ∀ w ∈ mj_tw, w.before (as.map (mj_tv ad sd)).toArray s = true := fun w hw => atoms_spec (ws := Cond.code y cc T.1 T.2.1 :: mj_tw) B.pre w (List.mem_cons_of_mem _ hw)
  have hown : s.vm.findClass y.cls = some m.cls := findClass_of_methodNamed B.named
  subst hsz
  obtain ⟨hok, hG⟩ := hmain as h k hc
  unfold mj_aok at hok
  rw [Bool.and_eq_true, decide_eq_true_eq] at hok
  have hkn : ∀ v ∈ as, mj_kn v = true ∧ ∀ x, v ≠ .double x := by
    intro v hv
    have := List.all_eq_true.mp hok.2 v hv
    rw [Bool.and_eq_true] at this
    refine ⟨this.1, fun x hx => ?_⟩
    rw [hx] at this
    exact Bool.false_ne_true this.2
  have hlen := mj_al_len ad sd as hkn
  have hl := lv_entry (as.map (mj_tv ad sd)) (n := T.1) (by rw [hlen]; exact hok.1)
  have X : mj_Cx p l (headSpec (Cond.code y cc T.1 T.2.1 :: mj_tw) (mj_rm lev mc ms)).room s m (as.map (mj_tv ad sd)).toArray meth c cc y.cls ini lev D cA sd adK adV (va_A (mj_ws cA ad sd h) s.heap.size) mc ms T :=
    ⟨B.exec, B.bytes, hml, hown, hts, hK, fun q hq => Or.inr hq, hX, rfl, fun hi => (name_of_methodNamed B.named B.method).1.trans (hini hi), hTF⟩
  have h9 := hG (mj_Go p l e (headSpec (Cond.code y cc T.1 T.2.1 :: mj_tw) (mj_rm lev mc ms)).room s m (as.map (mj_tv ad sd)).toArray below meth c (MQ below (mj_Q D cA sd ad h k (va_A (mj_ws cA ad sd h) s.heap.size)) (as.map (mj_tv ad sd)).toArray s mc ms (va_A (mj_ws cA ad sd h) s.heap.size)) D cA sd (va_A (mj_ws cA ad sd h) s.heap.size) h.length ad mc ms T.1)
    ⟨fun K hKG pc L st h' bc bs hI => mj_true hKG B.returns B.notSynchronized X hI, fun _ _ _ _ _ _ _ _ _ hw h1 h2 hg => mj_Go_wk hw h1 h2 hg⟩ (mj_Go_ml rfl hlev X) (mj_Go_c1 hlev X) (mj_Go_c3 X) (mj_Go_c5 hlev X)
  rw [lg_entry_eq]
  refine h9 ad s.heap [] 0 0 _ (fun _ _ => rfl) (Nat.le_refl _) (fun v hv => by cases hv) (fun v hv => ?_) h5 hP hD0.self va_S.rf (mj_lv_mono hl (mj_al_lm ad sd as 0 hkn)) (by omega) (by omega)
  have hgo : ∀ x : List Value, (∀ v ∈ x, mj_sv h.length v) → ∀ v ∈ mj_al x, mj_sv h.length v := by
    intro x
    induction x with
    | nil => intro _ v hv; cases hv
    | cons w x ih =>
      intro hx v hv
      have ih := ih (fun v hv => hx v (List.mem_cons_of_mem _ hv))
      have hw := hx w List.mem_cons_self
      cases w <;> simp only [mj_al, List.mem_cons] at hv <;> first
        | (rcases hv with rfl | rfl | hv
           · exact trivial
           · exact trivial
           · exact ih v hv)
        | (rcases hv with rfl | hv
           · exact hw
           · exact ih v hv)
  exact hgo as hsv v hv

end CB
theorem J_J7_copyOf : mj_t 3 11 = 14 ∧ (0 ≤ ((3 : Nat) : Int) + 11) = True := ⟨rfl, eq_true (by decide)⟩
theorem w_988 : Cond.methodLink RJ7 304 (mj_mname 0) ∈ mj_tw := mj_tw_in (List.mem_of_getElem? (i := 988) (by decide +kernel)) rfl
def cpf (f : Nat → Int32) (n0 v : Nat) : Nat → Int32 := if v = n0 then f else va_cpy f (fun _ => 0) 0 0 v
def c_copy : mj_S := fun as h k => ∃ (a n0 v : Nat) (f : Nat → Int32), as = [.ref a, .int (nI v)] ∧ h[a]? = some (.inl (.int, n0, .inl f)) ∧ n0 ≤ 164 ∧ v ≤ n0 ∧ k (some (.ref h.length)) (h ++ [.inl (.int, v, .inl (cpf f n0 v))])
set_option maxHeartbeats 4000000 in
theorem m_J7_copyOf (l : Launch) : mj_Met l yJ7_copyOf_59c91 cJ7_copyOf_59c91 3 (some (.array .int)) 1 1 164 c_copy := by
  refine mj_body6 false (mj_T0 3 (some (.array .int))) (by decide) (by decide) rfl rfl (fun h => nomatch h) mj_tf0 ?_
  rintro as h k ⟨a, n0, v, f, rfl, ha, hn, hv, hk⟩
  refine ⟨rfl, fun G hG hml h1 h3 h5 => ?_⟩
  obtain ⟨d0, d1, d2, d3, d4, d5, d6, d7, d8, d9, d10, d11, d12, d13, d14, d15, d16, d17, d18, d19, d20, d21⟩ := D_J7_copyOf_59c91
  show G 0 [.ref a, .int (nI v)] [] h 1 164
  have hlt : a < h.length := (List.getElem?_eq_some_iff.mp ha).1
  have hlast : ∀ q : mj_C, (h ++ [q])[h.length]? = some q := by
    intro q
    rw [List.getElem?_append_right (Nat.le_refl _), Nat.sub_self]
    rfl
  have hold : ∀ q : mj_C, (h ++ [q])[a]? = some (.inl (.int, n0, .inl f)) := by
    intro q
    rw [List.getElem?_append_left hlt, ha]
  have h0 : ¬ nI v < 0 := by
    rw [i32_lt, nI_toInt (by omega)]
    exact Int.not_lt.mpr (Int.natCast_nonneg v)
  -- the way of the whole length
  have hA : v = n0 → G 7 [.ref a, .int (nI v)] [.ref a] h 1 164 := by
    intro e
    refine h1 7 316 _ [] a n0 f h 1 164 (by first | exact d5 | exact D_J7_copyOf_59c91.2.2.2.2.2.1) w_981 ha (by decide) (by omega) (by omega) ?_
    refine h3 10 317 _ [] h.length n0 f _ _ _ (by exact d6) w_987 (hlast _) ?_
    refine mj_run hG.1 (fun pc => pc == 7) 4000 ?_
    simp only [mj_step, mj_W_s, mj_fin, List.getElem?_cons_zero, List.getElem?_cons_succ, mj_go, Nat.reduceAdd, Nat.reduceSub, Nat.reduceLT, Nat.reduceLeDiff, Nat.zero_add, Nat.reduceEqDiff, Nat.reduceBEq, ↓reduceIte, Bool.false_eq_true, List.append_nil, List.nil_append, List.cons_append, Option.toList, and_true, true_and, true_or, or_true, reduceCtorEq, List.map_nil, bI_eq0, bI_eq1, bool_ft, pk_us, vnar0, vnar1, Bool.or_false, Bool.or_true, Bool.false_or, Bool.true_or, mj_kne, eq_self, Int32.reduceLT, Int32.reduceLE, Int32.reduceAdd, Int32.reduceSub, Int32.reduceMul, not_true_eq_false, not_false_eq_true, false_implies, true_implies, D_J7_copyOf_59c91, mj_F_aload_n_k, mj_F_arraylength, mj_F_iconst_n, mj_F_if_icmp_ne_off, mj_F_iload_n_k, mj_F_astore_n_k, mj_F_newarray_ty, mj_F_areturn, mj_set, mj_set0, mj_unk, mj_c2, mj_kc, mj_nk, mj_isA, J_J7_copyOf]
    have e1 : cpf f n0 v = f := if_pos e
    rw [e1, e] at hk
    exact hk
  have hB : G 25 [.ref a, .int (nI v), .ref h.length] [.int (nI v), .int (nI n0), .int 0, .ref h.length, .int 0, .ref a] (h ++ [.inl (.int, v, .inl (fun _ => 0))]) 0 (164 - v) ∨ v = n0 := by
    by_cases e : v = n0
    · exact Or.inr e
    left
    have ez : zmn (nI n0) (nI v) = nI v := by
      rw [zmn_nI (by omega) (by omega), Nat.min_eq_right hv]
    refine hml 25 304 0 _ _ (.int (nI n0)) (.int (nI v)) (.int (nI v)) _ _ _ (by exact d18) w_988 (show some (Value.int (zmn (nI n0) (nI v))) = _ by rw [ez]) (Nat.le_refl 4) ?_
    refine h5 28 150 _ [] a h.length n0 v f (fun _ => 0) 0 0 (nI v) _ _ _ (by exact d19) w_989 (hold _) (hlast _) (by decide) (by decide) h0 ?_ ?_ (by decide) ?_
    · rw [nI_clamp (by omega)]
      show 0 + v ≤ n0
      omega
    · rw [nI_clamp (by omega)]
      show 0 + v ≤ v
      omega
    rw [nI_clamp (by omega)]
    have es : (h ++ [(.inl (.int, v, .inl (fun _ => 0)) : mj_C)]).set h.length (.inl (.int, v, .inl (va_cpy f (fun _ => 0) (0 : Int32).toNatClampNeg (0 : Int32).toNatClampNeg v))) = h ++ [.inl (.int, v, .inl (va_cpy f (fun _ => 0) 0 0 v))] := by
      rw [List.set_append_right _ _ (Nat.le_refl _), Nat.sub_self]
      rfl
    rw [es]
    refine mj_run hG.1 (fun pc => pc == 7) 4000 ?_
    simp only [mj_step, mj_W_s, mj_fin, List.getElem?_cons_zero, List.getElem?_cons_succ, mj_go, Nat.reduceAdd, Nat.reduceSub, Nat.reduceLT, Nat.reduceLeDiff, Nat.zero_add, Nat.reduceEqDiff, Nat.reduceBEq, ↓reduceIte, Bool.false_eq_true, List.append_nil, List.nil_append, List.cons_append, Option.toList, and_true, true_and, true_or, or_true, reduceCtorEq, List.map_nil, bI_eq0, bI_eq1, bool_ft, pk_us, vnar0, vnar1, Bool.or_false, Bool.or_true, Bool.false_or, Bool.true_or, mj_kne, eq_self, Int32.reduceLT, Int32.reduceLE, Int32.reduceAdd, Int32.reduceSub, Int32.reduceMul, not_true_eq_false, not_false_eq_true, false_implies, true_implies, D_J7_copyOf_59c91, mj_F_aload_n_k, mj_F_arraylength, mj_F_iconst_n, mj_F_if_icmp_ne_off, mj_F_iload_n_k, mj_F_astore_n_k, mj_F_newarray_ty, mj_F_areturn, mj_set, mj_set0, mj_unk, mj_c2, mj_kc, mj_nk, mj_isA, J_J7_copyOf]
    have e1 : cpf f n0 v = va_cpy f (fun _ => 0) 0 0 v := if_neg e
    rw [e1] at hk
    exact hk
  refine mj_run hG.1 (fun pc => pc == 7 || pc == 25 || pc == 28) 4000 ?_
  simp only [ha, mj_step, mj_W_s, mj_fin, List.getElem?_cons_zero, List.getElem?_cons_succ, mj_go, Nat.reduceAdd, Nat.reduceSub, Nat.reduceLT, Nat.reduceLeDiff, Nat.zero_add, Nat.reduceEqDiff, Nat.reduceBEq, ↓reduceIte, Bool.false_eq_true, List.append_nil, List.nil_append, List.cons_append, Option.toList, and_true, true_and, true_or, or_true, reduceCtorEq, List.map_nil, bI_eq0, bI_eq1, bool_ft, pk_us, vnar0, vnar1, Bool.or_false, Bool.or_true, Bool.false_or, Bool.true_or, mj_kne, eq_self, Int32.reduceLT, Int32.reduceLE, Int32.reduceAdd, Int32.reduceSub, Int32.reduceMul, not_true_eq_false, not_false_eq_true, false_implies, true_implies, D_J7_copyOf_59c91, mj_F_aload_n_k, mj_F_arraylength, mj_F_iconst_n, mj_F_if_icmp_ne_off, mj_F_iload_n_k, mj_F_astore_n_k, mj_F_newarray_ty, mj_F_areturn, mj_set, mj_set0, mj_unk, mj_c2, mj_kc, mj_nk, mj_isA, J_J7_copyOf]
  refine ⟨fun c => ?_, fun c => hA ((nI_eq (by omega) (by omega)).mp c)⟩
  rw [nI_clamp (by omega)]
  refine ⟨h0, by omega, by omega, ?_⟩
  rw [hold]
  refine ⟨rfl, ?_⟩
  rcases hB with hB | hB
  · exact hB
  · exact absurd (by rw [hB]) c
