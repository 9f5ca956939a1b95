/-! rules for clone, checkcast and arraycopy over int arrays -/
theorem w_981 : Cond.methodLink RJ7 316 ⟨"[I", "clone", "()Ljava/lang/Object;"⟩ ∈ mj_tw := mj_tw_in (List.mem_of_getElem? (i := 981) (by decide +kernel)) rfl
theorem w_982 : Cond.sameMethod "[I" "java/lang/Object" "clone" "()Ljava/lang/Object;" ∈ mj_tw := mj_tw_in (List.mem_of_getElem? (i := 982) (by decide +kernel)) rfl
theorem w_983 : Cond.native ⟨"java/lang/Object", "clone", "()Ljava/lang/Object;"⟩ ∈ mj_tw := mj_tw_in (List.mem_of_getElem? (i := 983) (by decide +kernel)) rfl
theorem w_984 : Cond.instanceMethod ⟨"java/lang/Object", "clone", "()Ljava/lang/Object;"⟩ ∈ mj_tw := mj_tw_in (List.mem_of_getElem? (i := 984) (by decide +kernel)) rfl
theorem w_985 : Cond.selects "[I" ⟨"[I", "clone", "()Ljava/lang/Object;"⟩ ⟨"java/lang/Object", "clone", "()Ljava/lang/Object;"⟩ ∈ mj_tw := mj_tw_in (List.mem_of_getElem? (i := 985) (by decide +kernel)) rfl
theorem w_986 : Cond.castable "[I" "java/lang/Cloneable" ∈ lw_tbl := List.mem_of_getElem? (i := 986) (by decide +kernel)
theorem w_987 : Cond.classLink RJ7 317 "[I" ∈ mj_tw := mj_tw_in (List.mem_of_getElem? (i := 987) (by decide +kernel)) rfl
theorem w_989 : Cond.methodLink RJ7 150 arraycopyName ∈ mj_tw := mj_tw_in (List.mem_of_getElem? (i := 989) (by decide +kernel)) rfl
theorem w_990 : Cond.static arraycopyName ∈ mj_tw := mj_tw_in (List.mem_of_getElem? (i := 990) (by decide +kernel)) rfl
theorem w_991 : Cond.native arraycopyName ∈ mj_tw := mj_tw_in (List.mem_of_getElem? (i := 991) (by decide +kernel)) rfl
theorem w_113 : Cond.initialized "java/lang/System" ∈ mj_tw := mj_tw_in (List.mem_of_getElem? (i := 113) (by decide +kernel)) rfl
def mj_c1 (cc : ByteArray) (own : String) (G : mj_K) : Prop := ∀ (pc i : Nat) (L r : List Value) (a n : Nat) (f : Nat → Int32) (h : mj_H) (bc bs : Nat), decode cc pc = .ok (.invokevirtual i, 3) → Cond.methodLink own i ⟨"[I", "clone", "()Ljava/lang/Object;"⟩ ∈ mj_tw → h[a]? = some (.inl (.int, n, .inl f)) → r.length ≤ 4 → 1 ≤ bc → n ≤ bs → G (pc + 3) L (.ref h.length :: r) (h ++ [.inl (.int, n, .inl f)]) (bc - 1) (bs - n) → G pc L (.ref a :: r) h bc bs
def mj_c3 (cc : ByteArray) (own : String) (G : mj_K) : Prop := ∀ (pc i : Nat) (L r : List Value) (a n : Nat) (f : Nat → Int32) (h : mj_H) (bc bs : Nat), decode cc pc = .ok (.checkcast i, 3) → Cond.classLink own i "[I" ∈ mj_tw → h[a]? = some (.inl (.int, n, .inl f)) → G (pc + 3) L (.ref a :: r) h bc bs → G pc L (.ref a :: r) h bc bs
def mj_c5 (cc : ByteArray) (own : String) (G : mj_K) : Prop := ∀ (pc i : Nat) (L r : List Value) (a b n0 n1 : Nat) (f g : Nat → Int32) (sp dp n : Int32) (h : mj_H) (bc bs : Nat), decode cc pc = .ok (.invokestatic i, 3) → Cond.methodLink own i arraycopyName ∈ mj_tw → h[a]? = some (.inl (.int, n0, .inl f)) → h[b]? = some (.inl (.int, n1, .inl g)) → ¬ sp < 0 → ¬ dp < 0 → ¬ n < 0 → sp.toNatClampNeg + n.toNatClampNeg ≤ n0 → dp.toNatClampNeg + n.toNatClampNeg ≤ n1 → r.length ≤ 4 → G (pc + 3) L r (h.set b (.inl (.int, n1, .inl (va_cpy f g sp.toNatClampNeg dp.toNatClampNeg n.toNatClampNeg)))) bc bs → G pc L (.int n :: .int dp :: .ref b :: .int sp :: .ref a :: r) h bc bs
section CP
variable {p : Program} {l : Launch} {e : Env} {R : Room} {s : State} {m : MethodId} {args : Array Value} {below : List Frame} {meth : Method} {c : Code} {Q : State → Prop} {cc : ByteArray} {own : String} {ini : Bool} {lev : Nat} {D : va_G} {cA : FieldType → ClassId} {sd adK adV : Nat → Nat} {A : Nat → Prop} {n0 : Nat} {ad0 : Nat → Nat} {mc ms : Nat} {T : mj_T} {ret : Option Value → mj_H → Prop} {pc : Nat} {L st : List Value} {h : mj_H} {bc bs : Nat}
theorem mj_Go_c1 {Q2 : State → Prop} (hlev : 1 ≤ lev) (X : mj_Cx p l R s m args meth c cc own ini lev D cA sd adK adV A mc ms T) : mj_c1 cc own (mj_Go p l e R s m args below meth c Q2 D cA sd A n0 ad0 mc ms T.1) := by
  obtain ⟨hx, hb, hml, hown, hts, hK, hA, hX, hR, hin, hTF⟩ := X
  intro pc i L r a n f h bc bs hdg hlk hc h4 hbc hbs hg
  intro ad H locs cells slots ls e1 e2 e3 e4 e5 hP hD hS hl b1 b2
  have hm := mj_len4 (m := m) (pc := pc) (ad := ad) (sd := sd) (ls := ls) (g := []) h4
  have f1 : 1 ≤ R.frames := by rw [hR]; exact hlev
  have f2 : 40 ≤ R.locals := by rw [hR]; show 40 ≤ 40 * lev; omega
  have f5 : c.maxLocals = ls.size := by rw [hml]; first | exact hl.1 | exact hl.1.symm
  refine va_clone (x := (n, .inl f)) (ty := .int) (ad := "[I") hx hb f5 hown (hts _ hlk) (hts _ w_982) (hts _ w_983) (hts _ w_984) (hts _ w_985) (hX.1 _ w_986 rfl) hK.1 hP hD hS hA a 0 (mj_ws_at hc) rfl (hK.1.2 0 (cA .int, .int) rfl).2 ?_ f1 (by omega) (by rw [hR]; show _ ≤ mc; omega) (by rw [hR]; show slots + n ≤ ms; omega) hdg (fun q H1 hK1 hP hD hS => ?_)
  · intro i v hv
    exact va_fit (F := fun j => .int (f j)) (fun _ _ => rfl) i v hv
  · exact mj_push (dc := 1) hg e1 e2 (mj_tl e3) e4 e5 hl b1 b2 hbc hbs trivial hP hD hS
theorem mj_Go_c3 {Q2 : State → Prop} (X : mj_Cx p l R s m args meth c cc own ini lev D cA sd adK adV A mc ms T) : mj_c3 cc own (mj_Go p l e R s m args below meth c Q2 D cA sd A n0 ad0 mc ms T.1) := by
  obtain ⟨hx, hb, hml, hown, hts, hK, hA, hX, hR, hin, hTF⟩ := X
  intro pc i L r a n f h bc bs hdg hlk hc hg
  intro ad H locs cells slots ls e1 e2 e3 e4 e5 hP hD hS hl b1 b2
  exact va_castA hx hb hown (hts _ hlk) hP a (mj_ws_at hc) (hK.1.2 0 (cA .int, .int) rfl).2 hdg (hg ad H locs cells slots ls e1 e2 e3 e4 e5 hP hD hS hl b1 b2)
theorem mj_Go_c5 {Q2 : State → Prop} (hlev : 1 ≤ lev) (X : mj_Cx p l R s m args meth c cc own ini lev D cA sd adK adV A mc ms T) : mj_c5 cc own (mj_Go p l e R s m args below meth c Q2 D cA sd A n0 ad0 mc ms T.1) := by
  obtain ⟨hx, hb, hml, hown, hts, hK, hA, hX, hR, hin, hTF⟩ := X
  intro pc i L r a b n0' n1 f g sp dp n h bc bs hdg hlk hca hcb h1 h2 h3 h4 h5 hlen hg
  intro ad H locs cells slots ls e1 e2 e3 e4 e5 hP hD hS hl b1 b2
  have hm := mj_len4 (m := m) (pc := pc) (ad := ad) (sd := sd) (ls := ls) (g := []) hlen
  have f1 : 1 ≤ R.frames := by rw [hR]; exact hlev
  have f2 : 40 ≤ R.locals := by rw [hR]; show 40 ≤ 40 * lev; omega
  have f5 : c.maxLocals = ls.size := by rw [hml]; first | exact hl.1 | exact hl.1.symm
  have hnw : nativeFrameWords "java/lang/System" "arraycopy" 5 + 11 ≤ 32 := by decide
  refine va_copyi (ty := .int) hx hb f5 hown (hts _ hlk) (hts _ w_991) (hts _ w_990) (hts _ w_113) hK.1 hP hD hS a b 0 0 (mj_ws_at hca) (mj_ws_at hcb) rfl rfl rfl h1 h2 h3 h4 h5 (fun _ _ => rfl) f1 (by omega) hdg (fun H1 locs1 hP hD hS => ?_)
  have hq : ((mj_ws cA ad sd h).set b (ad b, .inl (cA .int, n1, .inl (va_cpy f g sp.toNatClampNeg dp.toNatClampNeg n.toNatClampNeg)))) = mj_ws cA ad sd (h.set b (.inl (.int, n1, .inl (va_cpy f g sp.toNatClampNeg dp.toNatClampNeg n.toNatClampNeg)))) := by
    rw [← mj_ws_set]
    rfl
  have hP : va_P D vwCl ((mj_ws cA ad sd h).set b (ad b, .inl (cA .int, n1, .inl (va_cpy f g sp.toNatClampNeg dp.toNatClampNeg n.toNatClampNeg)))) H1 := hP
  have hD : va_D A ((mj_ws cA ad sd h).set b (ad b, .inl (cA .int, n1, .inl (va_cpy f g sp.toNatClampNeg dp.toNatClampNeg n.toNatClampNeg)))) := hD
  rw [hq] at hP hD
  exact hg ad H1 locs1 cells slots ls e1 (by rw [List.length_set]; exact e2) (by rw [List.length_set]; exact mj_tl (mj_tl (mj_tl (mj_tl (mj_tl e3))))) (by rw [List.length_set]; exact e4) (by rw [List.length_set]; exact mj_scs e5 trivial) hP hD hS hl b1 b2
end CP
