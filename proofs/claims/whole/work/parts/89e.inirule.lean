/-! constructors: Object.<init>, and the rows of a constructor: a field made, given, filled -/
theorem w_125 : Cond.instanceMethod Lib.objectInit ∈ mj_tw := mj_tw_in (List.mem_of_getElem? (i := 125) (by decide +kernel)) rfl
theorem w_126 : Cond.code Lib.objectInit ⟨#[0xb1]⟩ 1 none ∈ mj_tw := mj_tw_in (List.mem_of_getElem? (i := 126) rfl) rfl
def mj_ob (cc : ByteArray) (own : String) (G : mj_K) : Prop := ∀ (pc i : Nat) (L : List Value) (a : Nat) (h : mj_H) (bc bs : Nat), decode cc pc = .ok (.invokespecial i, 3) → Cond.methodLink own i Lib.objectInit ∈ mj_tw → G (pc + 3) L [] h bc bs → G pc L [.ref a] h bc bs
section OB
variable {p : Program} {l : Launch} {e : Env} {R : Room} {s : State} {m : MethodId} {args : Array Value} {below : List Frame} {meth : Method} {c : Code} {Q : State → Prop} {cc : ByteArray} {own : String} {ini : Bool} {lev : Nat} {D : va_G} {cA : FieldType → ClassId} {sd adK adV : Nat → Nat} {A : Nat → Prop} {n0 : Nat} {ad0 : Nat → Nat} {mc ms : Nat} {T : mj_T} {ret : Option Value → mj_H → Prop} {pc : Nat} {L st : List Value} {h : mj_H} {bc bs : Nat}
theorem mj_Go_ob {Q2 : State → Prop} (hlev : 1 ≤ lev) (X : mj_Cx p l R s m args meth c cc own ini lev D cA sd adK adV A mc ms T) : mj_ob cc own (mj_Go p l e R s m args below meth c Q2 D cA sd A n0 ad0 mc ms T.1) := by
  obtain ⟨hx, hb, hml, hown, hts, hK, hA, hX, hR, hin, hTF⟩ := X
  intro pc i L a h bc bs hdg hlk hg
  intro ad H locs cells slots ls e1 e2 e3 e4 e5 hP hD hS hl b1 b2
  have f1 : 1 ≤ R.frames := by rw [hR]; exact hlev
  have f2 : 40 ≤ R.locals := by rw [hR]; show 40 ≤ 40 * lev; omega
  have f5 : ls.size = c.maxLocals := by rw [hml]; first | exact hl.1 | exact hl.1.symm
  have hm := mj_len4 (m := m) (pc := pc) (ad := ad) (sd := sd) (ls := ls) (g := [Value.ref a].map (mj_tv ad sd)) (rest := []) (Nat.zero_le 4)
  exact W.objInit hx hb hown (idx := i) (hts _ hlk) (hts _ w_125) (hts _ w_126) rfl f5 rfl hdg f1 (Nat.le_trans (Nat.add_le_add_right hm 12) (by omega)) (hg ad H locs cells slots ls e1 e2 (fun v hv => by cases hv) e4 e5 hP hD hS hl b1 b2)
theorem mj_body7 {y : MethodName} {cc : ByteArray} {maxL : Nat} {rt : Option FieldType} {cs : mj_S} (ini : Bool) (T : mj_T) (hlev : 1 ≤ lev) (hy : plainName y.cls = true) (hT : T.1 = maxL) (hr : T.2.1 = rt) (hini : ini = true → y.name = "<init>") (hTF : mj_TF l y.cls ini lev T)
    (hmain : ∀ (as : List Value) (h : mj_H) (k : Option Value → mj_H → Prop), cs as h k → mj_aok maxL as = true ∧ ∀ G : mj_K, mj_cl2 cc T k G → mj_ob cc y.cls G → G 0 (mj_al as) [] h mc ms) : mj_Met l y cc maxL rt lev mc ms cs := by
  intro D cA sd adK adV ad as h k sz hc
  subst hT; subst hr
  refine Met.ofW (cc := cc) (maxL := T.1) (ret := T.2.1) hy rfl ?_
  intro p e s m args below meth c s₁ B hml hv
  obtain ⟨rfl, hsz, ⟨hP, hK, hD0, h5⟩, hX, hsv⟩ := hv
  have hts : ∀ w ∈ mj_tw, w.before (as.map (mj_tv ad sd)).toArray s = true := fun w hw => atoms_spec (ws := Cond.code y cc T.1 T.2.1 :: mj_tw) B.pre w (List.mem_cons_of_mem _ hw)
  have hown : s.vm.findClass y.cls = some m.cls := findClass_of_methodNamed B.named
  subst hsz
  obtain ⟨hok, hG⟩ := hmain as h k hc
  unfold mj_aok at hok
  rw [Bool.and_eq_true, decide_eq_true_eq] at hok
  have hkn : ∀ v ∈ as, mj_kn v = true ∧ ∀ x, v ≠ .double x := by
    intro v hv
    have := List.all_eq_true.mp hok.2 v hv
    rw [Bool.and_eq_true] at this
    refine ⟨this.1, fun x hx => ?_⟩
    rw [hx] at this
    exact Bool.false_ne_true this.2
  have hlen := mj_al_len ad sd as hkn
  have hl := lv_entry (as.map (mj_tv ad sd)) (n := T.1) (by rw [hlen]; exact hok.1)
  have X : mj_Cx p l (headSpec (Cond.code y cc T.1 T.2.1 :: mj_tw) (mj_rm lev mc ms)).room s m (as.map (mj_tv ad sd)).toArray meth c cc y.cls ini lev D cA sd adK adV (va_A (mj_ws cA ad sd h) s.heap.size) mc ms T :=
    ⟨B.exec, B.bytes, hml, hown, hts, hK, fun q hq => Or.inr hq, hX, rfl, fun hi => (name_of_methodNamed B.named B.method).1.trans (hini hi), hTF⟩
  have h9 := hG (mj_Go p l e (headSpec (Cond.code y cc T.1 T.2.1 :: mj_tw) (mj_rm lev mc ms)).room s m (as.map (mj_tv ad sd)).toArray below meth c (MQ below (mj_Q D cA sd ad h k (va_A (mj_ws cA ad sd h) s.heap.size)) (as.map (mj_tv ad sd)).toArray s mc ms (va_A (mj_ws cA ad sd h) s.heap.size)) D cA sd (va_A (mj_ws cA ad sd h) s.heap.size) h.length ad mc ms T.1)
    ⟨fun K hKG pc L st h' bc bs hI => mj_true hKG B.returns B.notSynchronized X hI, fun _ _ _ _ _ _ _ _ _ hw h1 h2 hg => mj_Go_wk hw h1 h2 hg⟩ (mj_Go_ob hlev X)
  rw [lg_entry_eq]
  refine h9 ad s.heap [] 0 0 _ (fun _ _ => rfl) (Nat.le_refl _) (fun v hv => by cases hv) (fun v hv => ?_) h5 hP hD0.self va_S.rf (mj_lv_mono hl (mj_al_lm ad sd as 0 hkn)) (by omega) (by omega)
  have hgo : ∀ x : List Value, (∀ v ∈ x, mj_sv h.length v) → ∀ v ∈ mj_al x, mj_sv h.length v := by
    intro x
    induction x with
    | nil => intro _ v hv; cases hv
    | cons w x ih =>
      intro hx v hv
      have ih := ih (fun v hv => hx v (List.mem_cons_of_mem _ hv))
      have hw := hx w List.mem_cons_self
      cases w <;> simp only [mj_al, List.mem_cons] at hv <;> first
        | (rcases hv with rfl | rfl | hv
           · exact trivial
           · exact trivial
           · exact ih v hv)
        | (rcases hv with rfl | hv
           · exact hw
           · exact ih v hv)
  exact hgo as hsv v hv
end OB
/-! the rows -/
section IN
variable {cc : ByteArray} {T : mj_T} {k : Option Value → mj_H → Prop} {G : mj_K}
theorem st_of {K : mj_K} {pc n : Nat} {L st : List Value} {h : mj_H} {bc bs : Nat} {i : Instr} (hd : decode cc pc = .ok (i, n)) (hn : n = mj_len i) (hi : mj_I T k K pc L st h bc bs i) : mj_step cc T k K pc L st h bc bs := by
  unfold mj_step
  rw [hd]
  exact ⟨Or.inr hn, hi⟩
theorem go_of (hG : mj_cl cc T k G) {pc : Nat} {L st : List Value} {h : mj_H} {bc bs : Nat} (hi : mj_step cc T k G pc L st h bc bs) : G pc L st h bc bs := hG G (fun _ _ _ _ _ _ z => z) _ _ _ _ _ _ hi
/-- a number pushed -/
def PSH (cc : ByteArray) (pc : Nat) (x : Int32) (pc2 : Nat) : Prop := (∃ v, decode cc pc = .ok (.iconst v, 1) ∧ x = Int32.ofInt v ∧ pc2 = pc + 1) ∨ (∃ v, decode cc pc = .ok (.bipush v, 2) ∧ x = (Int8.ofInt v).toInt32 ∧ pc2 = pc + 2) ∨ (∃ v, decode cc pc = .ok (.sipush v, 3) ∧ x = (Int16.ofInt v).toInt32 ∧ pc2 = pc + 3)
theorem in_psh (hG : mj_cl cc T k G) {pc pc2 : Nat} {x : Int32} {L st : List Value} {h : mj_H} {bc bs : Nat} (hp : PSH cc pc x pc2) (g : G pc2 L (.int x :: st) h bc bs) : G pc L st h bc bs := by
  rcases hp with ⟨v, d, rfl, rfl⟩ | ⟨v, d, rfl, rfl⟩ | ⟨v, d, rfl, rfl⟩
  · exact go_of hG (st_of d rfl g)
  · exact go_of hG (st_of d rfl g)
  · exact go_of hG (st_of d rfl g)
theorem in_this (hG : mj_cl cc T k G) {pc a : Nat} {L st : List Value} {h : mj_H} {bc bs : Nat} (d0 : decode cc pc = .ok (.aload_n 0, 1)) (hL : L[0]? = some (.ref a)) (g : G (pc + 1) L (.ref a :: st) h bc bs) : G pc L st h bc bs := by
  refine go_of hG (st_of d0 rfl ?_)
  show (match (generalizing := false) (L[0]? : Option Value) with
    | some (.ref x) => G (pc + 1) L (.ref x :: st) h bc bs
    | some .null => G (pc + 1) L (.null :: st) h bc bs
    | _ => False)
  rw [hL]
  exact g
/-- the state of a constructor: the object's fields, and what lies behind it -/
abbrev iQ : Type := List Value × List mj_C
def iH (pre : mj_H) (ci : Nat) (q : iQ) : mj_H := pre ++ (.inr (ci, q.1) :: q.2)
def iN (a kk : Nat) (c : mj_C) (q : iQ) : iQ := (q.1.set kk (.ref (a + 1 + q.2.length)), q.2 ++ [c])
def iR (kk r : Nat) (q : iQ) : iQ := (q.1.set kk (.ref r), q.2)
def iF (j : Nat) (c : mj_C) (q : iQ) : iQ := (q.1, q.2.set j c)
theorem iH_at {pre : mj_H} {ci : Nat} {q : iQ} {a : Nat} (hp : pre.length = a) : (iH pre ci q)[a]? = some (.inr (ci, q.1)) := by
  subst hp
  unfold iH
  rw [List.getElem?_append_right (Nat.le_refl _), Nat.sub_self]
  rfl
theorem iH_len {pre : mj_H} {ci : Nat} {q : iQ} {a : Nat} (hp : pre.length = a) : (iH pre ci q).length = a + 1 + q.2.length := by
  unfold iH
  rw [List.length_append, List.length_cons]
  omega
theorem iH_set {pre : mj_H} {ci : Nat} {q : iQ} {a : Nat} (hp : pre.length = a) (fs : List Value) : (iH pre ci q).set a (.inr (ci, fs)) = iH pre ci (fs, q.2) := by
  subst hp
  unfold iH
  rw [List.set_append_right _ _ (Nat.le_refl _), Nat.sub_self]
  rfl
theorem iH_at2 {pre : mj_H} {ci : Nat} {q : iQ} {a j : Nat} {c : mj_C} (hp : pre.length = a) (hj : q.2[j]? = some c) : (iH pre ci q)[a + 1 + j]? = some c := by
  subst hp
  unfold iH
  rw [List.getElem?_append_right (by omega), show pre.length + 1 + j - pre.length = j + 1 by omega]
  exact hj
theorem iH_set2 {pre : mj_H} {ci : Nat} {q : iQ} {a j : Nat} (hp : pre.length = a) (c : mj_C) : (iH pre ci q).set (a + 1 + j) c = iH pre ci (iF j c q) := by
  subst hp
  unfold iH iF
  rw [List.set_append_right _ _ (by omega), show pre.length + 1 + j - pre.length = j + 1 by omega]
  rfl
theorem iH_push {pre : mj_H} {ci : Nat} {q : iQ} (c : mj_C) : iH pre ci q ++ [c] = iH pre ci (q.1, q.2 ++ [c]) := by
  unfold iH
  rw [List.append_assoc]
  rfl
/-- putfield of a reference into the object -/
theorem in_put (hG : mj_cl cc T k G) {pc i ci kk a r : Nat} {L : List Value} {pre : mj_H} {q : iQ} {bc bs : Nat} (hp : pre.length = a) (d : decode cc pc = .ok (.putfield i, 3)) (hT : T.2.2.2.1 i = some (ci, kk, false)) (hk : kk < q.1.length) (g : G (pc + 3) L [] (iH pre ci (iR kk r q)) bc bs) : G pc L [.ref r, .ref a] (iH pre ci q) bc bs := by
  refine go_of hG (st_of d rfl ?_)
  rw [mj_E_putfield_i, hT]
  try dsimp only
  rw [iH_at hp]
  refine ⟨rfl, hk, ?_⟩
  rw [iH_set hp]
  exact g
/-- this.f = new int[n] -/
theorem in_arr (hG : mj_cl cc T k G) {pc pc2 i ci kk a n : Nat} {x : Int32} {ty : ArrayType} {fty : FieldType} {L : List Value} {pre : mj_H} {q : iQ} {bc bs : Nat} (hp : pre.length = a) (hL : L[0]? = some (.ref a)) (d0 : decode cc pc = .ok (.aload_n 0, 1)) (d1 : PSH cc (pc + 1) x pc2) (d2 : decode cc pc2 = .ok (.newarray ty, 2)) (d3 : decode cc (pc2 + 2) = .ok (.putfield i, 3)) (hT : T.2.2.2.1 i = some (ci, kk, false)) (hx : decide (¬ x < 0 ∧ x.toNatClampNeg = n ∧ n ≤ 100000) = true) (hty : (ty = .int ∧ fty = .int) ∨ (ty = .boolean ∧ fty = .boolean)) (hk : kk < q.1.length) (h1 : 1 ≤ bc) (h2 : n ≤ bs) (g : G (pc2 + 5) L [] (iH pre ci (iN a kk (.inl (fty, n, .inl (fun _ => 0))) q)) (bc - 1) (bs - n)) : G pc L [] (iH pre ci q) bc bs := by
  obtain ⟨x1, x2, x3⟩ := of_decide_eq_true hx
  refine in_this hG d0 hL (in_psh hG d1 (go_of hG (st_of d2 rfl ?_)))
  rw [mj_E_newarray_ty]
  try dsimp only
  have key : G (pc2 + 2) L [.ref (iH pre ci q).length, .ref a] (iH pre ci q ++ [.inl (fty, n, .inl (fun _ => 0))]) (bc - 1) (bs - n) := by
    rw [iH_push, iH_len hp]
    exact in_put hG (q := (q.1, q.2 ++ [_])) hp d3 hT hk g
  refine ⟨x1, by rw [x2]; exact x3, h1, by rw [x2]; exact h2, ?_⟩
  rw [x2]
  rcases hty with ⟨rfl, rfl⟩ | ⟨rfl, rfl⟩
  · exact key
  · exact key
/-- this.f = new int[n][] -/
theorem in_anew (hG : mj_cl cc T k G) {pc pc2 i j ci kk a n : Nat} {x : Int32} {L : List Value} {pre : mj_H} {q : iQ} {bc bs : Nat} (hp : pre.length = a) (hL : L[0]? = some (.ref a)) (d0 : decode cc pc = .ok (.aload_n 0, 1)) (d1 : PSH cc (pc + 1) x pc2) (d2 : decode cc pc2 = .ok (.anewarray j, 3)) (d3 : decode cc (pc2 + 3) = .ok (.putfield i, 3)) (hj : T.2.2.2.2.2.2.1 j = some 99) (hT : T.2.2.2.1 i = some (ci, kk, false)) (hx : decide (¬ x < 0 ∧ x.toNatClampNeg = n ∧ n ≤ 100000) = true) (hk : kk < q.1.length) (h1 : 1 ≤ bc) (h2 : n ≤ bs) (g : G (pc2 + 6) L [] (iH pre ci (iN a kk (.inl (.array .int, n, .inr (.inr (.inr (.inr (fun _ => none)))))) q)) (bc - 1) (bs - n)) : G pc L [] (iH pre ci q) bc bs := by
  obtain ⟨x1, x2, x3⟩ := of_decide_eq_true hx
  refine in_this hG d0 hL (in_psh hG d1 (go_of hG (st_of d2 rfl ?_)))
  rw [mj_E_anewarray_i, hj]
  try dsimp only
  refine ⟨x1, by rw [x2]; exact x3, h1, by rw [x2]; exact h2, ?_⟩
  rw [x2, iH_push, iH_len hp]
  exact in_put hG (q := (q.1, q.2 ++ [_])) hp d3 hT hk g
/-- this.f = an argument -/
theorem in_arg (hG : mj_cl cc T k G) {pc pc2 i ci kk a r z : Nat} {L : List Value} {pre : mj_H} {q : iQ} {bc bs : Nat} (hp : pre.length = a) (hL : L[0]? = some (.ref a)) (d0 : decode cc pc = .ok (.aload_n 0, 1)) (d1 : (∃ kf : Fin 4, decode cc (pc + 1) = .ok (.aload_n kf, 1) ∧ kf.val = z ∧ pc2 = pc + 2) ∨ (decode cc (pc + 1) = .ok (.aload z, 2) ∧ pc2 = pc + 3)) (hz : L[z]? = some (.ref r)) (d3 : decode cc pc2 = .ok (.putfield i, 3)) (hT : T.2.2.2.1 i = some (ci, kk, false)) (hk : kk < q.1.length) (g : G (pc2 + 3) L [] (iH pre ci (iR kk r q)) bc bs) : G pc L [] (iH pre ci q) bc bs := by
  refine in_this hG d0 hL ?_
  have key := in_put hG hp d3 hT hk g
  rcases d1 with ⟨kf, d1, rfl, rfl⟩ | ⟨d1, rfl⟩
  · refine go_of hG (st_of d1 rfl ?_)
    show (match (generalizing := false) (L[kf.val]? : Option Value) with
      | some (.ref x) => G (pc + 1 + 1) L (.ref x :: [.ref a]) (iH pre ci q) bc bs
      | some .null => G (pc + 1 + 1) L (.null :: [.ref a]) (iH pre ci q) bc bs
      | _ => False)
    rw [hz]
    exact key
  · refine go_of hG (st_of d1 rfl ?_)
    show (match (generalizing := false) (L[z]? : Option Value) with
      | some (.ref x) => G (pc + 1 + 2) L (.ref x :: [.ref a]) (iH pre ci q) bc bs
      | some .null => G (pc + 1 + 2) L (.null :: [.ref a]) (iH pre ci q) bc bs
      | _ => False)
    rw [hz]
    exact key
/-- this.f read -/
theorem in_get (hG : mj_cl cc T k G) {pc i ci kk a : Nat} {v : Value} {L st : List Value} {pre : mj_H} {q : iQ} {bc bs : Nat} (hp : pre.length = a) (hL : L[0]? = some (.ref a)) (d0 : decode cc pc = .ok (.aload_n 0, 1)) (d1 : decode cc (pc + 1) = .ok (.getfield i, 3)) (hT : T.2.2.1 i = some (ci, kk)) (hv : q.1[kk]? = some v) (g : G (pc + 4) L (v :: st) (iH pre ci q) bc bs) : G pc L st (iH pre ci q) bc bs := by
  refine in_this hG d0 hL (go_of hG (st_of d1 rfl ?_))
  rw [mj_E_getfield_i, hT]
  try dsimp only
  rw [iH_at hp]
  refine ⟨rfl, ?_⟩
  rw [hv]
  exact g
/-- Arrays.fill(this.f, v) -/
theorem in_fill (hG : mj_cl cc T k G) {pc pc2 i j ci kk a n t : Nat} {x : Int32} {f : Nat → Int32} {L : List Value} {pre : mj_H} {q : iQ} {bc bs : Nat} (hp : pre.length = a) (hL : L[0]? = some (.ref a)) (d0 : decode cc pc = .ok (.aload_n 0, 1)) (d1 : decode cc (pc + 1) = .ok (.getfield i, 3)) (d2 : PSH cc (pc + 4) x pc2) (d3 : decode cc pc2 = .ok (.invokestatic j, 3)) (hT : T.2.2.1 i = some (ci, kk)) (hj : T.2.2.2.2.2.2.2 j = some (2, 2, 99, 0, 0, c_fill)) (hv : q.1[kk]? = some (.ref (a + 1 + t))) (ht : q.2[t]? = some (.inl (.int, n, .inl f))) (hn : n ≤ 100000) (g : G (pc2 + 3) L [] (iH pre ci (iF t (.inl (.int, n, .inl (flf f n x))) q)) bc bs) : G pc L [] (iH pre ci q) bc bs := by
  refine in_get hG hp hL d0 d1 hT hv (in_psh hG d2 (go_of hG (st_of d3 rfl ?_)))
  rw [mj_E_invokestatic_i, hj]
  try dsimp only
  refine ⟨Or.inl rfl, Nat.le_refl 2, Nat.zero_le 4, Nat.zero_le _, Nat.zero_le _, ?_⟩
  refine c_fill_in (iH_at2 hp ht) hn ?_
  rw [iH_set2 hp]
  exact g
theorem in_ret (hG : mj_cl cc T k G) {pc : Nat} {L : List Value} {h : mj_H} {bc bs : Nat} (d : decode cc pc = .ok (.return_, 1)) (hT : T.2.1 = none) (g : k none h) : G pc L [] h bc bs := go_of hG (st_of d rfl ⟨hT, g⟩)
end IN
