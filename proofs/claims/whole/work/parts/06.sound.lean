/-! what holds around a walked method, and that mj_I tells the truth -/
def mj_rm (lev mc ms : Nat) : Room := { frames := lev, cells := mc, slots := ms, locals := 40 * lev }
def mj_tys (cA : FieldType → ClassId) : List (ClassId × FieldType) := [(cA .int, .int), (cA .boolean, .boolean), (cA (.array .int), .array .int)]
def mj_Ky (D : va_G) (cA : FieldType → ClassId) (U : State) : Prop := va_K D vwCl (mj_tys cA) U ∧ ∃ kA : Class, U.vm.classes[cA (.array .int)]? = some kA ∧ kA.kind = .array (cA .int) (.array .int)
theorem mj_Ky.moved {D : va_G} {cA : FieldType → ClassId} {u U : State} (hvm : u.vm.Alike U.vm) (h : mj_Ky D cA u) : mj_Ky D cA U := by
  obtain ⟨h1, kA, h2, h3⟩ := h
  obtain ⟨k', hk', he⟩ := hvm.2.2 _ _ h2
  exact ⟨h1.moved hvm, k', hk', by rw [he]; exact h3⟩
def mj_nw : Cond → Bool
  | .fieldLinkNest .. => true
  | .methodLinkNest .. => true
  | .castable .. => true
  | _ => false
def mj_AO (U : State) : Prop := (Cond.arrayOver (.array .int)).before #[] U = true
theorem mj_AO.moved {u U : State} (hvm : u.vm.Alike U.vm) (h : mj_AO u) : mj_AO U := by
  obtain ⟨comp, c, k, h1, h2, h3, h4, h5⟩ := arrayOverA_spec h
  obtain ⟨k', hk', he⟩ := hvm.2.2 _ _ h3
  have hi := (hvm.findIdx?_eq _ (fun _ => rfl)).trans h2
  have hkind : k'.kind = .array comp (.array .int) := by rw [he]; exact h4
  have f1 : U.vm.findClass (FieldType.array .int).toString = some comp := by rw [hvm.findClass]; exact h1
  have f2 : U.vm.findClass ("[" ++ (FieldType.array .int).toString) = some c := by rw [hvm.findClass]; exact h5
  unfold mj_AO Cond.before Cond.holds
  simp only [Cond.value]
  rw [f1, Option.bind_some]
  refine (congrArg (fun o : Option Nat => (o.bind (fun c => (U.vm.classes[c]?).map fun (k : Class) => match k.kind with | .array _ ty => decide (ty = FieldType.array .int) && decide (U.vm.findClass ("[" ++ (FieldType.array .int).toString) = some c) | _ => false) == some true)) hi).trans ?_
  simp [hk', hkind, f2]
def mj_St (sd : Nat → Nat) (A : Nat → Prop) (U : State) (H : Heap) : Prop := ∀ i, i < 3 → va_Z (mj_stn i).1 (mj_stn i).2 "[I" (.ref (sd i)) A U H ∧ ∀ n f, mj_stat i = some (n, f) → va_T .int (sd i) n (fun j => .int (f j)) A U H
/-- what every method carries beside the tables' words: nest words, the arrays of arrays, the static arrays, the String constant -/
def mj_X (sd adK adV : Nat → Nat) (A : Nat → Prop) (U : State) (H : Heap) : Prop := (∀ w ∈ lw_tbl, mj_nw w = true → va_Nw w U) ∧ mj_AO U ∧ mj_St sd A U H ∧ vk_R "EveryChildModel" 433 "whstvcf" (adK 0) U ∧ vk_S 1 [7] [[119, 104, 115, 116, 118, 99, 102]] adK adV A U H
theorem mj_X.go {sd adK adV : Nat → Nat} {A A1 : Nat → Prop} {s U : State} {H : Heap} {locs : List Loc} (h : mj_X sd adK adV A s s.heap) (hW : s.WarmedH U.vm) (hS : va_S A s.heap H locs) (hU : U.heap = H) (hA : ∀ q, A1 q → A q) : mj_X sd adK adV A1 U U.heap := by
  subst hU
  obtain ⟨h1, h2, h3, h4, h5⟩ := h
  refine ⟨fun w hw hn => ?_, h2.moved hW.alike, fun i hi => ⟨((((h3 i hi).1).kept hS.2.1).moved hW.alike).narrow hA, fun n f hf => ((((h3 i hi).2 n f hf).kept hS.2.1).moved hW.alike).narrow hA⟩, h4.warm hW, ((h5.kept hS.2.1).moved hW.alike).narrow hA⟩
  have h6 := h1 w hw hn
  cases w <;> first | exact va_Nw.warmF hW h6 | exact va_Nw.warmM hW h6 | exact va_Nw.warmC hW h6 | exact (Bool.false_ne_true hn).elim
theorem mj_X.same {sd adK adV : Nat → Nat} {A : Nat → Prop} {u U : State} {H : Heap} (hv : u.vm = U.vm) (h : mj_X sd adK adV A u H) : mj_X sd adK adV A U H := by
  have hal : u.vm.Alike U.vm := hv ▸ Vm.Alike.refl u.vm
  obtain ⟨h1, h2, h3, h4, h5⟩ := h
  refine ⟨fun w hw hn => ?_, h2.moved hal, fun i hi => ⟨((h3 i hi).1).moved hal, fun n f hf => ((h3 i hi).2 n f hf).moved hal⟩, vk_R.same hv.symm h4, h5.moved hal⟩
  have h6 := h1 w hw hn
  cases w <;> first | exact va_Nw.same rfl hv h6 | exact (Bool.false_ne_true hn).elim
def mj_World (D : va_G) (cA : FieldType → ClassId) (sd ad : Nat → Nat) (h : mj_H) (A : Nat → Prop) (U : State) : Prop := va_P D vwCl (mj_ws cA ad sd h) U.heap ∧ mj_Ky D cA U ∧ va_D A (mj_ws cA ad sd h) ∧ ∀ q ∈ h, mj_sc h.length q
def mj_Q (D : va_G) (cA : FieldType → ClassId) (sd ad : Nat → Nat) (h : mj_H) (k : Option Value → mj_H → Prop) (A : Nat → Prop) : Array Value → State → Outcome → State → Prop := fun _ st o t =>
  (∃ (r : Option Value) (h' : mj_H) (ad' : Nat → Nat), o = .returned (r.map (mj_tv ad' sd)) ∧ k r h' ∧ (∀ j, j < h.length → ad' j = ad j) ∧ h.length ≤ h'.length ∧ (∀ v, r = some v → mj_sv h'.length v) ∧ mj_World D cA sd ad' h' A t) ∧ va_F A st t
/-- a method keeps its contract -/
def mj_Met (l : Launch) (y : MethodName) (bytes : ByteArray) (maxL : Nat) (rt : Option FieldType) (lev mc ms : Nat) (cs : mj_S) : Prop :=
  ∀ (D : va_G) (cA : FieldType → ClassId) (sd adK adV ad : Nat → Nat) (as : List Value) (h : mj_H) (k : Option Value → mj_H → Prop) (sz : Nat), cs as h k →
    Met l y (Cond.code y bytes maxL rt :: mj_tw) (mj_rm lev mc ms) (va_Pc (as.map (mj_tv ad sd)) (fun U => U.heap.size = sz ∧ mj_World D cA sd ad h (fun _ => True) U ∧ mj_X sd adK adV (va_A (mj_ws cA ad sd h) sz) U U.heap ∧ ∀ v ∈ as, mj_sv h.length v)) (mj_Q D cA sd ad h k (va_A (mj_ws cA ad sd h) sz)) mc ms (va_A (mj_ws cA ad sd h) sz)
def mj_GF (own : String) (i k : Nat) : Prop := (mj_stn k).1 = own ∧ Cond.fieldLink own i own (mj_stn k).2 "[I" ∈ mj_tw
def mj_NF (own : String) (i ci : Nat) : Prop := (ci = 99 ∧ Cond.classLink own i "[I" ∈ mj_tw) ∨ ∃ (C : String) (Tt : u_T) (N : Nat), vwCl[ci]? = some (C, Tt, N) ∧ Cond.classLink own i C ∈ mj_tw ∧ Cond.instantiable C N ∈ mj_tw ∧ Cond.initialized C ∈ mj_tw
/-- what a call's pool entry means -/
def mj_CF (l : Launch) (own : String) (lev i : Nat) (q : mj_Cs) : Prop := ∃ (y : MethodName) (bytes : ByteArray) (maxL : Nat) (rt : Option FieldType) (lev' na : Nat), mj_Met l y bytes maxL rt lev' q.2.2.2.1 q.2.2.2.2.1 q.2.2.2.2.2 ∧ lev' < lev ∧ maxL ≤ 21 ∧ Cond.code y bytes maxL rt ∈ lw_tbl ∧ Cond.initialized y.cls ∈ mj_tw ∧ (y.cls ≠ "java/lang/invoke/MethodHandle" ∧ y.cls ≠ "java/lang/invoke/VarHandle" ∧ (parseMethodDescriptor y.desc).map (fun d => d.parameters.length) = some na) ∧
  ((q.1 = 0 ∧ q.2.1 = na + 1 ∧ Cond.methodLink own i y ∈ mj_tw ∧ Cond.instanceMethod y ∈ mj_tw ∧ Cond.selects y.cls y y ∈ mj_tw ∧ ∃ (Tt : u_T) (N : Nat), vwCl[q.2.2.1]? = some (y.cls, Tt, N)) ∨
   (q.1 = 1 ∧ q.2.1 = na + 1 ∧ (∃ host : String, Cond.methodLinkNest own i y host ∈ lw_tbl) ∧ Cond.instanceMethod y ∈ mj_tw ∧ Cond.selects y.cls y y ∈ mj_tw ∧ ∃ (Tt : u_T) (N : Nat), vwCl[q.2.2.1]? = some (y.cls, Tt, N)) ∨
   (q.1 = 2 ∧ q.2.1 = na ∧ Cond.methodLink own i y ∈ mj_tw ∧ Cond.static y ∈ mj_tw) ∨
   (q.1 = 3 ∧ q.2.1 = na ∧ (∃ host : String, Cond.methodLinkNest own i y host ∈ lw_tbl) ∧ Cond.static y ∈ mj_tw) ∨
   (q.1 = 4 ∧ q.2.1 = na + 1 ∧ Cond.methodLink own i y ∈ mj_tw ∧ Cond.instanceMethod y ∈ mj_tw ∧ y.name = "<init>" ∧ rt = none) ∨
   (q.1 = 5 ∧ q.2.1 = na + 1 ∧ (∃ host : String, Cond.methodLinkNest own i y host ∈ lw_tbl) ∧ Cond.instanceMethod y ∈ mj_tw ∧ y.name = "<init>" ∧ rt = none))
def mj_TF (l : Launch) (own : String) (ini : Bool) (lev : Nat) (T : mj_T) : Prop :=
  (∀ i ci k, T.2.2.1 i = some (ci, k) → mj_FF own i ci k) ∧ (∀ i ci k b, T.2.2.2.1 i = some (ci, k, b) → mj_PF own ini i ci k b) ∧ (∀ i v, T.2.2.2.2.1 i = some v → mj_KF own i v) ∧ (∀ i k, T.2.2.2.2.2.1 i = some k → mj_GF own i k) ∧ (∀ i ci, T.2.2.2.2.2.2.1 i = some ci → mj_NF own i ci) ∧ ∀ i q, T.2.2.2.2.2.2.2 i = some q → mj_CF l own lev i q
def mj_Cx (p : Program) (l : Launch) (R : Room) (s : State) (m : MethodId) (args : Array Value) (meth : Method) (c : Code) (cc : ByteArray) (own : String) (ini : Bool) (lev : Nat) (D : va_G) (cA : FieldType → ClassId) (sd adK adV : Nat → Nat) (A : Nat → Prop) (mc ms : Nat) (T : mj_T) : Prop :=
  p.tables.exec = Jvm.exec ∧ c.code = cc ∧ c.maxLocals = T.1 ∧ s.vm.findClass own = some m.cls ∧ (∀ w ∈ mj_tw, w.before args s = true) ∧ mj_Ky D cA s ∧ (∀ q, s.heap.size ≤ q → A q) ∧ mj_X sd adK adV A s s.heap ∧ R = mj_rm lev mc ms ∧ (ini = true → meth.name = "<init>") ∧ mj_TF l own ini lev T
/-- at this place of the walk the machine goes on well -/
def mj_Go (p : Program) (l : Launch) (e : Env) (R : Room) (s : State) (m : MethodId) (args : Array Value) (below : List Frame) (meth : Method) (c : Code) (Q : State → Prop) (D : va_G) (cA : FieldType → ClassId) (sd : Nat → Nat) (A : Nat → Prop) (n0 : Nat) (ad0 : Nat → Nat) (mc ms nL : Nat) : mj_K := fun pc L st h bc bs =>
  ∀ (ad : Nat → Nat) (H : Heap) (locs : List Loc) (cells slots : Nat) (ls : Array Slot), (∀ k, k < n0 → ad k = ad0 k) → n0 ≤ h.length → (∀ v ∈ st, mj_sv h.length v) → (∀ v ∈ L, mj_sv h.length v) → (∀ q ∈ h, mj_sc h.length q) → va_P D vwCl (mj_ws cA ad sd h) H → va_D A (mj_ws cA ad sd h) → va_S A s.heap H locs → lv_has ls nL (mj_lm (mj_tv ad sd) 0 L) → cells + bc ≤ mc → slots + bs ≤ ms → W p l e R s m args below meth c H locs cells slots Q (F0 m pc ls (st.map (mj_tv ad sd)))
theorem mj_hd {n : Nat} {a : Value} {x : List Value} (h : ∀ v ∈ a :: x, mj_sv n v) : mj_sv n a := h a List.mem_cons_self
theorem mj_tl {n : Nat} {a : Value} {x : List Value} (h : ∀ v ∈ a :: x, mj_sv n v) : ∀ v ∈ x, mj_sv n v := fun v hv => h v (List.mem_cons_of_mem _ hv)
theorem mj_cn {n : Nat} {a : Value} {x : List Value} (h : mj_sv n a) (h2 : ∀ v ∈ x, mj_sv n v) : ∀ v ∈ a :: x, mj_sv n v := List.forall_mem_cons.mpr ⟨h, h2⟩
theorem mj_te {pc : Nat} {off : Int} (h : 0 ≤ (pc : Int) + off) : (pc : Int) + off = ((mj_t pc off : Nat) : Int) := (Int.toNat_of_nonneg h).symm
theorem mj_cat1 {ad sd : Nat → Nat} {v : Value} (h : mj_c2 v = false) : (mj_tv ad sd v).category = 1 := by
  rw [mj_tv_cat]
  cases v <;> first | rfl | (simp [mj_c2] at h)
section MJ
variable {p : Program} {l : Launch} {e : Env} {R : Room} {s : State} {m : MethodId} {args : Array Value} {below : List Frame} {meth : Method} {c : Code} {Q : State → Prop} {cc : ByteArray} {own : String} {ini : Bool} {lev : Nat} {D : va_G} {cA : FieldType → ClassId} {sd adK adV : Nat → Nat} {A : Nat → Prop} {n0 : Nat} {ad0 : Nat → Nat} {mc ms : Nat} {T : mj_T} {ret : Option Value → mj_H → Prop} {pc : Nat} {L st : List Value} {h : mj_H} {bc bs : Nat}

set_option maxHeartbeats 100000 in
theorem mj_s_iconst {n : Int} {K : mj_K} (hKG : ∀ pc L st h bc bs, K pc L st h bc bs → mj_Go p l e R s m args below meth c Q D cA sd A n0 ad0 mc ms T.1 pc L st h bc bs) (X : mj_Cx p l R s m args meth c cc own ini lev D cA sd adK adV A mc ms T) (hdg : decode cc pc = .ok (.iconst n, 1)) (hI : mj_I T ret K pc L st h bc bs (.iconst n)) : mj_Go p l e R s m args below meth c Q D cA sd A n0 ad0 mc ms T.1 pc L st h bc bs := by
  obtain ⟨hx, hb, hml, hown, hts, hK, hA, hX, hR, hin, hTF⟩ := X
  replace hI : K (pc + 1) L (.int (Int32.ofInt n) :: st) h bc bs := hI
  intro ad H locs cells slots ls e1 e2 e3 e4 e5 hP hD hS hl b1 b2
  refine lv_iconst (v := Int32.ofInt n) hx hb hdg rfl ?_
  exact hKG _ _ _ _ _ _ (hI) ad H locs cells slots ls e1 e2 (mj_cn trivial e3) e4 e5 hP hD hS hl b1 b2
set_option maxHeartbeats 100000 in
theorem mj_s_bipush {n : Int} {K : mj_K} (hKG : ∀ pc L st h bc bs, K pc L st h bc bs → mj_Go p l e R s m args below meth c Q D cA sd A n0 ad0 mc ms T.1 pc L st h bc bs) (X : mj_Cx p l R s m args meth c cc own ini lev D cA sd adK adV A mc ms T) (hdg : decode cc pc = .ok (.bipush n, 2)) (hI : mj_I T ret K pc L st h bc bs (.bipush n)) : mj_Go p l e R s m args below meth c Q D cA sd A n0 ad0 mc ms T.1 pc L st h bc bs := by
  obtain ⟨hx, hb, hml, hown, hts, hK, hA, hX, hR, hin, hTF⟩ := X
  replace hI : K (pc + 2) L (.int (Int8.ofInt n).toInt32 :: st) h bc bs := hI
  intro ad H locs cells slots ls e1 e2 e3 e4 e5 hP hD hS hl b1 b2
  refine lv_bipush (v := (Int8.ofInt n).toInt32) hx hb hdg rfl ?_
  exact hKG _ _ _ _ _ _ (hI) ad H locs cells slots ls e1 e2 (mj_cn trivial e3) e4 e5 hP hD hS hl b1 b2
set_option maxHeartbeats 100000 in
theorem mj_s_sipush {n : Int} {K : mj_K} (hKG : ∀ pc L st h bc bs, K pc L st h bc bs → mj_Go p l e R s m args below meth c Q D cA sd A n0 ad0 mc ms T.1 pc L st h bc bs) (X : mj_Cx p l R s m args meth c cc own ini lev D cA sd adK adV A mc ms T) (hdg : decode cc pc = .ok (.sipush n, 3)) (hI : mj_I T ret K pc L st h bc bs (.sipush n)) : mj_Go p l e R s m args below meth c Q D cA sd A n0 ad0 mc ms T.1 pc L st h bc bs := by
  obtain ⟨hx, hb, hml, hown, hts, hK, hA, hX, hR, hin, hTF⟩ := X
  replace hI : K (pc + 3) L (.int (Int16.ofInt n).toInt32 :: st) h bc bs := hI
  intro ad H locs cells slots ls e1 e2 e3 e4 e5 hP hD hS hl b1 b2
  refine lv_sipush (v := (Int16.ofInt n).toInt32) hx hb hdg rfl ?_
  exact hKG _ _ _ _ _ _ (hI) ad H locs cells slots ls e1 e2 (mj_cn trivial e3) e4 e5 hP hD hS hl b1 b2
set_option maxHeartbeats 100000 in
theorem mj_s_lconst {n : Fin 2} {K : mj_K} (hKG : ∀ pc L st h bc bs, K pc L st h bc bs → mj_Go p l e R s m args below meth c Q D cA sd A n0 ad0 mc ms T.1 pc L st h bc bs) (X : mj_Cx p l R s m args meth c cc own ini lev D cA sd adK adV A mc ms T) (hdg : decode cc pc = .ok (.lconst n, 1)) (hI : mj_I T ret K pc L st h bc bs (.lconst n)) : mj_Go p l e R s m args below meth c Q D cA sd A n0 ad0 mc ms T.1 pc L st h bc bs := by
  obtain ⟨hx, hb, hml, hown, hts, hK, hA, hX, hR, hin, hTF⟩ := X
  replace hI : K (pc + 1) L (.long (Int64.ofNat n.val) :: st) h bc bs := hI
  intro ad H locs cells slots ls e1 e2 e3 e4 e5 hP hD hS hl b1 b2
  refine lv_lconst (v := Int64.ofNat n.val) hx hb hdg rfl ?_
  exact hKG _ _ _ _ _ _ (hI) ad H locs cells slots ls e1 e2 (mj_cn trivial e3) e4 e5 hP hD hS hl b1 b2
set_option maxHeartbeats 100000 in
theorem mj_s_aconst_null {K : mj_K} (hKG : ∀ pc L st h bc bs, K pc L st h bc bs → mj_Go p l e R s m args below meth c Q D cA sd A n0 ad0 mc ms T.1 pc L st h bc bs) (X : mj_Cx p l R s m args meth c cc own ini lev D cA sd adK adV A mc ms T) (hdg : decode cc pc = .ok (.aconst_null, 1)) (hI : mj_I T ret K pc L st h bc bs .aconst_null) : mj_Go p l e R s m args below meth c Q D cA sd A n0 ad0 mc ms T.1 pc L st h bc bs := by
  obtain ⟨hx, hb, hml, hown, hts, hK, hA, hX, hR, hin, hTF⟩ := X
  replace hI : K (pc + 1) L (.null :: st) h bc bs := hI
  intro ad H locs cells slots ls e1 e2 e3 e4 e5 hP hD hS hl b1 b2
  refine lv_null hx hb hdg ?_
  exact hKG _ _ _ _ _ _ (hI) ad H locs cells slots ls e1 e2 (mj_cn trivial e3) e4 e5 hP hD hS hl b1 b2
set_option maxHeartbeats 100000 in
theorem mj_s_iload_n {k : Fin 4} {K : mj_K} (hKG : ∀ pc L st h bc bs, K pc L st h bc bs → mj_Go p l e R s m args below meth c Q D cA sd A n0 ad0 mc ms T.1 pc L st h bc bs) (X : mj_Cx p l R s m args meth c cc own ini lev D cA sd adK adV A mc ms T) (hdg : decode cc pc = .ok (.iload_n k, 1)) (hI : mj_I T ret K pc L st h bc bs (.iload_n k)) : mj_Go p l e R s m args below meth c Q D cA sd A n0 ad0 mc ms T.1 pc L st h bc bs := by
  obtain ⟨hx, hb, hml, hown, hts, hK, hA, hX, hR, hin, hTF⟩ := X
  replace hI : match (generalizing := false) L[k.val]? with
    | some (.int x) => K (pc + 1) L (.int x :: st) h bc bs
    | _ => False := hI
  split at hI
  · next x hq =>
    intro ad H locs cells slots ls e1 e2 e3 e4 e5 hP hD hS hl b1 b2
    refine lv_iload_n hx hb hdg rfl (mj_lm_at hl hq rfl) ?_
    exact hKG _ _ _ _ _ _ (hI) ad H locs cells slots ls e1 e2 (mj_cn trivial e3) e4 e5 hP hD hS hl b1 b2
  · exact hI.elim
set_option maxHeartbeats 100000 in
theorem mj_s_iload {k : Nat} {K : mj_K} (hKG : ∀ pc L st h bc bs, K pc L st h bc bs → mj_Go p l e R s m args below meth c Q D cA sd A n0 ad0 mc ms T.1 pc L st h bc bs) (X : mj_Cx p l R s m args meth c cc own ini lev D cA sd adK adV A mc ms T) (hdg : decode cc pc = .ok (.iload k, 2)) (hI : mj_I T ret K pc L st h bc bs (.iload k)) : mj_Go p l e R s m args below meth c Q D cA sd A n0 ad0 mc ms T.1 pc L st h bc bs := by
  obtain ⟨hx, hb, hml, hown, hts, hK, hA, hX, hR, hin, hTF⟩ := X
  replace hI : match (generalizing := false) L[k]? with
    | some (.int x) => K (pc + 2) L (.int x :: st) h bc bs
    | _ => False := hI
  split at hI
  · next x hq =>
    intro ad H locs cells slots ls e1 e2 e3 e4 e5 hP hD hS hl b1 b2
    refine lv_iload hx hb hdg (mj_lm_at hl hq rfl) ?_
    exact hKG _ _ _ _ _ _ (hI) ad H locs cells slots ls e1 e2 (mj_cn trivial e3) e4 e5 hP hD hS hl b1 b2
  · exact hI.elim
set_option maxHeartbeats 100000 in
theorem mj_s_lload_n {k : Fin 4} {K : mj_K} (hKG : ∀ pc L st h bc bs, K pc L st h bc bs → mj_Go p l e R s m args below meth c Q D cA sd A n0 ad0 mc ms T.1 pc L st h bc bs) (X : mj_Cx p l R s m args meth c cc own ini lev D cA sd adK adV A mc ms T) (hdg : decode cc pc = .ok (.lload_n k, 1)) (hI : mj_I T ret K pc L st h bc bs (.lload_n k)) : mj_Go p l e R s m args below meth c Q D cA sd A n0 ad0 mc ms T.1 pc L st h bc bs := by
  obtain ⟨hx, hb, hml, hown, hts, hK, hA, hX, hR, hin, hTF⟩ := X
  replace hI : match (generalizing := false) L[k.val]? with
    | some (.long x) => K (pc + 1) L (.long x :: st) h bc bs
    | _ => False := hI
  split at hI
  · next x hq =>
    intro ad H locs cells slots ls e1 e2 e3 e4 e5 hP hD hS hl b1 b2
    refine lv_lload_n hx hb hdg rfl (mj_lm_at hl hq rfl) ?_
    exact hKG _ _ _ _ _ _ (hI) ad H locs cells slots ls e1 e2 (mj_cn trivial e3) e4 e5 hP hD hS hl b1 b2
  · exact hI.elim
set_option maxHeartbeats 100000 in
theorem mj_s_lload {k : Nat} {K : mj_K} (hKG : ∀ pc L st h bc bs, K pc L st h bc bs → mj_Go p l e R s m args below meth c Q D cA sd A n0 ad0 mc ms T.1 pc L st h bc bs) (X : mj_Cx p l R s m args meth c cc own ini lev D cA sd adK adV A mc ms T) (hdg : decode cc pc = .ok (.lload k, 2)) (hI : mj_I T ret K pc L st h bc bs (.lload k)) : mj_Go p l e R s m args below meth c Q D cA sd A n0 ad0 mc ms T.1 pc L st h bc bs := by
  obtain ⟨hx, hb, hml, hown, hts, hK, hA, hX, hR, hin, hTF⟩ := X
  replace hI : match (generalizing := false) L[k]? with
    | some (.long x) => K (pc + 2) L (.long x :: st) h bc bs
    | _ => False := hI
  split at hI
  · next x hq =>
    intro ad H locs cells slots ls e1 e2 e3 e4 e5 hP hD hS hl b1 b2
    refine lv_lload hx hb hdg (mj_lm_at hl hq rfl) ?_
    exact hKG _ _ _ _ _ _ (hI) ad H locs cells slots ls e1 e2 (mj_cn trivial e3) e4 e5 hP hD hS hl b1 b2
  · exact hI.elim
set_option maxHeartbeats 100000 in
theorem mj_s_aload_n {k : Fin 4} {K : mj_K} (hKG : ∀ pc L st h bc bs, K pc L st h bc bs → mj_Go p l e R s m args below meth c Q D cA sd A n0 ad0 mc ms T.1 pc L st h bc bs) (X : mj_Cx p l R s m args meth c cc own ini lev D cA sd adK adV A mc ms T) (hdg : decode cc pc = .ok (.aload_n k, 1)) (hI : mj_I T ret K pc L st h bc bs (.aload_n k)) : mj_Go p l e R s m args below meth c Q D cA sd A n0 ad0 mc ms T.1 pc L st h bc bs := by
  obtain ⟨hx, hb, hml, hown, hts, hK, hA, hX, hR, hin, hTF⟩ := X
  replace hI : match (generalizing := false) L[k.val]? with
    | some (.ref x) => K (pc + 1) L (.ref x :: st) h bc bs
    | some .null => K (pc + 1) L (.null :: st) h bc bs
    | _ => False := hI
  split at hI
  · next x hq =>
    intro ad H locs cells slots ls e1 e2 e3 e4 e5 hP hD hS hl b1 b2
    refine lv_aload_n hx hb hdg rfl (mj_lm_at hl hq rfl) ?_
    exact hKG _ _ _ _ _ _ (hI) ad H locs cells slots ls e1 e2 (mj_cn (e4 _ (List.mem_of_getElem? hq)) e3) e4 e5 hP hD hS hl b1 b2
  · next hq =>
    intro ad H locs cells slots ls e1 e2 e3 e4 e5 hP hD hS hl b1 b2
    refine lv_aload_nN hx hb hdg rfl (mj_lm_at hl hq rfl) ?_
    exact hKG _ _ _ _ _ _ (hI) ad H locs cells slots ls e1 e2 (mj_cn trivial e3) e4 e5 hP hD hS hl b1 b2
  · exact hI.elim
set_option maxHeartbeats 100000 in
theorem mj_s_aload {k : Nat} {K : mj_K} (hKG : ∀ pc L st h bc bs, K pc L st h bc bs → mj_Go p l e R s m args below meth c Q D cA sd A n0 ad0 mc ms T.1 pc L st h bc bs) (X : mj_Cx p l R s m args meth c cc own ini lev D cA sd adK adV A mc ms T) (hdg : decode cc pc = .ok (.aload k, 2)) (hI : mj_I T ret K pc L st h bc bs (.aload k)) : mj_Go p l e R s m args below meth c Q D cA sd A n0 ad0 mc ms T.1 pc L st h bc bs := by
  obtain ⟨hx, hb, hml, hown, hts, hK, hA, hX, hR, hin, hTF⟩ := X
  replace hI : match (generalizing := false) L[k]? with
    | some (.ref x) => K (pc + 2) L (.ref x :: st) h bc bs
    | some .null => K (pc + 2) L (.null :: st) h bc bs
    | _ => False := hI
  split at hI
  · next x hq =>
    intro ad H locs cells slots ls e1 e2 e3 e4 e5 hP hD hS hl b1 b2
    refine lv_aload hx hb hdg (mj_lm_at hl hq rfl) ?_
    exact hKG _ _ _ _ _ _ (hI) ad H locs cells slots ls e1 e2 (mj_cn (e4 _ (List.mem_of_getElem? hq)) e3) e4 e5 hP hD hS hl b1 b2
  · next hq =>
    intro ad H locs cells slots ls e1 e2 e3 e4 e5 hP hD hS hl b1 b2
    refine lv_aloadN hx hb hdg (mj_lm_at hl hq rfl) ?_
    exact hKG _ _ _ _ _ _ (hI) ad H locs cells slots ls e1 e2 (mj_cn trivial e3) e4 e5 hP hD hS hl b1 b2
  · exact hI.elim
set_option maxHeartbeats 100000 in
theorem mj_s_istore_n {k : Fin 4} {K : mj_K} (hKG : ∀ pc L st h bc bs, K pc L st h bc bs → mj_Go p l e R s m args below meth c Q D cA sd A n0 ad0 mc ms T.1 pc L st h bc bs) (X : mj_Cx p l R s m args meth c cc own ini lev D cA sd adK adV A mc ms T) (hdg : decode cc pc = .ok (.istore_n k, 1)) (hI : mj_I T ret K pc L st h bc bs (.istore_n k)) : mj_Go p l e R s m args below meth c Q D cA sd A n0 ad0 mc ms T.1 pc L st h bc bs := by
  obtain ⟨hx, hb, hml, hown, hts, hK, hA, hX, hR, hin, hTF⟩ := X
  replace hI : match (generalizing := false) st with
    | .int x :: r => k.val < T.1 ∧ K (pc + 1) (mj_set L k.val (.int x)) r h bc bs
    | _ => False := hI
  split at hI
  · intro ad H locs cells slots ls e1 e2 e3 e4 e5 hP hD hS hl b1 b2
    refine lv_istore_n hx hb hdg rfl hl hI.1 rfl (fun ls hl => ?_)
    exact hKG _ _ _ _ _ _ (hI.2) ad H locs cells slots ls e1 e2 (mj_tl e3) (mj_set_sv e4 trivial) e5 hP hD hS (mj_lv_mono hl (mj_set_lm (mj_tv_cat ad sd))) b1 b2
  · exact hI.elim
set_option maxHeartbeats 100000 in
theorem mj_s_istore {k : Nat} {K : mj_K} (hKG : ∀ pc L st h bc bs, K pc L st h bc bs → mj_Go p l e R s m args below meth c Q D cA sd A n0 ad0 mc ms T.1 pc L st h bc bs) (X : mj_Cx p l R s m args meth c cc own ini lev D cA sd adK adV A mc ms T) (hdg : decode cc pc = .ok (.istore k, 2)) (hI : mj_I T ret K pc L st h bc bs (.istore k)) : mj_Go p l e R s m args below meth c Q D cA sd A n0 ad0 mc ms T.1 pc L st h bc bs := by
  obtain ⟨hx, hb, hml, hown, hts, hK, hA, hX, hR, hin, hTF⟩ := X
  replace hI : match (generalizing := false) st with
    | .int x :: r => k < T.1 ∧ K (pc + 2) (mj_set L k (.int x)) r h bc bs
    | _ => False := hI
  split at hI
  · intro ad H locs cells slots ls e1 e2 e3 e4 e5 hP hD hS hl b1 b2
    refine lv_istore hx hb hdg hl hI.1 rfl (fun ls hl => ?_)
    exact hKG _ _ _ _ _ _ (hI.2) ad H locs cells slots ls e1 e2 (mj_tl e3) (mj_set_sv e4 trivial) e5 hP hD hS (mj_lv_mono hl (mj_set_lm (mj_tv_cat ad sd))) b1 b2
  · exact hI.elim
set_option maxHeartbeats 100000 in
theorem mj_s_lstore_n {k : Fin 4} {K : mj_K} (hKG : ∀ pc L st h bc bs, K pc L st h bc bs → mj_Go p l e R s m args below meth c Q D cA sd A n0 ad0 mc ms T.1 pc L st h bc bs) (X : mj_Cx p l R s m args meth c cc own ini lev D cA sd adK adV A mc ms T) (hdg : decode cc pc = .ok (.lstore_n k, 1)) (hI : mj_I T ret K pc L st h bc bs (.lstore_n k)) : mj_Go p l e R s m args below meth c Q D cA sd A n0 ad0 mc ms T.1 pc L st h bc bs := by
  obtain ⟨hx, hb, hml, hown, hts, hK, hA, hX, hR, hin, hTF⟩ := X
  replace hI : match (generalizing := false) st with
    | .long x :: r => k.val + 1 < T.1 ∧ K (pc + 1) (mj_set (mj_set L (k.val + 1) mj_unk) k.val (.long x)) r h bc bs
    | _ => False := hI
  split at hI
  · intro ad H locs cells slots ls e1 e2 e3 e4 e5 hP hD hS hl b1 b2
    refine lv_lstore_n hx hb hdg rfl hl hI.1 rfl (fun ls hl => ?_)
    exact hKG _ _ _ _ _ _ (hI.2) ad H locs cells slots ls e1 e2 (mj_tl e3) (mj_set_sv (mj_set_sv e4 trivial) trivial) e5 hP hD hS (mj_lv_mono hl (mj_setL_lm (mj_tv_cat ad sd))) b1 b2
  · exact hI.elim
set_option maxHeartbeats 100000 in
theorem mj_s_lstore {k : Nat} {K : mj_K} (hKG : ∀ pc L st h bc bs, K pc L st h bc bs → mj_Go p l e R s m args below meth c Q D cA sd A n0 ad0 mc ms T.1 pc L st h bc bs) (X : mj_Cx p l R s m args meth c cc own ini lev D cA sd adK adV A mc ms T) (hdg : decode cc pc = .ok (.lstore k, 2)) (hI : mj_I T ret K pc L st h bc bs (.lstore k)) : mj_Go p l e R s m args below meth c Q D cA sd A n0 ad0 mc ms T.1 pc L st h bc bs := by
  obtain ⟨hx, hb, hml, hown, hts, hK, hA, hX, hR, hin, hTF⟩ := X
  replace hI : match (generalizing := false) st with
    | .long x :: r => k + 1 < T.1 ∧ K (pc + 2) (mj_set (mj_set L (k + 1) mj_unk) k (.long x)) r h bc bs
    | _ => False := hI
  split at hI
  · intro ad H locs cells slots ls e1 e2 e3 e4 e5 hP hD hS hl b1 b2
    refine lv_lstore hx hb hdg hl hI.1 rfl (fun ls hl => ?_)
    exact hKG _ _ _ _ _ _ (hI.2) ad H locs cells slots ls e1 e2 (mj_tl e3) (mj_set_sv (mj_set_sv e4 trivial) trivial) e5 hP hD hS (mj_lv_mono hl (mj_setL_lm (mj_tv_cat ad sd))) b1 b2
  · exact hI.elim
set_option maxHeartbeats 100000 in
theorem mj_s_astore_n {k : Fin 4} {K : mj_K} (hKG : ∀ pc L st h bc bs, K pc L st h bc bs → mj_Go p l e R s m args below meth c Q D cA sd A n0 ad0 mc ms T.1 pc L st h bc bs) (X : mj_Cx p l R s m args meth c cc own ini lev D cA sd adK adV A mc ms T) (hdg : decode cc pc = .ok (.astore_n k, 1)) (hI : mj_I T ret K pc L st h bc bs (.astore_n k)) : mj_Go p l e R s m args below meth c Q D cA sd A n0 ad0 mc ms T.1 pc L st h bc bs := by
  obtain ⟨hx, hb, hml, hown, hts, hK, hA, hX, hR, hin, hTF⟩ := X
  replace hI : match (generalizing := false) st with
    | .ref x :: r => k.val < T.1 ∧ K (pc + 1) (mj_set L k.val (.ref x)) r h bc bs
    | .null :: r => k.val < T.1 ∧ K (pc + 1) (mj_set L k.val .null) r h bc bs
    | _ => False := hI
  split at hI
  · intro ad H locs cells slots ls e1 e2 e3 e4 e5 hP hD hS hl b1 b2
    refine lv_astore_n hx hb hdg rfl hl hI.1 rfl (fun ls hl => ?_)
    exact hKG _ _ _ _ _ _ (hI.2) ad H locs cells slots ls e1 e2 (mj_tl e3) (mj_set_sv e4 (mj_hd e3)) e5 hP hD hS (mj_lv_mono hl (mj_set_lm (mj_tv_cat ad sd))) b1 b2
  · intro ad H locs cells slots ls e1 e2 e3 e4 e5 hP hD hS hl b1 b2
    refine lv_astore_nN hx hb hdg rfl hl hI.1 rfl (fun ls hl => ?_)
    exact hKG _ _ _ _ _ _ (hI.2) ad H locs cells slots ls e1 e2 (mj_tl e3) (mj_set_sv e4 trivial) e5 hP hD hS (mj_lv_mono hl (mj_set_lm (mj_tv_cat ad sd))) b1 b2
  · exact hI.elim
set_option maxHeartbeats 100000 in
theorem mj_s_astore {k : Nat} {K : mj_K} (hKG : ∀ pc L st h bc bs, K pc L st h bc bs → mj_Go p l e R s m args below meth c Q D cA sd A n0 ad0 mc ms T.1 pc L st h bc bs) (X : mj_Cx p l R s m args meth c cc own ini lev D cA sd adK adV A mc ms T) (hdg : decode cc pc = .ok (.astore k, 2)) (hI : mj_I T ret K pc L st h bc bs (.astore k)) : mj_Go p l e R s m args below meth c Q D cA sd A n0 ad0 mc ms T.1 pc L st h bc bs := by
  obtain ⟨hx, hb, hml, hown, hts, hK, hA, hX, hR, hin, hTF⟩ := X
  replace hI : match (generalizing := false) st with
    | .ref x :: r => k < T.1 ∧ K (pc + 2) (mj_set L k (.ref x)) r h bc bs
    | .null :: r => k < T.1 ∧ K (pc + 2) (mj_set L k .null) r h bc bs
    | _ => False := hI
  split at hI
  · intro ad H locs cells slots ls e1 e2 e3 e4 e5 hP hD hS hl b1 b2
    refine lv_astore hx hb hdg hl hI.1 rfl (fun ls hl => ?_)
    exact hKG _ _ _ _ _ _ (hI.2) ad H locs cells slots ls e1 e2 (mj_tl e3) (mj_set_sv e4 (mj_hd e3)) e5 hP hD hS (mj_lv_mono hl (mj_set_lm (mj_tv_cat ad sd))) b1 b2
  · intro ad H locs cells slots ls e1 e2 e3 e4 e5 hP hD hS hl b1 b2
    refine lv_astoreN hx hb hdg hl hI.1 rfl (fun ls hl => ?_)
    exact hKG _ _ _ _ _ _ (hI.2) ad H locs cells slots ls e1 e2 (mj_tl e3) (mj_set_sv e4 trivial) e5 hP hD hS (mj_lv_mono hl (mj_set_lm (mj_tv_cat ad sd))) b1 b2
  · exact hI.elim
set_option maxHeartbeats 100000 in
theorem mj_iinc {cells slots : Nat} {H : Heap} {locs : List Loc} {rest : List Value} {ls : Array Slot} (hexec : p.tables.exec = Jvm.exec) (hb : c.code = cc) {i nL : Nat} {n : Int} {x : Int32} {lv : List (Nat × Value)} (hdg : decode cc pc = .ok (.iinc i n, 3)) (h : lv_has ls nL lv) (hk : (i, Value.int x) ∈ lv) (hn : i < nL)
    (kk : ∀ ls' : Array Slot, lv_has ls' nL ((i, Value.int (x + Int32.ofInt n)) :: lv.filter (fun q => !(q.1 == i) && !(q.1 + 1 == i && q.2.category == 2))) → W p l e R s m args below meth c H locs cells slots Q (F0 m (pc + 3) ls' rest)) : W p l e R s m args below meth c H locs cells slots Q (F0 m pc ls rest) := by
  obtain ⟨k, hk⟩ := List.getElem?_of_mem hk
  exact lv_iinc hexec hb hdg h hk rfl hn rfl kk
set_option maxHeartbeats 100000 in
theorem mj_s_iinc {k : Nat} {n : Int} {K : mj_K} (hKG : ∀ pc L st h bc bs, K pc L st h bc bs → mj_Go p l e R s m args below meth c Q D cA sd A n0 ad0 mc ms T.1 pc L st h bc bs) (X : mj_Cx p l R s m args meth c cc own ini lev D cA sd adK adV A mc ms T) (hdg : decode cc pc = .ok (.iinc k n, 3)) (hI : mj_I T ret K pc L st h bc bs (.iinc k n)) : mj_Go p l e R s m args below meth c Q D cA sd A n0 ad0 mc ms T.1 pc L st h bc bs := by
  obtain ⟨hx, hb, hml, hown, hts, hK, hA, hX, hR, hin, hTF⟩ := X
  replace hI : match (generalizing := false) L[k]? with
    | some (.int x) => k < T.1 ∧ K (pc + 3) (mj_set L k (.int (x + Int32.ofInt n))) st h bc bs
    | _ => False := hI
  split at hI
  · next x hq =>
    intro ad H locs cells slots ls e1 e2 e3 e4 e5 hP hD hS hl b1 b2
    refine mj_iinc hx hb hdg hl (mj_lm_mem.mpr ⟨k, .int x, hq, rfl, by rw [Nat.zero_add]; rfl⟩) hI.1 (fun ls hl => ?_)
    exact hKG _ _ _ _ _ _ (hI.2) ad H locs cells slots ls e1 e2 e3 (mj_set_sv e4 trivial) e5 hP hD hS (mj_lv_mono hl (mj_set_lm (mj_tv_cat ad sd))) b1 b2
  · exact hI.elim
set_option maxHeartbeats 100000 in
theorem mj_s_iadd {K : mj_K} (hKG : ∀ pc L st h bc bs, K pc L st h bc bs → mj_Go p l e R s m args below meth c Q D cA sd A n0 ad0 mc ms T.1 pc L st h bc bs) (X : mj_Cx p l R s m args meth c cc own ini lev D cA sd adK adV A mc ms T) (hdg : decode cc pc = .ok (.iadd, 1)) (hI : mj_I T ret K pc L st h bc bs .iadd) : mj_Go p l e R s m args below meth c Q D cA sd A n0 ad0 mc ms T.1 pc L st h bc bs := by
  obtain ⟨hx, hb, hml, hown, hts, hK, hA, hX, hR, hin, hTF⟩ := X
  replace hI : match (generalizing := false) st with
    | .int y :: .int x :: r => K (pc + 1) L (.int (x + y) :: r) h bc bs
    | _ => False := hI
  split at hI
  · intro ad H locs cells slots ls e1 e2 e3 e4 e5 hP hD hS hl b1 b2
    refine lv_iadd hx hb hdg ?_
    exact hKG _ _ _ _ _ _ (hI) ad H locs cells slots ls e1 e2 (mj_cn trivial (mj_tl (mj_tl e3))) e4 e5 hP hD hS hl b1 b2
  · exact hI.elim
set_option maxHeartbeats 100000 in
theorem mj_s_isub {K : mj_K} (hKG : ∀ pc L st h bc bs, K pc L st h bc bs → mj_Go p l e R s m args below meth c Q D cA sd A n0 ad0 mc ms T.1 pc L st h bc bs) (X : mj_Cx p l R s m args meth c cc own ini lev D cA sd adK adV A mc ms T) (hdg : decode cc pc = .ok (.isub, 1)) (hI : mj_I T ret K pc L st h bc bs .isub) : mj_Go p l e R s m args below meth c Q D cA sd A n0 ad0 mc ms T.1 pc L st h bc bs := by
  obtain ⟨hx, hb, hml, hown, hts, hK, hA, hX, hR, hin, hTF⟩ := X
  replace hI : match (generalizing := false) st with
    | .int y :: .int x :: r => K (pc + 1) L (.int (x - y) :: r) h bc bs
    | _ => False := hI
  split at hI
  · intro ad H locs cells slots ls e1 e2 e3 e4 e5 hP hD hS hl b1 b2
    refine lv_isub hx hb hdg ?_
    exact hKG _ _ _ _ _ _ (hI) ad H locs cells slots ls e1 e2 (mj_cn trivial (mj_tl (mj_tl e3))) e4 e5 hP hD hS hl b1 b2
  · exact hI.elim
set_option maxHeartbeats 100000 in
theorem mj_s_imul {K : mj_K} (hKG : ∀ pc L st h bc bs, K pc L st h bc bs → mj_Go p l e R s m args below meth c Q D cA sd A n0 ad0 mc ms T.1 pc L st h bc bs) (X : mj_Cx p l R s m args meth c cc own ini lev D cA sd adK adV A mc ms T) (hdg : decode cc pc = .ok (.imul, 1)) (hI : mj_I T ret K pc L st h bc bs .imul) : mj_Go p l e R s m args below meth c Q D cA sd A n0 ad0 mc ms T.1 pc L st h bc bs := by
  obtain ⟨hx, hb, hml, hown, hts, hK, hA, hX, hR, hin, hTF⟩ := X
  replace hI : match (generalizing := false) st with
    | .int y :: .int x :: r => K (pc + 1) L (.int (x * y) :: r) h bc bs
    | _ => False := hI
  split at hI
  · intro ad H locs cells slots ls e1 e2 e3 e4 e5 hP hD hS hl b1 b2
    refine lv_imul hx hb hdg ?_
    exact hKG _ _ _ _ _ _ (hI) ad H locs cells slots ls e1 e2 (mj_cn trivial (mj_tl (mj_tl e3))) e4 e5 hP hD hS hl b1 b2
  · exact hI.elim
set_option maxHeartbeats 100000 in
theorem mj_s_iand {K : mj_K} (hKG : ∀ pc L st h bc bs, K pc L st h bc bs → mj_Go p l e R s m args below meth c Q D cA sd A n0 ad0 mc ms T.1 pc L st h bc bs) (X : mj_Cx p l R s m args meth c cc own ini lev D cA sd adK adV A mc ms T) (hdg : decode cc pc = .ok (.iand, 1)) (hI : mj_I T ret K pc L st h bc bs .iand) : mj_Go p l e R s m args below meth c Q D cA sd A n0 ad0 mc ms T.1 pc L st h bc bs := by
  obtain ⟨hx, hb, hml, hown, hts, hK, hA, hX, hR, hin, hTF⟩ := X
  replace hI : match (generalizing := false) st with
    | .int y :: .int x :: r => K (pc + 1) L (.int (x &&& y) :: r) h bc bs
    | _ => False := hI
  split at hI
  · intro ad H locs cells slots ls e1 e2 e3 e4 e5 hP hD hS hl b1 b2
    refine lv_iand hx hb hdg ?_
    exact hKG _ _ _ _ _ _ (hI) ad H locs cells slots ls e1 e2 (mj_cn trivial (mj_tl (mj_tl e3))) e4 e5 hP hD hS hl b1 b2
  · exact hI.elim
set_option maxHeartbeats 100000 in
theorem mj_s_ior {K : mj_K} (hKG : ∀ pc L st h bc bs, K pc L st h bc bs → mj_Go p l e R s m args below meth c Q D cA sd A n0 ad0 mc ms T.1 pc L st h bc bs) (X : mj_Cx p l R s m args meth c cc own ini lev D cA sd adK adV A mc ms T) (hdg : decode cc pc = .ok (.ior, 1)) (hI : mj_I T ret K pc L st h bc bs .ior) : mj_Go p l e R s m args below meth c Q D cA sd A n0 ad0 mc ms T.1 pc L st h bc bs := by
  obtain ⟨hx, hb, hml, hown, hts, hK, hA, hX, hR, hin, hTF⟩ := X
  replace hI : match (generalizing := false) st with
    | .int y :: .int x :: r => K (pc + 1) L (.int (x ||| y) :: r) h bc bs
    | _ => False := hI
  split at hI
  · intro ad H locs cells slots ls e1 e2 e3 e4 e5 hP hD hS hl b1 b2
    refine lv_ior hx hb hdg ?_
    exact hKG _ _ _ _ _ _ (hI) ad H locs cells slots ls e1 e2 (mj_cn trivial (mj_tl (mj_tl e3))) e4 e5 hP hD hS hl b1 b2
  · exact hI.elim
set_option maxHeartbeats 100000 in
theorem mj_s_ixor {K : mj_K} (hKG : ∀ pc L st h bc bs, K pc L st h bc bs → mj_Go p l e R s m args below meth c Q D cA sd A n0 ad0 mc ms T.1 pc L st h bc bs) (X : mj_Cx p l R s m args meth c cc own ini lev D cA sd adK adV A mc ms T) (hdg : decode cc pc = .ok (.ixor, 1)) (hI : mj_I T ret K pc L st h bc bs .ixor) : mj_Go p l e R s m args below meth c Q D cA sd A n0 ad0 mc ms T.1 pc L st h bc bs := by
  obtain ⟨hx, hb, hml, hown, hts, hK, hA, hX, hR, hin, hTF⟩ := X
  replace hI : match (generalizing := false) st with
    | .int y :: .int x :: r => K (pc + 1) L (.int (x ^^^ y) :: r) h bc bs
    | _ => False := hI
  split at hI
  · intro ad H locs cells slots ls e1 e2 e3 e4 e5 hP hD hS hl b1 b2
    refine lv_ixor hx hb hdg ?_
    exact hKG _ _ _ _ _ _ (hI) ad H locs cells slots ls e1 e2 (mj_cn trivial (mj_tl (mj_tl e3))) e4 e5 hP hD hS hl b1 b2
  · exact hI.elim
set_option maxHeartbeats 100000 in
theorem mj_s_ishl {K : mj_K} (hKG : ∀ pc L st h bc bs, K pc L st h bc bs → mj_Go p l e R s m args below meth c Q D cA sd A n0 ad0 mc ms T.1 pc L st h bc bs) (X : mj_Cx p l R s m args meth c cc own ini lev D cA sd adK adV A mc ms T) (hdg : decode cc pc = .ok (.ishl, 1)) (hI : mj_I T ret K pc L st h bc bs .ishl) : mj_Go p l e R s m args below meth c Q D cA sd A n0 ad0 mc ms T.1 pc L st h bc bs := by
  obtain ⟨hx, hb, hml, hown, hts, hK, hA, hX, hR, hin, hTF⟩ := X
  replace hI : match (generalizing := false) st with
    | .int y :: .int x :: r => K (pc + 1) L (.int (x <<< (y &&& 31)) :: r) h bc bs
    | _ => False := hI
  split at hI
  · intro ad H locs cells slots ls e1 e2 e3 e4 e5 hP hD hS hl b1 b2
    refine lv_ishl hx hb hdg ?_
    exact hKG _ _ _ _ _ _ (hI) ad H locs cells slots ls e1 e2 (mj_cn trivial (mj_tl (mj_tl e3))) e4 e5 hP hD hS hl b1 b2
  · exact hI.elim
set_option maxHeartbeats 100000 in
theorem mj_s_ishr {K : mj_K} (hKG : ∀ pc L st h bc bs, K pc L st h bc bs → mj_Go p l e R s m args below meth c Q D cA sd A n0 ad0 mc ms T.1 pc L st h bc bs) (X : mj_Cx p l R s m args meth c cc own ini lev D cA sd adK adV A mc ms T) (hdg : decode cc pc = .ok (.ishr, 1)) (hI : mj_I T ret K pc L st h bc bs .ishr) : mj_Go p l e R s m args below meth c Q D cA sd A n0 ad0 mc ms T.1 pc L st h bc bs := by
  obtain ⟨hx, hb, hml, hown, hts, hK, hA, hX, hR, hin, hTF⟩ := X
  replace hI : match (generalizing := false) st with
    | .int y :: .int x :: r => K (pc + 1) L (.int (x >>> (y &&& 31)) :: r) h bc bs
    | _ => False := hI
  split at hI
  · intro ad H locs cells slots ls e1 e2 e3 e4 e5 hP hD hS hl b1 b2
    refine lv_ishr hx hb hdg ?_
    exact hKG _ _ _ _ _ _ (hI) ad H locs cells slots ls e1 e2 (mj_cn trivial (mj_tl (mj_tl e3))) e4 e5 hP hD hS hl b1 b2
  · exact hI.elim
set_option maxHeartbeats 100000 in
theorem mj_s_iushr {K : mj_K} (hKG : ∀ pc L st h bc bs, K pc L st h bc bs → mj_Go p l e R s m args below meth c Q D cA sd A n0 ad0 mc ms T.1 pc L st h bc bs) (X : mj_Cx p l R s m args meth c cc own ini lev D cA sd adK adV A mc ms T) (hdg : decode cc pc = .ok (.iushr, 1)) (hI : mj_I T ret K pc L st h bc bs .iushr) : mj_Go p l e R s m args below meth c Q D cA sd A n0 ad0 mc ms T.1 pc L st h bc bs := by
  obtain ⟨hx, hb, hml, hown, hts, hK, hA, hX, hR, hin, hTF⟩ := X
  replace hI : match (generalizing := false) st with
    | .int y :: .int x :: r => K (pc + 1) L (.int ((x.toUInt32 >>> (y.toUInt32 &&& Int32.toUInt32 31)).toInt32) :: r) h bc bs
    | _ => False := hI
  split at hI
  · intro ad H locs cells slots ls e1 e2 e3 e4 e5 hP hD hS hl b1 b2
    refine lv_iushr hx hb hdg rfl ?_
    exact hKG _ _ _ _ _ _ (hI) ad H locs cells slots ls e1 e2 (mj_cn trivial (mj_tl (mj_tl e3))) e4 e5 hP hD hS hl b1 b2
  · exact hI.elim
set_option maxHeartbeats 100000 in
theorem mj_s_ladd {K : mj_K} (hKG : ∀ pc L st h bc bs, K pc L st h bc bs → mj_Go p l e R s m args below meth c Q D cA sd A n0 ad0 mc ms T.1 pc L st h bc bs) (X : mj_Cx p l R s m args meth c cc own ini lev D cA sd adK adV A mc ms T) (hdg : decode cc pc = .ok (.ladd, 1)) (hI : mj_I T ret K pc L st h bc bs .ladd) : mj_Go p l e R s m args below meth c Q D cA sd A n0 ad0 mc ms T.1 pc L st h bc bs := by
  obtain ⟨hx, hb, hml, hown, hts, hK, hA, hX, hR, hin, hTF⟩ := X
  replace hI : match (generalizing := false) st with
    | .long y :: .long x :: r => K (pc + 1) L (.long (x + y) :: r) h bc bs
    | _ => False := hI
  split at hI
  · intro ad H locs cells slots ls e1 e2 e3 e4 e5 hP hD hS hl b1 b2
    refine lv_ladd hx hb hdg ?_
    exact hKG _ _ _ _ _ _ (hI) ad H locs cells slots ls e1 e2 (mj_cn trivial (mj_tl (mj_tl e3))) e4 e5 hP hD hS hl b1 b2
  · exact hI.elim
set_option maxHeartbeats 100000 in
theorem mj_s_lsub {K : mj_K} (hKG : ∀ pc L st h bc bs, K pc L st h bc bs → mj_Go p l e R s m args below meth c Q D cA sd A n0 ad0 mc ms T.1 pc L st h bc bs) (X : mj_Cx p l R s m args meth c cc own ini lev D cA sd adK adV A mc ms T) (hdg : decode cc pc = .ok (.lsub, 1)) (hI : mj_I T ret K pc L st h bc bs .lsub) : mj_Go p l e R s m args below meth c Q D cA sd A n0 ad0 mc ms T.1 pc L st h bc bs := by
  obtain ⟨hx, hb, hml, hown, hts, hK, hA, hX, hR, hin, hTF⟩ := X
  replace hI : match (generalizing := false) st with
    | .long y :: .long x :: r => K (pc + 1) L (.long (x - y) :: r) h bc bs
    | _ => False := hI
  split at hI
  · intro ad H locs cells slots ls e1 e2 e3 e4 e5 hP hD hS hl b1 b2
    refine lv_lsub hx hb hdg ?_
    exact hKG _ _ _ _ _ _ (hI) ad H locs cells slots ls e1 e2 (mj_cn trivial (mj_tl (mj_tl e3))) e4 e5 hP hD hS hl b1 b2
  · exact hI.elim
set_option maxHeartbeats 100000 in
theorem mj_s_lmul {K : mj_K} (hKG : ∀ pc L st h bc bs, K pc L st h bc bs → mj_Go p l e R s m args below meth c Q D cA sd A n0 ad0 mc ms T.1 pc L st h bc bs) (X : mj_Cx p l R s m args meth c cc own ini lev D cA sd adK adV A mc ms T) (hdg : decode cc pc = .ok (.lmul, 1)) (hI : mj_I T ret K pc L st h bc bs .lmul) : mj_Go p l e R s m args below meth c Q D cA sd A n0 ad0 mc ms T.1 pc L st h bc bs := by
  obtain ⟨hx, hb, hml, hown, hts, hK, hA, hX, hR, hin, hTF⟩ := X
  replace hI : match (generalizing := false) st with
    | .long y :: .long x :: r => K (pc + 1) L (.long (x * y) :: r) h bc bs
    | _ => False := hI
  split at hI
  · intro ad H locs cells slots ls e1 e2 e3 e4 e5 hP hD hS hl b1 b2
    refine lv_lmul hx hb hdg ?_
    exact hKG _ _ _ _ _ _ (hI) ad H locs cells slots ls e1 e2 (mj_cn trivial (mj_tl (mj_tl e3))) e4 e5 hP hD hS hl b1 b2
  · exact hI.elim
set_option maxHeartbeats 100000 in
theorem mj_s_idiv {K : mj_K} (hKG : ∀ pc L st h bc bs, K pc L st h bc bs → mj_Go p l e R s m args below meth c Q D cA sd A n0 ad0 mc ms T.1 pc L st h bc bs) (X : mj_Cx p l R s m args meth c cc own ini lev D cA sd adK adV A mc ms T) (hdg : decode cc pc = .ok (.idiv, 1)) (hI : mj_I T ret K pc L st h bc bs .idiv) : mj_Go p l e R s m args below meth c Q D cA sd A n0 ad0 mc ms T.1 pc L st h bc bs := by
  obtain ⟨hx, hb, hml, hown, hts, hK, hA, hX, hR, hin, hTF⟩ := X
  replace hI : match (generalizing := false) st with
    | .int y :: .int x :: r => ¬ y = 0 ∧ K (pc + 1) L (.int (x / y) :: r) h bc bs
    | _ => False := hI
  split at hI
  · intro ad H locs cells slots ls e1 e2 e3 e4 e5 hP hD hS hl b1 b2
    refine lv_idiv hx hb hdg hI.1 ?_
    exact hKG _ _ _ _ _ _ (hI.2) ad H locs cells slots ls e1 e2 (mj_cn trivial (mj_tl (mj_tl e3))) e4 e5 hP hD hS hl b1 b2
  · exact hI.elim
set_option maxHeartbeats 100000 in
theorem mj_s_irem {K : mj_K} (hKG : ∀ pc L st h bc bs, K pc L st h bc bs → mj_Go p l e R s m args below meth c Q D cA sd A n0 ad0 mc ms T.1 pc L st h bc bs) (X : mj_Cx p l R s m args meth c cc own ini lev D cA sd adK adV A mc ms T) (hdg : decode cc pc = .ok (.irem, 1)) (hI : mj_I T ret K pc L st h bc bs .irem) : mj_Go p l e R s m args below meth c Q D cA sd A n0 ad0 mc ms T.1 pc L st h bc bs := by
  obtain ⟨hx, hb, hml, hown, hts, hK, hA, hX, hR, hin, hTF⟩ := X
  replace hI : match (generalizing := false) st with
    | .int y :: .int x :: r => ¬ y = 0 ∧ K (pc + 1) L (.int (x - x / y * y) :: r) h bc bs
    | _ => False := hI
  split at hI
  · intro ad H locs cells slots ls e1 e2 e3 e4 e5 hP hD hS hl b1 b2
    refine lv_irem hx hb hdg hI.1 ?_
    exact hKG _ _ _ _ _ _ (hI.2) ad H locs cells slots ls e1 e2 (mj_cn trivial (mj_tl (mj_tl e3))) e4 e5 hP hD hS hl b1 b2
  · exact hI.elim
set_option maxHeartbeats 100000 in
theorem mj_s_ldiv {K : mj_K} (hKG : ∀ pc L st h bc bs, K pc L st h bc bs → mj_Go p l e R s m args below meth c Q D cA sd A n0 ad0 mc ms T.1 pc L st h bc bs) (X : mj_Cx p l R s m args meth c cc own ini lev D cA sd adK adV A mc ms T) (hdg : decode cc pc = .ok (.ldiv, 1)) (hI : mj_I T ret K pc L st h bc bs .ldiv) : mj_Go p l e R s m args below meth c Q D cA sd A n0 ad0 mc ms T.1 pc L st h bc bs := by
  obtain ⟨hx, hb, hml, hown, hts, hK, hA, hX, hR, hin, hTF⟩ := X
  replace hI : match (generalizing := false) st with
    | .long y :: .long x :: r => ¬ y = 0 ∧ K (pc + 1) L (.long (x / y) :: r) h bc bs
    | _ => False := hI
  split at hI
  · intro ad H locs cells slots ls e1 e2 e3 e4 e5 hP hD hS hl b1 b2
    refine lv_ldiv hx hb hdg hI.1 ?_
    exact hKG _ _ _ _ _ _ (hI.2) ad H locs cells slots ls e1 e2 (mj_cn trivial (mj_tl (mj_tl e3))) e4 e5 hP hD hS hl b1 b2
  · exact hI.elim
set_option maxHeartbeats 100000 in
theorem mj_s_ineg {K : mj_K} (hKG : ∀ pc L st h bc bs, K pc L st h bc bs → mj_Go p l e R s m args below meth c Q D cA sd A n0 ad0 mc ms T.1 pc L st h bc bs) (X : mj_Cx p l R s m args meth c cc own ini lev D cA sd adK adV A mc ms T) (hdg : decode cc pc = .ok (.ineg, 1)) (hI : mj_I T ret K pc L st h bc bs .ineg) : mj_Go p l e R s m args below meth c Q D cA sd A n0 ad0 mc ms T.1 pc L st h bc bs := by
  obtain ⟨hx, hb, hml, hown, hts, hK, hA, hX, hR, hin, hTF⟩ := X
  replace hI : match (generalizing := false) st with
    | .int x :: r => K (pc + 1) L (.int (-x) :: r) h bc bs
    | _ => False := hI
  split at hI
  · intro ad H locs cells slots ls e1 e2 e3 e4 e5 hP hD hS hl b1 b2
    refine lv_ineg hx hb hdg ?_
    exact hKG _ _ _ _ _ _ (hI) ad H locs cells slots ls e1 e2 (mj_cn trivial (mj_tl e3)) e4 e5 hP hD hS hl b1 b2
  · exact hI.elim
set_option maxHeartbeats 100000 in
theorem mj_s_i2l {K : mj_K} (hKG : ∀ pc L st h bc bs, K pc L st h bc bs → mj_Go p l e R s m args below meth c Q D cA sd A n0 ad0 mc ms T.1 pc L st h bc bs) (X : mj_Cx p l R s m args meth c cc own ini lev D cA sd adK adV A mc ms T) (hdg : decode cc pc = .ok (.i2l, 1)) (hI : mj_I T ret K pc L st h bc bs .i2l) : mj_Go p l e R s m args below meth c Q D cA sd A n0 ad0 mc ms T.1 pc L st h bc bs := by
  obtain ⟨hx, hb, hml, hown, hts, hK, hA, hX, hR, hin, hTF⟩ := X
  replace hI : match (generalizing := false) st with
    | .int x :: r => K (pc + 1) L (.long x.toInt64 :: r) h bc bs
    | _ => False := hI
  split at hI
  · intro ad H locs cells slots ls e1 e2 e3 e4 e5 hP hD hS hl b1 b2
    refine lv_i2l hx hb hdg rfl ?_
    exact hKG _ _ _ _ _ _ (hI) ad H locs cells slots ls e1 e2 (mj_cn trivial (mj_tl e3)) e4 e5 hP hD hS hl b1 b2
  · exact hI.elim
set_option maxHeartbeats 100000 in
theorem mj_s_l2i {K : mj_K} (hKG : ∀ pc L st h bc bs, K pc L st h bc bs → mj_Go p l e R s m args below meth c Q D cA sd A n0 ad0 mc ms T.1 pc L st h bc bs) (X : mj_Cx p l R s m args meth c cc own ini lev D cA sd adK adV A mc ms T) (hdg : decode cc pc = .ok (.l2i, 1)) (hI : mj_I T ret K pc L st h bc bs .l2i) : mj_Go p l e R s m args below meth c Q D cA sd A n0 ad0 mc ms T.1 pc L st h bc bs := by
  obtain ⟨hx, hb, hml, hown, hts, hK, hA, hX, hR, hin, hTF⟩ := X
  replace hI : match (generalizing := false) st with
    | .long x :: r => K (pc + 1) L (.int x.toInt32 :: r) h bc bs
    | _ => False := hI
  split at hI
  · intro ad H locs cells slots ls e1 e2 e3 e4 e5 hP hD hS hl b1 b2
    refine lv_l2i hx hb hdg rfl ?_
    exact hKG _ _ _ _ _ _ (hI) ad H locs cells slots ls e1 e2 (mj_cn trivial (mj_tl e3)) e4 e5 hP hD hS hl b1 b2
  · exact hI.elim
set_option maxHeartbeats 100000 in
theorem mj_s_lcmp {K : mj_K} (hKG : ∀ pc L st h bc bs, K pc L st h bc bs → mj_Go p l e R s m args below meth c Q D cA sd A n0 ad0 mc ms T.1 pc L st h bc bs) (X : mj_Cx p l R s m args meth c cc own ini lev D cA sd adK adV A mc ms T) (hdg : decode cc pc = .ok (.lcmp, 1)) (hI : mj_I T ret K pc L st h bc bs .lcmp) : mj_Go p l e R s m args below meth c Q D cA sd A n0 ad0 mc ms T.1 pc L st h bc bs := by
  obtain ⟨hx, hb, hml, hown, hts, hK, hA, hX, hR, hin, hTF⟩ := X
  replace hI : match (generalizing := false) st with
    | .long y :: .long x :: r => K (pc + 1) L (.int (lg_cmp x y) :: r) h bc bs
    | _ => False := hI
  split at hI
  · intro ad H locs cells slots ls e1 e2 e3 e4 e5 hP hD hS hl b1 b2
    refine W.lcmp hx hb hdg ?_
    exact hKG _ _ _ _ _ _ (hI) ad H locs cells slots ls e1 e2 (mj_cn trivial (mj_tl (mj_tl e3))) e4 e5 hP hD hS hl b1 b2
  · exact hI.elim
set_option maxHeartbeats 100000 in
theorem mj_s_dup {K : mj_K} (hKG : ∀ pc L st h bc bs, K pc L st h bc bs → mj_Go p l e R s m args below meth c Q D cA sd A n0 ad0 mc ms T.1 pc L st h bc bs) (X : mj_Cx p l R s m args meth c cc own ini lev D cA sd adK adV A mc ms T) (hdg : decode cc pc = .ok (.dup, 1)) (hI : mj_I T ret K pc L st h bc bs .dup) : mj_Go p l e R s m args below meth c Q D cA sd A n0 ad0 mc ms T.1 pc L st h bc bs := by
  obtain ⟨hx, hb, hml, hown, hts, hK, hA, hX, hR, hin, hTF⟩ := X
  replace hI : match (generalizing := false) st with
    | v :: r => mj_c2 v = false ∧ K (pc + 1) L (v :: v :: r) h bc bs
    | _ => False := hI
  split at hI
  · intro ad H locs cells slots ls e1 e2 e3 e4 e5 hP hD hS hl b1 b2
    refine lv_dup hx hb hdg (mj_cat1 hI.1) ?_
    exact hKG _ _ _ _ _ _ (hI.2) ad H locs cells slots ls e1 e2 (mj_cn (mj_hd e3) e3) e4 e5 hP hD hS hl b1 b2
  · exact hI.elim
set_option maxHeartbeats 100000 in
theorem mj_s_pop {K : mj_K} (hKG : ∀ pc L st h bc bs, K pc L st h bc bs → mj_Go p l e R s m args below meth c Q D cA sd A n0 ad0 mc ms T.1 pc L st h bc bs) (X : mj_Cx p l R s m args meth c cc own ini lev D cA sd adK adV A mc ms T) (hdg : decode cc pc = .ok (.pop, 1)) (hI : mj_I T ret K pc L st h bc bs .pop) : mj_Go p l e R s m args below meth c Q D cA sd A n0 ad0 mc ms T.1 pc L st h bc bs := by
  obtain ⟨hx, hb, hml, hown, hts, hK, hA, hX, hR, hin, hTF⟩ := X
  replace hI : match (generalizing := false) st with
    | v :: r => mj_c2 v = false ∧ K (pc + 1) L r h bc bs
    | _ => False := hI
  split at hI
  · intro ad H locs cells slots ls e1 e2 e3 e4 e5 hP hD hS hl b1 b2
    refine lv_pop hx hb hdg (mj_cat1 hI.1) ?_
    exact hKG _ _ _ _ _ _ (hI.2) ad H locs cells slots ls e1 e2 (mj_tl e3) e4 e5 hP hD hS hl b1 b2
  · exact hI.elim
set_option maxHeartbeats 100000 in
theorem mj_s_dup2 {K : mj_K} (hKG : ∀ pc L st h bc bs, K pc L st h bc bs → mj_Go p l e R s m args below meth c Q D cA sd A n0 ad0 mc ms T.1 pc L st h bc bs) (X : mj_Cx p l R s m args meth c cc own ini lev D cA sd adK adV A mc ms T) (hdg : decode cc pc = .ok (.dup2, 1)) (hI : mj_I T ret K pc L st h bc bs .dup2) : mj_Go p l e R s m args below meth c Q D cA sd A n0 ad0 mc ms T.1 pc L st h bc bs := by
  obtain ⟨hx, hb, hml, hown, hts, hK, hA, hX, hR, hin, hTF⟩ := X
  replace hI : match (generalizing := false) st with
    | v :: w :: r => mj_c2 v = false ∧ mj_c2 w = false ∧ K (pc + 1) L (v :: w :: v :: w :: r) h bc bs
    | _ => False := hI
  split at hI
  · intro ad H locs cells slots ls e1 e2 e3 e4 e5 hP hD hS hl b1 b2
    refine lv_dup2_11 hx hb hdg (mj_cat1 hI.1) (mj_cat1 hI.2.1) ?_
    exact hKG _ _ _ _ _ _ (hI.2.2) ad H locs cells slots ls e1 e2 (mj_cn (mj_hd e3) (mj_cn (mj_hd (mj_tl e3)) e3)) e4 e5 hP hD hS hl b1 b2
  · exact hI.elim
set_option maxHeartbeats 100000 in
theorem mj_s_if_eq {off : Int} {K : mj_K} (hKG : ∀ pc L st h bc bs, K pc L st h bc bs → mj_Go p l e R s m args below meth c Q D cA sd A n0 ad0 mc ms T.1 pc L st h bc bs) (X : mj_Cx p l R s m args meth c cc own ini lev D cA sd adK adV A mc ms T) (hdg : decode cc pc = .ok (.ifCond .eq off, 3)) (hI : mj_I T ret K pc L st h bc bs (.ifCond .eq off)) : mj_Go p l e R s m args below meth c Q D cA sd A n0 ad0 mc ms T.1 pc L st h bc bs := by
  obtain ⟨hx, hb, hml, hown, hts, hK, hA, hX, hR, hin, hTF⟩ := X
  replace hI : match (generalizing := false) st with
    | .int x :: r => 0 ≤ (pc : Int) + off ∧ (x = 0 → K (mj_t pc off) L r h bc bs) ∧ (¬ x = 0 → K (pc + 3) L r h bc bs)
    | _ => False := hI
  split at hI
  · intro ad H locs cells slots ls e1 e2 e3 e4 e5 hP hD hS hl b1 b2
    refine lv_if_eq (tgt := mj_t pc off) hx hb hdg (mj_te hI.1) (fun q => ?_) (fun q => ?_)
    · exact hKG _ _ _ _ _ _ (hI.2.1 q) ad H locs cells slots ls e1 e2 (mj_tl e3) e4 e5 hP hD hS hl b1 b2
    · exact hKG _ _ _ _ _ _ (hI.2.2 q) ad H locs cells slots ls e1 e2 (mj_tl e3) e4 e5 hP hD hS hl b1 b2
  · exact hI.elim
set_option maxHeartbeats 100000 in
theorem mj_s_icmp_eq {off : Int} {K : mj_K} (hKG : ∀ pc L st h bc bs, K pc L st h bc bs → mj_Go p l e R s m args below meth c Q D cA sd A n0 ad0 mc ms T.1 pc L st h bc bs) (X : mj_Cx p l R s m args meth c cc own ini lev D cA sd adK adV A mc ms T) (hdg : decode cc pc = .ok (.if_icmp .eq off, 3)) (hI : mj_I T ret K pc L st h bc bs (.if_icmp .eq off)) : mj_Go p l e R s m args below meth c Q D cA sd A n0 ad0 mc ms T.1 pc L st h bc bs := by
  obtain ⟨hx, hb, hml, hown, hts, hK, hA, hX, hR, hin, hTF⟩ := X
  replace hI : match (generalizing := false) st with
    | .int y :: .int x :: r => 0 ≤ (pc : Int) + off ∧ (x = y → K (mj_t pc off) L r h bc bs) ∧ (¬ x = y → K (pc + 3) L r h bc bs)
    | _ => False := hI
  split at hI
  · intro ad H locs cells slots ls e1 e2 e3 e4 e5 hP hD hS hl b1 b2
    refine lv_icmp_eq (tgt := mj_t pc off) hx hb hdg (mj_te hI.1) (fun q => ?_) (fun q => ?_)
    · exact hKG _ _ _ _ _ _ (hI.2.1 q) ad H locs cells slots ls e1 e2 (mj_tl (mj_tl e3)) e4 e5 hP hD hS hl b1 b2
    · exact hKG _ _ _ _ _ _ (hI.2.2 q) ad H locs cells slots ls e1 e2 (mj_tl (mj_tl e3)) e4 e5 hP hD hS hl b1 b2
  · exact hI.elim
set_option maxHeartbeats 100000 in
theorem mj_s_if_ne {off : Int} {K : mj_K} (hKG : ∀ pc L st h bc bs, K pc L st h bc bs → mj_Go p l e R s m args below meth c Q D cA sd A n0 ad0 mc ms T.1 pc L st h bc bs) (X : mj_Cx p l R s m args meth c cc own ini lev D cA sd adK adV A mc ms T) (hdg : decode cc pc = .ok (.ifCond .ne off, 3)) (hI : mj_I T ret K pc L st h bc bs (.ifCond .ne off)) : mj_Go p l e R s m args below meth c Q D cA sd A n0 ad0 mc ms T.1 pc L st h bc bs := by
  obtain ⟨hx, hb, hml, hown, hts, hK, hA, hX, hR, hin, hTF⟩ := X
  replace hI : match (generalizing := false) st with
    | .int x :: r => 0 ≤ (pc : Int) + off ∧ (¬ x = 0 → K (mj_t pc off) L r h bc bs) ∧ (x = 0 → K (pc + 3) L r h bc bs)
    | _ => False := hI
  split at hI
  · intro ad H locs cells slots ls e1 e2 e3 e4 e5 hP hD hS hl b1 b2
    refine lv_if_ne (tgt := mj_t pc off) hx hb hdg (mj_te hI.1) (fun q => ?_) (fun q => ?_)
    · exact hKG _ _ _ _ _ _ (hI.2.1 q) ad H locs cells slots ls e1 e2 (mj_tl e3) e4 e5 hP hD hS hl b1 b2
    · exact hKG _ _ _ _ _ _ (hI.2.2 q) ad H locs cells slots ls e1 e2 (mj_tl e3) e4 e5 hP hD hS hl b1 b2
  · exact hI.elim
set_option maxHeartbeats 100000 in
theorem mj_s_icmp_ne {off : Int} {K : mj_K} (hKG : ∀ pc L st h bc bs, K pc L st h bc bs → mj_Go p l e R s m args below meth c Q D cA sd A n0 ad0 mc ms T.1 pc L st h bc bs) (X : mj_Cx p l R s m args meth c cc own ini lev D cA sd adK adV A mc ms T) (hdg : decode cc pc = .ok (.if_icmp .ne off, 3)) (hI : mj_I T ret K pc L st h bc bs (.if_icmp .ne off)) : mj_Go p l e R s m args below meth c Q D cA sd A n0 ad0 mc ms T.1 pc L st h bc bs := by
  obtain ⟨hx, hb, hml, hown, hts, hK, hA, hX, hR, hin, hTF⟩ := X
  replace hI : match (generalizing := false) st with
    | .int y :: .int x :: r => 0 ≤ (pc : Int) + off ∧ (¬ x = y → K (mj_t pc off) L r h bc bs) ∧ (x = y → K (pc + 3) L r h bc bs)
    | _ => False := hI
  split at hI
  · intro ad H locs cells slots ls e1 e2 e3 e4 e5 hP hD hS hl b1 b2
    refine lv_icmp_ne (tgt := mj_t pc off) hx hb hdg (mj_te hI.1) (fun q => ?_) (fun q => ?_)
    · exact hKG _ _ _ _ _ _ (hI.2.1 q) ad H locs cells slots ls e1 e2 (mj_tl (mj_tl e3)) e4 e5 hP hD hS hl b1 b2
    · exact hKG _ _ _ _ _ _ (hI.2.2 q) ad H locs cells slots ls e1 e2 (mj_tl (mj_tl e3)) e4 e5 hP hD hS hl b1 b2
  · exact hI.elim
set_option maxHeartbeats 100000 in
theorem mj_s_if_lt {off : Int} {K : mj_K} (hKG : ∀ pc L st h bc bs, K pc L st h bc bs → mj_Go p l e R s m args below meth c Q D cA sd A n0 ad0 mc ms T.1 pc L st h bc bs) (X : mj_Cx p l R s m args meth c cc own ini lev D cA sd adK adV A mc ms T) (hdg : decode cc pc = .ok (.ifCond .lt off, 3)) (hI : mj_I T ret K pc L st h bc bs (.ifCond .lt off)) : mj_Go p l e R s m args below meth c Q D cA sd A n0 ad0 mc ms T.1 pc L st h bc bs := by
  obtain ⟨hx, hb, hml, hown, hts, hK, hA, hX, hR, hin, hTF⟩ := X
  replace hI : match (generalizing := false) st with
    | .int x :: r => 0 ≤ (pc : Int) + off ∧ (x < 0 → K (mj_t pc off) L r h bc bs) ∧ (¬ x < 0 → K (pc + 3) L r h bc bs)
    | _ => False := hI
  split at hI
  · intro ad H locs cells slots ls e1 e2 e3 e4 e5 hP hD hS hl b1 b2
    refine lv_if_lt (tgt := mj_t pc off) hx hb hdg (mj_te hI.1) (fun q => ?_) (fun q => ?_)
    · exact hKG _ _ _ _ _ _ (hI.2.1 q) ad H locs cells slots ls e1 e2 (mj_tl e3) e4 e5 hP hD hS hl b1 b2
    · exact hKG _ _ _ _ _ _ (hI.2.2 q) ad H locs cells slots ls e1 e2 (mj_tl e3) e4 e5 hP hD hS hl b1 b2
  · exact hI.elim
set_option maxHeartbeats 100000 in
theorem mj_s_icmp_lt {off : Int} {K : mj_K} (hKG : ∀ pc L st h bc bs, K pc L st h bc bs → mj_Go p l e R s m args below meth c Q D cA sd A n0 ad0 mc ms T.1 pc L st h bc bs) (X : mj_Cx p l R s m args meth c cc own ini lev D cA sd adK adV A mc ms T) (hdg : decode cc pc = .ok (.if_icmp .lt off, 3)) (hI : mj_I T ret K pc L st h bc bs (.if_icmp .lt off)) : mj_Go p l e R s m args below meth c Q D cA sd A n0 ad0 mc ms T.1 pc L st h bc bs := by
  obtain ⟨hx, hb, hml, hown, hts, hK, hA, hX, hR, hin, hTF⟩ := X
  replace hI : match (generalizing := false) st with
    | .int y :: .int x :: r => 0 ≤ (pc : Int) + off ∧ (x < y → K (mj_t pc off) L r h bc bs) ∧ (¬ x < y → K (pc + 3) L r h bc bs)
    | _ => False := hI
  split at hI
  · intro ad H locs cells slots ls e1 e2 e3 e4 e5 hP hD hS hl b1 b2
    refine lv_icmp_lt (tgt := mj_t pc off) hx hb hdg (mj_te hI.1) (fun q => ?_) (fun q => ?_)
    · exact hKG _ _ _ _ _ _ (hI.2.1 q) ad H locs cells slots ls e1 e2 (mj_tl (mj_tl e3)) e4 e5 hP hD hS hl b1 b2
    · exact hKG _ _ _ _ _ _ (hI.2.2 q) ad H locs cells slots ls e1 e2 (mj_tl (mj_tl e3)) e4 e5 hP hD hS hl b1 b2
  · exact hI.elim
set_option maxHeartbeats 100000 in
theorem mj_s_if_ge {off : Int} {K : mj_K} (hKG : ∀ pc L st h bc bs, K pc L st h bc bs → mj_Go p l e R s m args below meth c Q D cA sd A n0 ad0 mc ms T.1 pc L st h bc bs) (X : mj_Cx p l R s m args meth c cc own ini lev D cA sd adK adV A mc ms T) (hdg : decode cc pc = .ok (.ifCond .ge off, 3)) (hI : mj_I T ret K pc L st h bc bs (.ifCond .ge off)) : mj_Go p l e R s m args below meth c Q D cA sd A n0 ad0 mc ms T.1 pc L st h bc bs := by
  obtain ⟨hx, hb, hml, hown, hts, hK, hA, hX, hR, hin, hTF⟩ := X
  replace hI : match (generalizing := false) st with
    | .int x :: r => 0 ≤ (pc : Int) + off ∧ (0 ≤ x → K (mj_t pc off) L r h bc bs) ∧ (¬ 0 ≤ x → K (pc + 3) L r h bc bs)
    | _ => False := hI
  split at hI
  · intro ad H locs cells slots ls e1 e2 e3 e4 e5 hP hD hS hl b1 b2
    refine lv_if_ge (tgt := mj_t pc off) hx hb hdg (mj_te hI.1) (fun q => ?_) (fun q => ?_)
    · exact hKG _ _ _ _ _ _ (hI.2.1 q) ad H locs cells slots ls e1 e2 (mj_tl e3) e4 e5 hP hD hS hl b1 b2
    · exact hKG _ _ _ _ _ _ (hI.2.2 q) ad H locs cells slots ls e1 e2 (mj_tl e3) e4 e5 hP hD hS hl b1 b2
  · exact hI.elim
set_option maxHeartbeats 100000 in
theorem mj_s_icmp_ge {off : Int} {K : mj_K} (hKG : ∀ pc L st h bc bs, K pc L st h bc bs → mj_Go p l e R s m args below meth c Q D cA sd A n0 ad0 mc ms T.1 pc L st h bc bs) (X : mj_Cx p l R s m args meth c cc own ini lev D cA sd adK adV A mc ms T) (hdg : decode cc pc = .ok (.if_icmp .ge off, 3)) (hI : mj_I T ret K pc L st h bc bs (.if_icmp .ge off)) : mj_Go p l e R s m args below meth c Q D cA sd A n0 ad0 mc ms T.1 pc L st h bc bs := by
  obtain ⟨hx, hb, hml, hown, hts, hK, hA, hX, hR, hin, hTF⟩ := X
  replace hI : match (generalizing := false) st with
    | .int y :: .int x :: r => 0 ≤ (pc : Int) + off ∧ (y ≤ x → K (mj_t pc off) L r h bc bs) ∧ (¬ y ≤ x → K (pc + 3) L r h bc bs)
    | _ => False := hI
  split at hI
  · intro ad H locs cells slots ls e1 e2 e3 e4 e5 hP hD hS hl b1 b2
    refine lv_icmp_ge (tgt := mj_t pc off) hx hb hdg (mj_te hI.1) (fun q => ?_) (fun q => ?_)
    · exact hKG _ _ _ _ _ _ (hI.2.1 q) ad H locs cells slots ls e1 e2 (mj_tl (mj_tl e3)) e4 e5 hP hD hS hl b1 b2
    · exact hKG _ _ _ _ _ _ (hI.2.2 q) ad H locs cells slots ls e1 e2 (mj_tl (mj_tl e3)) e4 e5 hP hD hS hl b1 b2
  · exact hI.elim
set_option maxHeartbeats 100000 in
theorem mj_s_if_gt {off : Int} {K : mj_K} (hKG : ∀ pc L st h bc bs, K pc L st h bc bs → mj_Go p l e R s m args below meth c Q D cA sd A n0 ad0 mc ms T.1 pc L st h bc bs) (X : mj_Cx p l R s m args meth c cc own ini lev D cA sd adK adV A mc ms T) (hdg : decode cc pc = .ok (.ifCond .gt off, 3)) (hI : mj_I T ret K pc L st h bc bs (.ifCond .gt off)) : mj_Go p l e R s m args below meth c Q D cA sd A n0 ad0 mc ms T.1 pc L st h bc bs := by
  obtain ⟨hx, hb, hml, hown, hts, hK, hA, hX, hR, hin, hTF⟩ := X
  replace hI : match (generalizing := false) st with
    | .int x :: r => 0 ≤ (pc : Int) + off ∧ (0 < x → K (mj_t pc off) L r h bc bs) ∧ (¬ 0 < x → K (pc + 3) L r h bc bs)
    | _ => False := hI
  split at hI
  · intro ad H locs cells slots ls e1 e2 e3 e4 e5 hP hD hS hl b1 b2
    refine lv_if_gt (tgt := mj_t pc off) hx hb hdg (mj_te hI.1) (fun q => ?_) (fun q => ?_)
    · exact hKG _ _ _ _ _ _ (hI.2.1 q) ad H locs cells slots ls e1 e2 (mj_tl e3) e4 e5 hP hD hS hl b1 b2
    · exact hKG _ _ _ _ _ _ (hI.2.2 q) ad H locs cells slots ls e1 e2 (mj_tl e3) e4 e5 hP hD hS hl b1 b2
  · exact hI.elim
set_option maxHeartbeats 100000 in
theorem mj_s_icmp_gt {off : Int} {K : mj_K} (hKG : ∀ pc L st h bc bs, K pc L st h bc bs → mj_Go p l e R s m args below meth c Q D cA sd A n0 ad0 mc ms T.1 pc L st h bc bs) (X : mj_Cx p l R s m args meth c cc own ini lev D cA sd adK adV A mc ms T) (hdg : decode cc pc = .ok (.if_icmp .gt off, 3)) (hI : mj_I T ret K pc L st h bc bs (.if_icmp .gt off)) : mj_Go p l e R s m args below meth c Q D cA sd A n0 ad0 mc ms T.1 pc L st h bc bs := by
  obtain ⟨hx, hb, hml, hown, hts, hK, hA, hX, hR, hin, hTF⟩ := X
  replace hI : match (generalizing := false) st with
    | .int y :: .int x :: r => 0 ≤ (pc : Int) + off ∧ (y < x → K (mj_t pc off) L r h bc bs) ∧ (¬ y < x → K (pc + 3) L r h bc bs)
    | _ => False := hI
  split at hI
  · intro ad H locs cells slots ls e1 e2 e3 e4 e5 hP hD hS hl b1 b2
    refine lv_icmp_gt (tgt := mj_t pc off) hx hb hdg (mj_te hI.1) (fun q => ?_) (fun q => ?_)
    · exact hKG _ _ _ _ _ _ (hI.2.1 q) ad H locs cells slots ls e1 e2 (mj_tl (mj_tl e3)) e4 e5 hP hD hS hl b1 b2
    · exact hKG _ _ _ _ _ _ (hI.2.2 q) ad H locs cells slots ls e1 e2 (mj_tl (mj_tl e3)) e4 e5 hP hD hS hl b1 b2
  · exact hI.elim
set_option maxHeartbeats 100000 in
theorem mj_s_if_le {off : Int} {K : mj_K} (hKG : ∀ pc L st h bc bs, K pc L st h bc bs → mj_Go p l e R s m args below meth c Q D cA sd A n0 ad0 mc ms T.1 pc L st h bc bs) (X : mj_Cx p l R s m args meth c cc own ini lev D cA sd adK adV A mc ms T) (hdg : decode cc pc = .ok (.ifCond .le off, 3)) (hI : mj_I T ret K pc L st h bc bs (.ifCond .le off)) : mj_Go p l e R s m args below meth c Q D cA sd A n0 ad0 mc ms T.1 pc L st h bc bs := by
  obtain ⟨hx, hb, hml, hown, hts, hK, hA, hX, hR, hin, hTF⟩ := X
  replace hI : match (generalizing := false) st with
    | .int x :: r => 0 ≤ (pc : Int) + off ∧ (x ≤ 0 → K (mj_t pc off) L r h bc bs) ∧ (¬ x ≤ 0 → K (pc + 3) L r h bc bs)
    | _ => False := hI
  split at hI
  · intro ad H locs cells slots ls e1 e2 e3 e4 e5 hP hD hS hl b1 b2
    refine lv_if_le (tgt := mj_t pc off) hx hb hdg (mj_te hI.1) (fun q => ?_) (fun q => ?_)
    · exact hKG _ _ _ _ _ _ (hI.2.1 q) ad H locs cells slots ls e1 e2 (mj_tl e3) e4 e5 hP hD hS hl b1 b2
    · exact hKG _ _ _ _ _ _ (hI.2.2 q) ad H locs cells slots ls e1 e2 (mj_tl e3) e4 e5 hP hD hS hl b1 b2
  · exact hI.elim
set_option maxHeartbeats 100000 in
theorem mj_s_icmp_le {off : Int} {K : mj_K} (hKG : ∀ pc L st h bc bs, K pc L st h bc bs → mj_Go p l e R s m args below meth c Q D cA sd A n0 ad0 mc ms T.1 pc L st h bc bs) (X : mj_Cx p l R s m args meth c cc own ini lev D cA sd adK adV A mc ms T) (hdg : decode cc pc = .ok (.if_icmp .le off, 3)) (hI : mj_I T ret K pc L st h bc bs (.if_icmp .le off)) : mj_Go p l e R s m args below meth c Q D cA sd A n0 ad0 mc ms T.1 pc L st h bc bs := by
  obtain ⟨hx, hb, hml, hown, hts, hK, hA, hX, hR, hin, hTF⟩ := X
  replace hI : match (generalizing := false) st with
    | .int y :: .int x :: r => 0 ≤ (pc : Int) + off ∧ (x ≤ y → K (mj_t pc off) L r h bc bs) ∧ (¬ x ≤ y → K (pc + 3) L r h bc bs)
    | _ => False := hI
  split at hI
  · intro ad H locs cells slots ls e1 e2 e3 e4 e5 hP hD hS hl b1 b2
    refine lv_icmp_le (tgt := mj_t pc off) hx hb hdg (mj_te hI.1) (fun q => ?_) (fun q => ?_)
    · exact hKG _ _ _ _ _ _ (hI.2.1 q) ad H locs cells slots ls e1 e2 (mj_tl (mj_tl e3)) e4 e5 hP hD hS hl b1 b2
    · exact hKG _ _ _ _ _ _ (hI.2.2 q) ad H locs cells slots ls e1 e2 (mj_tl (mj_tl e3)) e4 e5 hP hD hS hl b1 b2
  · exact hI.elim
set_option maxHeartbeats 100000 in
theorem mj_s_ifnull {off : Int} {K : mj_K} (hKG : ∀ pc L st h bc bs, K pc L st h bc bs → mj_Go p l e R s m args below meth c Q D cA sd A n0 ad0 mc ms T.1 pc L st h bc bs) (X : mj_Cx p l R s m args meth c cc own ini lev D cA sd adK adV A mc ms T) (hdg : decode cc pc = .ok (.ifnull off, 3)) (hI : mj_I T ret K pc L st h bc bs (.ifnull off)) : mj_Go p l e R s m args below meth c Q D cA sd A n0 ad0 mc ms T.1 pc L st h bc bs := by
  obtain ⟨hx, hb, hml, hown, hts, hK, hA, hX, hR, hin, hTF⟩ := X
  replace hI : match (generalizing := false) st with
    | .null :: r => mj_go pc off (K (mj_t pc off) L r h bc bs)
    | .ref _ :: r => K (pc + 3) L r h bc bs
    | _ => False := hI
  split at hI
  · intro ad H locs cells slots ls e1 e2 e3 e4 e5 hP hD hS hl b1 b2
    refine lv_ifnullN (tgt := mj_t pc off) hx hb hdg (mj_te hI.1) ?_
    exact hKG _ _ _ _ _ _ (hI.2) ad H locs cells slots ls e1 e2 (mj_tl e3) e4 e5 hP hD hS hl b1 b2
  · intro ad H locs cells slots ls e1 e2 e3 e4 e5 hP hD hS hl b1 b2
    refine lv_ifnull hx hb hdg ?_
    exact hKG _ _ _ _ _ _ (hI) ad H locs cells slots ls e1 e2 (mj_tl e3) e4 e5 hP hD hS hl b1 b2
  · exact hI.elim
set_option maxHeartbeats 100000 in
theorem mj_s_ifnonnull {off : Int} {K : mj_K} (hKG : ∀ pc L st h bc bs, K pc L st h bc bs → mj_Go p l e R s m args below meth c Q D cA sd A n0 ad0 mc ms T.1 pc L st h bc bs) (X : mj_Cx p l R s m args meth c cc own ini lev D cA sd adK adV A mc ms T) (hdg : decode cc pc = .ok (.ifnonnull off, 3)) (hI : mj_I T ret K pc L st h bc bs (.ifnonnull off)) : mj_Go p l e R s m args below meth c Q D cA sd A n0 ad0 mc ms T.1 pc L st h bc bs := by
  obtain ⟨hx, hb, hml, hown, hts, hK, hA, hX, hR, hin, hTF⟩ := X
  replace hI : match (generalizing := false) st with
    | .ref _ :: r => mj_go pc off (K (mj_t pc off) L r h bc bs)
    | .null :: r => K (pc + 3) L r h bc bs
    | _ => False := hI
  split at hI
  · intro ad H locs cells slots ls e1 e2 e3 e4 e5 hP hD hS hl b1 b2
    refine lv_ifnonnull (tgt := mj_t pc off) hx hb hdg (mj_te hI.1) ?_
    exact hKG _ _ _ _ _ _ (hI.2) ad H locs cells slots ls e1 e2 (mj_tl e3) e4 e5 hP hD hS hl b1 b2
  · intro ad H locs cells slots ls e1 e2 e3 e4 e5 hP hD hS hl b1 b2
    refine lv_ifnonnullN hx hb hdg ?_
    exact hKG _ _ _ _ _ _ (hI) ad H locs cells slots ls e1 e2 (mj_tl e3) e4 e5 hP hD hS hl b1 b2
  · exact hI.elim
set_option maxHeartbeats 100000 in
theorem mj_s_goto {off : Int} {K : mj_K} (hKG : ∀ pc L st h bc bs, K pc L st h bc bs → mj_Go p l e R s m args below meth c Q D cA sd A n0 ad0 mc ms T.1 pc L st h bc bs) (X : mj_Cx p l R s m args meth c cc own ini lev D cA sd adK adV A mc ms T) (hdg : decode cc pc = .ok (.goto off, 3)) (hI : mj_I T ret K pc L st h bc bs (.goto off)) : mj_Go p l e R s m args below meth c Q D cA sd A n0 ad0 mc ms T.1 pc L st h bc bs := by
  obtain ⟨hx, hb, hml, hown, hts, hK, hA, hX, hR, hin, hTF⟩ := X
  replace hI : mj_go pc off (K (mj_t pc off) L st h bc bs) := hI
  intro ad H locs cells slots ls e1 e2 e3 e4 e5 hP hD hS hl b1 b2
  refine lv_goto (tgt := mj_t pc off) hx hb hdg (mj_te hI.1) ?_
  exact hKG _ _ _ _ _ _ (hI.2) ad H locs cells slots ls e1 e2 e3 e4 e5 hP hD hS hl b1 b2
set_option maxHeartbeats 100000 in
theorem mj_s_tableswitch {dflt : Int} {lo : Int} {hi : Int} {offs : Array Int} {len : Nat} {K : mj_K} (hKG : ∀ pc L st h bc bs, K pc L st h bc bs → mj_Go p l e R s m args below meth c Q D cA sd A n0 ad0 mc ms T.1 pc L st h bc bs) (X : mj_Cx p l R s m args meth c cc own ini lev D cA sd adK adV A mc ms T) (hdg : decode cc pc = .ok (.tableswitch dflt lo hi offs, len)) (hI : mj_I T ret K pc L st h bc bs (.tableswitch dflt lo hi offs)) : mj_Go p l e R s m args below meth c Q D cA sd A n0 ad0 mc ms T.1 pc L st h bc bs := by
  obtain ⟨hx, hb, hml, hown, hts, hK, hA, hX, hR, hin, hTF⟩ := X
  replace hI : match (generalizing := false) st with
    | .int x :: r => (¬ x.toInt < lo → ¬ hi < x.toInt → match (generalizing := false) offs[(x.toInt - lo).toNat]? with
        | some off => mj_go pc off (K (mj_t pc off) L r h bc bs)
        | none => False) ∧ ((x.toInt < lo ∨ hi < x.toInt) → mj_go pc dflt (K (mj_t pc dflt) L r h bc bs))
    | _ => False := hI
  split at hI
  · next x r =>
    intro ad H locs cells slots ls e1 e2 e3 e4 e5 hP hD hS hl b1 b2
    by_cases q1 : x.toInt < lo
    · have hI := hI.2 (Or.inl q1)
      refine lv_tableOut (tgt := mj_t pc dflt) hx hb hdg (Or.inl q1) (mj_te hI.1) ?_
      exact hKG _ _ _ _ _ _ (hI.2) ad H locs cells slots ls e1 e2 (mj_tl e3) e4 e5 hP hD hS hl b1 b2
    · by_cases q2 : hi < x.toInt
      · have hI := hI.2 (Or.inr q2)
        refine lv_tableOut (tgt := mj_t pc dflt) hx hb hdg (Or.inr q2) (mj_te hI.1) ?_
        exact hKG _ _ _ _ _ _ (hI.2) ad H locs cells slots ls e1 e2 (mj_tl e3) e4 e5 hP hD hS hl b1 b2
      · have hI := hI.1 q1 q2
        split at hI
        · next off ho =>
          refine lv_tableIn (tgt := mj_t pc off) hx hb hdg q1 q2 ho (mj_te hI.1) ?_
          exact hKG _ _ _ _ _ _ (hI.2) ad H locs cells slots ls e1 e2 (mj_tl e3) e4 e5 hP hD hS hl b1 b2
        · exact hI.elim
  · exact hI.elim
set_option maxHeartbeats 100000 in
theorem mj_s_lookupswitch {dflt : Int} {ps : Array (Int × Int)} {len : Nat} {K : mj_K} (hKG : ∀ pc L st h bc bs, K pc L st h bc bs → mj_Go p l e R s m args below meth c Q D cA sd A n0 ad0 mc ms T.1 pc L st h bc bs) (X : mj_Cx p l R s m args meth c cc own ini lev D cA sd adK adV A mc ms T) (hdg : decode cc pc = .ok (.lookupswitch dflt ps, len)) (hI : mj_I T ret K pc L st h bc bs (.lookupswitch dflt ps)) : mj_Go p l e R s m args below meth c Q D cA sd A n0 ad0 mc ms T.1 pc L st h bc bs := by
  obtain ⟨hx, hb, hml, hown, hts, hK, hA, hX, hR, hin, hTF⟩ := X
  replace hI : match (generalizing := false) st with
    | .int x :: r => (ps.toList.zip (ps.toList.drop 1)).all (fun (a, next) => a.1 < next.1) = true ∧ mj_go pc (Op.lookupswitch.offset ps.toList dflt x.toInt) (K (mj_t pc (Op.lookupswitch.offset ps.toList dflt x.toInt)) L r h bc bs)
    | _ => False := hI
  split at hI
  · next x r =>
    intro ad H locs cells slots ls e1 e2 e3 e4 e5 hP hD hS hl b1 b2
    refine lv_lookup (tgt := mj_t pc _) hx hb hdg hI.1 rfl (mj_te hI.2.1) ?_
    exact hKG _ _ _ _ _ _ (hI.2.2) ad H locs cells slots ls e1 e2 (mj_tl e3) e4 e5 hP hD hS hl b1 b2
  · exact hI.elim
end MJ
