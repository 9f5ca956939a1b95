/-! THE LAW'S WALK: two worlds side by side, the class's and the reference's; a call leaves the other one as it is -/
/-- what quarrel needs of the JDK's statics -/
def qx (A : Nat → Prop) (U : State) (H : Heap) : Prop := va_Z "java/lang/String" "COMPACT_STRINGS" "Z" (.int 1) A U H ∧ ∃ v : Value, (v = .null ∨ ∃ t, v = .ref t) ∧ va_Z "jdk/internal/util/Preconditions" "SIOOBE_FORMATTER" "Ljava/util/function/BiFunction;" v A U H
theorem qx.go {A A1 : Nat → Prop} {s U : State} {H : Heap} {locs : List Loc} (h : qx A s s.heap) (hW : s.WarmedH U.vm) (hS : va_S A s.heap H locs) (hU : U.heap = H) (hA : ∀ q, A1 q → A q) : qx A1 U U.heap := by
  subst hU
  obtain ⟨h1, t, ht, h2⟩ := h
  exact ⟨((h1.kept hS.2.1).moved hW.alike).narrow hA, t, ht, ((h2.kept hS.2.1).moved hW.alike).narrow hA⟩
theorem qx.same {A : Nat → Prop} {u U : State} {H : Heap} (hv : u.vm = U.vm) (h : qx A u H) : qx A U H := by
  have hal : u.vm.Alike U.vm := hv ▸ Vm.Alike.refl u.vm
  obtain ⟨h1, t, ht, h2⟩ := h
  exact ⟨h1.moved hal, t, ht, h2.moved hal⟩
/-- mj_Met, with the JDK's statics at hand -/
def mj_MetQ (l : Launch) (y : MethodName) (bytes : ByteArray) (maxL : Nat) (rt : Option FieldType) (lev mc ms : Nat) (cs : mj_S) : Prop :=
  ∀ (D : va_G) (cA : FieldType → ClassId) (sd adK adV ad : Nat → Nat) (as : List Value) (h : mj_H) (k : Option Value → mj_H → Prop) (sz : Nat), cs as h k →
    Met l y (Cond.code y bytes maxL rt :: mj_tw) (mj_rm lev mc ms) (va_Pc (as.map (mj_tv ad sd)) (fun U => (U.heap.size = sz ∧ mj_World D cA sd ad h (fun _ => True) U ∧ mj_X sd adK adV (va_A (mj_ws cA ad sd h) sz) U U.heap ∧ ∀ v ∈ as, mj_sv h.length v) ∧ qx (va_A (mj_ws cA ad sd h) sz) U U.heap)) (mj_Q D cA sd ad h k (va_A (mj_ws cA ad sd h) sz)) mc ms (va_A (mj_ws cA ad sd h) sz)
theorem Met_pre {l : Launch} {y : MethodName} {ws : List Cond} {rm : Room} {P P' : Array Value → State → Prop} {Q : Array Value → State → Outcome → State → Prop} {mc ms : Nat} {free : Addr → Prop} (h : Met l y ws rm P Q mc ms free) (hp : ∀ a s, P' a s → P a s) : Met l y ws rm P' Q mc ms free :=
  fun p e ha hc hk s m args below hf happ hP hK => h p e ha hc hk s m args below hf happ (hp _ _ hP) hK
theorem mj_Met.q {l : Launch} {y : MethodName} {bytes : ByteArray} {maxL : Nat} {rt : Option FieldType} {lev mc ms : Nat} {cs : mj_S} (h : mj_Met l y bytes maxL rt lev mc ms cs) : mj_MetQ l y bytes maxL rt lev mc ms cs :=
  fun D cA sd adK adV ad as hh k sz hc => Met_pre (h D cA sd adK adV ad as hh k sz hc) (fun _ _ z => ⟨z.1, z.2.1⟩)
theorem mj_blindQ {D : va_G} {cA : FieldType → ClassId} {sd adK adV ad : Nat → Nat} {h : mj_H} {sz : Nat} {as : List Value} {A : Nat → Prop} (vs : List Value) : FrameBlind (va_Pc vs (fun U => (U.heap.size = sz ∧ mj_World D cA sd ad h (fun _ => True) U ∧ mj_X sd adK adV A U U.heap ∧ ∀ v ∈ as, mj_sv h.length v) ∧ qx A U U.heap)) := by
  refine mj_blind fun a U g mk q => ?_
  obtain ⟨⟨q1, ⟨p1, p2, p3⟩, q3, q4⟩, q5⟩ := q
  exact ⟨⟨q1, ⟨p1, p2.moved (u := U) (U := U.calling g mk a) (Vm.Alike.refl U.vm), p3⟩, q3.same (u := U) (U := U.calling g mk a) rfl, q4⟩, q5.same (u := U) (U := U.calling g mk a) rfl⟩
/-! two worlds -/
theorem va_P.left {D : va_G} {cl : List vw_C} {w1 w2 : va_W} {H : Heap} (h : va_P D cl (w1 ++ w2) H) : va_P D cl w1 H := fun k q hk => h k q (by rw [List.getElem?_append_left (List.getElem?_eq_some_iff.mp hk).1]; exact hk)
theorem va_P.right {D : va_G} {cl : List vw_C} {w1 w2 : va_W} {H : Heap} (h : va_P D cl (w1 ++ w2) H) : va_P D cl w2 H := fun k q hk => h (w1.length + k) q (by rw [List.getElem?_append_right (by omega), Nat.add_sub_cancel_left]; exact hk)
theorem va_P.swp {D : va_G} {cl : List vw_C} {w1 w2 : va_W} {H : Heap} (h : va_P D cl (w1 ++ w2) H) : va_P D cl (w2 ++ w1) H := va_P.app h.right h.left
theorem va_D.left {A : Nat → Prop} {w1 w2 : va_W} (h : va_D A (w1 ++ w2)) : va_D A w1 := by
  have e : ∀ (k : Nat) (q : Nat × va_E), w1[k]? = some q → (w1 ++ w2)[k]? = some q := fun k q hk => by rw [List.getElem?_append_left (List.getElem?_eq_some_iff.mp hk).1]; exact hk
  exact ⟨fun i j p q hi hj => h.1 i j p q (e i p hi) (e j q hj), fun k q hk => h.2 k q (e k q hk)⟩
theorem va_D.right {A : Nat → Prop} {w1 w2 : va_W} (h : va_D A (w1 ++ w2)) : va_D A w2 := by
  have e : ∀ (k : Nat) (q : Nat × va_E), w2[k]? = some q → (w1 ++ w2)[w1.length + k]? = some q := fun k q hk => by rw [List.getElem?_append_right (by omega), Nat.add_sub_cancel_left]; exact hk
  refine ⟨fun i j p q hi hj z => ?_, fun k q hk => h.2 _ q (e k q hk)⟩
  have := h.1 _ _ p q (e i p hi) (e j q hj) z
  omega
theorem va_D.cross {A : Nat → Prop} {w1 w2 : va_W} (h : va_D A (w1 ++ w2)) {i j : Nat} {p q : Nat × va_E} (hi : w1[i]? = some p) (hj : w2[j]? = some q) : p.1 ≠ q.1 := by
  intro z
  have hl := (List.getElem?_eq_some_iff.mp hi).1
  have := h.1 i (w1.length + j) p q (by rw [List.getElem?_append_left hl]; exact hi) (by rw [List.getElem?_append_right (by omega), Nat.add_sub_cancel_left]; exact hj) z
  omega
theorem va_D.swp {A : Nat → Prop} {w1 w2 : va_W} (h : va_D A (w1 ++ w2)) : va_D A (w2 ++ w1) := va_D.app h.right h.left (fun _ _ _ _ hi hj z => h.cross hj hi z.symm)
theorem w_join {A0 : Nat → Prop} {D : va_G} {cl : List vw_C} {wc wr w1 : va_W} {H H1 : Heap} (hP : va_P D cl (wc ++ wr) H) (hD : va_D A0 (wc ++ wr)) (hk : ∀ q : Nat, q < H.size → ¬ va_A wc H.size q → H1[q]? = H[q]?) (hF : ∀ q, va_A wc H.size q → A0 q) (hP1 : va_P D cl w1 H1) (hD1 : va_D (va_A wc H.size) w1) : va_P D cl (w1 ++ wr) H1 ∧ va_D A0 (w1 ++ wr) := by
  have apart : ∀ (k : Nat) (q : Nat × va_E), wr[k]? = some q → q.1 < H.size ∧ ¬ va_A wc H.size q.1 := by
    intro k q hq
    have hl := (hP.right k q hq).lt
    refine ⟨hl, fun h => ?_⟩
    rcases h with ⟨k2, e, h⟩ | h
    · exact hD.cross h hq rfl
    · omega
  refine ⟨va_P.app hP1 (hP.right.kept (fun k q hq => hk q.1 (apart k q hq).1 (apart k q hq).2)), va_D.app (hD1.weaken (fun k q _ h => hF q.1 h)) hD.right (fun i j x y hx hy hxy => ?_)⟩
  exact (apart j y hy).2 (by rw [← hxy]; exact hD1.2 i x hx)
section LW
variable {p : Program} {l : Launch} {e : Env} {s : State} {m : MethodId} {below : List Frame} {meth : Method} {c : Code} {b L : Nat} {xs : Nat → Int32} {Q : State → Prop} {D : va_G} {cA : FieldType → ClassId} {sd adK adV : Nat → Nat}
/-- what the law's walk stands on -/
def lE (p : Program) (s : State) (m : MethodId) (c : Code) (b L : Nat) (xs : Nat → Int32) (D : va_G) (cA : FieldType → ClassId) (sd adK adV : Nat → Nat) : Prop :=
  p.tables.exec = Jvm.exec ∧ c.code = code ∧ c.maxLocals = 4 ∧ s.vm.findClass "EveryChildLaw" = some m.cls ∧ (∀ w ∈ mj_tw, w.before #[Value.ref b] s = true) ∧ mj_Ky D cA s ∧ mj_X sd adK adV (fun q => s.heap.size ≤ q) s s.heap ∧ qx (fun q => s.heap.size ≤ q) s s.heap ∧ va_X b L xs s s.heap ∧ b < s.heap.size
/-- A CALL of the law's: its own world h, the rest wr as it was -/
theorem lw_call (E : lE p s m c b L xs D cA sd adK adV) {pc i na lev c1 s1 maxL ci : Nat} {y : MethodName} {bytes : ByteArray} {rt : Option FieldType} {cs : mj_S} {Tt : u_T} {N : Nat} (hdg : decode code pc = .ok (.invokevirtual i, 3)) (hM : mj_MetQ l y bytes maxL rt lev c1 s1 cs) (hlev : lev ≤ 100) (hmx : maxL ≤ 21) (hcode : Cond.code y bytes maxL rt ∈ lw_tbl) (hini : Cond.initialized y.cls ∈ mj_tw) (hy : y.cls ≠ "java/lang/invoke/MethodHandle" ∧ y.cls ≠ "java/lang/invoke/VarHandle" ∧ (parseMethodDescriptor y.desc).map (fun d => d.parameters.length) = some na) (hlk : Cond.methodLink "EveryChildLaw" i y ∈ mj_tw) (hin : Cond.instanceMethod y ∈ mj_tw) (hsel : Cond.selects y.cls y y ∈ mj_tw) (hcl : vwCl[ci]? = some (y.cls, Tt, N))
    {ad : Nat → Nat} {h : mj_H} {wr : va_W} {H : Heap} {locs : List Loc} {cells slots : Nat} {ls : Array Slot} {as : List Value} {rest : List Value} {fs : List Value} {k : Option Value → mj_H → Prop} (hcs : cs (.ref 0 :: as) h k) (hh : h[0]? = some (.inr (ci, fs))) (hint : ∀ v ∈ as, mj_sv h.length v) (hna : as.length = na) (h4 : rest.length ≤ 4) (hsc : ∀ q ∈ h, mj_sc h.length q) (hP : va_P D vwCl (mj_ws cA ad sd h ++ wr) H) (hD : va_D (fun q => s.heap.size ≤ q) (mj_ws cA ad sd h ++ wr)) (hS : va_S (fun q => s.heap.size ≤ q) s.heap H locs) (hl : ls.size = 4) (b1 : cells + c1 ≤ 600000) (b2 : slots + s1 ≤ 7302250)
    (kk : ∀ (r : Option Value) (h' : mj_H) (ad' : Nat → Nat) (H1 : Heap) (locs1 : List Loc), k r h' → ad' 0 = ad 0 → (∀ q ∈ h', mj_sc h'.length q) → va_P D vwCl (mj_ws cA ad' sd h' ++ wr) H1 → va_D (fun q => s.heap.size ≤ q) (mj_ws cA ad' sd h' ++ wr) → va_S (fun q => s.heap.size ≤ q) s.heap H1 locs1 → W p l e room_1 s m #[Value.ref b] below meth c H1 locs1 (cells + c1) (slots + s1) Q (F0 m (pc + 3) ls ((r.map (mj_tv ad' sd)).toList ++ rest))) :
    W p l e room_1 s m #[Value.ref b] below meth c H locs cells slots Q (F0 m pc ls ((as.map (mj_tv ad sd)).reverse ++ .ref (ad 0) :: rest)) := by
  obtain ⟨hx, hb, hml, hown, hts, hK, hX, hQ, -, -⟩ := E
  have hA : ∀ q, s.heap.size ≤ q → (fun q => s.heap.size ≤ q) q := fun q hq => hq
  have hpos : 0 < h.length := (List.getElem?_eq_some_iff.mp hh).1
  have hM2 := hM D cA sd adK adV ad (.ref 0 :: as) h k H.size hcs
  have hars : ∀ v ∈ Value.ref 0 :: as, mj_sv h.length v := List.forall_mem_cons.mpr ⟨hpos, hint⟩
  have hF : ∀ q, va_A (mj_ws cA ad sd h) H.size q → (fun q => s.heap.size ≤ q) q := by
    intro q hq
    rcases hq with ⟨k, e, hq⟩ | hq
    · exact hD.left.2 k (q, e) hq
    · exact Nat.le_trans hS.1 hq
  have hpre := mj_pre (adK := adK) (adV := adV) (as := .ref 0 :: as) hK hX hA hsc hP.left hD.left hS hars
  have hrecv := va_recv (q := (y.cls, Tt, N)) (a := ad 0) hK.1 hP.left (ci := ci) (q0 := 0) hcl (mj_ws_at hh)
  have hroom := mj_len4 (m := m) (pc := pc) (ad := id) (sd := sd) (ls := ls) (g := []) h4
  have hr := va_runV (R := room_1) (p := p) (l := l) (e := e) (below := below) (meth := meth) (cells := cells) (slots := slots) (locs := locs) (g := F0 m pc ls ((as.map (mj_tv ad sd)).reverse ++ .ref (ad 0) :: rest)) (rest := rest) (C := y.cls) (b := ad 0) (As := as.map (mj_tv ad sd)) (n := na) (nL := 4) ⟨hx, hb, hml, hown, hts⟩ hM2 ⟨callB_of na hts (mj_twIn hcode) rfl rfl rfl (hts _ hini) (hts _ hlk) hy (show lev + 1 ≤ 2048 ∧ 8 + (maxL + 11) + 40 * lev ≤ 84000 by omega), hts _ hin, hts _ hsel⟩ ⟨mj_blindQ _, hrecv, fun U hU hW => ⟨(hpre U hU hW).1, (hpre U hU hW).2, hQ.go hW hS hU hF⟩⟩ rfl (by rw [List.length_map]; exact hna) hl rfl ?_ hdg ⟨b1, b2⟩
  · intro T hT XX
    obtain ⟨v, st₀, t, T', Lc, h0, X', hL, g1, g2, ⟨⟨r, h', ad', ho, hk, ha, hlen, hsv, hP', hK', hD', hsc'⟩, hz, hkp⟩, stp⟩ := hr T hT XX
    have hv : v = r.map (mj_tv ad' sd) := by cases ho; rfl
    subst hv
    rw [h0] at hz hkp
    have hj := w_join hP hD (fun q q1 q2 => by rw [g1]; exact hkp q q1 q2) hF (show va_P D vwCl (mj_ws cA ad' sd h') T'.heap by rw [g1]; exact hP') hD'
    obtain ⟨t2, a1, b3⟩ := kk r h' ad' T'.heap (locs ++ Lc) hk (ha 0 hpos) hsc' hj.1 hj.2 ⟨Nat.le_trans hS.1 (by rw [g1]; exact hz), fun q h1 h2 => by rw [g1, hkp q (Nat.lt_of_lt_of_le h1 hS.1) (fun z => h2 (hF q z))]; exact hS.2.1 q h1 h2, fun q hq => by
      rcases List.mem_append.mp hq with h8 | h8
      · exact hS.2.2 q h8
      · exact hF _ (hL q h8)⟩ T' rfl X'
    exact ⟨t2, stp t2 a1, b3⟩
  · refine lv_room ?_
    have h1 : ∀ x : List Value, (x.map fun v => v.category).sum ≤ 2 * x.length := by
      intro x
      induction x with
      | nil => simp
      | cons v x ih => rcases lv_cat v with z | z <;> simp [z] <;> omega
    have h2 := h1 rest
    omega
end LW
