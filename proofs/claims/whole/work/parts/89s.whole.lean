/-! THE LAW'S WALK, whole -/
/-! THE CLAIM OUT OF ONE WALK OF THE LAW'S BODY. Your part is whole_start (and what it stands on); all else here is the same for every law, but numbers. -/
def R_law : String := "EveryChildLaw"
def lw_P (b : Addr) (xs : List Int32) (args : Array Value) (s : State) : Prop := args = #[.ref b] ∧ s.IntsAt b xs ∧ xs.length ≤ 4608 ∧ (Jvm.Cond.and given_1 narrow_1).before args s = true
def lw_Q (_ : Array Value) (s : State) (o : Outcome) (t : State) : Prop := o = .returned (some (.int 1)) ∧ Framed s o t [] 600000 7302250
def lw_Z (below : List Frame) (a : Array Value) (s : State) : State → Prop := fun t => ∃ o, t.status = .running ∧ Ended t below o ∧ lw_Q a s o t
/-- the law's own end, with 1 on the stack, nothing written that was there before, its room as the claim has it -/
theorem lw_ret {p : Program} {l : Launch} {e : Env} {s : State} {m : MethodId} {below : List Frame} {meth : Method} {c : Code} {b : Nat} (hx : p.tables.exec = Jvm.exec) (hb : c.code = code) (hr : meth.sig.returnType = ret) (hlocks : meth.locks = false) {pc : Nat} {H : Heap} {ls : Array Slot} (hdg : decode code pc = .ok (.ireturn, 1)) : W p l e room_1 s m #[Value.ref b] below meth c H [] 600000 7302250 (lw_Z below #[Value.ref b] s) (F0 m pc ls [.int 1]) := by
  intro T hT X
  obtain ⟨fs, hret, hrun, hended, hW, hframe⟩ := X.leave (v := some (.int 1)) (hlocks := hlocks) (fun h => by rw [hr] at h; cases h)
  have hmeth' : T.vm.method? m = some meth := X.method'
  refine ⟨T.setFrames fs, ?_, .returned (some (.int 1)), hrun, hended, rfl, ⟨_, rfl⟩, hW, hframe⟩
  jvm_step X.here [X.here.top, hx, hb, hdg, hmeth', hr, ret, narrow_b1]
  (try refine ⟨rfl, ?_⟩); (try refine ⟨rfl, ?_⟩)
  first | (intro acts; rw [hret _ acts rfl rfl rfl]) | rw [hret _ _ rfl rfl rfl]
  exact Steps.refl _
/-- what holds at the law's entry: the machine, the code, the tables' words (any of lw_tbl by 'hts w (by decide +kernel)'), the script of L ints xs at the cell b, what the Statement gives of the start (any of its parts by flat_of_before) -/
def lw_At (p : Program) (s : State) (m : MethodId) (meth : Method) (c : Code) (b L : Nat) (xs : Nat → Int32) : Prop :=
  p.tables.exec = Jvm.exec ∧ c.code = code ∧ meth.sig.returnType = ret ∧ c.maxLocals = 4 ∧ s.vm.findClass R_law = some m.cls ∧ (∀ w ∈ lw_tbl, w.before #[Value.ref b] s = true) ∧ va_X b L xs s s.heap ∧ b < s.heap.size ∧ meth.locks = false ∧ (Jvm.Cond.and given_1 narrow_1).before #[Value.ref b] s = true
theorem dv_sc (ci n : Nat) : mj_sc n (.inr (ci, mj_dv ci)) := by
  intro v hv
  unfold mj_dv at hv
  cases hc : vwCl[ci]? with
  | none => rw [hc] at hv; cases hv
  | some q =>
    rw [hc] at hv
    obtain ⟨j, -, rfl⟩ := List.mem_map.mp hv
    try dsimp only
    cases parseFieldDescriptor (q.2.1 j).2.2.1 with
    | none => exact trivial
    | some t => cases t <;> exact trivial
section WS
variable {p : Program} {l : Launch} {e : Env} {s : State} {m : MethodId} {below : List Frame} {meth : Method} {c : Code} {b L : Nat} {xs : Nat → Int32} {Q : State → Prop} {D : va_G} {cA : FieldType → ClassId} {sd adK adV : Nat → Nat} {q1 q2 : Nat}
/-- new, by the law -/
theorem lw_new (E : lE p s m c b L xs D cA sd adK adV) {pc i ci N : Nat} {C : String} {Tt : u_T} {wr : va_W} {H : Heap} {locs : List Loc} {cells slots : Nat} {ls : Array Slot} {rest : List Value} (hdg : decode code pc = .ok (.new i, 3)) (g1 : vwCl[ci]? = some (C, Tt, N)) (g2 : Cond.classLink "EveryChildLaw" i C ∈ mj_tw) (g3 : Cond.instantiable C N ∈ mj_tw) (g4 : Cond.initialized C ∈ mj_tw) (hP : va_P D vwCl wr H) (hD : va_D (fun q => s.heap.size ≤ q) wr) (hS : va_S (fun q => s.heap.size ≤ q) s.heap H locs) (b1 : cells + 1 ≤ 600000) (b2 : slots + N ≤ 7302250)
    (kk : ∀ (q : Nat) (H1 : Heap), va_P D vwCl (mj_ws cA (fun _ => q) sd [.inr (ci, mj_dv ci)] ++ wr) H1 → va_D (fun q => s.heap.size ≤ q) (mj_ws cA (fun _ => q) sd [.inr (ci, mj_dv ci)] ++ wr) → va_S (fun q => s.heap.size ≤ q) s.heap H1 locs → W p l e room_1 s m #[Value.ref b] below meth c H1 locs (cells + 1) (slots + N) Q (F0 m (pc + 3) ls (.ref q :: rest))) :
    W p l e room_1 s m #[Value.ref b] below meth c H locs cells slots Q (F0 m pc ls rest) := by
  obtain ⟨hx, hb, hml, hown, hts, hK, hX, hQ, -, -⟩ := E
  obtain ⟨ty, y1, y2, y3, y4⟩ := mj_cls g1
  have hdv : ∀ j, j < N → defaultValue (ty j) = vp_V ((mj_dv ci).map (mj_tv id sd)) j := by
    intro j hj
    unfold mj_dv vp_V
    rw [g1]
    simp only [List.getD_eq_getElem?_getD, List.getElem?_map, List.getElem?_range hj, Option.map_some, Option.getD_some, y1 j hj]
    have h9 := y4 j hj
    cases hty : ty j <;> first | rfl | exact absurd hty h9
  refine va_new (ci := ci) (fs := (mj_dv ci).map (mj_tv id sd)) (C := C) (T := Tt) (N := N) hx hb hts y3 ty y1 hown (hts _ g2) (hts _ g3) (hts _ g4) hK.1 hP hD hS (fun q hq => hq) g1 hdv b1 b2 hdg (fun q H1 hP hD hS => ?_)
  have e : mj_ws cA (fun _ => q) sd [.inr (ci, mj_dv ci)] = [(q, .inr (ci, (mj_dv ci).map (mj_tv id sd)))] := by
    show [(q, (Sum.inr (ci, (mj_dv ci).map (mj_tv (fun _ => q) sd)) : va_E))] = _
    rw [mj_tvs_cong (n := 0) (dv_sc ci 0) (fun k hk => absurd hk (Nat.not_lt_zero k))]
  refine kk q H1 ?_ ?_ hS
  · rw [e]; exact hP.swp
  · rw [e]; exact hD.swp
/-- a constructor's call by the law -/
theorem lw_init (E : lE p s m c b L xs D cA sd adK adV) {pc i lev c1 s1 maxL : Nat} {y : MethodName} {bytes : ByteArray} {cs : mj_S} (hdg : decode code pc = .ok (.invokespecial i, 3)) (hM : mj_Met l y bytes maxL none lev c1 s1 cs) (hlev : lev ≤ 100) (hmx : maxL ≤ 21) (hcode : Cond.code y bytes maxL none ∈ lw_tbl) (hini : Cond.initialized y.cls ∈ mj_tw) (hy : y.cls ≠ "java/lang/invoke/MethodHandle" ∧ y.cls ≠ "java/lang/invoke/VarHandle" ∧ (parseMethodDescriptor y.desc).map (fun d => d.parameters.length) = some 0) (hlk : Cond.methodLink "EveryChildLaw" i y ∈ mj_tw) (hin : Cond.instanceMethod y ∈ mj_tw) (hnm : y.name = "<init>")
    {ad : Nat → Nat} {h : mj_H} {wr : va_W} {H : Heap} {locs : List Loc} {cells slots : Nat} {ls : Array Slot} {rest : List Value} {k : Option Value → mj_H → Prop} (hcs : cs [.ref 0] h k) (hpos : 0 < h.length) (h4 : rest.length ≤ 4) (hsc : ∀ q ∈ h, mj_sc h.length q) (hP : va_P D vwCl (mj_ws cA ad sd h ++ wr) H) (hD : va_D (fun q => s.heap.size ≤ q) (mj_ws cA ad sd h ++ wr)) (hS : va_S (fun q => s.heap.size ≤ q) s.heap H locs) (hl : ls.size = 4) (b1 : cells + c1 ≤ 600000) (b2 : slots + s1 ≤ 7302250)
    (kk : ∀ (r : Option Value) (h' : mj_H) (ad' : Nat → Nat) (H1 : Heap) (locs1 : List Loc), k r h' → ad' 0 = ad 0 → (∀ q ∈ h', mj_sc h'.length q) → va_P D vwCl (mj_ws cA ad' sd h' ++ wr) H1 → va_D (fun q => s.heap.size ≤ q) (mj_ws cA ad' sd h' ++ wr) → va_S (fun q => s.heap.size ≤ q) s.heap H1 locs1 → W p l e room_1 s m #[Value.ref b] below meth c H1 locs1 (cells + c1) (slots + s1) Q (F0 m (pc + 3) ls ((r.map (mj_tv ad' sd)).toList ++ rest))) :
    W p l e room_1 s m #[Value.ref b] below meth c H locs cells slots Q (F0 m pc ls (.ref (ad 0) :: rest)) := by
  obtain ⟨hx, hb, hml, hown, hts, hK, hX, hQ, -, -⟩ := E
  have hA : ∀ q, s.heap.size ≤ q → (fun q => s.heap.size ≤ q) q := fun q hq => hq
  have hM2 := hM D cA sd adK adV ad [.ref 0] h k H.size hcs
  have hars : ∀ v ∈ [Value.ref 0], mj_sv h.length v := List.forall_mem_cons.mpr ⟨hpos, fun v hv => by cases hv⟩
  have hF : ∀ q, va_A (mj_ws cA ad sd h) H.size q → (fun q => s.heap.size ≤ q) q := by
    intro q hq
    rcases hq with ⟨k, e, hq⟩ | hq
    · exact hD.left.2 k (q, e) hq
    · exact Nat.le_trans hS.1 hq
  have hpre := mj_pre (adK := adK) (adV := adV) (as := [.ref 0]) hK hX hA hsc hP.left hD.left hS hars
  have hr := va_runI (R := room_1) (p := p) (l := l) (e := e) (below := below) (meth := meth) (cells := cells) (slots := slots) (locs := locs) (g := F0 m pc ls (.ref (ad 0) :: rest)) (rest := rest) (b := ad 0) (As := []) (n := 0) (nL := 4) ⟨hx, hb, hml, hown, hts⟩ hM2 ⟨callB_of 0 hts (mj_twIn hcode) rfl rfl rfl (hts _ hini) (hts _ hlk) hy (show lev + 1 ≤ 2048 ∧ 8 + (maxL + 11) + 40 * lev ≤ 84000 by omega), hnm, hts _ hin⟩ ⟨mj_blindW _, hpre⟩ rfl rfl hl rfl ?_ hdg ⟨b1, b2⟩
  · intro T hT XX
    obtain ⟨v, st₀, t, T', Lc, h0, X', hL, g1, g2, ⟨⟨r, h', ad', ho, hk, ha, hlen, hsv, hP', hK', hD', hsc'⟩, hz, hkp⟩, stp⟩ := hr T hT XX
    have hv : v = r.map (mj_tv ad' sd) := by cases ho; rfl
    subst hv
    rw [h0] at hz hkp
    have hj := w_join hP hD (fun q q1 q2 => by rw [g1]; exact hkp q q1 q2) hF (show va_P D vwCl (mj_ws cA ad' sd h') T'.heap by rw [g1]; exact hP') hD'
    obtain ⟨t2, a1, b3⟩ := kk r h' ad' T'.heap (locs ++ Lc) hk (ha 0 hpos) hsc' hj.1 hj.2 ⟨Nat.le_trans hS.1 (by rw [g1]; exact hz), fun q h1 h2 => by rw [g1, hkp q (Nat.lt_of_lt_of_le h1 hS.1) (fun z => h2 (hF q z))]; exact hS.2.1 q h1 h2, fun q hq => by
      rcases List.mem_append.mp hq with h8 | h8
      · exact hS.2.2 q h8
      · exact hF _ (hL q h8)⟩ T' rfl X'
    exact ⟨t2, stp t2 a1, b3⟩
  · refine lv_room ?_
    have h1 : ∀ x : List Value, (x.map fun v => v.category).sum ≤ 2 * x.length := by
      intro x
      induction x with
      | nil => simp
      | cons v x ih => rcases lv_cat v with z | z <;> simp [z] <;> omega
    have h2 := h1 rest
    omega
/-! the loop -/
def tgts : Nat → Nat := fun j => ([248, 271, 346, 389, 448, 491, 544, 597, 660, 709, 758, 791, 854, 877, 890, 923, 1022, 1121, 1164, 1207, 1260, 1313, 1356, 1389, 1412, 1445, 1478, 1521, 1574, 1597, 1630, 1663, 1706, 1729, 1782, 1825, 1868, 1911, 1964, 1997, 2040, 2073, 2086, 2119, 2162, 2185, 2218, 2251, 2284, 2327] : List Nat).getD j 0
theorem tgts_ok : ∀ j, j < 50 → (#[215, 238, 313, 356, 415, 458, 511, 564, 627, 676, 725, 758, 821, 844, 857, 890, 989, 1088, 1131, 1174, 1227, 1280, 1323, 1356, 1379, 1412, 1445, 1488, 1541, 1564, 1597, 1630, 1673, 1696, 1749, 1792, 1835, 1878, 1931, 1964, 2007, 2040, 2053, 2086, 2129, 2152, 2185, 2218, 2251, 2294] : Array Int)[j]? = some ((tgts j : Int) - 33) := by decide +kernel
theorem law_cases {G : lK} (hG : LCl l L xs q1 q2 G) {N : Int} {u t : St} {i : Int32} {bc bs : Nat} (h : RX N u t) (hN : N ≤ 600) (hi : ∀ j : Nat, j ≤ 8 → vp_in (i + nI j) L) (h1 : 25 ≤ bc) (h2 : 3000 ≤ bs) (hend : ∀ u' t', RX (N + 1) u' t' → G 2350 i [] u' t' (bc - 25) (bs - 3000)) : ∀ j : Nat, j < 50 → G (tgts j) i [] u t bc bs := by
  intro j hj
  match j, hj with
  | 0, _ => exact case_0 hG h hN hi h1 h2 hend
  | 1, _ => exact case_1 hG h hN hi h1 h2 hend
  | 2, _ => exact case_2 hG h hN hi h1 h2 hend
  | 3, _ => exact case_3 hG h hN hi h1 h2 hend
  | 4, _ => exact case_4 hG h hN hi h1 h2 hend
  | 5, _ => exact case_5 hG h hN hi h1 h2 hend
  | 6, _ => exact case_6 hG h hN hi h1 h2 hend
  | 7, _ => exact case_7 hG h hN hi h1 h2 hend
  | 8, _ => exact case_8 hG h hN hi h1 h2 hend
  | 9, _ => exact case_9 hG h hN hi h1 h2 hend
  | 10, _ => exact case_10 hG h hN hi h1 h2 hend
  | 11, _ => exact case_11 hG h hN hi h1 h2 hend
  | 12, _ => exact case_12 hG h hN hi h1 h2 hend
  | 13, _ => exact case_13 hG h hN hi h1 h2 hend
  | 14, _ => exact case_14 hG h hN hi h1 h2 hend
  | 15, _ => exact case_15 hG h hN hi h1 h2 hend
  | 16, _ => exact case_16 hG h hN hi h1 h2 hend
  | 17, _ => exact case_17 hG h hN hi h1 h2 hend
  | 18, _ => exact case_18 hG h hN hi h1 h2 hend
  | 19, _ => exact case_19 hG h hN hi h1 h2 hend
  | 20, _ => exact case_20 hG h hN hi h1 h2 hend
  | 21, _ => exact case_21 hG h hN hi h1 h2 hend
  | 22, _ => exact case_22 hG h hN hi h1 h2 hend
  | 23, _ => exact case_23 hG h hN hi h1 h2 hend
  | 24, _ => exact case_24 hG h hN hi h1 h2 hend
  | 25, _ => exact case_25 hG h hN hi h1 h2 hend
  | 26, _ => exact case_26 hG h hN hi h1 h2 hend
  | 27, _ => exact case_27 hG h hN hi h1 h2 hend
  | 28, _ => exact case_28 hG h hN hi h1 h2 hend
  | 29, _ => exact case_29 hG h hN hi h1 h2 hend
  | 30, _ => exact case_30 hG h hN hi h1 h2 hend
  | 31, _ => exact case_31 hG h hN hi h1 h2 hend
  | 32, _ => exact case_32 hG h hN hi h1 h2 hend
  | 33, _ => exact case_33 hG h hN hi h1 h2 hend
  | 34, _ => exact case_34 hG h hN hi h1 h2 hend
  | 35, _ => exact case_35 hG h hN hi h1 h2 hend
  | 36, _ => exact case_36 hG h hN hi h1 h2 hend
  | 37, _ => exact case_37 hG h hN hi h1 h2 hend
  | 38, _ => exact case_38 hG h hN hi h1 h2 hend
  | 39, _ => exact case_39 hG h hN hi h1 h2 hend
  | 40, _ => exact case_40 hG h hN hi h1 h2 hend
  | 41, _ => exact case_41 hG h hN hi h1 h2 hend
  | 42, _ => exact case_42 hG h hN hi h1 h2 hend
  | 43, _ => exact case_43 hG h hN hi h1 h2 hend
  | 44, _ => exact case_44 hG h hN hi h1 h2 hend
  | 45, _ => exact case_45 hG h hN hi h1 h2 hend
  | 46, _ => exact case_46 hG h hN hi h1 h2 hend
  | 47, _ => exact case_47 hG h hN hi h1 h2 hend
  | 48, _ => exact case_48 hG h hN hi h1 h2 hend
  | 49, _ => exact case_49 hG h hN hi h1 h2 hend
  | n + 50, hn => omega
set_option maxRecDepth 20000 in
theorem law_rounds (E : lE p s m c b L xs D cA sd adK adV) (hL : L ≤ 4608) (hr : meth.sig.returnType = ret) (hlocks : meth.locks = false) : ∀ (d k : Nat) (u t : St), k + d = 513 → 9 * k ≤ L → RX (k : Int) u t → LG p l e s m below meth c b (lw_Z below #[Value.ref b] s) D cA sd q1 q2 18 (nI (9 * k)) [] u t (25 * d) (3000 * d) := by
  obtain ⟨d0, d3, d4, d7, d8, d11, d12, d15, d16, d17, d18, d19, d20, d21, d23, d24, d27, d28, d29, d30, d32, d33⟩ := DL_h
  obtain ⟨d2350, d2353, d2356, d2357⟩ := DL_t
  obtain ⟨hx, hb, hml, hown, hts, hK, hX, hQ, hX2, hbl⟩ := id E
  intro d
  induction d with
  | zero => intro k u t hk h9; omega
  | succ d ih =>
    intro k u t hk h9 h
    have hG := LG_cl (l := l) (e := e) (below := below) (meth := meth) (Q := lw_Z below #[Value.ref b] s) (q1 := q1) (q2 := q2) E
    -- behind a call
    have hnext : 9 * k + 9 ≤ L → ∀ u' t', RX ((k : Int) + 1) u' t' → LG p l e s m below meth c b (lw_Z below #[Value.ref b] s) D cA sd q1 q2 2350 (nI (9 * k)) [] u' t' (25 * (d + 1) - 25) (3000 * (d + 1) - 3000) := by
      intro hlt u' t' h'
      have g := ih (k + 1) u' t' (by omega) (by omega) (by rw [show ((k + 1 : Nat) : Int) = (k : Int) + 1 by omega]; exact h')
      rw [show 25 * (d + 1) - 25 = 25 * d by omega, show 3000 * (d + 1) - 3000 = 3000 * d by omega]
      intro a1 a2 H locs cells slots ls e1 e2 e3 e4 hP hD hS hl b1 b2
      refine lv_iinc (lv' := [(3, .int (nI (9 * (k + 1)))), (0, .ref b), (1, .ref q1), (2, .ref q2)]) hx hb (k := 3) d2350 hl rfl ?_ (by decide) rfl (fun ls hl => ?_)
      · show nI (9 * k) + nI 9 = _
        rw [nI_add2 _ _ (by omega)]
        rfl
      · exact lv_goto hx hb (tgt := 18) d2353 (by decide +kernel) (g a1 a2 H locs cells slots ls e1 e2 e3 e4 hP hD hS (lv_sub hl [1, 2, 3, 0] rfl) b1 b2)
    intro a1 a2 H locs cells slots ls e1 e2 e3 e4 hP hD hS hl b1 b2
    refine lv_iload_n hx hb d18 rfl (lv_at hl 3 rfl) ?_
    refine lv_aload_n hx hb d19 rfl (lv_at hl 0 rfl) ?_
    refine va_slen hx hb hX2 hbl (Nat.not_le.mpr hbl) hS d20 ?_
    refine lv_bipush hx hb (v := nI 9) d21 (by decide) ?_
    refine lv_isub hx hb d23 ?_
    have eL : (Int32.ofNat L - nI 9).toInt = (L : Int) - 9 := by
      rw [Int32.toInt_sub]
      have e1 : (Int32.ofNat L).toInt = (L : Int) := nI_toInt (by omega)
      have e2 : (nI 9).toInt = 9 := by decide
      rw [e1, e2]
      exact Int.bmod_eq_of_le (by omega) (by omega)
    have eK : (nI (9 * k)).toInt = ((9 * k : Nat) : Int) := nI_toInt (by omega)
    refine lv_icmp_gt hx hb (tgt := 2356) d24 (by decide +kernel) (fun _ => ?_) (fun z => ?_)
    · refine lv_iconst hx hb (v := 1) d2356 (by decide) ?_
      refine va_forget hS.2.2 ?_
      refine W.widen (k := 600000) (n := 7302250) (by omega) (by omega) ?_
      exact lw_ret hx hb hr hlocks d2357
    · have hlt : 9 * k + 9 ≤ L := by
        rcases Nat.lt_or_ge L (9 * k + 9) with q | q
        · refine absurd (Int32.lt_iff_toInt_lt.mpr ?_) z
          rw [eL, eK]
          omega
        · exact q
      have hi : ∀ j : Nat, j ≤ 8 → vp_in (nI (9 * k) + nI j) L := by
        intro j hj
        rw [nI_add2 _ _ (by omega)]
        exact vp_in_nI (by omega) (by omega)
      refine lv_aload_n hx hb d27 rfl (lv_at hl 0 rfl) ?_
      refine lv_iload_n hx hb d28 rfl (lv_at hl 3 rfl) ?_
      refine va_sld hx hb hX2 hbl (Nat.not_le.mpr hbl) hS (vp_in_nI (by omega) (by omega)) d29 ?_
      refine lv_bipush hx hb (v := 63) d30 (by decide) ?_
      refine lv_iand hx hb d32 ?_
      obtain ⟨j, hj, ej⟩ := pk_andE (xs (nI (9 * k)).toNatClampNeg) (m := 63) 6 (by decide)
      rw [ej]
      have hj : j < 64 := hj
      have ejI : (nI j).toInt = (j : Int) := nI_toInt (by omega)
      rcases Nat.lt_or_ge j 50 with hj5 | hj5
      · refine lv_tableIn hx hb (tgt := tgts j) (off := (tgts j : Int) - 33) d33 (by rw [ejI]; omega) (by rw [ejI]; omega) ?_ (by omega) ?_
        · rw [ejI, show ((j : Int) - 0).toNat = j by omega]
          exact tgts_ok j hj5
        · exact law_cases hG h (by omega) hi (by omega) (by omega) (hnext hlt) j hj5 a1 a2 H locs cells slots ls e1 e2 e3 e4 hP hD hS hl b1 b2
      · refine lv_tableOut hx hb (tgt := 2350) d33 (Or.inr (by rw [ejI]; omega)) (by decide +kernel) ?_
        exact hnext hlt u t h.up a1 a2 H locs cells slots ls e1 e2 e3 e4 hP hD hS hl (by omega) (by omega)
end WS
theorem cl_7 : Cond.classLink "EveryChildLaw" 7 RX11 ∈ mj_tw := mj_tw_in (List.mem_of_getElem? (i := 119) (by decide +kernel)) rfl
theorem ml_9 : Cond.methodLink "EveryChildLaw" 9 yX11_init ∈ mj_tw := mj_tw_in (List.mem_of_getElem? (i := 121) (by decide +kernel)) rfl
theorem cl_10 : Cond.classLink "EveryChildLaw" 10 RX12 ∈ mj_tw := mj_tw_in (List.mem_of_getElem? (i := 1405) (by decide +kernel)) rfl
theorem ml_12 : Cond.methodLink "EveryChildLaw" 12 yX12_init ∈ mj_tw := mj_tw_in (List.mem_of_getElem? (i := 1407) (by decide +kernel)) rfl
theorem in_11 : Cond.instantiable RX11 12 ∈ mj_tw := mj_tw_in (List.mem_of_getElem? (i := 120) (by decide +kernel)) rfl
theorem in_12 : Cond.instantiable RX12 100 ∈ mj_tw := mj_tw_in (List.mem_of_getElem? (i := 1406) (by decide +kernel)) rfl
-- ===== YOUR PART BEGINS =====
theorem whole_start {p : Program} {e : Env} {s : State} {m : MethodId} {below : List Frame} {meth : Method} {c : Code} (l : Launch) (hflags : l.flags = flags0) {b L : Nat} {xs : Nat → Int32} (hL : L ≤ 4608) (C0 : lw_At p s m meth c b L xs) : W p l e room_1 s m #[Value.ref b] below meth c s.heap [] 0 0 (lw_Z below #[Value.ref b] s) (entryFrame m ([Value.ref b] : List Value).toArray 4) := by
  obtain ⟨hx, hb, hr, hml, hown, hts, hX, hbl, hlocks, hgv⟩ := C0
  have hs := flat_of_before _ hgv
  obtain ⟨D, hD0⟩ := e_cls hts
  obtain ⟨cA, hA1, hA2⟩ := e_arr hts
  obtain ⟨sd, adK, adV, hMX⟩ := e_X hts hs
  have E : lE p s m c b L xs D cA sd adK adV := ⟨hx, hb, hml, hown, fun w hw => hts w (tw_lw hw), ⟨⟨hD0, hA1⟩, hA2⟩, hMX, e_qx hts hs, hX, hbl⟩
  obtain ⟨d0, d3, d4, d7, d8, d11, d12, d15, d16, d17, d18, d19, d20, d21, d23, d24, d27, d28, d29, d30, d32, d33⟩ := DL_h
  have hl := lv_entry ([.ref b]) (n := 4) (Nat.le_of_ble_eq_true rfl)
  rw [lg_entry_eq]
  generalize (lg_sl ([.ref b]) ++ List.replicate (4 - (lg_sl ([.ref b])).length) Slot.unset).toArray = ls at hl ⊢
  have hl : lv_has ls 4 [(0, .ref b)] := hl
  have hP : va_P D vwCl [] s.heap := fun k q h => by simp at h
  have hD : va_D (fun q : Nat => s.heap.size ≤ q) [] := ⟨fun i j p q h => by simp at h, fun k q h => by simp at h⟩
  refine lw_new E (ci := 11) d0 rfl cl_7 in_11 ii_RX11 hP hD va_S.rf (by omega) (by omega) (fun q1 H hP hD hS => ?_)
  refine lv_dup hx hb d3 rfl ?_
  refine lw_init E (ad := fun _ => q1) (h := [.inr (11, mj_dv 11)]) (rest := [.ref q1]) (k := fun r h' => r = none ∧ h' = mkCs s00) d4 (m_X11_init l) (by decide) (by decide) k_X11_init ii_RX11 p_X11_init ml_9 n_X11_init rfl ⟨rfl, rfl, rfl, rfl⟩ (Nat.lt_succ_self 0) (Nat.le_of_ble_eq_true rfl) (fun q hq => by rw [List.mem_singleton.mp hq]; exact dv_sc 11 _) hP hD hS (by first | exact hl.1 | exact hl.1.symm) (by omega) (by omega) (fun r h' a1 H1 locs1 hk ha hsc1 hP hD hS => ?_)
  obtain ⟨rfl, rfl⟩ := hk
  rw [List.append_nil] at hP hD
  show W p l e room_1 s m #[Value.ref b] below meth c H1 locs1 _ _ _ (F0 m 7 ls [.ref q1])
  refine lv_astore_n (lv' := [(1, .ref q1), (0, .ref b)]) hx hb d7 rfl hl (by decide) rfl (fun ls hl => ?_)
  refine lw_new E (ci := 12) d8 rfl cl_10 in_12 ii_RX12 hP hD hS (by omega) (by omega) (fun q2 H hP hD hS => ?_)
  refine lv_dup hx hb d11 rfl ?_
  refine lw_init E (ad := fun _ => q2) (h := [.inr (12, mj_dv 12)]) (rest := [.ref q2]) (k := fun r h' => r = none ∧ h' = mkMs t00) d12 (m_X12_init l) (by decide) (by decide) k_X12_init ii_RX12 p_X12_init ml_12 n_X12_init rfl ⟨rfl, rfl, rfl, rfl⟩ (Nat.lt_succ_self 0) (Nat.le_of_ble_eq_true rfl) (fun q hq => by rw [List.mem_singleton.mp hq]; exact dv_sc 12 _) hP hD hS (by first | exact hl.1 | exact hl.1.symm) (by omega) (by omega) (fun r h' a2 H1 locs1 hk ha2 hsc2 hP hD hS => ?_)
  obtain ⟨rfl, rfl⟩ := hk
  show W p l e room_1 s m #[Value.ref b] below meth c H1 locs1 _ _ _ (F0 m 15 ls [.ref q2])
  refine lv_astore_n (lv' := [(2, .ref q2), (1, .ref q1), (0, .ref b)]) hx hb d15 rfl hl (by decide) rfl (fun ls hl => ?_)
  refine lv_iconst hx hb (v := 0) d16 (by decide) ?_
  refine lv_istore_n (lv' := [(3, .int 0), (2, .ref q2), (1, .ref q1), (0, .ref b)]) hx hb d17 rfl hl (by decide) rfl (fun ls hl => ?_)
  have g := law_rounds (l := l) (e := e) (below := below) (meth := meth) (q1 := q1) (q2 := q2) E hL hr hlocks 513 0 s00 t00 (by decide) (Nat.zero_le _) RX_start
  exact g a1 a2 H1 locs1 _ _ ls ha ha2 hsc1 hsc2 hP.swp hD.swp hS (lv_sub hl [3, 2, 1, 0] rfl) (by omega) (by omega)
-- ===== YOUR PART ENDS =====
set_option maxHeartbeats 4000000 in
theorem lw_walk (l : Launch) (hflags : l.flags = flags0) (b : Addr) (xs : List Int32) : MetFree l x (headSpec (Jvm.Cond.code x code maxLocals ret :: tables_1) room_1) (lw_P b xs) (fun _ _ _ _ _ => True) lw_Q := by
  refine MetFree.of_bodyS (code := code) (maxLocals := maxLocals) (ret := ret) (by decide) ?_ ?_
  · intro args s m h hn
    obtain ⟨meth, c, h1, h2, h3, h4, h5, h6, -, -⟩ := Cond.code_spec hn (atoms_spec (ws := Jvm.Cond.code x code maxLocals ret :: tables_1) h _ List.mem_cons_self)
    exact ⟨meth, c, h1, h2, h3, h4, h5, h6⟩
  · intro p e s m args below meth c s₁ B hml0 hP _
    obtain ⟨rfl, hx, hbd, hgv⟩ := hP
    obtain ⟨scr, harrAt, hlist, hof, hsmall⟩ := hx
    obtain ⟨hcb, hkn, -, -⟩ := State.arrayAt?_spec harrAt
    have hown : s.vm.findClass R_law = some m.cls := findClass_of_methodNamed B.named
    have hts0 : ∀ c ∈ (Jvm.Cond.code x code maxLocals ret :: tables_1), c.before #[Value.ref b] s = true := atoms_spec (ws := Jvm.Cond.code x code maxLocals ret :: tables_1) B.pre
    have hts : ∀ w ∈ lw_tbl, w.before #[Value.ref b] s = true := k2_hts_sels lw_privs (fun w hw => hts0 w (List.mem_cons_of_mem _ hw)) lw_privs_ok
    have hml : c.maxLocals = 4 := B.maxLocals_eq (hts0 _ List.mem_cons_self)
    have X₀ : Stand p l e room_1 s m #[Value.ref b] below meth c s₁ [] 0 0 := Stand.of_body B
    have hh0 : s₁.heap = s.heap := by rw [B.state]; rfl
    have hsz : scr.slots.size = xs.length := by rw [← Array.length_toList, hlist, List.length_map]
    have hval : ∀ j : Nat, j < xs.length → scr.slots[j]? = some (.int (xs.getD j 0)) := fun j hj => by
      rw [← Array.getElem?_toList, hlist]
      simp [hj]
    have hbl : b < s.heap.size := (Array.getElem?_eq_some_iff.mp hcb).1
    have hX : va_X b xs.length (fun j => xs.getD j 0) s s.heap := ⟨scr, hcb, hof, hkn, hsz, hval⟩
    have K : W p l e room_1 s m #[Value.ref b] below meth c s₁.heap [] 0 0 (lw_Z below #[Value.ref b] s) (entryFrame m ([Value.ref b] : List Value).toArray 4) := by
      rw [hh0]
      exact whole_start l hflags hbd ⟨B.exec, B.bytes, B.returns, hml, hown, hts, hX, hbl, B.notSynchronized, hgv⟩
    obtain ⟨t, a1, o, b1, b2, b3⟩ := K s₁ rfl X₀
    exact ⟨t, o, a1, b1, b2, b3⟩
theorem lw_pre_spec {args : Array Value} {s : State} (h : (Jvm.Cond.and given_1 narrow_1).before args s = true) (hr : rest_1_c.before args s = true) : ∃ (b : Addr) (xs : List Int32), lw_P b xs args s := by
  have hs := flat_of_before _ h
  have hq := flat_of_before _ hr
  have hc : (Cond.count 1).before args s = true := hs _ (by decide +kernel)
  have harr : (Cond.arrayOf (.arg 0) .int).before args s = true := hs _ (by decide +kernel)
  have hle : (Cond.le (.length (.arg 0)) (.int 4608)).before args s = true := hs _ (by decide +kernel)
  have hlen : (Cond.isInt (.length (.arg 0))).before args s = true := hq _ (by decide +kernel)
  have hall : (Cond.all (.arg 0) (.isInt (.elem (.arg 0) (.index 0)))).before args s = true := hq _ (by decide +kernel)
  obtain ⟨b, xs, hb, hx⟩ := State.ints_of_pre rfl harr hlen hall
  have hsm : xs.length < 2 ^ 31 := hx.choose_spec.2.2.2
  have hev : (Term.length (.arg 0)).eval args s none [] s = some (.int xs.length.toInt32) := hx.length_eval hb
  have hv := Cond.le_ints hev (show (Term.int 4608).eval args s none [] s = some (.int 4608) from rfl)
  have hd : xs.length.toInt32 ≤ 4608 := by
    simpa [Cond.before, Cond.holds, hv] using hle
  have hN : xs.length ≤ 4608 := (Int32.ofNat_le_ofNat hsm (by decide)).mp (show Int32.ofNat xs.length ≤ Int32.ofNat 4608 from hd)
  exact ⟨b, xs, Cond.one_arg hc (show args[0]? = some (.ref b) from hb), hx, hN, h⟩
theorem lw_comes (l : Launch) (hflags : l.flags = flags0) : Comes l x (Jvm.Cond.code x code maxLocals ret :: tables_1) room_1 (fun tb e args s => Calls_1 tb e args s ∧ rest_1 tb e args s ∧ Pre_1 tb e args s)
    (fun _ _ args s o t => lw_Q args s o t) := by
  intro p e ha hc hk s m args below hf hfit hheap happ hpre
  obtain ⟨b, xs, hP⟩ := lw_pre_spec hpre.2.2 hpre.2.1
  obtain ⟨k, o, h1, h2, h3, hQ⟩ := lw_walk l hflags b xs p e ha hc hk s m args below hf ((Spec.applies_iff_loose hf).mp happ).1 hP trivial
  exact ⟨k, o, h1, h2, h3, hQ⟩
theorem lw_frame {s t : State} {o : Outcome} {args : Array Value} (h : Framed s o t [] 600000 7302250) :
    Framed s o t (fieldLocs frame_1_writes args s ++ arrayLocs frame_1_arrays args s ++ staticLocs frame_1_statics s) 600000 7302250 := h
theorem lw_limb (L : Cond) (hL : ∀ (args : Array Value) (s t : State), L.after args s (.returned (some (.int 1))) t = true) :
    ArmFor flags0 classFile x code maxLocals ret World_1 tables_1 room_1 Calls_1 rest_1 Pre_1
      (fun tb e a s o t => postC L tb e a s o t ∧ Framed s o t (fieldLocs frame_1_writes a s ++ arrayLocs frame_1_arrays a s ++ staticLocs frame_1_statics s) 600000 7302250) := by
  intro l hflags _ _ p e ha hc hk s m args below hf hfit hheap happ hpre
  obtain ⟨k, o, h1, h2, h3, rfl, hF⟩ := lw_comes l hflags p e ha hc hk s m args below hf hfit hheap happ hpre
  exact ⟨k, _, h1, h2, h3, hL args s _, lw_frame hF⟩
theorem i_vc : Claimed_1_1 ∧ Claimed_1_2 := ⟨lw_limb limb_1_1 (fun args s t => by simp [limb_1_1, Cond.after, Cond.holds, Cond.value]), lw_limb limb_1_2 (fun args s t => Cond.after_iff.mpr (by
  first | (rw [show limb_1_2 = Cond.eq .result (.int 1) from rfl, Cond.eq_ints (x := 1) (y := 1) rfl rfl]; simp; done) | (simp [limb_1_2, Cond.value, Term.eval]; done)))⟩
