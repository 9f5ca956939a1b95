/-! quarrel's bytecode on the reference's side: the JDK's own String.charAt on the constant, walked -/
theorem q_at {i : Nat} {w : Cond} (h : lw_tbl[i]? = some w) : w ∈ lw_tbl := List.mem_of_getElem? h
theorem wq_435 : Cond.methodLink "EveryChildModel" 435 yJ0_charAt_5068e ∈ mj_tw := mj_tw_in (List.mem_of_getElem? (i := 1935) (by decide +kernel)) rfl
theorem wq_cn : Cond.instanceMethod yJ0_charAt_5068e ∈ mj_tw := mj_tw_in (List.mem_of_getElem? (i := 1936) (by decide +kernel)) rfl
theorem wq_ce : Cond.selects "java/lang/String" yJ0_charAt_5068e yJ0_charAt_5068e ∈ mj_tw := mj_tw_in (List.mem_of_getElem? (i := 1937) (by decide +kernel)) rfl
set_option maxRecDepth 100000 in
theorem wq_ck : Cond.code yJ0_charAt_5068e cJ0_charAt_5068e 2 (some .char) ∈ lw_tbl := List.mem_of_getElem? (i := 1938) rfl
theorem wq_492 : Cond.methodLink "java/lang/String" 492 yJ0_isLatin1_aae02 ∈ mj_tw := mj_tw_in (List.mem_of_getElem? (i := 1939) (by decide +kernel)) rfl
theorem wq_in : Cond.instanceMethod yJ0_isLatin1_aae02 ∈ mj_tw := mj_tw_in (List.mem_of_getElem? (i := 1940) (by decide +kernel)) rfl
theorem wq_ie : Cond.selects "java/lang/String" yJ0_isLatin1_aae02 yJ0_isLatin1_aae02 ∈ mj_tw := mj_tw_in (List.mem_of_getElem? (i := 1941) (by decide +kernel)) rfl
set_option maxRecDepth 100000 in
theorem wq_ik : Cond.code yJ0_isLatin1_aae02 cJ0_isLatin1_aae02 1 (some .boolean) ∈ lw_tbl := List.mem_of_getElem? (i := 1942) rfl
theorem wq_38 : Cond.fieldLink "java/lang/String" 38 "java/lang/String" "COMPACT_STRINGS" "Z" ∈ mj_tw := mj_tw_in (List.mem_of_getElem? (i := 1943) (by decide +kernel)) rfl
theorem wq_495 : Cond.methodLink "java/lang/String" 495 yJ1_charAt_3b067 ∈ mj_tw := mj_tw_in (List.mem_of_getElem? (i := 1945) (by decide +kernel)) rfl
theorem wq_ls : Cond.static yJ1_charAt_3b067 ∈ mj_tw := mj_tw_in (List.mem_of_getElem? (i := 1946) (by decide +kernel)) rfl
set_option maxRecDepth 100000 in
theorem wq_lk : Cond.code yJ1_charAt_3b067 cJ1_charAt_3b067 2 (some .char) ∈ lw_tbl := List.mem_of_getElem? (i := 1947) rfl
theorem wq_9 : Cond.methodLink "java/lang/StringLatin1" 9 yJ0_checkIndex_df160 ∈ mj_tw := mj_tw_in (List.mem_of_getElem? (i := 1948) (by decide +kernel)) rfl
theorem wq_hs : Cond.static yJ0_checkIndex_df160 ∈ mj_tw := mj_tw_in (List.mem_of_getElem? (i := 1949) (by decide +kernel)) rfl
set_option maxRecDepth 100000 in
theorem wq_hk : Cond.code yJ0_checkIndex_df160 cJ0_checkIndex_df160 2 none ∈ lw_tbl := List.mem_of_getElem? (i := 1950) rfl
theorem wq_1053 : Cond.fieldLink "java/lang/String" 1053 "jdk/internal/util/Preconditions" "SIOOBE_FORMATTER" "Ljava/util/function/BiFunction;" ∈ mj_tw := mj_tw_in (List.mem_of_getElem? (i := 1951) (by decide +kernel)) rfl
theorem wq_1059 : Cond.methodLink "java/lang/String" 1059 yJ3_checkIndex_8e157 ∈ mj_tw := mj_tw_in (List.mem_of_getElem? (i := 1953) (by decide +kernel)) rfl
theorem wq_ps : Cond.static yJ3_checkIndex_8e157 ∈ mj_tw := mj_tw_in (List.mem_of_getElem? (i := 1954) (by decide +kernel)) rfl
set_option maxRecDepth 100000 in
theorem wq_pk : Cond.code yJ3_checkIndex_8e157 cJ3_checkIndex_8e157 3 (some .int) ∈ lw_tbl := List.mem_of_getElem? (i := 1955) rfl
theorem wq_15 : Cond.fieldLink "java/lang/String" 15 "java/lang/String" "coder" "B" ∈ mj_tw := mj_tw_in (List.mem_of_getElem? (i := 2216) (by decide +kernel)) rfl
theorem wq_f9 : Cond.fieldLink "java/lang/String" 9 "java/lang/String" "value" "[B" ∈ mj_tw := mj_tw_in (List.mem_of_getElem? (i := 2217) (by decide +kernel)) rfl
theorem wq_iS : Cond.initialized "java/lang/String" ∈ mj_tw := mj_tw_in (List.mem_of_getElem? (i := 114) (by decide +kernel)) rfl
theorem wq_iL : Cond.initialized "java/lang/StringLatin1" ∈ mj_tw := mj_tw_in (List.mem_of_getElem? (i := 115) (by decide +kernel)) rfl
theorem wq_iP : Cond.initialized "jdk/internal/util/Preconditions" ∈ mj_tw := mj_tw_in (List.mem_of_getElem? (i := 116) (by decide +kernel)) rfl
theorem dq_p : decode cJ3_checkIndex_8e157 0 = .ok (.iload_n 0, 1) ∧ decode cJ3_checkIndex_8e157 1 = .ok (.ifCond .lt 8, 3) ∧ decode cJ3_checkIndex_8e157 4 = .ok (.iload_n 0, 1) ∧ decode cJ3_checkIndex_8e157 5 = .ok (.iload_n 1, 1) ∧ decode cJ3_checkIndex_8e157 6 = .ok (.if_icmp .lt 10, 3) ∧ decode cJ3_checkIndex_8e157 16 = .ok (.iload_n 0, 1) ∧ decode cJ3_checkIndex_8e157 17 = .ok (.ireturn, 1) := by and_intros <;> decide +kernel
theorem dq_h : decode cJ0_checkIndex_df160 0 = .ok (.iload_n 0, 1) ∧ decode cJ0_checkIndex_df160 1 = .ok (.iload_n 1, 1) ∧ decode cJ0_checkIndex_df160 2 = .ok (.getstatic 1053, 3) ∧ decode cJ0_checkIndex_df160 5 = .ok (.invokestatic 1059, 3) ∧ decode cJ0_checkIndex_df160 8 = .ok (.pop, 1) ∧ decode cJ0_checkIndex_df160 9 = .ok (.return_, 1) := by and_intros <;> decide +kernel
theorem dq_l : decode cJ1_charAt_3b067 0 = .ok (.iload_n 1, 1) ∧ decode cJ1_charAt_3b067 1 = .ok (.aload_n 0, 1) ∧ decode cJ1_charAt_3b067 2 = .ok (.arraylength, 1) ∧ decode cJ1_charAt_3b067 3 = .ok (.invokestatic 9, 3) ∧ decode cJ1_charAt_3b067 6 = .ok (.aload_n 0, 1) ∧ decode cJ1_charAt_3b067 7 = .ok (.iload_n 1, 1) ∧ decode cJ1_charAt_3b067 8 = .ok (.baload, 1) ∧ decode cJ1_charAt_3b067 9 = .ok (.sipush 255, 3) ∧ decode cJ1_charAt_3b067 12 = .ok (.iand, 1) ∧ decode cJ1_charAt_3b067 13 = .ok (.i2c, 1) ∧ decode cJ1_charAt_3b067 14 = .ok (.ireturn, 1) := by and_intros <;> decide +kernel
theorem dq_i : decode cJ0_isLatin1_aae02 0 = .ok (.getstatic 38, 3) ∧ decode cJ0_isLatin1_aae02 3 = .ok (.ifCond .eq 14, 3) ∧ decode cJ0_isLatin1_aae02 6 = .ok (.aload_n 0, 1) ∧ decode cJ0_isLatin1_aae02 7 = .ok (.getfield 15, 3) ∧ decode cJ0_isLatin1_aae02 10 = .ok (.ifCond .ne 7, 3) ∧ decode cJ0_isLatin1_aae02 13 = .ok (.iconst 1, 1) ∧ decode cJ0_isLatin1_aae02 14 = .ok (.goto 4, 3) ∧ decode cJ0_isLatin1_aae02 18 = .ok (.ireturn, 1) := by and_intros <;> decide +kernel
theorem dq_c : decode cJ0_charAt_5068e 0 = .ok (.aload_n 0, 1) ∧ decode cJ0_charAt_5068e 1 = .ok (.invokevirtual 492, 3) ∧ decode cJ0_charAt_5068e 4 = .ok (.ifCond .eq 12, 3) ∧ decode cJ0_charAt_5068e 7 = .ok (.aload_n 0, 1) ∧ decode cJ0_charAt_5068e 8 = .ok (.getfield 9, 3) ∧ decode cJ0_charAt_5068e 11 = .ok (.iload_n 1, 1) ∧ decode cJ0_charAt_5068e 12 = .ok (.invokestatic 495, 3) ∧ decode cJ0_charAt_5068e 15 = .ok (.ireturn, 1) := by and_intros <;> decide +kernel
/-- what these methods stand on -/
def qB (adK adV : Nat → Nat) (U : State) : Prop := vk_S 1 [7] [[119, 104, 115, 116, 118, 99, 102]] adK adV (fun _ => False) U U.heap ∧ qx (fun _ => False) U U.heap
theorem qB.go {adK adV : Nat → Nat} {s U : State} {H : Heap} (h : qB adK adV s) (hH : H = s.heap) (hU : U.heap = H) (hW : s.WarmedH U.vm) : qB adK adV U := by
  subst hU
  obtain ⟨h1, h2, t, ht, h3⟩ := h
  refine ⟨?_, ?_, t, ht, ?_⟩
  · rw [hH]; exact h1.moved hW.alike
  · rw [hH]; exact h2.moved hW.alike
  · rw [hH]; exact h3.moved hW.alike
theorem qB.blind {adK adV : Nat → Nat} (vs : List Value) : FrameBlind (va_Pc vs (qB adK adV)) := by
  refine mj_blind fun a U g mk q => ?_
  obtain ⟨h1, h2, t, ht, h3⟩ := q
  exact ⟨h1.moved (u := U) (U := U.calling g mk a) (Vm.Alike.refl U.vm), h2.moved (u := U) (U := U.calling g mk a) (Vm.Alike.refl U.vm), t, ht, h3.moved (u := U) (U := U.calling g mk a) (Vm.Alike.refl U.vm)⟩
def q_v (v : Option Value) : Array Value → State → Outcome → State → Prop := fun _ st oc t => oc = .returned v ∧ t.heap = st.heap
section QA
variable {p : Program} {l : Launch} {e : Env} {R : Room} {s : State} {m : MethodId} {args : Array Value} {below : List Frame} {meth : Method} {c : Code} {H : Heap} {locs : List Loc} {cells slots : Nat} {Q : State → Prop} {pc : Nat} {ls : Array Slot} {rest st0 : List Value} {a : Array Value} {cc : ByteArray}
theorem q_after {v : Option Value} (hr : CallRun p l e R s m args below meth c H locs cells slots 0 0 (F0 m pc ls st0) rest (q_v v a) (fun _ => False))
    (kk : W p l e R s m args below meth c H locs cells slots Q (F0 m (pc + 3) ls (v.toList ++ rest))) : W p l e R s m args below meth c H locs cells slots Q (F0 m pc ls st0) := by
  intro T hT X
  obtain ⟨w, st₀, t, T', L, h0, X', hL, e1, ⟨hv, hh⟩, st⟩ := hr T hT X
  cases hv
  obtain ⟨t2, a1, b1⟩ := kk T' (by rw [e1, hh, h0]) (Stand.forget X' (fun q h => (hL q h).elim))
  exact ⟨t2, st t2 a1, b1⟩
theorem va_ldcSW (hexec : p.tables.exec = Jvm.exec) (hb : c.code = cc) {own tx : String} {index q : Nat} (hown : s.vm.findClass own = some m.cls) (hZ : vk_R own index tx q s) (hdg : decode cc pc = .ok (.ldc_w index, 3))
    (k : W p l e R s m args below meth c H locs cells slots Q (F0 m (pc + 3) ls (.ref q :: rest))) : W p l e R s m args below meth c H locs cells slots Q (F0 m pc ls rest) := by
  intro T hT X
  obtain ⟨t, a1, b1⟩ := k T hT X
  refine ⟨t, ?_, b1⟩
  obtain ⟨kc, cf, i, a', hk, hcf, hcp, -, hr, hev'⟩ := Cond.stringRef_spec hown hZ.1
  have e2 := hZ.2.symm.trans hev'
  cases e2
  obtain ⟨k', hk', he⟩ := X.warmed.alike.2.2 _ _ hk
  have hr' : k'.resolved[index]? = some (some (.string q)) := by
    rcases X.warmed.entry hk hk' index with h | ⟨h, -⟩
    · rw [h]; exact hr
    · rw [hr] at h; cases h
  subst hb
  jvm_step X.here [hexec, hdg, ldc_w.wp_string (e := e) (s := T) (f := F0 m pc ls rest) X.here.top hk' (by rw [he]; exact hcf) hcp hr']
  exact a1
end QA
theorem q_pre (l : Launch) {i n : Nat} {v : Value} (hv0 : v = .null ∨ ∃ t, v = .ref t) (hi : i < n) (hn : n < 2 ^ 31) : Met l yJ3_checkIndex_8e157 (Cond.code yJ3_checkIndex_8e157 cJ3_checkIndex_8e157 3 (some .int) :: mj_tw) (mj_rm 0 0 0) (va_Pc [.int (nI i), .int (nI n), v] (fun _ => True)) (q_v (some (.int (nI i)))) 0 0 (fun _ => False) := by
  refine Met.ofW (cc := cJ3_checkIndex_8e157) (maxL := 3) (ret := some .int) (by decide) rfl ?_
  intro p e s m args below meth c s₁ B hml hv
  obtain ⟨rfl, -⟩ := hv
  obtain ⟨d0, d1, d4, d5, d6, d16, d17⟩ := dq_p
  have hl := lv_entry [.int (nI i), .int (nI n), v] (n := 3) (by rcases hv0 with rfl | ⟨t, rfl⟩ <;> exact Nat.le_refl 3)
  rw [lg_entry_eq]
  refine lv_iload_n B.exec B.bytes d0 rfl (lv_at hl 0 rfl) ?_
  refine lv_if_lt B.exec B.bytes (tgt := 9) d1 (by decide) (fun z => absurd z (nI_pos (by omega))) (fun _ => ?_)
  refine lv_iload_n B.exec B.bytes d4 rfl (lv_at hl 0 rfl) ?_
  refine lv_iload_n B.exec B.bytes d5 rfl (lv_at hl 1 rfl) ?_
  refine lv_icmp_lt B.exec B.bytes (tgt := 16) d6 (by decide) (fun _ => ?_) (fun z => absurd (nI_lt hi hn) z)
  refine lv_iload_n B.exec B.bytes d16 rfl (lv_at hl 0 rfl) ?_
  exact W.iret (v := nI i) B.exec B.bytes B.returns (fun t ht _ => ⟨rfl, ht⟩) (fun q hq => by cases hq) d17 B.notSynchronized
theorem q_chk (l : Launch) {adK adV : Nat → Nat} {i n : Nat} (hi : i < n) (hn : n < 2 ^ 31) : Met l yJ0_checkIndex_df160 (Cond.code yJ0_checkIndex_df160 cJ0_checkIndex_df160 2 none :: mj_tw) (mj_rm 1 0 0) (va_Pc [.int (nI i), .int (nI n)] (qB adK adV)) (q_v none) 0 0 (fun _ => False) := by
  refine Met.ofW (cc := cJ0_checkIndex_df160) (maxL := 2) (ret := none) (by decide) rfl ?_
  intro p e s m args below meth c s₁ B hml hv
  obtain ⟨rfl, hB⟩ := hv
  obtain ⟨d0, d1, d2, d5, d8, d9⟩ := dq_h
  have hts : ∀ w ∈ mj_tw, w.before [Value.int (nI i), .int (nI n)].toArray s = true := fun w hw => atoms_spec (ws := Cond.code yJ0_checkIndex_df160 cJ0_checkIndex_df160 2 none :: mj_tw) B.pre w (List.mem_cons_of_mem _ hw)
  have hown : s.vm.findClass "java/lang/String" = some m.cls := findClass_of_methodNamed B.named
  have hl := lv_entry [.int (nI i), .int (nI n)] (n := 2) (Nat.le_refl 2)
  rw [lg_entry_eq]
  obtain ⟨hB1, hB2, t, ht, hB3⟩ := hB
  refine lv_iload_n B.exec B.bytes d0 rfl (lv_at hl 0 rfl) ?_
  refine lv_iload_n B.exec B.bytes d1 rfl (lv_at hl 1 rfl) ?_
  refine va_gets B.exec B.bytes hB3 va_S.rf hown (hts _ wq_1053) (fun _ z => z) d2 ?_
  refine q_after (W.runS (cc := cJ0_checkIndex_df160) (As := [.int (nI i), .int (nI n), t]) (rest := []) (n := 3) (nL := 2) ⟨B.exec, B.bytes, hml, hown, hts⟩ (q_pre l ht hi hn) ⟨callB_of 3 hts (mj_twIn wq_pk) rfl rfl rfl (hts _ wq_iP) (hts _ wq_1059) (by decide +kernel) (by decide), hts _ wq_ps⟩ ⟨mj_blind fun _ _ _ _ q => q, fun U hU hW => ⟨rfl, trivial⟩⟩ rfl rfl (by first | exact hl.1 | exact hl.1.symm) rfl (lv_room (Nat.zero_le _)) d5 ⟨Nat.le_refl _, Nat.le_refl _⟩) ?_
  refine lv_pop B.exec B.bytes d8 rfl ?_
  exact W.vret B.exec B.bytes B.returns (fun t ht _ => ⟨rfl, ht⟩) (fun q hq => by cases hq) d9 B.notSynchronized
theorem q_ch : ∀ i, i < 7 → (((([119, 104, 115, 116, 118, 99, 102] : List Int32).getD i 0) &&& 255).toUInt32 % 65536).toInt32 = stA 0 i := by decide +kernel
theorem q_nr : ∀ i, i < 7 → narrow .char (.int (stA 0 i)) = .int (stA 0 i) := by decide +kernel
theorem q_lat (l : Launch) {adK adV : Nat → Nat} {i : Nat} (hi : i < 7) : Met l yJ1_charAt_3b067 (Cond.code yJ1_charAt_3b067 cJ1_charAt_3b067 2 (some .char) :: mj_tw) (mj_rm 2 0 0) (va_Pc [.ref (adV 0), .int (nI i)] (qB adK adV)) (q_v (some (.int (stA 0 i)))) 0 0 (fun _ => False) := by
  refine Met.ofW (cc := cJ1_charAt_3b067) (maxL := 2) (ret := some .char) (by decide) rfl ?_
  intro p e s m args below meth c s₁ B hml hv
  obtain ⟨rfl, hB⟩ := hv
  obtain ⟨d0, d1, d2, d3, d6, d7, d8, d9, d12, d13, d14⟩ := dq_l
  have hts : ∀ w ∈ mj_tw, w.before [Value.ref (adV 0), .int (nI i)].toArray s = true := fun w hw => atoms_spec (ws := Cond.code yJ1_charAt_3b067 cJ1_charAt_3b067 2 (some .char) :: mj_tw) B.pre w (List.mem_cons_of_mem _ hw)
  have hown : s.vm.findClass "java/lang/StringLatin1" = some m.cls := findClass_of_methodNamed B.named
  have hl := lv_entry [.ref (adV 0), .int (nI i)] (n := 2) (Nat.le_refl 2)
  rw [lg_entry_eq]
  have hT := (hB.1.1 0 (by decide)).2.2.2
  refine lv_iload_n B.exec B.bytes d0 rfl (lv_at hl 1 rfl) ?_
  refine lv_aload_n B.exec B.bytes d1 rfl (lv_at hl 0 rfl) ?_
  obtain ⟨cell, c1, c2, c3, c4, c5, c6, c7⟩ := id hT
  refine W.alen (n := nI 7) B.exec B.bytes c1 c2 c5 rfl rfl d2 ?_
  refine q_after (W.runS (cc := cJ1_charAt_3b067) (As := [.int (nI i), .int (nI 7)]) (rest := []) (n := 2) (nL := 2) ⟨B.exec, B.bytes, hml, hown, hts⟩ (q_chk l (adK := adK) (adV := adV) hi (by decide)) ⟨callB_of 2 hts (mj_twIn wq_hk) rfl rfl rfl (hts _ wq_iS) (hts _ wq_9) (by decide +kernel) (by decide), hts _ wq_hs⟩ ⟨qB.blind _, fun U hU hW => ⟨rfl, hB.go rfl hU hW⟩⟩ rfl rfl (by first | exact hl.1 | exact hl.1.symm) rfl (lv_room (Nat.zero_le _)) d3 ⟨Nat.le_refl _, Nat.le_refl _⟩) ?_
  refine lv_aload_n B.exec B.bytes d6 rfl (lv_at hl 0 rfl) ?_
  refine lv_iload_n B.exec B.bytes d7 rfl (lv_at hl 1 rfl) ?_
  refine va_tb B.exec B.bytes hT va_S.rf (vp_in_nI hi (by decide)) (v := .int (([119, 104, 115, 116, 118, 99, 102] : List Int32).getD i 0)) (by rw [nI_clamp (by omega)]; rfl) d8 ?_
  refine lv_sipush B.exec B.bytes d9 rfl ?_
  refine lv_iand B.exec B.bytes d12 ?_
  refine lv_i2c B.exec B.bytes d13 (q_ch i hi) ?_
  exact W.zret (v := stA 0 i) B.exec B.bytes B.returns (q_nr i hi) (fun t ht _ => ⟨rfl, ht⟩) (fun q hq => by cases hq) d14 B.notSynchronized
theorem q_is (l : Launch) {adK adV : Nat → Nat} : Met l yJ0_isLatin1_aae02 (Cond.code yJ0_isLatin1_aae02 cJ0_isLatin1_aae02 1 (some .boolean) :: mj_tw) (mj_rm 0 0 0) (va_Pc [.ref (adK 0)] (qB adK adV)) (q_v (some (.int 1))) 0 0 (fun _ => False) := by
  refine Met.ofW (cc := cJ0_isLatin1_aae02) (maxL := 1) (ret := some .boolean) (by decide) rfl ?_
  intro p e s m args below meth c s₁ B hml hv
  obtain ⟨rfl, hB⟩ := hv
  obtain ⟨d0, d3, d6, d7, d10, d13, d14, d18⟩ := dq_i
  have hts : ∀ w ∈ mj_tw, w.before [Value.ref (adK 0)].toArray s = true := fun w hw => atoms_spec (ws := Cond.code yJ0_isLatin1_aae02 cJ0_isLatin1_aae02 1 (some .boolean) :: mj_tw) B.pre w (List.mem_cons_of_mem _ hw)
  have hown : s.vm.findClass "java/lang/String" = some m.cls := findClass_of_methodNamed B.named
  have hl := lv_entry [.ref (adK 0)] (n := 1) (Nat.le_refl 1)
  rw [lg_entry_eq]
  refine va_gets B.exec B.bytes hB.2.1 va_S.rf hown (hts _ wq_38) (fun _ z => z) d0 ?_
  refine lv_if_eq B.exec B.bytes (tgt := 17) d3 (by decide) (fun z => absurd z (by decide)) (fun _ => ?_)
  refine lv_aload_n B.exec B.bytes d6 rfl (lv_at hl 0 rfl) ?_
  refine vk_getf B.exec B.bytes (hB.1.1 0 (by decide)).2.1 va_S.rf hown (hts _ wq_15) (fun _ z => z) d7 ?_
  refine lv_if_ne B.exec B.bytes (tgt := 17) d10 (by decide) (fun z => absurd rfl z) (fun _ => ?_)
  refine lv_iconst B.exec B.bytes d13 rfl ?_
  refine lv_goto B.exec B.bytes (tgt := 18) d14 (by decide) ?_
  exact W.zret (v := 1) B.exec B.bytes B.returns rfl (fun t ht _ => ⟨rfl, ht⟩) (fun q hq => by cases hq) d18 B.notSynchronized
theorem q_char (l : Launch) {adK adV : Nat → Nat} {i : Nat} (hi : i < 7) : Met l yJ0_charAt_5068e (Cond.code yJ0_charAt_5068e cJ0_charAt_5068e 2 (some .char) :: mj_tw) (mj_rm 3 0 0) (va_Pc [.ref (adK 0), .int (nI i)] (qB adK adV)) (q_v (some (.int (stA 0 i)))) 0 0 (fun _ => False) := by
  refine Met.ofW (cc := cJ0_charAt_5068e) (maxL := 2) (ret := some .char) (by decide) rfl ?_
  intro p e s m args below meth c s₁ B hml hv
  obtain ⟨rfl, hB⟩ := hv
  obtain ⟨d0, d1, d4, d7, d8, d11, d12, d15⟩ := dq_c
  have hts : ∀ w ∈ mj_tw, w.before [Value.ref (adK 0), .int (nI i)].toArray s = true := fun w hw => atoms_spec (ws := Cond.code yJ0_charAt_5068e cJ0_charAt_5068e 2 (some .char) :: mj_tw) B.pre w (List.mem_cons_of_mem _ hw)
  have hown : s.vm.findClass "java/lang/String" = some m.cls := findClass_of_methodNamed B.named
  have hl := lv_entry [.ref (adK 0), .int (nI i)] (n := 2) (Nat.le_refl 2)
  rw [lg_entry_eq]
  refine lv_aload_n B.exec B.bytes d0 rfl (lv_at hl 0 rfl) ?_
  refine q_after (W.runV (cc := cJ0_charAt_5068e) (C := "java/lang/String") (b := adK 0) (As := []) (rest := []) (n := 0) (nL := 2) ⟨B.exec, B.bytes, hml, hown, hts⟩ (q_is l (adK := adK) (adV := adV)) ⟨callB_of 0 hts (mj_twIn wq_ik) rfl rfl rfl (hts _ wq_iS) (hts _ wq_492) (by decide +kernel) (by decide), hts _ wq_in, hts _ wq_ie⟩ ⟨qB.blind _, vk_recv hB.1 (by decide) va_S.rf, fun U hU hW => ⟨rfl, hB.go rfl hU hW⟩⟩ rfl rfl (by first | exact hl.1 | exact hl.1.symm) rfl (lv_room (Nat.zero_le _)) d1 ⟨Nat.le_refl _, Nat.le_refl _⟩) ?_
  refine lv_if_eq B.exec B.bytes (tgt := 16) d4 (by decide) (fun z => absurd z (by decide)) (fun _ => ?_)
  refine lv_aload_n B.exec B.bytes d7 rfl (lv_at hl 0 rfl) ?_
  refine vk_getf B.exec B.bytes (hB.1.1 0 (by decide)).2.2.1 va_S.rf hown (hts _ wq_f9) (fun _ z => z) d8 ?_
  refine lv_iload_n B.exec B.bytes d11 rfl (lv_at hl 1 rfl) ?_
  refine q_after (W.runS (cc := cJ0_charAt_5068e) (As := [.ref (adV 0), .int (nI i)]) (rest := []) (n := 2) (nL := 2) ⟨B.exec, B.bytes, hml, hown, hts⟩ (q_lat l (adK := adK) (adV := adV) hi) ⟨callB_of 2 hts (mj_twIn wq_lk) rfl rfl rfl (hts _ wq_iL) (hts _ wq_495) (by decide +kernel) (by decide), hts _ wq_ls⟩ ⟨qB.blind _, fun U hU hW => ⟨rfl, hB.go rfl hU hW⟩⟩ rfl rfl (by first | exact hl.1 | exact hl.1.symm) rfl (lv_room (Nat.zero_le _)) d12 ⟨Nat.le_refl _, Nat.le_refl _⟩) ?_
  exact W.zret (v := stA 0 i) B.exec B.bytes B.returns (q_nr i hi) (fun t ht _ => ⟨rfl, ht⟩) (fun q hq => by cases hq) d15 B.notSynchronized
/-- quarrel's own: the constant's letter at i -/
def mj_ch (G : mj_K) : Prop := ∀ (L : List Value) (x : Int32) (h : mj_H) (bc bs : Nat), L[4]? = some (.int x) → vp_in x 7 → G 40 L [.int (stA 0 x.toNatClampNeg)] h bc bs → G 32 L [] h bc bs
section CH
variable {p : Program} {l : Launch} {e : Env} {R : Room} {s : State} {m : MethodId} {args : Array Value} {below : List Frame} {meth : Method} {c : Code} {Q : State → Prop} {ini : Bool} {lev : Nat} {D : va_G} {cA : FieldType → ClassId} {sd adK adV : Nat → Nat} {A : Nat → Prop} {n0 : Nat} {ad0 : Nat → Nat} {mc ms : Nat} {T : mj_T}
theorem mj_Go_ch {Q2 : State → Prop} (hlev : 5 ≤ lev) (hQ : qx A s s.heap) (X : mj_Cx p l R s m args meth c cX12_quarrel "EveryChildModel" ini lev D cA sd adK adV A mc ms T) : mj_ch (mj_Go p l e R s m args below meth c Q2 D cA sd A n0 ad0 mc ms T.1) := by
  obtain ⟨hx, hb, hml, hown, hts, hK, hA, hX, hR, hin, hTF⟩ := X
  intro L x h bc bs hL hv hg
  intro ad H locs cells slots ls e1 e2 e3 e4 e5 hP hD hS hl b1 b2
  obtain ⟨d32, d35, d37⟩ : decode cX12_quarrel 32 = .ok (.ldc_w 433, 3) ∧ decode cX12_quarrel 35 = .ok (.iload 4, 2) ∧ decode cX12_quarrel 37 = .ok (.invokevirtual 435, 3) := by and_intros <;> decide +kernel
  have hx4 : ∃ i, i < 7 ∧ x = nI i := by
    refine ⟨x.toNatClampNeg, Nat.not_le.mp fun q => hv (Or.inr q), ?_⟩
    have h0 : 0 ≤ x.toInt := by
      have := Int32.not_lt.mp (fun q => hv (Or.inl q))
      simpa using Int32.le_iff_toInt_le.mp this
    have e : x.toNatClampNeg = x.toInt.toNat := rfl
    exact i32_of (by omega)
  obtain ⟨i, hi, rfl⟩ := hx4
  rw [nI_clamp (by omega)] at hg
  have f1 : 3 + 1 ≤ R.frames ∧ 8 + (2 + 11) + 40 * 3 ≤ R.locals := by
    rw [hR]
    show 3 + 1 ≤ lev ∧ 8 + (2 + 11) + 40 * 3 ≤ 40 * lev
    omega
  have hB : ∀ U : State, U.heap = H → s.WarmedH U.vm → qB adK adV U := fun U hU hW => by
    refine ⟨?_, hQ.go hW hS hU (fun _ z => z.elim)⟩
    rw [hU]
    exact ((hX.2.2.2.2.kept hS.2.1).moved hW.alike).narrow (fun _ z => z.elim)
  refine va_ldcSW hx hb hown hX.2.2.2.1 d32 ?_
  refine lv_iload hx hb d35 (mj_lm_at hl hL rfl) ?_
  refine q_after (W.runV (cc := cX12_quarrel) (C := "java/lang/String") (b := adK 0) (As := [.int (nI i)]) (rest := []) (n := 1) (nL := T.1) ⟨hx, hb, hml, hown, hts⟩ (q_char l (adK := adK) (adV := adV) hi) ⟨callB_of 1 hts (mj_twIn wq_ck) rfl rfl rfl (hts _ wq_iS) (hts _ wq_435) (by decide +kernel) f1, hts _ wq_cn, hts _ wq_ce⟩ ⟨qB.blind _, vk_recv hX.2.2.2.2 (by decide) hS, fun U hU hW => ⟨rfl, hB U hU hW⟩⟩ rfl rfl hl.1 rfl (lv_room (Nat.zero_le _)) d37 ⟨by rw [hR]; show cells + 0 ≤ mc; omega, by rw [hR]; show slots + 0 ≤ ms; omega⟩) ?_
  exact hg ad H locs cells slots ls e1 e2 (fun v hv => by rw [List.mem_singleton.mp hv]; exact trivial) e4 e5 hP hD hS hl b1 b2
theorem mj_body8 {rt : Option FieldType} {maxL : Nat} {cs : mj_S} (T : mj_T) (hlev : 5 ≤ lev) (hT : T.1 = maxL) (hr : T.2.1 = rt) (hTF : mj_TF l yX12_quarrel.cls false lev T)
    (hmain : ∀ (as : List Value) (h : mj_H) (k : Option Value → mj_H → Prop), cs as h k → mj_aok maxL as = true ∧ ∀ G : mj_K, mj_cl2 cX12_quarrel T k G → mj_ch G → G 0 (mj_al as) [] h mc ms) : mj_MetQ l yX12_quarrel cX12_quarrel maxL rt lev mc ms cs := by
  intro D cA sd adK adV ad as h k sz hc
  subst hT; subst hr
  refine Met.ofW (cc := cX12_quarrel) (maxL := T.1) (ret := T.2.1) (by decide) rfl ?_
  intro p e s m args below meth c s₁ B hml hv
  obtain ⟨rfl, ⟨hsz, ⟨hP, hK, hD0, h5⟩, hX, hsv⟩, hQ⟩ := hv
  have hts : ∀ w ∈ mj_tw, w.before (as.map (mj_tv ad sd)).toArray s = true := fun w hw => atoms_spec (ws := Cond.code yX12_quarrel cX12_quarrel T.1 T.2.1 :: mj_tw) B.pre w (List.mem_cons_of_mem _ hw)
  have hown : s.vm.findClass yX12_quarrel.cls = some m.cls := findClass_of_methodNamed B.named
  subst hsz
  obtain ⟨hok, hG⟩ := hmain as h k hc
  unfold mj_aok at hok
  rw [Bool.and_eq_true, decide_eq_true_eq] at hok
  have hkn : ∀ v ∈ as, mj_kn v = true ∧ ∀ x, v ≠ .double x := by
    intro v hv
    have := List.all_eq_true.mp hok.2 v hv
    rw [Bool.and_eq_true] at this
    refine ⟨this.1, fun x hx => ?_⟩
    rw [hx] at this
    exact Bool.false_ne_true this.2
  have hlen := mj_al_len ad sd as hkn
  have hl := lv_entry (as.map (mj_tv ad sd)) (n := T.1) (by rw [hlen]; exact hok.1)
  have X : mj_Cx p l (headSpec (Cond.code yX12_quarrel cX12_quarrel T.1 T.2.1 :: mj_tw) (mj_rm lev mc ms)).room s m (as.map (mj_tv ad sd)).toArray meth c cX12_quarrel yX12_quarrel.cls false lev D cA sd adK adV (va_A (mj_ws cA ad sd h) s.heap.size) mc ms T :=
    ⟨B.exec, B.bytes, hml, hown, hts, hK, fun q hq => Or.inr hq, hX, rfl, (fun hi => nomatch hi), hTF⟩
  have h9 := hG (mj_Go p l e (headSpec (Cond.code yX12_quarrel cX12_quarrel T.1 T.2.1 :: mj_tw) (mj_rm lev mc ms)).room s m (as.map (mj_tv ad sd)).toArray below meth c (MQ below (mj_Q D cA sd ad h k (va_A (mj_ws cA ad sd h) s.heap.size)) (as.map (mj_tv ad sd)).toArray s mc ms (va_A (mj_ws cA ad sd h) s.heap.size)) D cA sd (va_A (mj_ws cA ad sd h) s.heap.size) h.length ad mc ms T.1)
    ⟨fun K hKG pc L st h' bc bs hI => mj_true hKG B.returns B.notSynchronized X hI, fun _ _ _ _ _ _ _ _ _ hw h1 h2 hg => mj_Go_wk hw h1 h2 hg⟩ (mj_Go_ch hlev hQ X)
  rw [lg_entry_eq]
  refine h9 ad s.heap [] 0 0 _ (fun _ _ => rfl) (Nat.le_refl _) (fun v hv => by cases hv) (fun v hv => ?_) h5 hP hD0.self va_S.rf (mj_lv_mono hl (mj_al_lm ad sd as 0 hkn)) (by omega) (by omega)
  have hgo : ∀ x : List Value, (∀ v ∈ x, mj_sv h.length v) → ∀ v ∈ mj_al x, mj_sv h.length v := by
    intro x
    induction x with
    | nil => intro _ v hv; cases hv
    | cons w x ih =>
      intro hx v hv
      have ih := ih (fun v hv => hx v (List.mem_cons_of_mem _ hv))
      have hw := hx w List.mem_cons_self
      cases w <;> simp only [mj_al, List.mem_cons] at hv <;> first
        | (rcases hv with rfl | rfl | hv
           · exact trivial
           · exact trivial
           · exact ih v hv)
        | (rcases hv with rfl | hv
           · exact hw
           · exact ih v hv)
  exact hgo as hsv v hv
end CH
theorem J_X12_quarrel : mj_t 7 5 = 12 ∧ mj_t 29 73 = 102 ∧ mj_t 75 21 = 96 ∧ mj_t 81 15 = 96 ∧ mj_t 90 6 = 96 ∧ mj_t 99 (-74) = 25 ∧ (0 ≤ ((7 : Nat) : Int) + 5) = True ∧ (0 ≤ ((29 : Nat) : Int) + 73) = True ∧ (0 ≤ ((75 : Nat) : Int) + 21) = True ∧ (0 ≤ ((81 : Nat) : Int) + 15) = True ∧ (0 ≤ ((90 : Nat) : Int) + 6) = True ∧ (0 ≤ ((99 : Nat) : Int) + (-74)) = True := by and_intros <;> first | rfl | exact eq_true (by decide)
def ct_X12_quarrel : List (Nat × mj_Cs) := [(415, 0, 6, 12, 0, 0, c_X12_lawFor), (422, 0, 4, 12, 0, 0, c_X12_isAsked), (426, 0, 7, 12, 0, 0, c_X12_tell)]
theorem L_X12_quarrel : mj_lk ct_X12_quarrel 415 = some (0, 6, 12, 0, 0, c_X12_lawFor) ∧ mj_lk ct_X12_quarrel 422 = some (0, 4, 12, 0, 0, c_X12_isAsked) ∧ mj_lk ct_X12_quarrel 426 = some (0, 7, 12, 0, 0, c_X12_tell) := ⟨rfl, rfl, rfl⟩
set_option maxHeartbeats 4000000 in
set_option maxRecDepth 20000 in
theorem b_X12_quarrel_25 {k : Option Value → mj_H → Prop} {G : mj_K} (hG : mj_cl2 cX12_quarrel (TbX12 9 ((some FieldType.int)) ct_X12_quarrel) k G) (hM : mj_ch G) {v1 : Int32} {v2 : Int32} {v3 : Int32} {P : Int32 × St → Prop} {K : (St) ⊕ (Int32 × St) → Prop} (hP : ∀ x, P x → G 25 [.ref 0, .int v1, .int v2, .int v3, .int x.1] [] (mkMs x.2) 0 0) (hK0 : ∀ y, K (.inl y) → G 102 [] [] (mkMs y) 0 0) (hK1 : ∀ y, K (.inr y) → G 93 [mj_unk, mj_unk, mj_unk, mj_unk, mj_unk, .int y.1] [] (mkMs y.2) 0 0) {v4 : Int32} {s : St} (hw : ok (B_X12_quarrel_25 v1 v2 v3 (v4, s)) (Sum.elim P K)) : G 25 [.ref 0, .int v1, .int v2, .int v3, .int v4] [] (mkMs s) 0 0 := by
  unfold B_X12_quarrel_25 at hw
  refine mj_run hG.1 (fun pc => pc == 7 || pc == 22 || pc == 25 || pc == 32 || pc == 52 || pc == 70 || pc == 93 || pc == 102) 4000 ?_
  simp only [mj_step, mj_W_s, mj_fin, List.getElem?_cons_zero, List.getElem?_cons_succ, mj_go, Nat.reduceAdd, Nat.reduceSub, Nat.reduceLT, Nat.reduceLeDiff, Nat.zero_add, Nat.reduceEqDiff, Nat.reduceBEq, ↓reduceIte, Bool.false_eq_true, List.append_nil, List.nil_append, List.cons_append, Option.toList, and_true, true_and, true_or, or_true, reduceCtorEq, List.map_nil, bI_eq0, bI_eq1, bool_ft, pk_us, vnar0, vnar1, Bool.or_false, Bool.or_true, Bool.false_or, Bool.true_or, mj_kne, eq_self, Int32.reduceLT, Int32.reduceLE, Int32.reduceAdd, Int32.reduceSub, Int32.reduceMul, not_true_eq_false, not_false_eq_true, false_implies, true_implies, D_X12_quarrel_0, D_X12_quarrel_1, mj_F_aload_n_k, mj_F_bipush_n, mj_F_getfield_i, mj_F_goto_off, mj_F_iconst_n, mj_F_ifCond_ne_off, mj_F_if_icmp_eq_off, mj_F_if_icmp_ge_off, mj_F_iinc_k_n, mj_F_iload_k, mj_F_iload_n_k, mj_F_invokevirtual_i, mj_F_ireturn, mj_F_istore_k, mj_F_ldc_w_i, mj_set, mj_set0, mj_unk, mj_c2, mj_kc, FT_X12, FT_X12_1, KT_X12, L_X12_quarrel, List.take_succ_cons, List.take_zero, List.drop_succ_cons, List.drop_zero, List.reverse_cons, List.reverse_nil, List.length_cons, List.length_nil, gS_M0, gMf_44, J_X12_quarrel]
  refine ⟨fun c => ?_, fun c => ?_⟩
  · replace hw := ok_t hw c
    exact hG.2 _ _ _ _ _ _ _ _ _ (by exact trivial) (Nat.zero_le _) (Nat.zero_le _) (hK0 _ (ok_some hw :) :)
  · replace hw := ok_f hw c
    refine hM _ _ _ _ _ rfl (ok_rs hw).1 ?_
    replace hw := (ok_rs hw).2
    refine mj_run hG.1 (fun pc => pc == 7 || pc == 22 || pc == 25 || pc == 32 || pc == 52 || pc == 70 || pc == 93 || pc == 102) 4000 ?_
    simp only [mj_step, mj_W_s, mj_fin, List.getElem?_cons_zero, List.getElem?_cons_succ, mj_go, Nat.reduceAdd, Nat.reduceSub, Nat.reduceLT, Nat.reduceLeDiff, Nat.zero_add, Nat.reduceEqDiff, Nat.reduceBEq, ↓reduceIte, Bool.false_eq_true, List.append_nil, List.nil_append, List.cons_append, Option.toList, and_true, true_and, true_or, or_true, reduceCtorEq, List.map_nil, bI_eq0, bI_eq1, bool_ft, pk_us, vnar0, vnar1, Bool.or_false, Bool.or_true, Bool.false_or, Bool.true_or, mj_kne, eq_self, Int32.reduceLT, Int32.reduceLE, Int32.reduceAdd, Int32.reduceSub, Int32.reduceMul, not_true_eq_false, not_false_eq_true, false_implies, true_implies, D_X12_quarrel_0, D_X12_quarrel_1, mj_F_aload_n_k, mj_F_bipush_n, mj_F_getfield_i, mj_F_goto_off, mj_F_iconst_n, mj_F_ifCond_ne_off, mj_F_if_icmp_eq_off, mj_F_if_icmp_ge_off, mj_F_iinc_k_n, mj_F_iload_k, mj_F_iload_n_k, mj_F_invokevirtual_i, mj_F_ireturn, mj_F_istore_k, mj_F_ldc_w_i, mj_set, mj_set0, mj_unk, mj_c2, mj_kc, FT_X12, FT_X12_1, KT_X12, L_X12_quarrel, List.take_succ_cons, List.take_zero, List.drop_succ_cons, List.drop_zero, List.reverse_cons, List.reverse_nil, List.length_cons, List.length_nil, gS_M0, gMf_44, J_X12_quarrel]
    refine c_X12_lawFor_in (ok_imp (ok_bind hw) ?_)
    intro p hw
    simp only [Option.toList, List.nil_append, List.cons_append, Nat.reduceSub]
    refine mj_run hG.1 (fun pc => pc == 7 || pc == 22 || pc == 25 || pc == 32 || pc == 52 || pc == 70 || pc == 93 || pc == 102) 4000 ?_
    simp only [mj_step, mj_W_s, mj_fin, List.getElem?_cons_zero, List.getElem?_cons_succ, mj_go, Nat.reduceAdd, Nat.reduceSub, Nat.reduceLT, Nat.reduceLeDiff, Nat.zero_add, Nat.reduceEqDiff, Nat.reduceBEq, ↓reduceIte, Bool.false_eq_true, List.append_nil, List.nil_append, List.cons_append, Option.toList, and_true, true_and, true_or, or_true, reduceCtorEq, List.map_nil, bI_eq0, bI_eq1, bool_ft, pk_us, vnar0, vnar1, Bool.or_false, Bool.or_true, Bool.false_or, Bool.true_or, mj_kne, eq_self, Int32.reduceLT, Int32.reduceLE, Int32.reduceAdd, Int32.reduceSub, Int32.reduceMul, not_true_eq_false, not_false_eq_true, false_implies, true_implies, D_X12_quarrel_0, D_X12_quarrel_1, mj_F_aload_n_k, mj_F_bipush_n, mj_F_getfield_i, mj_F_goto_off, mj_F_iconst_n, mj_F_ifCond_ne_off, mj_F_if_icmp_eq_off, mj_F_if_icmp_ge_off, mj_F_iinc_k_n, mj_F_iload_k, mj_F_iload_n_k, mj_F_invokevirtual_i, mj_F_ireturn, mj_F_istore_k, mj_F_ldc_w_i, mj_set, mj_set0, mj_unk, mj_c2, mj_kc, FT_X12, FT_X12_1, KT_X12, L_X12_quarrel, List.take_succ_cons, List.take_zero, List.drop_succ_cons, List.drop_zero, List.reverse_cons, List.reverse_nil, List.length_cons, List.length_nil, gS_M0, gMf_44, J_X12_quarrel]
    refine c_X12_lawFor_in (ok_imp (ok_bind hw) ?_)
    intro p hw
    simp only [Option.toList, List.nil_append, List.cons_append, Nat.reduceSub]
    refine mj_run hG.1 (fun pc => pc == 7 || pc == 22 || pc == 25 || pc == 32 || pc == 52 || pc == 70 || pc == 93 || pc == 102) 4000 ?_
    simp only [mj_step, mj_W_s, mj_fin, List.getElem?_cons_zero, List.getElem?_cons_succ, mj_go, Nat.reduceAdd, Nat.reduceSub, Nat.reduceLT, Nat.reduceLeDiff, Nat.zero_add, Nat.reduceEqDiff, Nat.reduceBEq, ↓reduceIte, Bool.false_eq_true, List.append_nil, List.nil_append, List.cons_append, Option.toList, and_true, true_and, true_or, or_true, reduceCtorEq, List.map_nil, bI_eq0, bI_eq1, bool_ft, pk_us, vnar0, vnar1, Bool.or_false, Bool.or_true, Bool.false_or, Bool.true_or, mj_kne, eq_self, Int32.reduceLT, Int32.reduceLE, Int32.reduceAdd, Int32.reduceSub, Int32.reduceMul, not_true_eq_false, not_false_eq_true, false_implies, true_implies, D_X12_quarrel_0, D_X12_quarrel_1, mj_F_aload_n_k, mj_F_bipush_n, mj_F_getfield_i, mj_F_goto_off, mj_F_iconst_n, mj_F_ifCond_ne_off, mj_F_if_icmp_eq_off, mj_F_if_icmp_ge_off, mj_F_iinc_k_n, mj_F_iload_k, mj_F_iload_n_k, mj_F_invokevirtual_i, mj_F_ireturn, mj_F_istore_k, mj_F_ldc_w_i, mj_set, mj_set0, mj_unk, mj_c2, mj_kc, FT_X12, FT_X12_1, KT_X12, L_X12_quarrel, List.take_succ_cons, List.take_zero, List.drop_succ_cons, List.drop_zero, List.reverse_cons, List.reverse_nil, List.length_cons, List.length_nil, gS_M0, gMf_44, J_X12_quarrel]
    refine ⟨fun c => ?_, fun c => ?_⟩
    · replace hw := ok_t hw c
      exact hG.2 _ _ _ _ _ _ _ _ _ (by refine ⟨Or.inr rfl, ?_⟩; refine ⟨Or.inr rfl, ?_⟩; refine ⟨Or.inr rfl, ?_⟩; refine ⟨Or.inr rfl, ?_⟩; refine ⟨Or.inr rfl, ?_⟩; exact trivial) (Nat.zero_le _) (Nat.zero_le _) (hP _ (ok_some hw :) :)
    · replace hw := ok_f hw c
      refine ⟨fun c => ?_, fun c => ?_⟩
      · replace hw := ok_t hw c
        exact hG.2 _ _ _ _ _ _ _ _ _ (by refine ⟨Or.inr rfl, ?_⟩; refine ⟨Or.inr rfl, ?_⟩; refine ⟨Or.inr rfl, ?_⟩; refine ⟨Or.inr rfl, ?_⟩; refine ⟨Or.inr rfl, ?_⟩; exact trivial) (Nat.zero_le _) (Nat.zero_le _) (hP _ (ok_some hw :) :)
      · replace hw := ok_f hw c
        refine ⟨fun c => ?_, fun c => ?_⟩
        · replace hw := ok_t hw c
          exact hG.2 _ _ _ _ _ _ _ _ _ (by refine ⟨Or.inr rfl, ?_⟩; refine ⟨Or.inr rfl, ?_⟩; refine ⟨Or.inr rfl, ?_⟩; refine ⟨Or.inr rfl, ?_⟩; refine ⟨Or.inr rfl, ?_⟩; exact trivial) (Nat.zero_le _) (Nat.zero_le _) (hP _ (ok_some hw :) :)
        · replace hw := ok_f hw c
          exact hG.2 _ _ _ _ _ _ _ _ _ (by refine ⟨Or.inl rfl, ?_⟩; refine ⟨Or.inl rfl, ?_⟩; refine ⟨Or.inl rfl, ?_⟩; refine ⟨Or.inl rfl, ?_⟩; refine ⟨Or.inl rfl, ?_⟩; refine ⟨Or.inr rfl, ?_⟩; exact trivial) (Nat.zero_le _) (Nat.zero_le _) (hK1 _ (ok_some hw :) :)

set_option maxHeartbeats 4000000 in
set_option maxRecDepth 20000 in
theorem g_X12_quarrel_102 {k : Option Value → mj_H → Prop} {G : mj_K} (hG : mj_cl2 cX12_quarrel (TbX12 9 ((some FieldType.int)) ct_X12_quarrel) k G) (hM : mj_ch G)   {s : St} (hw : ok (F_X12_quarrel_102 s) (fun p => k (some (.int p.1)) (mkMs p.2))) : G 102 [] [] (mkMs s) 0 0 := by
  unfold F_X12_quarrel_102 at hw
  refine mj_run hG.1 (fun pc => pc == 7 || pc == 22 || pc == 25 || pc == 32 || pc == 52 || pc == 70 || pc == 93 || pc == 102) 4000 ?_
  simp only [mj_step, mj_W_s, mj_fin, List.getElem?_cons_zero, List.getElem?_cons_succ, mj_go, Nat.reduceAdd, Nat.reduceSub, Nat.reduceLT, Nat.reduceLeDiff, Nat.zero_add, Nat.reduceEqDiff, Nat.reduceBEq, ↓reduceIte, Bool.false_eq_true, List.append_nil, List.nil_append, List.cons_append, Option.toList, and_true, true_and, true_or, or_true, reduceCtorEq, List.map_nil, bI_eq0, bI_eq1, bool_ft, pk_us, vnar0, vnar1, Bool.or_false, Bool.or_true, Bool.false_or, Bool.true_or, mj_kne, eq_self, Int32.reduceLT, Int32.reduceLE, Int32.reduceAdd, Int32.reduceSub, Int32.reduceMul, not_true_eq_false, not_false_eq_true, false_implies, true_implies, D_X12_quarrel_0, D_X12_quarrel_1, mj_F_aload_n_k, mj_F_bipush_n, mj_F_getfield_i, mj_F_goto_off, mj_F_iconst_n, mj_F_ifCond_ne_off, mj_F_if_icmp_eq_off, mj_F_if_icmp_ge_off, mj_F_iinc_k_n, mj_F_iload_k, mj_F_iload_n_k, mj_F_invokevirtual_i, mj_F_ireturn, mj_F_istore_k, mj_F_ldc_w_i, mj_set, mj_set0, mj_unk, mj_c2, mj_kc, FT_X12, FT_X12_1, KT_X12, L_X12_quarrel, List.take_succ_cons, List.take_zero, List.drop_succ_cons, List.drop_zero, List.reverse_cons, List.reverse_nil, List.length_cons, List.length_nil, gS_M0, gMf_44, J_X12_quarrel]
  exact (ok_some hw :)

set_option maxHeartbeats 4000000 in
set_option maxRecDepth 20000 in
theorem g_X12_quarrel_93 {k : Option Value → mj_H → Prop} {G : mj_K} (hG : mj_cl2 cX12_quarrel (TbX12 9 ((some FieldType.int)) ct_X12_quarrel) k G) (hM : mj_ch G)   {v5 : Int32} {s : St} (hw : ok (F_X12_quarrel_93 v5 s) (fun p => k (some (.int p.1)) (mkMs p.2))) : G 93 [mj_unk, mj_unk, mj_unk, mj_unk, mj_unk, .int v5] [] (mkMs s) 0 0 := by
  unfold F_X12_quarrel_93 at hw
  refine mj_run hG.1 (fun pc => pc == 7 || pc == 22 || pc == 25 || pc == 32 || pc == 52 || pc == 70 || pc == 93 || pc == 102) 4000 ?_
  simp only [mj_step, mj_W_s, mj_fin, List.getElem?_cons_zero, List.getElem?_cons_succ, mj_go, Nat.reduceAdd, Nat.reduceSub, Nat.reduceLT, Nat.reduceLeDiff, Nat.zero_add, Nat.reduceEqDiff, Nat.reduceBEq, ↓reduceIte, Bool.false_eq_true, List.append_nil, List.nil_append, List.cons_append, Option.toList, and_true, true_and, true_or, or_true, reduceCtorEq, List.map_nil, bI_eq0, bI_eq1, bool_ft, pk_us, vnar0, vnar1, Bool.or_false, Bool.or_true, Bool.false_or, Bool.true_or, mj_kne, eq_self, Int32.reduceLT, Int32.reduceLE, Int32.reduceAdd, Int32.reduceSub, Int32.reduceMul, not_true_eq_false, not_false_eq_true, false_implies, true_implies, D_X12_quarrel_0, D_X12_quarrel_1, mj_F_aload_n_k, mj_F_bipush_n, mj_F_getfield_i, mj_F_goto_off, mj_F_iconst_n, mj_F_ifCond_ne_off, mj_F_if_icmp_eq_off, mj_F_if_icmp_ge_off, mj_F_iinc_k_n, mj_F_iload_k, mj_F_iload_n_k, mj_F_invokevirtual_i, mj_F_ireturn, mj_F_istore_k, mj_F_ldc_w_i, mj_set, mj_set0, mj_unk, mj_c2, mj_kc, FT_X12, FT_X12_1, KT_X12, L_X12_quarrel, List.take_succ_cons, List.take_zero, List.drop_succ_cons, List.drop_zero, List.reverse_cons, List.reverse_nil, List.length_cons, List.length_nil, gS_M0, gMf_44, J_X12_quarrel]
  exact (ok_some hw :)

set_option maxHeartbeats 4000000 in
theorem g_X12_quarrel_25 {k : Option Value → mj_H → Prop} {G : mj_K} (hG : mj_cl2 cX12_quarrel (TbX12 9 ((some FieldType.int)) ct_X12_quarrel) k G) (hM : mj_ch G)   {v1 : Int32} {v2 : Int32} {v3 : Int32} {v4 : Int32} {s : St} (hw : ok (F_X12_quarrel_25 v1 v2 v3 v4 s) (fun p => k (some (.int p.1)) (mkMs p.2))) : G 25 [.ref 0, .int v1, .int v2, .int v3, .int v4] [] (mkMs s) 0 0 := by
  unfold F_X12_quarrel_25 at hw
  refine lp_ok (B_X12_quarrel_25 v1 v2 v3) (fun x => G 25 [.ref 0, .int v1, .int v2, .int v3, .int x.1] [] (mkMs x.2) 0 0) _ ?_ _ _ (ok_bind hw)
  rintro ⟨v4, s⟩ hb
  exact b_X12_quarrel_25 hG hM (fun _ z => z) (fun y hw => by exact hG.2 _ _ _ _ _ _ _ _ _ (by exact trivial) (Nat.zero_le _) (Nat.zero_le _) (g_X12_quarrel_102 hG hM  hw :)) (fun y hw => by exact hG.2 _ _ _ _ _ _ _ _ _ (by refine ⟨Or.inl rfl, ?_⟩; refine ⟨Or.inl rfl, ?_⟩; refine ⟨Or.inl rfl, ?_⟩; refine ⟨Or.inl rfl, ?_⟩; refine ⟨Or.inl rfl, ?_⟩; refine ⟨Or.inr rfl, ?_⟩; exact trivial) (Nat.zero_le _) (Nat.zero_le _) (g_X12_quarrel_93 hG hM  hw :)) hb

set_option maxHeartbeats 4000000 in
set_option maxRecDepth 20000 in
theorem g_X12_quarrel {k : Option Value → mj_H → Prop} {G : mj_K} (hG : mj_cl2 cX12_quarrel (TbX12 9 ((some FieldType.int)) ct_X12_quarrel) k G) (hM : mj_ch G) {v1 : Int32} {v2 : Int32} {v3 : Int32} {s : St} (hw : ok (F_X12_quarrel v1 v2 v3 s) (fun p => k (some (.int p.1)) (mkMs p.2))) : G 0 [.ref 0, .int v1, .int v2, .int v3] [] (mkMs s) 0 0 := by
  unfold F_X12_quarrel at hw
  refine mj_run hG.1 (fun pc => pc == 7 || pc == 22 || pc == 25 || pc == 32 || pc == 52 || pc == 70 || pc == 93 || pc == 102) 4000 ?_
  simp only [mj_step, mj_W_s, mj_fin, List.getElem?_cons_zero, List.getElem?_cons_succ, mj_go, Nat.reduceAdd, Nat.reduceSub, Nat.reduceLT, Nat.reduceLeDiff, Nat.zero_add, Nat.reduceEqDiff, Nat.reduceBEq, ↓reduceIte, Bool.false_eq_true, List.append_nil, List.nil_append, List.cons_append, Option.toList, and_true, true_and, true_or, or_true, reduceCtorEq, List.map_nil, bI_eq0, bI_eq1, bool_ft, pk_us, vnar0, vnar1, Bool.or_false, Bool.or_true, Bool.false_or, Bool.true_or, mj_kne, eq_self, Int32.reduceLT, Int32.reduceLE, Int32.reduceAdd, Int32.reduceSub, Int32.reduceMul, not_true_eq_false, not_false_eq_true, false_implies, true_implies, D_X12_quarrel_0, D_X12_quarrel_1, mj_F_aload_n_k, mj_F_bipush_n, mj_F_getfield_i, mj_F_goto_off, mj_F_iconst_n, mj_F_ifCond_ne_off, mj_F_if_icmp_eq_off, mj_F_if_icmp_ge_off, mj_F_iinc_k_n, mj_F_iload_k, mj_F_iload_n_k, mj_F_invokevirtual_i, mj_F_ireturn, mj_F_istore_k, mj_F_ldc_w_i, mj_set, mj_set0, mj_unk, mj_c2, mj_kc, FT_X12, FT_X12_1, KT_X12, L_X12_quarrel, List.take_succ_cons, List.take_zero, List.drop_succ_cons, List.drop_zero, List.reverse_cons, List.reverse_nil, List.length_cons, List.length_nil, gS_M0, gMf_44, J_X12_quarrel]
  refine c_X12_isAsked_in (ok_imp (ok_bind hw) ?_)
  intro p hw
  simp only [Option.toList, List.nil_append, List.cons_append, Nat.reduceSub]
  refine mj_run hG.1 (fun pc => pc == 7 || pc == 22 || pc == 25 || pc == 32 || pc == 52 || pc == 70 || pc == 93 || pc == 102) 4000 ?_
  simp only [mj_step, mj_W_s, mj_fin, List.getElem?_cons_zero, List.getElem?_cons_succ, mj_go, Nat.reduceAdd, Nat.reduceSub, Nat.reduceLT, Nat.reduceLeDiff, Nat.zero_add, Nat.reduceEqDiff, Nat.reduceBEq, ↓reduceIte, Bool.false_eq_true, List.append_nil, List.nil_append, List.cons_append, Option.toList, and_true, true_and, true_or, or_true, reduceCtorEq, List.map_nil, bI_eq0, bI_eq1, bool_ft, pk_us, vnar0, vnar1, Bool.or_false, Bool.or_true, Bool.false_or, Bool.true_or, mj_kne, eq_self, Int32.reduceLT, Int32.reduceLE, Int32.reduceAdd, Int32.reduceSub, Int32.reduceMul, not_true_eq_false, not_false_eq_true, false_implies, true_implies, D_X12_quarrel_0, D_X12_quarrel_1, mj_F_aload_n_k, mj_F_bipush_n, mj_F_getfield_i, mj_F_goto_off, mj_F_iconst_n, mj_F_ifCond_ne_off, mj_F_if_icmp_eq_off, mj_F_if_icmp_ge_off, mj_F_iinc_k_n, mj_F_iload_k, mj_F_iload_n_k, mj_F_invokevirtual_i, mj_F_ireturn, mj_F_istore_k, mj_F_ldc_w_i, mj_set, mj_set0, mj_unk, mj_c2, mj_kc, FT_X12, FT_X12_1, KT_X12, L_X12_quarrel, List.take_succ_cons, List.take_zero, List.drop_succ_cons, List.drop_zero, List.reverse_cons, List.reverse_nil, List.length_cons, List.length_nil, gS_M0, gMf_44, J_X12_quarrel]
  refine ⟨fun c => ?_, fun c => ?_⟩
  · replace hw := ok_f hw c
    refine c_X12_tell_in (ok_imp (ok_bind hw) ?_)
    intro p hw
    simp only [Option.toList, List.nil_append, List.cons_append, Nat.reduceSub]
    refine mj_run hG.1 (fun pc => pc == 7 || pc == 22 || pc == 25 || pc == 32 || pc == 52 || pc == 70 || pc == 93 || pc == 102) 4000 ?_
    simp only [mj_step, mj_W_s, mj_fin, List.getElem?_cons_zero, List.getElem?_cons_succ, mj_go, Nat.reduceAdd, Nat.reduceSub, Nat.reduceLT, Nat.reduceLeDiff, Nat.zero_add, Nat.reduceEqDiff, Nat.reduceBEq, ↓reduceIte, Bool.false_eq_true, List.append_nil, List.nil_append, List.cons_append, Option.toList, and_true, true_and, true_or, or_true, reduceCtorEq, List.map_nil, bI_eq0, bI_eq1, bool_ft, pk_us, vnar0, vnar1, Bool.or_false, Bool.or_true, Bool.false_or, Bool.true_or, mj_kne, eq_self, Int32.reduceLT, Int32.reduceLE, Int32.reduceAdd, Int32.reduceSub, Int32.reduceMul, not_true_eq_false, not_false_eq_true, false_implies, true_implies, D_X12_quarrel_0, D_X12_quarrel_1, mj_F_aload_n_k, mj_F_bipush_n, mj_F_getfield_i, mj_F_goto_off, mj_F_iconst_n, mj_F_ifCond_ne_off, mj_F_if_icmp_eq_off, mj_F_if_icmp_ge_off, mj_F_iinc_k_n, mj_F_iload_k, mj_F_iload_n_k, mj_F_invokevirtual_i, mj_F_ireturn, mj_F_istore_k, mj_F_ldc_w_i, mj_set, mj_set0, mj_unk, mj_c2, mj_kc, FT_X12, FT_X12_1, KT_X12, L_X12_quarrel, List.take_succ_cons, List.take_zero, List.drop_succ_cons, List.drop_zero, List.reverse_cons, List.reverse_nil, List.length_cons, List.length_nil, gS_M0, gMf_44, J_X12_quarrel]
    exact hG.2 _ _ _ _ _ _ _ _ _ (by refine ⟨Or.inr rfl, ?_⟩; refine ⟨Or.inr rfl, ?_⟩; refine ⟨Or.inr rfl, ?_⟩; refine ⟨Or.inr rfl, ?_⟩; refine ⟨Or.inr rfl, ?_⟩; exact trivial) (Nat.zero_le _) (Nat.zero_le _) (g_X12_quarrel_25 hG hM  hw :)
  · replace hw := ok_t hw c
    exact (ok_some hw :)

def c_X12_quarrel : mj_S := fun as h k => ∃ (v1 : Int32) (v2 : Int32) (v3 : Int32) (s : St), as = [.ref 0, .int v1, .int v2, .int v3] ∧ h = mkMs s ∧ ok (F_X12_quarrel v1 v2 v3 s) (fun p => k (some (.int p.1)) (mkMs p.2))
theorem c_X12_quarrel_in {v1 : Int32} {v2 : Int32} {v3 : Int32} {s : St} {k : Option Value → mj_H → Prop} (hw : ok (F_X12_quarrel v1 v2 v3 s) (fun p => k (some (.int p.1)) (mkMs p.2))) : c_X12_quarrel [.ref 0, .int v1, .int v2, .int v3] (mkMs s) k := ⟨v1, v2, v3, s, rfl, rfl, hw⟩
theorem m_X12_quarrel (l : Launch) : mj_MetQ l yX12_quarrel cX12_quarrel 9 ((some FieldType.int)) 12 0 0 c_X12_quarrel := by
  refine mj_body8 (TbX12 9 ((some FieldType.int)) ct_X12_quarrel) (by decide) rfl rfl (tfX12 _ (List.forall_mem_cons.mpr ⟨cfX12_415 (m_X12_lawFor l) (by decide), List.forall_mem_cons.mpr ⟨cfX12_422 (m_X12_isAsked l) (by decide), List.forall_mem_cons.mpr ⟨cfX12_426 (m_X12_tell l) (by decide), fun _ h => nomatch h⟩⟩⟩)) ?_
  rintro as h k ⟨v1, v2, v3, s, rfl, rfl, hw⟩
  exact ⟨rfl, fun G hG hM => g_X12_quarrel hG hM hw⟩
