/-! the class's constructor -/
section MK
variable {cc : ByteArray} {T : mj_T} {k : Option Value → mj_H → Prop} {G : mj_K}
/-- new: an object behind all else -/
theorem in_make (hG : mj_cl cc T k G) {pc j ci cj z m : Nat} {L : List Value} {q : iQ} {bc bs : Nat} (d0 : decode cc pc = .ok (.aload_n 0, 1)) (d1 : decode cc (pc + 1) = .ok (.new j, 3)) (d2 : decode cc (pc + 4) = .ok (.dup, 1)) (hL : L[0]? = some (.ref 0)) (hj : T.2.2.2.2.2.2.1 j = some cj) (hz : 1 + q.2.length = z) (h1 : cj < 13 ∧ 1 ≤ bc) (hm : mj_nf cj = m) (h2 : m ≤ bs) (g : G (pc + 5) L [.ref z, .ref z, .ref 0] (iH [] ci (q.1, q.2 ++ [.inr (cj, mj_dv cj)])) (bc - 1) (bs - m)) : G pc L [] (iH [] ci q) bc bs := by
  refine in_this hG d0 hL (go_of hG (st_of d1 rfl ?_))
  rw [mj_E_new_i, hj]
  try dsimp only
  refine ⟨h1.1, h1.2, by rw [hm]; exact h2, ?_⟩
  rw [hm, iH_push, iH_len (a := 0) rfl, show 0 + 1 + q.2.length = z by omega]
  exact go_of hG (st_of d2 rfl ⟨rfl, g⟩)
/-- the constructor's call -/
theorem in_call (hG : mj_cl cc T k G) {pc i ci cj z n c1 s1 kd : Nat} {L st as : List Value} {q : iQ} {bc bs : Nat} {cs : mj_S} {sg : mj_H} (d : decode cc pc = .ok (.invokespecial i, 3)) (hT : T.2.2.2.2.2.2.2 i = some (kd, n, cj, c1, s1, cs)) (hk : kd = 4 ∨ kd = 5) (hn : n ≤ st.length) (h4 : (st.drop n).length ≤ 4) (hst : (st.take n).reverse = .ref z :: as) (hdr : st.drop n = [.ref z, .ref 0]) (h1 : c1 ≤ bc) (h2 : s1 ≤ bs) (hc : ∀ k2 : Option Value → mj_H → Prop, k2 none (iH [] ci q ++ sg) → cs (.ref z :: as) (iH [] ci q ++ [.inr (cj, mj_dv cj)]) k2) (g : G (pc + 3) L [.ref z, .ref 0] (iH [] ci (q.1, q.2 ++ sg)) (bc - c1) (bs - s1)) : G pc L st (iH [] ci (q.1, q.2 ++ [.inr (cj, mj_dv cj)])) bc bs := by
  refine go_of hG (st_of d rfl ?_)
  rw [mj_E_invokespecial_i, hT]
  try dsimp only
  refine ⟨hk, hn, h4, h1, h2, ?_⟩
  rw [hst]
  try dsimp only
  rw [← iH_push]
  refine hc _ ?_
  rw [hdr]
  exact g
end MK
theorem w_124 : Cond.methodLink RX11 1 Lib.objectInit ∈ mj_tw := mj_tw_in (List.mem_of_getElem? (i := 124) (by decide +kernel)) rfl
def s00 : St := (fun _ => 0, A0C, fun _ _ => none, [])
def c_iX11 : mj_S := fun as h k => as = [.ref 0] ∧ h = [.inr (11, mj_dv 11)] ∧ k none (mkCs s00)
set_option maxHeartbeats 4000000 in
set_option maxRecDepth 20000 in
theorem m_X11_init (l : Launch) : mj_Met l yX11_init cX11_init 1 none 2 88 6897 c_iX11 := by
  refine mj_body7 true (TiX11 1 none [(9, 4, 1, 2, 5, 1321, c_iX2), (18, 5, 1, 9, 3, 484, c_iX9), (25, 5, 1, 0, 8, 190, c_iX0), (32, 4, 2, 1, 14, 1360, c_iX1), (41, 4, 2, 5, 9, 761, c_iX5), (48, 4, 5, 10, 9, 1107, c_iX10), (57, 4, 5, 6, 8, 1092, c_iX6), (64, 4, 3, 8, 8, 264, c_iX8), (73, 4, 2, 4, 7, 101, c_iX4), (82, 4, 3, 7, 3, 81, c_iX7), (91, 4, 2, 3, 3, 20, c_iX3)]) (by decide) (by decide) rfl rfl (fun _ => rfl) (tiX11 _ (List.forall_mem_cons.mpr ⟨cfX11_9 (m_X2_init l) (by decide), (List.forall_mem_cons.mpr ⟨cfX11_18 (m_X9_init l) (by decide), (List.forall_mem_cons.mpr ⟨cfX11_25 (m_X0_init l) (by decide), (List.forall_mem_cons.mpr ⟨cfX11_32 (m_X1_init l) (by decide), (List.forall_mem_cons.mpr ⟨cfX11_41 (m_X5_init l) (by decide), (List.forall_mem_cons.mpr ⟨cfX11_48 (m_X10_init l) (by decide), (List.forall_mem_cons.mpr ⟨cfX11_57 (m_X6_init l) (by decide), (List.forall_mem_cons.mpr ⟨cfX11_64 (m_X8_init l) (by decide), (List.forall_mem_cons.mpr ⟨cfX11_73 (m_X4_init l) (by decide), (List.forall_mem_cons.mpr ⟨cfX11_82 (m_X7_init l) (by decide), (List.forall_mem_cons.mpr ⟨cfX11_91 (m_X3_init l) (by decide), (fun _ h => nomatch h)⟩)⟩)⟩)⟩)⟩)⟩)⟩)⟩)⟩)⟩)⟩)) ?_
  rintro as h k ⟨rfl, rfl, hk⟩
  refine ⟨rfl, fun G hG hob => ?_⟩
  obtain ⟨d0, d1, d4, d5, d8, d9, d12, d15, d16, d19, d20, d23, d26, d27, d30, d31, d34, d37, d38, d41, d42, d43, d46, d49, d52, d53, d56, d57, d58, d61, d64, d67, d68, d71, d72, d73, d76, d77, d80, d81, d84, d85, d88, d91, d94, d95, d98, d99, d100, d103⟩ := D_X11_init_0
  obtain ⟨d104, d107, d108, d111, d112, d115, d118, d121, d122, d125, d126, d127, d130, d131, d134, d137, d140, d141, d144, d145, d146, d149, d152, d155, d156, d159, d160, d161, d164, d165, d168, d171, d174, d175, d178, d179, d180, d183, d186, d189⟩ := D_X11_init_1
  show G 0 [.ref 0] [] (iH [] 11 (mj_dv 11, [])) 88 6897
  refine in_this hG.1 d0 rfl (hob _ _ _ _ _ _ _ d1 w_124 ?_)
  refine in_make hG.1 (cj := 2) (z := 1) (m := 5) d4 d5 d8 rfl rfl rfl (by decide) (by decide +kernel) (by decide) ?_
  refine in_call hG.1 (cj := 2) (z := 1) (n := 1) (c1 := 5) (s1 := 1321) (kd := 4) (sg := sgC 1 6) d9 rfl (by decide) (by decide) (by decide) rfl rfl (by decide) (by decide) (fun k2 hk2 => ⟨_, rfl, rfl, rfl, hk2⟩) ?_
  refine in_put hG.1 (pre := []) (a := 0) rfl d12 rfl (by decide +kernel) ?_
  refine in_make hG.1 (cj := 9) (z := 7) (m := 10) d15 d16 d19 rfl rfl rfl (by decide) (by decide +kernel) (by decide) ?_
  refine in_call hG.1 (cj := 9) (z := 7) (n := 1) (c1 := 3) (s1 := 484) (kd := 5) (sg := sgC 7 4) d20 rfl (by decide) (by decide) (by decide) rfl rfl (by decide) (by decide) (fun k2 hk2 => ⟨_, rfl, rfl, rfl, hk2⟩) ?_
  refine in_put hG.1 (pre := []) (a := 0) rfl d23 rfl (by decide +kernel) ?_
  refine in_make hG.1 (cj := 0) (z := 11) (m := 10) d26 d27 d30 rfl rfl rfl (by decide) (by decide +kernel) (by decide) ?_
  refine in_call hG.1 (cj := 0) (z := 11) (n := 1) (c1 := 8) (s1 := 190) (kd := 5) (sg := sgC 11 9) d31 rfl (by decide) (by decide) (by decide) rfl rfl (by decide) (by decide) (fun k2 hk2 => ⟨_, rfl, rfl, rfl, hk2⟩) ?_
  refine in_put hG.1 (pre := []) (a := 0) rfl d34 rfl (by decide +kernel) ?_
  refine in_make hG.1 (cj := 1) (z := 20) (m := 18) d37 d38 d41 rfl rfl rfl (by decide) (by decide +kernel) (by decide) ?_
  refine in_get hG.1 (pre := []) (a := 0) rfl rfl d42 d43 rfl rfl ?_
  refine in_call hG.1 (cj := 1) (z := 20) (n := 2) (c1 := 14) (s1 := 1360) (kd := 4) (sg := sgC 20 15) d46 rfl (by decide) (by decide) (by decide) rfl rfl (by decide) (by decide) (fun k2 hk2 => ⟨_, rfl, rfl, rfl, hk2⟩) ?_
  refine in_put hG.1 (pre := []) (a := 0) rfl d49 rfl (by decide +kernel) ?_
  refine in_make hG.1 (cj := 5) (z := 35) (m := 11) d52 d53 d56 rfl rfl rfl (by decide) (by decide +kernel) (by decide) ?_
  refine in_get hG.1 (pre := []) (a := 0) rfl rfl d57 d58 rfl rfl ?_
  refine in_call hG.1 (cj := 5) (z := 35) (n := 2) (c1 := 9) (s1 := 761) (kd := 4) (sg := sgC 35 10) d61 rfl (by decide) (by decide) (by decide) rfl rfl (by decide) (by decide) (fun k2 hk2 => ⟨_, rfl, rfl, rfl, hk2⟩) ?_
  refine in_put hG.1 (pre := []) (a := 0) rfl d64 rfl (by decide +kernel) ?_
  refine in_make hG.1 (cj := 10) (z := 45) (m := 16) d67 d68 d71 rfl rfl rfl (by decide) (by decide +kernel) (by decide) ?_
  refine in_get hG.1 (pre := []) (a := 0) rfl rfl d72 d73 rfl rfl ?_
  refine in_get hG.1 (pre := []) (a := 0) rfl rfl d76 d77 rfl rfl ?_
  refine in_get hG.1 (pre := []) (a := 0) rfl rfl d80 d81 rfl rfl ?_
  refine in_get hG.1 (pre := []) (a := 0) rfl rfl d84 d85 rfl rfl ?_
  refine in_call hG.1 (cj := 10) (z := 45) (n := 5) (c1 := 9) (s1 := 1107) (kd := 4) (sg := sgC 45 10) d88 rfl (by decide) (by decide) (by decide) rfl rfl (by decide) (by decide) (fun k2 hk2 => ⟨_, rfl, rfl, rfl, hk2⟩) ?_
  refine in_put hG.1 (pre := []) (a := 0) rfl d91 rfl (by decide +kernel) ?_
  refine in_make hG.1 (cj := 6) (z := 55) (m := 12) d94 d95 d98 rfl rfl rfl (by decide) (by decide +kernel) (by decide) ?_
  refine in_get hG.1 (pre := []) (a := 0) rfl rfl d99 d100 rfl rfl ?_
  refine in_get hG.1 (pre := []) (a := 0) rfl rfl d103 d104 rfl rfl ?_
  refine in_get hG.1 (pre := []) (a := 0) rfl rfl d107 d108 rfl rfl ?_
  refine in_get hG.1 (pre := []) (a := 0) rfl rfl d111 d112 rfl rfl ?_
  refine in_call hG.1 (cj := 6) (z := 55) (n := 5) (c1 := 8) (s1 := 1092) (kd := 4) (sg := sgC 55 9) d115 rfl (by decide) (by decide) (by decide) rfl rfl (by decide) (by decide) (fun k2 hk2 => ⟨_, rfl, rfl, rfl, hk2⟩) ?_
  refine in_put hG.1 (pre := []) (a := 0) rfl d118 rfl (by decide +kernel) ?_
  refine in_make hG.1 (cj := 8) (z := 64) (m := 11) d121 d122 d125 rfl rfl rfl (by decide) (by decide +kernel) (by decide) ?_
  refine in_get hG.1 (pre := []) (a := 0) rfl rfl d126 d127 rfl rfl ?_
  refine in_get hG.1 (pre := []) (a := 0) rfl rfl d130 d131 rfl rfl ?_
  refine in_call hG.1 (cj := 8) (z := 64) (n := 3) (c1 := 8) (s1 := 264) (kd := 4) (sg := sgC 64 9) d134 rfl (by decide) (by decide) (by decide) rfl rfl (by decide) (by decide) (fun k2 hk2 => ⟨_, rfl, rfl, rfl, hk2⟩) ?_
  refine in_put hG.1 (pre := []) (a := 0) rfl d137 rfl (by decide +kernel) ?_
  refine in_make hG.1 (cj := 4) (z := 73) (m := 10) d140 d141 d144 rfl rfl rfl (by decide) (by decide +kernel) (by decide) ?_
  refine in_get hG.1 (pre := []) (a := 0) rfl rfl d145 d146 rfl rfl ?_
  refine in_call hG.1 (cj := 4) (z := 73) (n := 2) (c1 := 7) (s1 := 101) (kd := 4) (sg := sgC 73 8) d149 rfl (by decide) (by decide) (by decide) rfl rfl (by decide) (by decide) (fun k2 hk2 => ⟨_, rfl, rfl, rfl, hk2⟩) ?_
  refine in_put hG.1 (pre := []) (a := 0) rfl d152 rfl (by decide +kernel) ?_
  refine in_make hG.1 (cj := 7) (z := 81) (m := 7) d155 d156 d159 rfl rfl rfl (by decide) (by decide +kernel) (by decide) ?_
  refine in_get hG.1 (pre := []) (a := 0) rfl rfl d160 d161 rfl rfl ?_
  refine in_get hG.1 (pre := []) (a := 0) rfl rfl d164 d165 rfl rfl ?_
  refine in_call hG.1 (cj := 7) (z := 81) (n := 3) (c1 := 3) (s1 := 81) (kd := 4) (sg := sgC 81 4) d168 rfl (by decide) (by decide) (by decide) rfl rfl (by decide) (by decide) (fun k2 hk2 => ⟨_, rfl, rfl, rfl, hk2⟩) ?_
  refine in_put hG.1 (pre := []) (a := 0) rfl d171 rfl (by decide +kernel) ?_
  refine in_make hG.1 (cj := 3) (z := 85) (m := 6) d174 d175 d178 rfl rfl rfl (by decide) (by decide +kernel) (by decide) ?_
  refine in_get hG.1 (pre := []) (a := 0) rfl rfl d179 d180 rfl rfl ?_
  refine in_call hG.1 (cj := 3) (z := 85) (n := 2) (c1 := 3) (s1 := 20) (kd := 4) (sg := sgC 85 4) d183 rfl (by decide) (by decide) (by decide) rfl rfl (by decide) (by decide) (fun k2 hk2 => ⟨_, rfl, rfl, rfl, hk2⟩) ?_
  refine in_put hG.1 (pre := []) (a := 0) rfl d186 rfl (by decide +kernel) ?_
  refine in_ret hG.1 d189 rfl ?_
  refine (congrArg (fun z => k none z) (?_ : _ = _)).mpr hk
  rfl
