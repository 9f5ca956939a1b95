/-! the constructors of the class and of what it is made of -/
def A0C : Nat → Nat → Int32 := fun key => if key = 105 then flf (fun _ => 0) 24 (-1) else if key = 200 then flf (fun _ => 0) 120 10 else if key = 201 then flf (fun _ => 0) 120 15 else if key = 401 then flf (fun _ => 0) 5 100 else if key = 508 then flf (fun _ => 0) 20 (-1) else fun _ => 0
def sgC (a n : Nat) : mj_H := ((tC.drop a).take n).map (sh_c ftC (fun _ => 0) A0C (fun _ _ => none))
theorem w_132 : Cond.methodLink RX2 3 Lib.objectInit ∈ mj_tw := mj_tw_in (List.mem_of_getElem? (i := 132) (by decide +kernel)) rfl
def c_iX2 : mj_S := fun as h k => ∃ pre : mj_H, pre.length = 1 ∧ as = [.ref 1] ∧ h = pre ++ [.inr (2, mj_dv 2)] ∧ k none (pre ++ sgC 1 6)
set_option maxHeartbeats 4000000 in
set_option maxRecDepth 20000 in
theorem m_X2_init (l : Launch) : mj_Met l yX2_init cX2_init 1 none 1 5 1321 c_iX2 := by
  refine mj_body7 true (TiX2 1 none [(30, 2, 2, 99, 0, 0, c_fill)]) (by decide) (by decide) rfl rfl (fun _ => rfl) (tiX2 _ (List.forall_mem_cons.mpr ⟨cfX2_30 (m_J7_fill_53178 l) (by decide), (fun _ h => nomatch h)⟩)) ?_
  rintro as h k ⟨pre, hp, rfl, rfl, hk⟩
  refine ⟨rfl, fun G hG hob => ?_⟩
  obtain ⟨d0, d1, d4, d5, d7, d9, d12, d13, d15, d17, d20, d21, d24, d26, d29, d30, d33, d36, d39, d40, d43, d45, d48, d49, d52, d54, d57, d58, d61, d63, d66⟩ := D_X2_init
  show G 0 [.ref 1] [] (iH pre 2 (mj_dv 2, [])) 5 1321
  refine in_this hG.1 d0 rfl (hob _ _ _ _ _ _ _ d1 w_132 ?_)
  refine in_arr hG.1 (n := 120) (fty := .int) hp rfl d4 (Or.inr (Or.inl ⟨_, d5, rfl, rfl⟩)) d7 d9 rfl (by decide +kernel) (Or.inl ⟨rfl, rfl⟩) (by decide +kernel) (by decide) (by decide) ?_
  refine in_arr hG.1 (n := 120) (fty := .int) hp rfl d12 (Or.inr (Or.inl ⟨_, d13, rfl, rfl⟩)) d15 d17 rfl (by decide +kernel) (Or.inl ⟨rfl, rfl⟩) (by decide +kernel) (by decide) (by decide) ?_
  refine in_arr hG.1 (n := 601) (fty := .boolean) hp rfl d20 (Or.inr (Or.inr ⟨_, d21, rfl, rfl⟩)) d24 d26 rfl (by decide +kernel) (Or.inr ⟨rfl, rfl⟩) (by decide +kernel) (by decide) (by decide) ?_
  refine in_anew hG.1 (n := 240) hp rfl d29 (Or.inr (Or.inr ⟨_, d30, rfl, rfl⟩)) d33 d36 rfl rfl (by decide +kernel) (by decide +kernel) (by decide) (by decide) ?_
  refine in_arr hG.1 (n := 240) (fty := .boolean) hp rfl d39 (Or.inr (Or.inr ⟨_, d40, rfl, rfl⟩)) d43 d45 rfl (by decide +kernel) (Or.inr ⟨rfl, rfl⟩) (by decide +kernel) (by decide) (by decide) ?_
  refine in_fill hG.1 (t := 0) (n := 120) (f := fun _ => 0) hp rfl d48 d49 (Or.inr (Or.inl ⟨_, d52, rfl, rfl⟩)) d54 rfl rfl rfl rfl (by decide) ?_
  refine in_fill hG.1 (t := 1) (n := 120) (f := fun _ => 0) hp rfl d57 d58 (Or.inr (Or.inl ⟨_, d61, rfl, rfl⟩)) d63 rfl rfl rfl rfl (by decide) ?_
  refine in_ret hG.1 d66 rfl ?_
  refine (congrArg (fun z => k none (pre ++ z)) (?_ : _ = _)).mpr hk
  rfl
theorem w_161 : Cond.methodLink RX9 3 Lib.objectInit ∈ mj_tw := mj_tw_in (List.mem_of_getElem? (i := 161) (by decide +kernel)) rfl
def c_iX9 : mj_S := fun as h k => ∃ pre : mj_H, pre.length = 7 ∧ as = [.ref 7] ∧ h = pre ++ [.inr (9, mj_dv 9)] ∧ k none (pre ++ sgC 7 4)
set_option maxHeartbeats 4000000 in
set_option maxRecDepth 20000 in
theorem m_X9_init (l : Launch) : mj_Met l yX9_init cX9_init 1 none 1 3 484 c_iX9 := by
  refine mj_body7 true (TiX9 1 none []) (by decide) (by decide) rfl rfl (fun _ => rfl) (tiX9 _ (fun _ h => nomatch h)) ?_
  rintro as h k ⟨pre, hp, rfl, rfl, hk⟩
  refine ⟨rfl, fun G hG hob => ?_⟩
  obtain ⟨d0, d1, d4, d5, d8, d10, d13, d14, d17, d19, d22, d23, d26, d28, d31⟩ := D_X9_init
  show G 0 [.ref 7] [] (iH pre 9 (mj_dv 9, [])) 3 484
  refine in_this hG.1 d0 rfl (hob _ _ _ _ _ _ _ d1 w_161 ?_)
  refine in_arr hG.1 (n := 160) (fty := .int) hp rfl d4 (Or.inr (Or.inr ⟨_, d5, rfl, rfl⟩)) d8 d10 rfl (by decide +kernel) (Or.inl ⟨rfl, rfl⟩) (by decide +kernel) (by decide) (by decide) ?_
  refine in_arr hG.1 (n := 160) (fty := .int) hp rfl d13 (Or.inr (Or.inr ⟨_, d14, rfl, rfl⟩)) d17 d19 rfl (by decide +kernel) (Or.inl ⟨rfl, rfl⟩) (by decide +kernel) (by decide) (by decide) ?_
  refine in_arr hG.1 (n := 164) (fty := .int) hp rfl d22 (Or.inr (Or.inr ⟨_, d23, rfl, rfl⟩)) d26 d28 rfl (by decide +kernel) (Or.inl ⟨rfl, rfl⟩) (by decide +kernel) (by decide) (by decide) ?_
  refine in_ret hG.1 d31 rfl ?_
  refine (congrArg (fun z => k none (pre ++ z)) (?_ : _ = _)).mpr hk
  rfl
theorem w_204 : Cond.methodLink RX0 3 Lib.objectInit ∈ mj_tw := mj_tw_in (List.mem_of_getElem? (i := 204) (by decide +kernel)) rfl
def c_iX0 : mj_S := fun as h k => ∃ pre : mj_H, pre.length = 11 ∧ as = [.ref 11] ∧ h = pre ++ [.inr (0, mj_dv 0)] ∧ k none (pre ++ sgC 11 9)
set_option maxHeartbeats 4000000 in
set_option maxRecDepth 20000 in
theorem m_X0_init (l : Launch) : mj_Met l yX0_init cX0_init 1 none 1 8 190 c_iX0 := by
  refine mj_body7 true (TiX0 1 none []) (by decide) (by decide) rfl rfl (fun _ => rfl) (tiX0 _ (fun _ h => nomatch h)) ?_
  rintro as h k ⟨pre, hp, rfl, rfl, hk⟩
  refine ⟨rfl, fun G hG hob => ?_⟩
  obtain ⟨d0, d1, d4, d5, d7, d9, d12, d13, d15, d17, d20, d21, d23, d25, d28, d29, d31, d33, d36, d37, d39, d42, d45, d46, d48, d51, d54, d55, d57, d59, d62, d63, d65, d67, d70⟩ := D_X0_init
  show G 0 [.ref 11] [] (iH pre 0 (mj_dv 0, [])) 8 190
  refine in_this hG.1 d0 rfl (hob _ _ _ _ _ _ _ d1 w_204 ?_)
  refine in_arr hG.1 (n := 20) (fty := .int) hp rfl d4 (Or.inr (Or.inl ⟨_, d5, rfl, rfl⟩)) d7 d9 rfl (by decide +kernel) (Or.inl ⟨rfl, rfl⟩) (by decide +kernel) (by decide) (by decide) ?_
  refine in_arr hG.1 (n := 20) (fty := .int) hp rfl d12 (Or.inr (Or.inl ⟨_, d13, rfl, rfl⟩)) d15 d17 rfl (by decide +kernel) (Or.inl ⟨rfl, rfl⟩) (by decide +kernel) (by decide) (by decide) ?_
  refine in_arr hG.1 (n := 20) (fty := .int) hp rfl d20 (Or.inr (Or.inl ⟨_, d21, rfl, rfl⟩)) d23 d25 rfl (by decide +kernel) (Or.inl ⟨rfl, rfl⟩) (by decide +kernel) (by decide) (by decide) ?_
  refine in_arr hG.1 (n := 20) (fty := .int) hp rfl d28 (Or.inr (Or.inl ⟨_, d29, rfl, rfl⟩)) d31 d33 rfl (by decide +kernel) (Or.inl ⟨rfl, rfl⟩) (by decide +kernel) (by decide) (by decide) ?_
  refine in_anew hG.1 (n := 20) hp rfl d36 (Or.inr (Or.inl ⟨_, d37, rfl, rfl⟩)) d39 d42 rfl rfl (by decide +kernel) (by decide +kernel) (by decide) (by decide) ?_
  refine in_anew hG.1 (n := 20) hp rfl d45 (Or.inr (Or.inl ⟨_, d46, rfl, rfl⟩)) d48 d51 rfl rfl (by decide +kernel) (by decide +kernel) (by decide) (by decide) ?_
  refine in_arr hG.1 (n := 6) (fty := .int) hp rfl d54 (Or.inr (Or.inl ⟨_, d55, rfl, rfl⟩)) d57 d59 rfl (by decide +kernel) (Or.inl ⟨rfl, rfl⟩) (by decide +kernel) (by decide) (by decide) ?_
  refine in_arr hG.1 (n := 64) (fty := .int) hp rfl d62 (Or.inr (Or.inl ⟨_, d63, rfl, rfl⟩)) d65 d67 rfl (by decide +kernel) (Or.inl ⟨rfl, rfl⟩) (by decide +kernel) (by decide) (by decide) ?_
  refine in_ret hG.1 d70 rfl ?_
  refine (congrArg (fun z => k none (pre ++ z)) (?_ : _ = _)).mpr hk
  rfl
theorem w_244 : Cond.methodLink RX1 3 Lib.objectInit ∈ mj_tw := mj_tw_in (List.mem_of_getElem? (i := 244) (by decide +kernel)) rfl
def c_iX1 : mj_S := fun as h k => ∃ pre : mj_H, pre.length = 20 ∧ as = [.ref 20, .ref 11] ∧ h = pre ++ [.inr (1, mj_dv 1)] ∧ k none (pre ++ sgC 20 15)
set_option maxHeartbeats 4000000 in
set_option maxRecDepth 20000 in
theorem m_X1_init (l : Launch) : mj_Met l yX1_init cX1_init 2 none 1 14 1360 c_iX1 := by
  refine mj_body7 true (TiX1 2 none [(58, 2, 2, 99, 0, 0, c_fill)]) (by decide) (by decide) rfl rfl (fun _ => rfl) (tiX1 _ (List.forall_mem_cons.mpr ⟨cfX1_58 (m_J7_fill_53178 l) (by decide), (fun _ h => nomatch h)⟩)) ?_
  rintro as h k ⟨pre, hp, rfl, rfl, hk⟩
  refine ⟨rfl, fun G hG hob => ?_⟩
  obtain ⟨d0, d1, d4, d5, d7, d9, d12, d13, d15, d17, d20, d21, d23, d25, d28, d29, d31, d33, d36, d37, d39, d41, d44, d45, d48, d50, d53, d54, d57, d59, d62, d63, d66, d68, d71, d72, d75, d77, d80, d81, d84, d86, d89, d90, d92, d94, d97, d98, d100, d102⟩ := D_X1_init_0
  obtain ⟨d105, d106, d108, d110, d113, d114, d116, d118, d121, d122, d123, d126, d127, d130, d131, d134⟩ := D_X1_init_1
  show G 0 [.ref 20, .ref 11] [] (iH pre 1 (mj_dv 1, [])) 14 1360
  refine in_this hG.1 d0 rfl (hob _ _ _ _ _ _ _ d1 w_244 ?_)
  refine in_arr hG.1 (n := 24) (fty := .int) hp rfl d4 (Or.inr (Or.inl ⟨_, d5, rfl, rfl⟩)) d7 d9 rfl (by decide +kernel) (Or.inl ⟨rfl, rfl⟩) (by decide +kernel) (by decide) (by decide) ?_
  refine in_arr hG.1 (n := 24) (fty := .int) hp rfl d12 (Or.inr (Or.inl ⟨_, d13, rfl, rfl⟩)) d15 d17 rfl (by decide +kernel) (Or.inl ⟨rfl, rfl⟩) (by decide +kernel) (by decide) (by decide) ?_
  refine in_arr hG.1 (n := 24) (fty := .int) hp rfl d20 (Or.inr (Or.inl ⟨_, d21, rfl, rfl⟩)) d23 d25 rfl (by decide +kernel) (Or.inl ⟨rfl, rfl⟩) (by decide +kernel) (by decide) (by decide) ?_
  refine in_arr hG.1 (n := 24) (fty := .int) hp rfl d28 (Or.inr (Or.inl ⟨_, d29, rfl, rfl⟩)) d31 d33 rfl (by decide +kernel) (Or.inl ⟨rfl, rfl⟩) (by decide +kernel) (by decide) (by decide) ?_
  refine in_arr hG.1 (n := 24) (fty := .int) hp rfl d36 (Or.inr (Or.inl ⟨_, d37, rfl, rfl⟩)) d39 d41 rfl (by decide +kernel) (Or.inl ⟨rfl, rfl⟩) (by decide +kernel) (by decide) (by decide) ?_
  refine in_arr hG.1 (n := 200) (fty := .int) hp rfl d44 (Or.inr (Or.inr ⟨_, d45, rfl, rfl⟩)) d48 d50 rfl (by decide +kernel) (Or.inl ⟨rfl, rfl⟩) (by decide +kernel) (by decide) (by decide) ?_
  refine in_arr hG.1 (n := 200) (fty := .int) hp rfl d53 (Or.inr (Or.inr ⟨_, d54, rfl, rfl⟩)) d57 d59 rfl (by decide +kernel) (Or.inl ⟨rfl, rfl⟩) (by decide +kernel) (by decide) (by decide) ?_
  refine in_arr hG.1 (n := 200) (fty := .int) hp rfl d62 (Or.inr (Or.inr ⟨_, d63, rfl, rfl⟩)) d66 d68 rfl (by decide +kernel) (Or.inl ⟨rfl, rfl⟩) (by decide +kernel) (by decide) (by decide) ?_
  refine in_arr hG.1 (n := 200) (fty := .int) hp rfl d71 (Or.inr (Or.inr ⟨_, d72, rfl, rfl⟩)) d75 d77 rfl (by decide +kernel) (Or.inl ⟨rfl, rfl⟩) (by decide +kernel) (by decide) (by decide) ?_
  refine in_arr hG.1 (n := 200) (fty := .int) hp rfl d80 (Or.inr (Or.inr ⟨_, d81, rfl, rfl⟩)) d84 d86 rfl (by decide +kernel) (Or.inl ⟨rfl, rfl⟩) (by decide +kernel) (by decide) (by decide) ?_
  refine in_arr hG.1 (n := 60) (fty := .int) hp rfl d89 (Or.inr (Or.inl ⟨_, d90, rfl, rfl⟩)) d92 d94 rfl (by decide +kernel) (Or.inl ⟨rfl, rfl⟩) (by decide +kernel) (by decide) (by decide) ?_
  refine in_arr hG.1 (n := 60) (fty := .int) hp rfl d97 (Or.inr (Or.inl ⟨_, d98, rfl, rfl⟩)) d100 d102 rfl (by decide +kernel) (Or.inl ⟨rfl, rfl⟩) (by decide +kernel) (by decide) (by decide) ?_
  refine in_arr hG.1 (n := 60) (fty := .int) hp rfl d105 (Or.inr (Or.inl ⟨_, d106, rfl, rfl⟩)) d108 d110 rfl (by decide +kernel) (Or.inl ⟨rfl, rfl⟩) (by decide +kernel) (by decide) (by decide) ?_
  refine in_arr hG.1 (n := 60) (fty := .int) hp rfl d113 (Or.inr (Or.inl ⟨_, d114, rfl, rfl⟩)) d116 d118 rfl (by decide +kernel) (Or.inl ⟨rfl, rfl⟩) (by decide +kernel) (by decide) (by decide) ?_
  refine in_arg hG.1 (r := 11) (z := 1) hp rfl d121 (Or.inl ⟨_, d122, rfl, rfl⟩) rfl d123 rfl (by decide +kernel) ?_
  refine in_fill hG.1 (t := 3) (n := 24) (f := fun _ => 0) hp rfl d126 d127 (Or.inl ⟨_, d130, rfl, rfl⟩) d131 rfl rfl rfl rfl (by decide) ?_
  refine in_ret hG.1 d134 rfl ?_
  refine (congrArg (fun z => k none (pre ++ z)) (?_ : _ = _)).mpr hk
  rfl
theorem w_319 : Cond.methodLink RX5 3 Lib.objectInit ∈ mj_tw := mj_tw_in (List.mem_of_getElem? (i := 319) (by decide +kernel)) rfl
def c_iX5 : mj_S := fun as h k => ∃ pre : mj_H, pre.length = 35 ∧ as = [.ref 35, .ref 11] ∧ h = pre ++ [.inr (5, mj_dv 5)] ∧ k none (pre ++ sgC 35 10)
set_option maxHeartbeats 4000000 in
set_option maxRecDepth 20000 in
theorem m_X5_init (l : Launch) : mj_Met l yX5_init cX5_init 2 none 1 9 761 c_iX5 := by
  refine mj_body7 true (TiX5 2 none [(44, 2, 2, 99, 0, 0, c_fill)]) (by decide) (by decide) rfl rfl (fun _ => rfl) (tiX5 _ (List.forall_mem_cons.mpr ⟨cfX5_44 (m_J7_fill_53178 l) (by decide), (fun _ h => nomatch h)⟩)) ?_
  rintro as h k ⟨pre, hp, rfl, rfl, hk⟩
  refine ⟨rfl, fun G hG hob => ?_⟩
  obtain ⟨d0, d1, d4, d5, d7, d9, d12, d13, d15, d17, d20, d21, d23, d25, d28, d29, d31, d33, d36, d37, d39, d41, d44, d45, d47, d49, d52, d53, d55, d57, d60, d61, d63, d65, d68, d69, d72, d74, d77, d78, d79, d82, d83, d86, d87, d90⟩ := D_X5_init
  show G 0 [.ref 35, .ref 11] [] (iH pre 5 (mj_dv 5, [])) 9 761
  refine in_this hG.1 d0 rfl (hob _ _ _ _ _ _ _ d1 w_319 ?_)
  refine in_arr hG.1 (n := 20) (fty := .int) hp rfl d4 (Or.inr (Or.inl ⟨_, d5, rfl, rfl⟩)) d7 d9 rfl (by decide +kernel) (Or.inl ⟨rfl, rfl⟩) (by decide +kernel) (by decide) (by decide) ?_
  refine in_arr hG.1 (n := 20) (fty := .int) hp rfl d12 (Or.inr (Or.inl ⟨_, d13, rfl, rfl⟩)) d15 d17 rfl (by decide +kernel) (Or.inl ⟨rfl, rfl⟩) (by decide +kernel) (by decide) (by decide) ?_
  refine in_arr hG.1 (n := 20) (fty := .int) hp rfl d20 (Or.inr (Or.inl ⟨_, d21, rfl, rfl⟩)) d23 d25 rfl (by decide +kernel) (Or.inl ⟨rfl, rfl⟩) (by decide +kernel) (by decide) (by decide) ?_
  refine in_arr hG.1 (n := 20) (fty := .int) hp rfl d28 (Or.inr (Or.inl ⟨_, d29, rfl, rfl⟩)) d31 d33 rfl (by decide +kernel) (Or.inl ⟨rfl, rfl⟩) (by decide +kernel) (by decide) (by decide) ?_
  refine in_arr hG.1 (n := 20) (fty := .int) hp rfl d36 (Or.inr (Or.inl ⟨_, d37, rfl, rfl⟩)) d39 d41 rfl (by decide +kernel) (Or.inl ⟨rfl, rfl⟩) (by decide +kernel) (by decide) (by decide) ?_
  refine in_arr hG.1 (n := 20) (fty := .int) hp rfl d44 (Or.inr (Or.inl ⟨_, d45, rfl, rfl⟩)) d47 d49 rfl (by decide +kernel) (Or.inl ⟨rfl, rfl⟩) (by decide +kernel) (by decide) (by decide) ?_
  refine in_arr hG.1 (n := 20) (fty := .int) hp rfl d52 (Or.inr (Or.inl ⟨_, d53, rfl, rfl⟩)) d55 d57 rfl (by decide +kernel) (Or.inl ⟨rfl, rfl⟩) (by decide +kernel) (by decide) (by decide) ?_
  refine in_arr hG.1 (n := 20) (fty := .boolean) hp rfl d60 (Or.inr (Or.inl ⟨_, d61, rfl, rfl⟩)) d63 d65 rfl (by decide +kernel) (Or.inr ⟨rfl, rfl⟩) (by decide +kernel) (by decide) (by decide) ?_
  refine in_arr hG.1 (n := 601) (fty := .int) hp rfl d68 (Or.inr (Or.inr ⟨_, d69, rfl, rfl⟩)) d72 d74 rfl (by decide +kernel) (Or.inl ⟨rfl, rfl⟩) (by decide +kernel) (by decide) (by decide) ?_
  refine in_arg hG.1 (r := 11) (z := 1) hp rfl d77 (Or.inl ⟨_, d78, rfl, rfl⟩) rfl d79 rfl (by decide +kernel) ?_
  refine in_fill hG.1 (t := 6) (n := 20) (f := fun _ => 0) hp rfl d82 d83 (Or.inl ⟨_, d86, rfl, rfl⟩) d87 rfl rfl rfl rfl (by decide) ?_
  refine in_ret hG.1 d90 rfl ?_
  refine (congrArg (fun z => k none (pre ++ z)) (?_ : _ = _)).mpr hk
  rfl
theorem w_381 : Cond.methodLink RX10 3 Lib.objectInit ∈ mj_tw := mj_tw_in (List.mem_of_getElem? (i := 381) (by decide +kernel)) rfl
def c_iX10 : mj_S := fun as h k => ∃ pre : mj_H, pre.length = 45 ∧ as = [.ref 45, .ref 1, .ref 11, .ref 20, .ref 35] ∧ h = pre ++ [.inr (10, mj_dv 10)] ∧ k none (pre ++ sgC 45 10)
set_option maxHeartbeats 4000000 in
set_option maxRecDepth 20000 in
theorem m_X10_init (l : Launch) : mj_Met l yX10_init cX10_init 5 none 1 9 1107 c_iX10 := by
  refine mj_body7 true (TiX10 5 none []) (by decide) (by decide) rfl rfl (fun _ => rfl) (tiX10 _ (fun _ h => nomatch h)) ?_
  rintro as h k ⟨pre, hp, rfl, rfl, hk⟩
  refine ⟨rfl, fun G hG hob => ?_⟩
  obtain ⟨d0, d1, d4, d5, d7, d9, d12, d13, d15, d17, d20, d21, d23, d25, d28, d29, d31, d33, d36, d37, d39, d41, d44, d45, d46, d48, d51, d52, d54, d56, d59, d60, d63, d65, d68, d69, d72, d74, d77, d78, d79, d82, d83, d84, d87, d88, d89, d92, d93, d95⟩ := D_X10_init_0
  have d98 := D_X10_init_1
  show G 0 [.ref 45, .ref 1, .ref 11, .ref 20, .ref 35] [] (iH pre 10 (mj_dv 10, [])) 9 1107
  refine in_this hG.1 d0 rfl (hob _ _ _ _ _ _ _ d1 w_381 ?_)
  refine in_arr hG.1 (n := 8) (fty := .int) hp rfl d4 (Or.inr (Or.inl ⟨_, d5, rfl, rfl⟩)) d7 d9 rfl (by decide +kernel) (Or.inl ⟨rfl, rfl⟩) (by decide +kernel) (by decide) (by decide) ?_
  refine in_arr hG.1 (n := 8) (fty := .int) hp rfl d12 (Or.inr (Or.inl ⟨_, d13, rfl, rfl⟩)) d15 d17 rfl (by decide +kernel) (Or.inl ⟨rfl, rfl⟩) (by decide +kernel) (by decide) (by decide) ?_
  refine in_arr hG.1 (n := 8) (fty := .int) hp rfl d20 (Or.inr (Or.inl ⟨_, d21, rfl, rfl⟩)) d23 d25 rfl (by decide +kernel) (Or.inl ⟨rfl, rfl⟩) (by decide +kernel) (by decide) (by decide) ?_
  refine in_arr hG.1 (n := 8) (fty := .int) hp rfl d28 (Or.inr (Or.inl ⟨_, d29, rfl, rfl⟩)) d31 d33 rfl (by decide +kernel) (Or.inl ⟨rfl, rfl⟩) (by decide +kernel) (by decide) (by decide) ?_
  refine in_arr hG.1 (n := 10) (fty := .int) hp rfl d36 (Or.inr (Or.inl ⟨_, d37, rfl, rfl⟩)) d39 d41 rfl (by decide +kernel) (Or.inl ⟨rfl, rfl⟩) (by decide +kernel) (by decide) (by decide) ?_
  refine in_arr hG.1 (n := 5) (fty := .int) hp rfl d44 (Or.inl ⟨_, d45, rfl, rfl⟩) d46 d48 rfl (by decide +kernel) (Or.inl ⟨rfl, rfl⟩) (by decide +kernel) (by decide) (by decide) ?_
  refine in_arr hG.1 (n := 100) (fty := .int) hp rfl d51 (Or.inr (Or.inl ⟨_, d52, rfl, rfl⟩)) d54 d56 rfl (by decide +kernel) (Or.inl ⟨rfl, rfl⟩) (by decide +kernel) (by decide) (by decide) ?_
  refine in_arr hG.1 (n := 480) (fty := .boolean) hp rfl d59 (Or.inr (Or.inr ⟨_, d60, rfl, rfl⟩)) d63 d65 rfl (by decide +kernel) (Or.inr ⟨rfl, rfl⟩) (by decide +kernel) (by decide) (by decide) ?_
  refine in_arr hG.1 (n := 480) (fty := .int) hp rfl d68 (Or.inr (Or.inr ⟨_, d69, rfl, rfl⟩)) d72 d74 rfl (by decide +kernel) (Or.inl ⟨rfl, rfl⟩) (by decide +kernel) (by decide) (by decide) ?_
  refine in_arg hG.1 (r := 1) (z := 1) hp rfl d77 (Or.inl ⟨_, d78, rfl, rfl⟩) rfl d79 rfl (by decide +kernel) ?_
  refine in_arg hG.1 (r := 11) (z := 2) hp rfl d82 (Or.inl ⟨_, d83, rfl, rfl⟩) rfl d84 rfl (by decide +kernel) ?_
  refine in_arg hG.1 (r := 20) (z := 3) hp rfl d87 (Or.inl ⟨_, d88, rfl, rfl⟩) rfl d89 rfl (by decide +kernel) ?_
  refine in_arg hG.1 (r := 35) (z := 4) hp rfl d92 (Or.inr ⟨d93, rfl⟩) rfl d95 rfl (by decide +kernel) ?_
  refine in_ret hG.1 d98 rfl ?_
  refine (congrArg (fun z => k none (pre ++ z)) (?_ : _ = _)).mpr hk
  rfl
theorem w_441 : Cond.methodLink RX6 3 Lib.objectInit ∈ mj_tw := mj_tw_in (List.mem_of_getElem? (i := 441) (by decide +kernel)) rfl
def c_iX6 : mj_S := fun as h k => ∃ pre : mj_H, pre.length = 55 ∧ as = [.ref 55, .ref 1, .ref 11, .ref 20, .ref 35] ∧ h = pre ++ [.inr (6, mj_dv 6)] ∧ k none (pre ++ sgC 55 9)
set_option maxHeartbeats 4000000 in
set_option maxRecDepth 20000 in
theorem m_X6_init (l : Launch) : mj_Met l yX6_init cX6_init 5 none 1 8 1092 c_iX6 := by
  refine mj_body7 true (TiX6 5 none []) (by decide) (by decide) rfl rfl (fun _ => rfl) (tiX6 _ (fun _ h => nomatch h)) ?_
  rintro as h k ⟨pre, hp, rfl, rfl, hk⟩
  refine ⟨rfl, fun G hG hob => ?_⟩
  obtain ⟨d0, d1, d4, d5, d8, d10, d13, d14, d17, d19, d22, d23, d25, d27, d30, d31, d33, d35, d38, d39, d41, d43, d46, d47, d49, d51, d54, d55, d57, d59, d62, d63, d65, d67, d70, d71, d72, d75, d76, d77, d80, d81, d82, d85, d86, d88, d91⟩ := D_X6_init
  show G 0 [.ref 55, .ref 1, .ref 11, .ref 20, .ref 35] [] (iH pre 6 (mj_dv 6, [])) 8 1092
  refine in_this hG.1 d0 rfl (hob _ _ _ _ _ _ _ d1 w_441 ?_)
  refine in_arr hG.1 (n := 480) (fty := .int) hp rfl d4 (Or.inr (Or.inr ⟨_, d5, rfl, rfl⟩)) d8 d10 rfl (by decide +kernel) (Or.inl ⟨rfl, rfl⟩) (by decide +kernel) (by decide) (by decide) ?_
  refine in_arr hG.1 (n := 480) (fty := .int) hp rfl d13 (Or.inr (Or.inr ⟨_, d14, rfl, rfl⟩)) d17 d19 rfl (by decide +kernel) (Or.inl ⟨rfl, rfl⟩) (by decide +kernel) (by decide) (by decide) ?_
  refine in_arr hG.1 (n := 24) (fty := .int) hp rfl d22 (Or.inr (Or.inl ⟨_, d23, rfl, rfl⟩)) d25 d27 rfl (by decide +kernel) (Or.inl ⟨rfl, rfl⟩) (by decide +kernel) (by decide) (by decide) ?_
  refine in_arr hG.1 (n := 20) (fty := .int) hp rfl d30 (Or.inr (Or.inl ⟨_, d31, rfl, rfl⟩)) d33 d35 rfl (by decide +kernel) (Or.inl ⟨rfl, rfl⟩) (by decide +kernel) (by decide) (by decide) ?_
  refine in_arr hG.1 (n := 20) (fty := .boolean) hp rfl d38 (Or.inr (Or.inl ⟨_, d39, rfl, rfl⟩)) d41 d43 rfl (by decide +kernel) (Or.inr ⟨rfl, rfl⟩) (by decide +kernel) (by decide) (by decide) ?_
  refine in_arr hG.1 (n := 24) (fty := .int) hp rfl d46 (Or.inr (Or.inl ⟨_, d47, rfl, rfl⟩)) d49 d51 rfl (by decide +kernel) (Or.inl ⟨rfl, rfl⟩) (by decide +kernel) (by decide) (by decide) ?_
  refine in_arr hG.1 (n := 20) (fty := .int) hp rfl d54 (Or.inr (Or.inl ⟨_, d55, rfl, rfl⟩)) d57 d59 rfl (by decide +kernel) (Or.inl ⟨rfl, rfl⟩) (by decide +kernel) (by decide) (by decide) ?_
  refine in_arr hG.1 (n := 24) (fty := .int) hp rfl d62 (Or.inr (Or.inl ⟨_, d63, rfl, rfl⟩)) d65 d67 rfl (by decide +kernel) (Or.inl ⟨rfl, rfl⟩) (by decide +kernel) (by decide) (by decide) ?_
  refine in_arg hG.1 (r := 1) (z := 1) hp rfl d70 (Or.inl ⟨_, d71, rfl, rfl⟩) rfl d72 rfl (by decide +kernel) ?_
  refine in_arg hG.1 (r := 11) (z := 2) hp rfl d75 (Or.inl ⟨_, d76, rfl, rfl⟩) rfl d77 rfl (by decide +kernel) ?_
  refine in_arg hG.1 (r := 20) (z := 3) hp rfl d80 (Or.inl ⟨_, d81, rfl, rfl⟩) rfl d82 rfl (by decide +kernel) ?_
  refine in_arg hG.1 (r := 35) (z := 4) hp rfl d85 (Or.inr ⟨d86, rfl⟩) rfl d88 rfl (by decide +kernel) ?_
  refine in_ret hG.1 d91 rfl ?_
  refine (congrArg (fun z => k none (pre ++ z)) (?_ : _ = _)).mpr hk
  rfl
theorem w_487 : Cond.methodLink RX8 3 Lib.objectInit ∈ mj_tw := mj_tw_in (List.mem_of_getElem? (i := 487) (by decide +kernel)) rfl
def c_iX8 : mj_S := fun as h k => ∃ pre : mj_H, pre.length = 64 ∧ as = [.ref 64, .ref 11, .ref 35] ∧ h = pre ++ [.inr (8, mj_dv 8)] ∧ k none (pre ++ sgC 64 9)
set_option maxHeartbeats 4000000 in
set_option maxRecDepth 20000 in
theorem m_X8_init (l : Launch) : mj_Met l yX8_init cX8_init 3 none 1 8 264 c_iX8 := by
  refine mj_body7 true (TiX8 3 none []) (by decide) (by decide) rfl rfl (fun _ => rfl) (tiX8 _ (fun _ h => nomatch h)) ?_
  rintro as h k ⟨pre, hp, rfl, rfl, hk⟩
  refine ⟨rfl, fun G hG hob => ?_⟩
  obtain ⟨d0, d1, d4, d5, d7, d9, d12, d13, d15, d17, d20, d21, d23, d25, d28, d29, d31, d33, d36, d37, d39, d41, d44, d45, d47, d49, d52, d53, d55, d57, d60, d61, d62, d64, d67, d68, d69, d72, d73, d74, d77⟩ := D_X8_init
  show G 0 [.ref 64, .ref 11, .ref 35] [] (iH pre 8 (mj_dv 8, [])) 8 264
  refine in_this hG.1 d0 rfl (hob _ _ _ _ _ _ _ d1 w_487 ?_)
  refine in_arr hG.1 (n := 40) (fty := .int) hp rfl d4 (Or.inr (Or.inl ⟨_, d5, rfl, rfl⟩)) d7 d9 rfl (by decide +kernel) (Or.inl ⟨rfl, rfl⟩) (by decide +kernel) (by decide) (by decide) ?_
  refine in_arr hG.1 (n := 40) (fty := .int) hp rfl d12 (Or.inr (Or.inl ⟨_, d13, rfl, rfl⟩)) d15 d17 rfl (by decide +kernel) (Or.inl ⟨rfl, rfl⟩) (by decide +kernel) (by decide) (by decide) ?_
  refine in_arr hG.1 (n := 40) (fty := .int) hp rfl d20 (Or.inr (Or.inl ⟨_, d21, rfl, rfl⟩)) d23 d25 rfl (by decide +kernel) (Or.inl ⟨rfl, rfl⟩) (by decide +kernel) (by decide) (by decide) ?_
  refine in_arr hG.1 (n := 40) (fty := .int) hp rfl d28 (Or.inr (Or.inl ⟨_, d29, rfl, rfl⟩)) d31 d33 rfl (by decide +kernel) (Or.inl ⟨rfl, rfl⟩) (by decide +kernel) (by decide) (by decide) ?_
  refine in_arr hG.1 (n := 40) (fty := .int) hp rfl d36 (Or.inr (Or.inl ⟨_, d37, rfl, rfl⟩)) d39 d41 rfl (by decide +kernel) (Or.inl ⟨rfl, rfl⟩) (by decide +kernel) (by decide) (by decide) ?_
  refine in_arr hG.1 (n := 40) (fty := .int) hp rfl d44 (Or.inr (Or.inl ⟨_, d45, rfl, rfl⟩)) d47 d49 rfl (by decide +kernel) (Or.inl ⟨rfl, rfl⟩) (by decide +kernel) (by decide) (by decide) ?_
  refine in_arr hG.1 (n := 20) (fty := .int) hp rfl d52 (Or.inr (Or.inl ⟨_, d53, rfl, rfl⟩)) d55 d57 rfl (by decide +kernel) (Or.inl ⟨rfl, rfl⟩) (by decide +kernel) (by decide) (by decide) ?_
  refine in_arr hG.1 (n := 4) (fty := .int) hp rfl d60 (Or.inl ⟨_, d61, rfl, rfl⟩) d62 d64 rfl (by decide +kernel) (Or.inl ⟨rfl, rfl⟩) (by decide +kernel) (by decide) (by decide) ?_
  refine in_arg hG.1 (r := 11) (z := 1) hp rfl d67 (Or.inl ⟨_, d68, rfl, rfl⟩) rfl d69 rfl (by decide +kernel) ?_
  refine in_arg hG.1 (r := 35) (z := 2) hp rfl d72 (Or.inl ⟨_, d73, rfl, rfl⟩) rfl d74 rfl (by decide +kernel) ?_
  refine in_ret hG.1 d77 rfl ?_
  refine (congrArg (fun z => k none (pre ++ z)) (?_ : _ = _)).mpr hk
  rfl
theorem w_530 : Cond.methodLink RX4 3 Lib.objectInit ∈ mj_tw := mj_tw_in (List.mem_of_getElem? (i := 530) (by decide +kernel)) rfl
def c_iX4 : mj_S := fun as h k => ∃ pre : mj_H, pre.length = 73 ∧ as = [.ref 73, .ref 35] ∧ h = pre ++ [.inr (4, mj_dv 4)] ∧ k none (pre ++ sgC 73 8)
set_option maxHeartbeats 4000000 in
set_option maxRecDepth 20000 in
theorem m_X4_init (l : Launch) : mj_Met l yX4_init cX4_init 2 none 1 7 101 c_iX4 := by
  refine mj_body7 true (TiX4 2 none [(38, 2, 2, 99, 0, 0, c_fill)]) (by decide) (by decide) rfl rfl (fun _ => rfl) (tiX4 _ (List.forall_mem_cons.mpr ⟨cfX4_38 (m_J7_fill_53178 l) (by decide), (fun _ h => nomatch h)⟩)) ?_
  rintro as h k ⟨pre, hp, rfl, rfl, hk⟩
  refine ⟨rfl, fun G hG hob => ?_⟩
  obtain ⟨d0, d1, d4, d5, d6, d8, d11, d12, d14, d16, d19, d20, d22, d24, d27, d28, d30, d32, d35, d36, d38, d40, d43, d44, d46, d48, d51, d52, d54, d56, d59, d60, d61, d64, d65, d68, d70, d73⟩ := D_X4_init
  show G 0 [.ref 73, .ref 35] [] (iH pre 4 (mj_dv 4, [])) 7 101
  refine in_this hG.1 d0 rfl (hob _ _ _ _ _ _ _ d1 w_530 ?_)
  refine in_arr hG.1 (n := 5) (fty := .int) hp rfl d4 (Or.inl ⟨_, d5, rfl, rfl⟩) d6 d8 rfl (by decide +kernel) (Or.inl ⟨rfl, rfl⟩) (by decide +kernel) (by decide) (by decide) ?_
  refine in_arr hG.1 (n := 20) (fty := .boolean) hp rfl d11 (Or.inr (Or.inl ⟨_, d12, rfl, rfl⟩)) d14 d16 rfl (by decide +kernel) (Or.inr ⟨rfl, rfl⟩) (by decide +kernel) (by decide) (by decide) ?_
  refine in_arr hG.1 (n := 20) (fty := .int) hp rfl d19 (Or.inr (Or.inl ⟨_, d20, rfl, rfl⟩)) d22 d24 rfl (by decide +kernel) (Or.inl ⟨rfl, rfl⟩) (by decide +kernel) (by decide) (by decide) ?_
  refine in_arr hG.1 (n := 20) (fty := .int) hp rfl d27 (Or.inr (Or.inl ⟨_, d28, rfl, rfl⟩)) d30 d32 rfl (by decide +kernel) (Or.inl ⟨rfl, rfl⟩) (by decide +kernel) (by decide) (by decide) ?_
  refine in_arr hG.1 (n := 20) (fty := .int) hp rfl d35 (Or.inr (Or.inl ⟨_, d36, rfl, rfl⟩)) d38 d40 rfl (by decide +kernel) (Or.inl ⟨rfl, rfl⟩) (by decide +kernel) (by decide) (by decide) ?_
  refine in_arr hG.1 (n := 8) (fty := .int) hp rfl d43 (Or.inr (Or.inl ⟨_, d44, rfl, rfl⟩)) d46 d48 rfl (by decide +kernel) (Or.inl ⟨rfl, rfl⟩) (by decide +kernel) (by decide) (by decide) ?_
  refine in_arr hG.1 (n := 8) (fty := .int) hp rfl d51 (Or.inr (Or.inl ⟨_, d52, rfl, rfl⟩)) d54 d56 rfl (by decide +kernel) (Or.inl ⟨rfl, rfl⟩) (by decide +kernel) (by decide) (by decide) ?_
  refine in_arg hG.1 (r := 35) (z := 1) hp rfl d59 (Or.inl ⟨_, d60, rfl, rfl⟩) rfl d61 rfl (by decide +kernel) ?_
  refine in_fill hG.1 (t := 0) (n := 5) (f := fun _ => 0) hp rfl d64 d65 (Or.inr (Or.inl ⟨_, d68, rfl, rfl⟩)) d70 rfl rfl rfl rfl (by decide) ?_
  refine in_ret hG.1 d73 rfl ?_
  refine (congrArg (fun z => k none (pre ++ z)) (?_ : _ = _)).mpr hk
  rfl
theorem w_572 : Cond.methodLink RX7 3 Lib.objectInit ∈ mj_tw := mj_tw_in (List.mem_of_getElem? (i := 572) (by decide +kernel)) rfl
def c_iX7 : mj_S := fun as h k => ∃ pre : mj_H, pre.length = 81 ∧ as = [.ref 81, .ref 1, .ref 20] ∧ h = pre ++ [.inr (7, mj_dv 7)] ∧ k none (pre ++ sgC 81 4)
set_option maxHeartbeats 4000000 in
set_option maxRecDepth 20000 in
theorem m_X7_init (l : Launch) : mj_Met l yX7_init cX7_init 3 none 1 3 81 c_iX7 := by
  refine mj_body7 true (TiX7 3 none []) (by decide) (by decide) rfl rfl (fun _ => rfl) (tiX7 _ (fun _ h => nomatch h)) ?_
  rintro as h k ⟨pre, hp, rfl, rfl, hk⟩
  refine ⟨rfl, fun G hG hob => ?_⟩
  obtain ⟨d0, d1, d4, d5, d7, d9, d12, d13, d15, d17, d20, d21, d23, d25, d28, d29, d30, d33, d34, d35, d38⟩ := D_X7_init
  show G 0 [.ref 81, .ref 1, .ref 20] [] (iH pre 7 (mj_dv 7, [])) 3 81
  refine in_this hG.1 d0 rfl (hob _ _ _ _ _ _ _ d1 w_572 ?_)
  refine in_arr hG.1 (n := 9) (fty := .int) hp rfl d4 (Or.inr (Or.inl ⟨_, d5, rfl, rfl⟩)) d7 d9 rfl (by decide +kernel) (Or.inl ⟨rfl, rfl⟩) (by decide +kernel) (by decide) (by decide) ?_
  refine in_arr hG.1 (n := 24) (fty := .int) hp rfl d12 (Or.inr (Or.inl ⟨_, d13, rfl, rfl⟩)) d15 d17 rfl (by decide +kernel) (Or.inl ⟨rfl, rfl⟩) (by decide +kernel) (by decide) (by decide) ?_
  refine in_arr hG.1 (n := 48) (fty := .int) hp rfl d20 (Or.inr (Or.inl ⟨_, d21, rfl, rfl⟩)) d23 d25 rfl (by decide +kernel) (Or.inl ⟨rfl, rfl⟩) (by decide +kernel) (by decide) (by decide) ?_
  refine in_arg hG.1 (r := 1) (z := 1) hp rfl d28 (Or.inl ⟨_, d29, rfl, rfl⟩) rfl d30 rfl (by decide +kernel) ?_
  refine in_arg hG.1 (r := 20) (z := 2) hp rfl d33 (Or.inl ⟨_, d34, rfl, rfl⟩) rfl d35 rfl (by decide +kernel) ?_
  refine in_ret hG.1 d38 rfl ?_
  refine (congrArg (fun z => k none (pre ++ z)) (?_ : _ = _)).mpr hk
  rfl
theorem w_602 : Cond.methodLink RX3 3 Lib.objectInit ∈ mj_tw := mj_tw_in (List.mem_of_getElem? (i := 602) (by decide +kernel)) rfl
def c_iX3 : mj_S := fun as h k => ∃ pre : mj_H, pre.length = 85 ∧ as = [.ref 85, .ref 11] ∧ h = pre ++ [.inr (3, mj_dv 3)] ∧ k none (pre ++ sgC 85 4)
set_option maxHeartbeats 4000000 in
set_option maxRecDepth 20000 in
theorem m_X3_init (l : Launch) : mj_Met l yX3_init cX3_init 2 none 1 3 20 c_iX3 := by
  refine mj_body7 true (TiX3 2 none []) (by decide) (by decide) rfl rfl (fun _ => rfl) (tiX3 _ (fun _ h => nomatch h)) ?_
  rintro as h k ⟨pre, hp, rfl, rfl, hk⟩
  refine ⟨rfl, fun G hG hob => ?_⟩
  obtain ⟨d0, d1, d4, d5, d6, d8, d11, d12, d14, d16, d19, d20, d22, d24, d27, d28, d29, d32⟩ := D_X3_init
  show G 0 [.ref 85, .ref 11] [] (iH pre 3 (mj_dv 3, [])) 3 20
  refine in_this hG.1 d0 rfl (hob _ _ _ _ _ _ _ d1 w_602 ?_)
  refine in_arr hG.1 (n := 4) (fty := .int) hp rfl d4 (Or.inl ⟨_, d5, rfl, rfl⟩) d6 d8 rfl (by decide +kernel) (Or.inl ⟨rfl, rfl⟩) (by decide +kernel) (by decide) (by decide) ?_
  refine in_arr hG.1 (n := 8) (fty := .int) hp rfl d11 (Or.inr (Or.inl ⟨_, d12, rfl, rfl⟩)) d14 d16 rfl (by decide +kernel) (Or.inl ⟨rfl, rfl⟩) (by decide +kernel) (by decide) (by decide) ?_
  refine in_arr hG.1 (n := 8) (fty := .int) hp rfl d19 (Or.inr (Or.inl ⟨_, d20, rfl, rfl⟩)) d22 d24 rfl (by decide +kernel) (Or.inl ⟨rfl, rfl⟩) (by decide +kernel) (by decide) (by decide) ?_
  refine in_arg hG.1 (r := 11) (z := 1) hp rfl d27 (Or.inl ⟨_, d28, rfl, rfl⟩) rfl d29 rfl (by decide +kernel) ?_
  refine in_ret hG.1 d32 rfl ?_
  refine (congrArg (fun z => k none (pre ++ z)) (?_ : _ = _)).mpr hk
  rfl
