/-! the reference's constructor -/
section IM
variable {cc : ByteArray} {T : mj_T} {k : Option Value → mj_H → Prop} {G : mj_K}
theorem in_il (hG : mj_cl cc T k G) {pc : Nat} {x : Int32} {L st : List Value} {h : mj_H} {bc bs : Nat} (d : decode cc pc = .ok (.iload_n 1, 1)) (hL : L[1]? = some (.int x)) (g : G (pc + 1) L (.int x :: st) h bc bs) : G pc L st h bc bs := by
  refine go_of hG (st_of d rfl ?_)
  show (match (generalizing := false) (L[1]? : Option Value) with
    | some (.int x) => G (pc + 1) L (.int x :: st) h bc bs
    | _ => False)
  rw [hL]
  exact g
theorem in_ias (hG : mj_cl cc T k G) {pc ci a j n : Nat} {x v : Int32} {f : Nat → Int32} {L st : List Value} {pre : mj_H} {q : iQ} {bc bs : Nat} (hp : pre.length = a) (d : decode cc pc = .ok (.iastore, 1)) (hj : q.2[j]? = some (.inl (.int, n, .inl f))) (hv : vp_in v n) (g : G (pc + 1) L st (iH pre ci (iF j (.inl (.int, n, .inl (upd f v.toNatClampNeg x))) q)) bc bs) : G pc L (.int x :: .int v :: .ref (a + 1 + j) :: st) (iH pre ci q) bc bs := by
  refine go_of hG (st_of d rfl ?_)
  show (match (generalizing := false) ((iH pre ci q)[a + 1 + j]? : Option mj_C) with
      | some (.inl (.int, n, .inl f)) => vp_in v n ∧ G (pc + 1) L st ((iH pre ci q).set (a + 1 + j) (.inl (.int, n, .inl (upd f v.toNatClampNeg x)))) bc bs
      | _ => False)
  rw [iH_at2 hp hj]
  refine ⟨hv, ?_⟩
  rw [iH_set2 hp]
  exact g
theorem iF_iF (j : Nat) (c d : mj_C) (q : iQ) : iF j c (iF j d q) = iF j c q := by
  unfold iF
  rw [List.set_set]
theorem iF_at {j : Nat} {c d : mj_C} {q : iQ} (h : q.2[j]? = some d) : (iF j c q).2[j]? = some c := by
  unfold iF
  dsimp only
  rw [List.getElem?_set, if_pos rfl, if_pos (List.getElem?_eq_some_iff.mp h).1]
theorem iF_self {j : Nat} {c : mj_C} {q : iQ} (h : q.2[j]? = some c) : iF j c q = q := by
  obtain ⟨fs, as⟩ := q
  unfold iF
  dsimp only at h ⊢
  congr 1
  apply List.ext_getElem?
  intro i
  rw [List.getElem?_set]
  by_cases e : j = i
  · subst e
    rw [if_pos rfl, if_pos (List.getElem?_eq_some_iff.mp h).1, h]
  · rw [if_neg e]
def gM (i : Nat) : Nat → Int32 := fun j => if j < i then 10 else if 120 ≤ j ∧ j < 120 + i then 15 else 0
theorem gM_up {i : Nat} (hi : i < 120) : upd (upd (gM i) i 10) (120 + i) 15 = gM (i + 1) := by
  funext j
  unfold upd gM
  by_cases c1 : j = 120 + i
  · rw [if_pos c1, if_neg (by omega), if_pos (by omega)]
  · rw [if_neg c1]
    by_cases c2 : j = i
    · rw [if_pos c2, if_pos (by omega)]
    · rw [if_neg c2]
      by_cases c3 : j < i
      · rw [if_pos c3, if_pos (by omega)]
      · rw [if_neg c3, if_neg (show ¬ j < i + 1 by omega)]
        by_cases c4 : 120 ≤ j ∧ j < 120 + i
        · rw [if_pos c4, if_pos (by omega)]
        · rw [if_neg c4, if_neg (by omega)]
def hM (i : Nat) : Nat → Int32 := fun j => if j < i then 100 else 0
theorem hM_up (i : Nat) : upd (hM i) i 100 = hM (i + 1) := by
  funext j
  unfold upd hM
  by_cases c2 : j = i
  · rw [if_pos c2, if_pos (by omega)]
  · rw [if_neg c2]
    by_cases c3 : j < i
    · rw [if_pos c3, if_pos (by omega)]
    · rw [if_neg c3, if_neg (by omega)]
theorem nI_add2 (a b : Nat) (h : a + b < 2 ^ 31) : nI a + nI b = nI (a + b) := by
  apply Int32.toInt_inj.mp
  rw [Int32.toInt_add, nI_toInt (by omega), nI_toInt (by omega), nI_toInt h]
  have : (a : Int) + b = ((a + b : Nat) : Int) := by omega
  rw [this]
  exact Int.bmod_eq_of_le (by omega) (by omega)
end IM
theorem w_1410 : Cond.methodLink RX12 1 Lib.objectInit ∈ mj_tw := mj_tw_in (List.mem_of_getElem? (i := 1410) (by decide +kernel)) rfl
section IL
variable {k : Option Value → mj_H → Prop} {G : mj_K}
set_option maxRecDepth 8000 in
theorem in_loop1 (hG : mj_cl cX12_init (TiX12 2 none []) k G) {q : iQ} {bc bs : Nat} (h1 : q.1[1]? = some (.ref 1)) (h2 : q.2[0]? = some (.inl (.int, 240, .inl (gM 0)))) (g : G 660 [.ref 0, .int (nI 120)] [] (iH [] 12 (iF 0 (.inl (.int, 240, .inl (gM 120))) q)) bc bs) : ∀ (d i : Nat), i + d = 120 → G 629 [.ref 0, .int (nI i)] [] (iH [] 12 (iF 0 (.inl (.int, 240, .inl (gM i))) q)) bc bs := by

  have P2 : ∀ i, (iF 0 (.inl (.int, 240, .inl (gM i))) q).2[0]? = some (.inl (.int, 240, .inl (gM i))) := fun i => iF_at h2
  obtain ⟨d0, d1, d4, d5, d8, d10, d13, d14, d17, d19, d22, d23, d25, d27, d30, d31, d33, d35, d38, d39, d41, d43, d46, d47, d49, d51, d54, d55, d58, d60, d63, d64, d67, d69, d72, d73, d76, d78, d81, d82, d85, d87, d90, d91, d94, d96, d99, d100, d102, d104⟩ := D_X12_init_0
  obtain ⟨d107, d108, d110, d112, d115, d116, d118, d120, d123, d124, d126, d128, d131, d132, d134, d136, d139, d140, d142, d144, d147, d148, d150, d152, d155, d156, d158, d160, d163, d164, d166, d168, d171, d172, d175, d177, d180, d181, d184, d186, d189, d190, d192, d194, d197, d198, d201, d203, d206, d207⟩ := D_X12_init_1
  obtain ⟨d210, d212, d215, d216, d219, d221, d224, d225, d227, d229, d232, d233, d235, d237, d240, d241, d243, d245, d248, d249, d251, d253, d256, d257, d260, d262, d265, d266, d269, d271, d274, d275, d278, d280, d283, d284, d286, d288, d291, d292, d294, d296, d299, d300, d303, d305, d308, d309, d312, d314⟩ := D_X12_init_2
  obtain ⟨d317, d318, d321, d323, d326, d327, d329, d331, d334, d335, d337, d339, d342, d343, d345, d347, d350, d351, d353, d355, d358, d359, d361, d363, d366, d367, d369, d371, d374, d375, d377, d379, d382, d383, d385, d387, d390, d391, d393, d395, d398, d399, d401, d403, d406, d407, d408, d410, d413, d414⟩ := D_X12_init_3
  obtain ⟨d416, d418, d421, d422, d425, d427, d430, d431, d433, d435, d438, d439, d441, d443, d446, d447, d449, d451, d454, d455, d457, d459, d462, d463, d465, d467, d470, d471, d473, d475, d478, d479, d481, d483, d486, d487, d489, d491, d494, d495, d497, d499, d502, d503, d505, d507, d510, d511, d513, d515⟩ := D_X12_init_4
  obtain ⟨d518, d519, d520, d522, d525, d526, d528, d530, d533, d534, d536, d538, d541, d542, d544, d546, d549, d550, d552, d554, d557, d558, d560, d562, d565, d566, d568, d570, d573, d574, d576, d578, d581, d582, d584, d586, d589, d590, d591, d593, d596, d597, d598, d600, d603, d604, d606, d608, d611, d612⟩ := D_X12_init_5
  obtain ⟨d614, d616, d619, d620, d622, d624, d627, d628, d629, d630, d632, d635, d636, d639, d640, d642, d643, d644, d647, d649, d650, d651, d653, d654, d657, d660, d661, d662, d663, d664, d667, d668, d671, d672, d674, d675, d678, d681⟩ := D_X12_init_6
  intro d
  induction d with
  | zero =>
    intro i hi
    have : i = 120 := by omega
    subst this
    refine in_il hG d629 rfl (in_psh hG (pc2 := 632) (Or.inr (Or.inl ⟨_, d630, rfl, rfl⟩)) ?_)
    refine go_of hG (st_of d632 rfl ?_)
    rw [mj_E_if_icmp_ge_off]
    try dsimp only
    rw [show mj_t 632 28 = 660 from by decide +kernel]
    exact ⟨by decide +kernel, fun _ => g, fun z => absurd (show (120 : Int32) ≤ nI 120 by decide +kernel) z⟩
  | succ d ih =>
    intro i hi
    have hlt : i < 120 := by omega
    refine in_il hG d629 rfl (in_psh hG (pc2 := 632) (Or.inr (Or.inl ⟨_, d630, rfl, rfl⟩)) ?_)
    refine go_of hG (st_of d632 rfl ?_)
    rw [mj_E_if_icmp_ge_off]
    try dsimp only
    refine ⟨by decide +kernel, fun z => absurd z ?_, fun _ => ?_⟩
    · intro z
      have z1 := Int32.le_iff_toInt_le.mp z
      rw [nI_toInt (by omega)] at z1
      have z2 : ((120 : Int) ≤ (i : Int)) := z1
      omega
    refine in_get hG (pre := []) (a := 0) (kk := 1) (v := .ref 1) rfl rfl d635 d636 rfl h1 ?_
    refine in_il hG d639 rfl (in_psh hG (Or.inr (Or.inl ⟨_, d640, rfl, rfl⟩)) ?_)
    refine in_ias hG (pre := []) (a := 0) (j := 0) rfl d642 (P2 i) (vp_in_nI (by omega) (by omega)) ?_
    rw [iF_iF, nI_clamp (by omega)]
    refine in_get hG (pre := []) (a := 0) (kk := 1) (v := .ref 1) rfl rfl d643 d644 rfl h1 ?_
    refine in_psh hG (Or.inr (Or.inl ⟨_, d647, rfl, rfl⟩)) (in_il hG d649 rfl (go_of hG (st_of d650 rfl ?_)))
    show G 651 _ (.int (nI 120 + nI i) :: _) _ _ _
    rw [nI_add2 120 i (by omega)]
    refine in_psh hG (Or.inr (Or.inl ⟨_, d651, rfl, rfl⟩)) ?_
    refine in_ias hG (pre := []) (a := 0) (j := 0) (n := 240) rfl d653 (iF_at h2) (vp_in_nI (by omega) (by omega)) ?_
    rw [iF_iF, nI_clamp (by omega)]
    have e : upd (upd (gM i) i (Int8.ofInt 10).toInt32) (120 + i) (Int8.ofInt 15).toInt32 = gM (i + 1) := gM_up hlt
    rw [e]
    refine go_of hG (st_of d654 rfl ?_)
    show 1 < 2 ∧ G 657 [.ref 0, .int (nI i + 1)] [] _ bc bs
    refine ⟨by decide, ?_⟩
    rw [← nI_succ]
    refine go_of hG (st_of d657 rfl ?_)
    rw [mj_E_goto_off, show mj_t 657 (-28) = 629 from by decide +kernel]
    refine ⟨by decide +kernel, ?_⟩
    exact ih (i + 1) (by omega)
set_option maxRecDepth 8000 in
theorem in_loop2 (hG : mj_cl cX12_init (TiX12 2 none []) k G) {q : iQ} {bc bs : Nat} (h1 : q.1[81]? = some (.ref 63)) (h2 : q.2[62]? = some (.inl (.int, 5, .inl (hM 0)))) (g : G 681 [.ref 0, .int (nI 5)] [] (iH [] 12 (iF 62 (.inl (.int, 5, .inl (hM 5))) q)) bc bs) : ∀ (d i : Nat), i + d = 5 → G 662 [.ref 0, .int (nI i)] [] (iH [] 12 (iF 62 (.inl (.int, 5, .inl (hM i))) q)) bc bs := by
  have P2 : ∀ i, (iF 62 (.inl (.int, 5, .inl (hM i))) q).2[62]? = some (.inl (.int, 5, .inl (hM i))) := fun i => iF_at h2
  obtain ⟨d0, d1, d4, d5, d8, d10, d13, d14, d17, d19, d22, d23, d25, d27, d30, d31, d33, d35, d38, d39, d41, d43, d46, d47, d49, d51, d54, d55, d58, d60, d63, d64, d67, d69, d72, d73, d76, d78, d81, d82, d85, d87, d90, d91, d94, d96, d99, d100, d102, d104⟩ := D_X12_init_0
  obtain ⟨d107, d108, d110, d112, d115, d116, d118, d120, d123, d124, d126, d128, d131, d132, d134, d136, d139, d140, d142, d144, d147, d148, d150, d152, d155, d156, d158, d160, d163, d164, d166, d168, d171, d172, d175, d177, d180, d181, d184, d186, d189, d190, d192, d194, d197, d198, d201, d203, d206, d207⟩ := D_X12_init_1
  obtain ⟨d210, d212, d215, d216, d219, d221, d224, d225, d227, d229, d232, d233, d235, d237, d240, d241, d243, d245, d248, d249, d251, d253, d256, d257, d260, d262, d265, d266, d269, d271, d274, d275, d278, d280, d283, d284, d286, d288, d291, d292, d294, d296, d299, d300, d303, d305, d308, d309, d312, d314⟩ := D_X12_init_2
  obtain ⟨d317, d318, d321, d323, d326, d327, d329, d331, d334, d335, d337, d339, d342, d343, d345, d347, d350, d351, d353, d355, d358, d359, d361, d363, d366, d367, d369, d371, d374, d375, d377, d379, d382, d383, d385, d387, d390, d391, d393, d395, d398, d399, d401, d403, d406, d407, d408, d410, d413, d414⟩ := D_X12_init_3
  obtain ⟨d416, d418, d421, d422, d425, d427, d430, d431, d433, d435, d438, d439, d441, d443, d446, d447, d449, d451, d454, d455, d457, d459, d462, d463, d465, d467, d470, d471, d473, d475, d478, d479, d481, d483, d486, d487, d489, d491, d494, d495, d497, d499, d502, d503, d505, d507, d510, d511, d513, d515⟩ := D_X12_init_4
  obtain ⟨d518, d519, d520, d522, d525, d526, d528, d530, d533, d534, d536, d538, d541, d542, d544, d546, d549, d550, d552, d554, d557, d558, d560, d562, d565, d566, d568, d570, d573, d574, d576, d578, d581, d582, d584, d586, d589, d590, d591, d593, d596, d597, d598, d600, d603, d604, d606, d608, d611, d612⟩ := D_X12_init_5
  obtain ⟨d614, d616, d619, d620, d622, d624, d627, d628, d629, d630, d632, d635, d636, d639, d640, d642, d643, d644, d647, d649, d650, d651, d653, d654, d657, d660, d661, d662, d663, d664, d667, d668, d671, d672, d674, d675, d678, d681⟩ := D_X12_init_6
  intro d
  induction d with
  | zero =>
    intro i hi
    have : i = 5 := by omega
    subst this
    refine in_il hG d662 rfl (in_psh hG (pc2 := 664) (Or.inl ⟨_, d663, rfl, rfl⟩) ?_)
    refine go_of hG (st_of d664 rfl ?_)
    rw [mj_E_if_icmp_ge_off]
    try dsimp only
    rw [show mj_t 664 17 = 681 from by decide +kernel]
    exact ⟨by decide +kernel, fun _ => g, fun z => absurd (show (5 : Int32) ≤ nI 5 by decide +kernel) z⟩
  | succ d ih =>
    intro i hi
    have hlt : i < 5 := by omega
    refine in_il hG d662 rfl (in_psh hG (pc2 := 664) (Or.inl ⟨_, d663, rfl, rfl⟩) ?_)
    refine go_of hG (st_of d664 rfl ?_)
    rw [mj_E_if_icmp_ge_off]
    try dsimp only
    refine ⟨by decide +kernel, fun z => absurd z ?_, fun _ => ?_⟩
    · intro z
      have z1 := Int32.le_iff_toInt_le.mp z
      rw [nI_toInt (by omega)] at z1
      have z2 : ((5 : Int) ≤ (i : Int)) := z1
      omega
    refine in_get hG (pre := []) (a := 0) (kk := 81) (v := .ref (0 + 1 + 62)) rfl rfl d667 d668 rfl h1 ?_
    refine in_il hG d671 rfl (in_psh hG (Or.inr (Or.inl ⟨_, d672, rfl, rfl⟩)) ?_)
    refine in_ias hG (pre := []) (a := 0) (j := 62) rfl d674 (P2 i) (vp_in_nI (by omega) (by omega)) ?_
    rw [iF_iF, nI_clamp (by omega)]
    have e : upd (hM i) i (Int8.ofInt 100).toInt32 = hM (i + 1) := hM_up i
    rw [e]
    refine go_of hG (st_of d675 rfl ?_)
    show 1 < 2 ∧ G 678 [.ref 0, .int (nI i + 1)] [] _ bc bs
    refine ⟨by decide, ?_⟩
    rw [← nI_succ]
    refine go_of hG (st_of d678 rfl ?_)
    rw [mj_E_goto_off, show mj_t 678 (-16) = 662 from by decide +kernel]
    refine ⟨by decide +kernel, ?_⟩
    exact ih (i + 1) (by omega)
end IL
def A0M : Nat → Nat → Int32 := fun key => if key = 1201 then gM 120 else if key = 1281 then hM 5 else fun _ => 0
def t00 : St := (fun _ => 0, A0M, fun _ _ => none, [])
def c_iX12 : mj_S := fun as h k => as = [.ref 0] ∧ h = [.inr (12, mj_dv 12)] ∧ k none (mkMs t00)
set_option maxHeartbeats 8000000 in
set_option maxRecDepth 40000 in
theorem m_X12_init (l : Launch) : mj_Met l yX12_init cX12_init 2 none 1 76 23474 c_iX12 := by
  refine mj_body7 true (TiX12 2 none []) (by decide) (by decide) rfl rfl (fun _ => rfl) (tiX12 _ (fun _ h => nomatch h)) ?_
  rintro as h k ⟨rfl, rfl, hk⟩
  refine ⟨rfl, fun G hG hob => ?_⟩
  obtain ⟨d0, d1, d4, d5, d8, d10, d13, d14, d17, d19, d22, d23, d25, d27, d30, d31, d33, d35, d38, d39, d41, d43, d46, d47, d49, d51, d54, d55, d58, d60, d63, d64, d67, d69, d72, d73, d76, d78, d81, d82, d85, d87, d90, d91, d94, d96, d99, d100, d102, d104⟩ := D_X12_init_0
  obtain ⟨d107, d108, d110, d112, d115, d116, d118, d120, d123, d124, d126, d128, d131, d132, d134, d136, d139, d140, d142, d144, d147, d148, d150, d152, d155, d156, d158, d160, d163, d164, d166, d168, d171, d172, d175, d177, d180, d181, d184, d186, d189, d190, d192, d194, d197, d198, d201, d203, d206, d207⟩ := D_X12_init_1
  obtain ⟨d210, d212, d215, d216, d219, d221, d224, d225, d227, d229, d232, d233, d235, d237, d240, d241, d243, d245, d248, d249, d251, d253, d256, d257, d260, d262, d265, d266, d269, d271, d274, d275, d278, d280, d283, d284, d286, d288, d291, d292, d294, d296, d299, d300, d303, d305, d308, d309, d312, d314⟩ := D_X12_init_2
  obtain ⟨d317, d318, d321, d323, d326, d327, d329, d331, d334, d335, d337, d339, d342, d343, d345, d347, d350, d351, d353, d355, d358, d359, d361, d363, d366, d367, d369, d371, d374, d375, d377, d379, d382, d383, d385, d387, d390, d391, d393, d395, d398, d399, d401, d403, d406, d407, d408, d410, d413, d414⟩ := D_X12_init_3
  obtain ⟨d416, d418, d421, d422, d425, d427, d430, d431, d433, d435, d438, d439, d441, d443, d446, d447, d449, d451, d454, d455, d457, d459, d462, d463, d465, d467, d470, d471, d473, d475, d478, d479, d481, d483, d486, d487, d489, d491, d494, d495, d497, d499, d502, d503, d505, d507, d510, d511, d513, d515⟩ := D_X12_init_4
  obtain ⟨d518, d519, d520, d522, d525, d526, d528, d530, d533, d534, d536, d538, d541, d542, d544, d546, d549, d550, d552, d554, d557, d558, d560, d562, d565, d566, d568, d570, d573, d574, d576, d578, d581, d582, d584, d586, d589, d590, d591, d593, d596, d597, d598, d600, d603, d604, d606, d608, d611, d612⟩ := D_X12_init_5
  obtain ⟨d614, d616, d619, d620, d622, d624, d627, d628, d629, d630, d632, d635, d636, d639, d640, d642, d643, d644, d647, d649, d650, d651, d653, d654, d657, d660, d661, d662, d663, d664, d667, d668, d671, d672, d674, d675, d678, d681⟩ := D_X12_init_6
  have hp : ([] : mj_H).length = 0 := rfl
  show G 0 [.ref 0] [] (iH [] 12 (mj_dv 12, [])) 76 23474
  refine in_this hG.1 d0 rfl (hob _ _ _ _ _ _ _ d1 w_1410 ?_)
  refine in_arr hG.1 (n := 240) (fty := .int) hp rfl d4 (Or.inr (Or.inr ⟨_, d5, rfl, rfl⟩)) d8 d10 rfl (by decide +kernel) (Or.inl ⟨rfl, rfl⟩) (by decide +kernel) (by decide) (by decide) ?_
  refine in_arr hG.1 (n := 601) (fty := .boolean) hp rfl d13 (Or.inr (Or.inr ⟨_, d14, rfl, rfl⟩)) d17 d19 rfl (by decide +kernel) (Or.inr ⟨rfl, rfl⟩) (by decide +kernel) (by decide) (by decide) ?_
  refine in_arr hG.1 (n := 120) (fty := .int) hp rfl d22 (Or.inr (Or.inl ⟨_, d23, rfl, rfl⟩)) d25 d27 rfl (by decide +kernel) (Or.inl ⟨rfl, rfl⟩) (by decide +kernel) (by decide) (by decide) ?_
  refine in_arr hG.1 (n := 24) (fty := .int) hp rfl d30 (Or.inr (Or.inl ⟨_, d31, rfl, rfl⟩)) d33 d35 rfl (by decide +kernel) (Or.inl ⟨rfl, rfl⟩) (by decide +kernel) (by decide) (by decide) ?_
  refine in_arr hG.1 (n := 24) (fty := .int) hp rfl d38 (Or.inr (Or.inl ⟨_, d39, rfl, rfl⟩)) d41 d43 rfl (by decide +kernel) (Or.inl ⟨rfl, rfl⟩) (by decide +kernel) (by decide) (by decide) ?_
  refine in_arr hG.1 (n := 24) (fty := .int) hp rfl d46 (Or.inr (Or.inl ⟨_, d47, rfl, rfl⟩)) d49 d51 rfl (by decide +kernel) (Or.inl ⟨rfl, rfl⟩) (by decide +kernel) (by decide) (by decide) ?_
  refine in_arr hG.1 (n := 200) (fty := .int) hp rfl d54 (Or.inr (Or.inr ⟨_, d55, rfl, rfl⟩)) d58 d60 rfl (by decide +kernel) (Or.inl ⟨rfl, rfl⟩) (by decide +kernel) (by decide) (by decide) ?_
  refine in_arr hG.1 (n := 200) (fty := .int) hp rfl d63 (Or.inr (Or.inr ⟨_, d64, rfl, rfl⟩)) d67 d69 rfl (by decide +kernel) (Or.inl ⟨rfl, rfl⟩) (by decide +kernel) (by decide) (by decide) ?_
  refine in_arr hG.1 (n := 200) (fty := .int) hp rfl d72 (Or.inr (Or.inr ⟨_, d73, rfl, rfl⟩)) d76 d78 rfl (by decide +kernel) (Or.inl ⟨rfl, rfl⟩) (by decide +kernel) (by decide) (by decide) ?_
  refine in_arr hG.1 (n := 200) (fty := .int) hp rfl d81 (Or.inr (Or.inr ⟨_, d82, rfl, rfl⟩)) d85 d87 rfl (by decide +kernel) (Or.inl ⟨rfl, rfl⟩) (by decide +kernel) (by decide) (by decide) ?_
  refine in_arr hG.1 (n := 200) (fty := .int) hp rfl d90 (Or.inr (Or.inr ⟨_, d91, rfl, rfl⟩)) d94 d96 rfl (by decide +kernel) (Or.inl ⟨rfl, rfl⟩) (by decide +kernel) (by decide) (by decide) ?_
  refine in_arr hG.1 (n := 20) (fty := .int) hp rfl d99 (Or.inr (Or.inl ⟨_, d100, rfl, rfl⟩)) d102 d104 rfl (by decide +kernel) (Or.inl ⟨rfl, rfl⟩) (by decide +kernel) (by decide) (by decide) ?_
  refine in_arr hG.1 (n := 20) (fty := .int) hp rfl d107 (Or.inr (Or.inl ⟨_, d108, rfl, rfl⟩)) d110 d112 rfl (by decide +kernel) (Or.inl ⟨rfl, rfl⟩) (by decide +kernel) (by decide) (by decide) ?_
  refine in_arr hG.1 (n := 20) (fty := .int) hp rfl d115 (Or.inr (Or.inl ⟨_, d116, rfl, rfl⟩)) d118 d120 rfl (by decide +kernel) (Or.inl ⟨rfl, rfl⟩) (by decide +kernel) (by decide) (by decide) ?_
  refine in_arr hG.1 (n := 20) (fty := .int) hp rfl d123 (Or.inr (Or.inl ⟨_, d124, rfl, rfl⟩)) d126 d128 rfl (by decide +kernel) (Or.inl ⟨rfl, rfl⟩) (by decide +kernel) (by decide) (by decide) ?_
  refine in_arr hG.1 (n := 20) (fty := .int) hp rfl d131 (Or.inr (Or.inl ⟨_, d132, rfl, rfl⟩)) d134 d136 rfl (by decide +kernel) (Or.inl ⟨rfl, rfl⟩) (by decide +kernel) (by decide) (by decide) ?_
  refine in_arr hG.1 (n := 20) (fty := .int) hp rfl d139 (Or.inr (Or.inl ⟨_, d140, rfl, rfl⟩)) d142 d144 rfl (by decide +kernel) (Or.inl ⟨rfl, rfl⟩) (by decide +kernel) (by decide) (by decide) ?_
  refine in_arr hG.1 (n := 20) (fty := .int) hp rfl d147 (Or.inr (Or.inl ⟨_, d148, rfl, rfl⟩)) d150 d152 rfl (by decide +kernel) (Or.inl ⟨rfl, rfl⟩) (by decide +kernel) (by decide) (by decide) ?_
  refine in_arr hG.1 (n := 20) (fty := .boolean) hp rfl d155 (Or.inr (Or.inl ⟨_, d156, rfl, rfl⟩)) d158 d160 rfl (by decide +kernel) (Or.inr ⟨rfl, rfl⟩) (by decide +kernel) (by decide) (by decide) ?_
  refine in_arr hG.1 (n := 100) (fty := .int) hp rfl d163 (Or.inr (Or.inl ⟨_, d164, rfl, rfl⟩)) d166 d168 rfl (by decide +kernel) (Or.inl ⟨rfl, rfl⟩) (by decide +kernel) (by decide) (by decide) ?_
  refine in_arr hG.1 (n := 4096) (fty := .int) hp rfl d171 (Or.inr (Or.inr ⟨_, d172, rfl, rfl⟩)) d175 d177 rfl (by decide +kernel) (Or.inl ⟨rfl, rfl⟩) (by decide +kernel) (by decide) (by decide) ?_
  refine in_arr hG.1 (n := 4096) (fty := .int) hp rfl d180 (Or.inr (Or.inr ⟨_, d181, rfl, rfl⟩)) d184 d186 rfl (by decide +kernel) (Or.inl ⟨rfl, rfl⟩) (by decide +kernel) (by decide) (by decide) ?_
  refine in_arr hG.1 (n := 20) (fty := .boolean) hp rfl d189 (Or.inr (Or.inl ⟨_, d190, rfl, rfl⟩)) d192 d194 rfl (by decide +kernel) (Or.inr ⟨rfl, rfl⟩) (by decide +kernel) (by decide) (by decide) ?_
  refine in_arr hG.1 (n := 160) (fty := .int) hp rfl d197 (Or.inr (Or.inr ⟨_, d198, rfl, rfl⟩)) d201 d203 rfl (by decide +kernel) (Or.inl ⟨rfl, rfl⟩) (by decide +kernel) (by decide) (by decide) ?_
  refine in_arr hG.1 (n := 420) (fty := .int) hp rfl d206 (Or.inr (Or.inr ⟨_, d207, rfl, rfl⟩)) d210 d212 rfl (by decide +kernel) (Or.inl ⟨rfl, rfl⟩) (by decide +kernel) (by decide) (by decide) ?_
  refine in_arr hG.1 (n := 8400) (fty := .int) hp rfl d215 (Or.inr (Or.inr ⟨_, d216, rfl, rfl⟩)) d219 d221 rfl (by decide +kernel) (Or.inl ⟨rfl, rfl⟩) (by decide +kernel) (by decide) (by decide) ?_
  refine in_arr hG.1 (n := 20) (fty := .int) hp rfl d224 (Or.inr (Or.inl ⟨_, d225, rfl, rfl⟩)) d227 d229 rfl (by decide +kernel) (Or.inl ⟨rfl, rfl⟩) (by decide +kernel) (by decide) (by decide) ?_
  refine in_arr hG.1 (n := 20) (fty := .int) hp rfl d232 (Or.inr (Or.inl ⟨_, d233, rfl, rfl⟩)) d235 d237 rfl (by decide +kernel) (Or.inl ⟨rfl, rfl⟩) (by decide +kernel) (by decide) (by decide) ?_
  refine in_arr hG.1 (n := 20) (fty := .int) hp rfl d240 (Or.inr (Or.inl ⟨_, d241, rfl, rfl⟩)) d243 d245 rfl (by decide +kernel) (Or.inl ⟨rfl, rfl⟩) (by decide +kernel) (by decide) (by decide) ?_
  refine in_arr hG.1 (n := 20) (fty := .int) hp rfl d248 (Or.inr (Or.inl ⟨_, d249, rfl, rfl⟩)) d251 d253 rfl (by decide +kernel) (Or.inl ⟨rfl, rfl⟩) (by decide +kernel) (by decide) (by decide) ?_
  refine in_arr hG.1 (n := 128) (fty := .int) hp rfl d256 (Or.inr (Or.inr ⟨_, d257, rfl, rfl⟩)) d260 d262 rfl (by decide +kernel) (Or.inl ⟨rfl, rfl⟩) (by decide +kernel) (by decide) (by decide) ?_
  refine in_arr hG.1 (n := 200) (fty := .int) hp rfl d265 (Or.inr (Or.inr ⟨_, d266, rfl, rfl⟩)) d269 d271 rfl (by decide +kernel) (Or.inl ⟨rfl, rfl⟩) (by decide +kernel) (by decide) (by decide) ?_
  refine in_arr hG.1 (n := 480) (fty := .int) hp rfl d274 (Or.inr (Or.inr ⟨_, d275, rfl, rfl⟩)) d278 d280 rfl (by decide +kernel) (Or.inl ⟨rfl, rfl⟩) (by decide +kernel) (by decide) (by decide) ?_
  refine in_arr hG.1 (n := 20) (fty := .int) hp rfl d283 (Or.inr (Or.inl ⟨_, d284, rfl, rfl⟩)) d286 d288 rfl (by decide +kernel) (Or.inl ⟨rfl, rfl⟩) (by decide +kernel) (by decide) (by decide) ?_
  refine in_arr hG.1 (n := 24) (fty := .int) hp rfl d291 (Or.inr (Or.inl ⟨_, d292, rfl, rfl⟩)) d294 d296 rfl (by decide +kernel) (Or.inl ⟨rfl, rfl⟩) (by decide +kernel) (by decide) (by decide) ?_
  refine in_arr hG.1 (n := 480) (fty := .int) hp rfl d299 (Or.inr (Or.inr ⟨_, d300, rfl, rfl⟩)) d303 d305 rfl (by decide +kernel) (Or.inl ⟨rfl, rfl⟩) (by decide +kernel) (by decide) (by decide) ?_
  refine in_arr hG.1 (n := 480) (fty := .boolean) hp rfl d308 (Or.inr (Or.inr ⟨_, d309, rfl, rfl⟩)) d312 d314 rfl (by decide +kernel) (Or.inr ⟨rfl, rfl⟩) (by decide +kernel) (by decide) (by decide) ?_
  refine in_arr hG.1 (n := 480) (fty := .int) hp rfl d317 (Or.inr (Or.inr ⟨_, d318, rfl, rfl⟩)) d321 d323 rfl (by decide +kernel) (Or.inl ⟨rfl, rfl⟩) (by decide +kernel) (by decide) (by decide) ?_
  refine in_arr hG.1 (n := 20) (fty := .int) hp rfl d326 (Or.inr (Or.inl ⟨_, d327, rfl, rfl⟩)) d329 d331 rfl (by decide +kernel) (Or.inl ⟨rfl, rfl⟩) (by decide +kernel) (by decide) (by decide) ?_
  refine in_arr hG.1 (n := 24) (fty := .int) hp rfl d334 (Or.inr (Or.inl ⟨_, d335, rfl, rfl⟩)) d337 d339 rfl (by decide +kernel) (Or.inl ⟨rfl, rfl⟩) (by decide +kernel) (by decide) (by decide) ?_
  refine in_arr hG.1 (n := 20) (fty := .int) hp rfl d342 (Or.inr (Or.inl ⟨_, d343, rfl, rfl⟩)) d345 d347 rfl (by decide +kernel) (Or.inl ⟨rfl, rfl⟩) (by decide +kernel) (by decide) (by decide) ?_
  refine in_arr hG.1 (n := 9) (fty := .int) hp rfl d350 (Or.inr (Or.inl ⟨_, d351, rfl, rfl⟩)) d353 d355 rfl (by decide +kernel) (Or.inl ⟨rfl, rfl⟩) (by decide +kernel) (by decide) (by decide) ?_
  refine in_arr hG.1 (n := 24) (fty := .int) hp rfl d358 (Or.inr (Or.inl ⟨_, d359, rfl, rfl⟩)) d361 d363 rfl (by decide +kernel) (Or.inl ⟨rfl, rfl⟩) (by decide +kernel) (by decide) (by decide) ?_
  refine in_arr hG.1 (n := 8) (fty := .int) hp rfl d366 (Or.inr (Or.inl ⟨_, d367, rfl, rfl⟩)) d369 d371 rfl (by decide +kernel) (Or.inl ⟨rfl, rfl⟩) (by decide +kernel) (by decide) (by decide) ?_
  refine in_arr hG.1 (n := 8) (fty := .int) hp rfl d374 (Or.inr (Or.inl ⟨_, d375, rfl, rfl⟩)) d377 d379 rfl (by decide +kernel) (Or.inl ⟨rfl, rfl⟩) (by decide +kernel) (by decide) (by decide) ?_
  refine in_arr hG.1 (n := 8) (fty := .int) hp rfl d382 (Or.inr (Or.inl ⟨_, d383, rfl, rfl⟩)) d385 d387 rfl (by decide +kernel) (Or.inl ⟨rfl, rfl⟩) (by decide +kernel) (by decide) (by decide) ?_
  refine in_arr hG.1 (n := 8) (fty := .int) hp rfl d390 (Or.inr (Or.inl ⟨_, d391, rfl, rfl⟩)) d393 d395 rfl (by decide +kernel) (Or.inl ⟨rfl, rfl⟩) (by decide +kernel) (by decide) (by decide) ?_
  refine in_arr hG.1 (n := 10) (fty := .int) hp rfl d398 (Or.inr (Or.inl ⟨_, d399, rfl, rfl⟩)) d401 d403 rfl (by decide +kernel) (Or.inl ⟨rfl, rfl⟩) (by decide +kernel) (by decide) (by decide) ?_
  refine in_arr hG.1 (n := 5) (fty := .int) hp rfl d406 (Or.inl ⟨_, d407, rfl, rfl⟩) d408 d410 rfl (by decide +kernel) (Or.inl ⟨rfl, rfl⟩) (by decide +kernel) (by decide) (by decide) ?_
  refine in_arr hG.1 (n := 20) (fty := .int) hp rfl d413 (Or.inr (Or.inl ⟨_, d414, rfl, rfl⟩)) d416 d418 rfl (by decide +kernel) (Or.inl ⟨rfl, rfl⟩) (by decide +kernel) (by decide) (by decide) ?_
  refine in_arr hG.1 (n := 480) (fty := .int) hp rfl d421 (Or.inr (Or.inr ⟨_, d422, rfl, rfl⟩)) d425 d427 rfl (by decide +kernel) (Or.inl ⟨rfl, rfl⟩) (by decide +kernel) (by decide) (by decide) ?_
  refine in_arr hG.1 (n := 40) (fty := .int) hp rfl d430 (Or.inr (Or.inl ⟨_, d431, rfl, rfl⟩)) d433 d435 rfl (by decide +kernel) (Or.inl ⟨rfl, rfl⟩) (by decide +kernel) (by decide) (by decide) ?_
  refine in_arr hG.1 (n := 40) (fty := .int) hp rfl d438 (Or.inr (Or.inl ⟨_, d439, rfl, rfl⟩)) d441 d443 rfl (by decide +kernel) (Or.inl ⟨rfl, rfl⟩) (by decide +kernel) (by decide) (by decide) ?_
  refine in_arr hG.1 (n := 40) (fty := .int) hp rfl d446 (Or.inr (Or.inl ⟨_, d447, rfl, rfl⟩)) d449 d451 rfl (by decide +kernel) (Or.inl ⟨rfl, rfl⟩) (by decide +kernel) (by decide) (by decide) ?_
  refine in_arr hG.1 (n := 40) (fty := .int) hp rfl d454 (Or.inr (Or.inl ⟨_, d455, rfl, rfl⟩)) d457 d459 rfl (by decide +kernel) (Or.inl ⟨rfl, rfl⟩) (by decide +kernel) (by decide) (by decide) ?_
  refine in_arr hG.1 (n := 40) (fty := .int) hp rfl d462 (Or.inr (Or.inl ⟨_, d463, rfl, rfl⟩)) d465 d467 rfl (by decide +kernel) (Or.inl ⟨rfl, rfl⟩) (by decide +kernel) (by decide) (by decide) ?_
  refine in_arr hG.1 (n := 40) (fty := .int) hp rfl d470 (Or.inr (Or.inl ⟨_, d471, rfl, rfl⟩)) d473 d475 rfl (by decide +kernel) (Or.inl ⟨rfl, rfl⟩) (by decide +kernel) (by decide) (by decide) ?_
  refine in_arr hG.1 (n := 20) (fty := .int) hp rfl d478 (Or.inr (Or.inl ⟨_, d479, rfl, rfl⟩)) d481 d483 rfl (by decide +kernel) (Or.inl ⟨rfl, rfl⟩) (by decide +kernel) (by decide) (by decide) ?_
  refine in_arr hG.1 (n := 60) (fty := .int) hp rfl d486 (Or.inr (Or.inl ⟨_, d487, rfl, rfl⟩)) d489 d491 rfl (by decide +kernel) (Or.inl ⟨rfl, rfl⟩) (by decide +kernel) (by decide) (by decide) ?_
  refine in_arr hG.1 (n := 60) (fty := .int) hp rfl d494 (Or.inr (Or.inl ⟨_, d495, rfl, rfl⟩)) d497 d499 rfl (by decide +kernel) (Or.inl ⟨rfl, rfl⟩) (by decide +kernel) (by decide) (by decide) ?_
  refine in_arr hG.1 (n := 60) (fty := .int) hp rfl d502 (Or.inr (Or.inl ⟨_, d503, rfl, rfl⟩)) d505 d507 rfl (by decide +kernel) (Or.inl ⟨rfl, rfl⟩) (by decide +kernel) (by decide) (by decide) ?_
  refine in_arr hG.1 (n := 60) (fty := .int) hp rfl d510 (Or.inr (Or.inl ⟨_, d511, rfl, rfl⟩)) d513 d515 rfl (by decide +kernel) (Or.inl ⟨rfl, rfl⟩) (by decide +kernel) (by decide) (by decide) ?_
  refine in_arr hG.1 (n := 5) (fty := .int) hp rfl d518 (Or.inl ⟨_, d519, rfl, rfl⟩) d520 d522 rfl (by decide +kernel) (Or.inl ⟨rfl, rfl⟩) (by decide +kernel) (by decide) (by decide) ?_
  refine in_arr hG.1 (n := 60) (fty := .int) hp rfl d525 (Or.inr (Or.inl ⟨_, d526, rfl, rfl⟩)) d528 d530 rfl (by decide +kernel) (Or.inl ⟨rfl, rfl⟩) (by decide +kernel) (by decide) (by decide) ?_
  refine in_arr hG.1 (n := 60) (fty := .int) hp rfl d533 (Or.inr (Or.inl ⟨_, d534, rfl, rfl⟩)) d536 d538 rfl (by decide +kernel) (Or.inl ⟨rfl, rfl⟩) (by decide +kernel) (by decide) (by decide) ?_
  refine in_arr hG.1 (n := 60) (fty := .int) hp rfl d541 (Or.inr (Or.inl ⟨_, d542, rfl, rfl⟩)) d544 d546 rfl (by decide +kernel) (Or.inl ⟨rfl, rfl⟩) (by decide +kernel) (by decide) (by decide) ?_
  refine in_arr hG.1 (n := 60) (fty := .boolean) hp rfl d549 (Or.inr (Or.inl ⟨_, d550, rfl, rfl⟩)) d552 d554 rfl (by decide +kernel) (Or.inr ⟨rfl, rfl⟩) (by decide +kernel) (by decide) (by decide) ?_
  refine in_arr hG.1 (n := 20) (fty := .int) hp rfl d557 (Or.inr (Or.inl ⟨_, d558, rfl, rfl⟩)) d560 d562 rfl (by decide +kernel) (Or.inl ⟨rfl, rfl⟩) (by decide +kernel) (by decide) (by decide) ?_
  refine in_arr hG.1 (n := 24) (fty := .int) hp rfl d565 (Or.inr (Or.inl ⟨_, d566, rfl, rfl⟩)) d568 d570 rfl (by decide +kernel) (Or.inl ⟨rfl, rfl⟩) (by decide +kernel) (by decide) (by decide) ?_
  refine in_arr hG.1 (n := 24) (fty := .int) hp rfl d573 (Or.inr (Or.inl ⟨_, d574, rfl, rfl⟩)) d576 d578 rfl (by decide +kernel) (Or.inl ⟨rfl, rfl⟩) (by decide +kernel) (by decide) (by decide) ?_
  refine in_arr hG.1 (n := 24) (fty := .boolean) hp rfl d581 (Or.inr (Or.inl ⟨_, d582, rfl, rfl⟩)) d584 d586 rfl (by decide +kernel) (Or.inr ⟨rfl, rfl⟩) (by decide +kernel) (by decide) (by decide) ?_
  refine in_arr hG.1 (n := 4) (fty := .int) hp rfl d589 (Or.inl ⟨_, d590, rfl, rfl⟩) d591 d593 rfl (by decide +kernel) (Or.inl ⟨rfl, rfl⟩) (by decide +kernel) (by decide) (by decide) ?_
  refine in_arr hG.1 (n := 4) (fty := .int) hp rfl d596 (Or.inl ⟨_, d597, rfl, rfl⟩) d598 d600 rfl (by decide +kernel) (Or.inl ⟨rfl, rfl⟩) (by decide +kernel) (by decide) (by decide) ?_
  refine in_arr hG.1 (n := 40) (fty := .int) hp rfl d603 (Or.inr (Or.inl ⟨_, d604, rfl, rfl⟩)) d606 d608 rfl (by decide +kernel) (Or.inl ⟨rfl, rfl⟩) (by decide +kernel) (by decide) (by decide) ?_
  refine in_arr hG.1 (n := 40) (fty := .int) hp rfl d611 (Or.inr (Or.inl ⟨_, d612, rfl, rfl⟩)) d614 d616 rfl (by decide +kernel) (Or.inl ⟨rfl, rfl⟩) (by decide +kernel) (by decide) (by decide) ?_
  refine in_arr hG.1 (n := 48) (fty := .int) hp rfl d619 (Or.inr (Or.inl ⟨_, d620, rfl, rfl⟩)) d622 d624 rfl (by decide +kernel) (Or.inl ⟨rfl, rfl⟩) (by decide +kernel) (by decide) (by decide) ?_
  refine in_psh hG.1 (Or.inl ⟨_, d627, rfl, rfl⟩) (go_of hG.1 (st_of d628 rfl ?_))
  refine ⟨by decide, ?_⟩
  show G 629 [.ref 0, .int (nI 0)] [] (iH [] 12 _) _ _
  have z0 : (fun _ => 0 : Nat → Int32) = gM 0 := by
    funext j
    unfold gM
    rw [if_neg (Nat.not_lt_zero j), if_neg (by omega)]
  have z1 : (fun _ => 0 : Nat → Int32) = hM 0 := by
    funext j
    unfold hM
    rw [if_neg (Nat.not_lt_zero j)]
  refine (congrArg (fun z => G 629 [.ref 0, .int (nI 0)] [] (iH [] 12 z) _ _) (iF_self (j := 0) (c := .inl (.int, 240, .inl (gM 0))) ?_)).mp ?_
  · rw [← z0]
    rfl
  refine in_loop1 hG.1 rfl ?_ ?_ 120 0 rfl
  · rw [← z0]
    rfl
  refine in_psh hG.1 (Or.inl ⟨_, d660, rfl, rfl⟩) (go_of hG.1 (st_of d661 rfl ?_))
  refine ⟨by decide, ?_⟩
  show G 662 [.ref 0, .int (nI 0)] [] (iH [] 12 _) _ _
  refine (congrArg (fun z => G 662 [.ref 0, .int (nI 0)] [] (iH [] 12 z) _ _) (iF_self (j := 62) (c := .inl (.int, 5, .inl (hM 0))) ?_)).mp ?_
  · rw [← z1]
    rfl
  refine in_loop2 hG.1 rfl ?_ ?_ 5 0 rfl
  · rw [← z1]
    rfl
  refine in_ret hG.1 d681 rfl ?_
  refine (congrArg (fun z => k none z) (?_ : _ = _)).mpr hk
  rfl
