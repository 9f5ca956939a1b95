/-! the classes: types, names apart, words; and what their pool entries mean, by places of the tables -/
set_option maxRecDepth 100000 in
theorem inX0 : ∀ w ∈ wsX00, w ∈ mj_tw := by
  have h1 : wsX00 = ([218, 220, 222, 224, 226, 228, 230, 232, 234, 236] : List Nat).filterMap (fun i => lw_tbl[i]?) := by decide +kernel
  have h2 : wsX00.all goodWord = true := by decide +kernel
  intro w hw
  refine mj_tw_in ?_ (List.all_eq_true.mp h2 w hw)
  rw [h1] at hw
  obtain ⟨i, -, hi⟩ := List.mem_filterMap.mp hw
  exact List.mem_of_getElem? hi
set_option maxRecDepth 100000 in
theorem inX1 : ∀ w ∈ wsX10, w ∈ mj_tw := by
  have h1 : wsX10 = ([277, 279, 281, 283, 285, 287, 289, 291, 293, 295, 297, 299, 301, 303, 305, 307, 309, 311] : List Nat).filterMap (fun i => lw_tbl[i]?) := by decide +kernel
  have h2 : wsX10.all goodWord = true := by decide +kernel
  intro w hw
  refine mj_tw_in ?_ (List.all_eq_true.mp h2 w hw)
  rw [h1] at hw
  obtain ⟨i, -, hi⟩ := List.mem_filterMap.mp hw
  exact List.mem_of_getElem? hi
set_option maxRecDepth 100000 in
theorem inX2 : ∀ w ∈ wsX20, w ∈ mj_tw := by
  have h1 : wsX20 = ([143, 145, 147, 149, 151] : List Nat).filterMap (fun i => lw_tbl[i]?) := by decide +kernel
  have h2 : wsX20.all goodWord = true := by decide +kernel
  intro w hw
  refine mj_tw_in ?_ (List.all_eq_true.mp h2 w hw)
  rw [h1] at hw
  obtain ⟨i, -, hi⟩ := List.mem_filterMap.mp hw
  exact List.mem_of_getElem? hi
set_option maxRecDepth 100000 in
theorem inX3 : ∀ w ∈ wsX30, w ∈ mj_tw := by
  have h1 : wsX30 = ([611, 613, 615, 617, 619, 621] : List Nat).filterMap (fun i => lw_tbl[i]?) := by decide +kernel
  have h2 : wsX30.all goodWord = true := by decide +kernel
  intro w hw
  refine mj_tw_in ?_ (List.all_eq_true.mp h2 w hw)
  rw [h1] at hw
  obtain ⟨i, -, hi⟩ := List.mem_filterMap.mp hw
  exact List.mem_of_getElem? hi
set_option maxRecDepth 100000 in
theorem inX4 : ∀ w ∈ wsX40, w ∈ mj_tw := by
  have h1 : wsX40 = ([546, 548, 550, 552, 554, 556, 558, 560, 562, 564] : List Nat).filterMap (fun i => lw_tbl[i]?) := by decide +kernel
  have h2 : wsX40.all goodWord = true := by decide +kernel
  intro w hw
  refine mj_tw_in ?_ (List.all_eq_true.mp h2 w hw)
  rw [h1] at hw
  obtain ⟨i, -, hi⟩ := List.mem_filterMap.mp hw
  exact List.mem_of_getElem? hi
set_option maxRecDepth 100000 in
theorem inX5 : ∀ w ∈ wsX50, w ∈ mj_tw := by
  have h1 : wsX50 = ([353, 355, 357, 359, 361, 363, 365, 367, 369, 371, 373] : List Nat).filterMap (fun i => lw_tbl[i]?) := by decide +kernel
  have h2 : wsX50.all goodWord = true := by decide +kernel
  intro w hw
  refine mj_tw_in ?_ (List.all_eq_true.mp h2 w hw)
  rw [h1] at hw
  obtain ⟨i, -, hi⟩ := List.mem_filterMap.mp hw
  exact List.mem_of_getElem? hi
set_option maxRecDepth 100000 in
theorem inX6 : ∀ w ∈ wsX60, w ∈ mj_tw := by
  have h1 : wsX60 = ([457, 459, 461, 463, 465, 467, 469, 471, 473, 475, 477, 479] : List Nat).filterMap (fun i => lw_tbl[i]?) := by decide +kernel
  have h2 : wsX60.all goodWord = true := by decide +kernel
  intro w hw
  refine mj_tw_in ?_ (List.all_eq_true.mp h2 w hw)
  rw [h1] at hw
  obtain ⟨i, -, hi⟩ := List.mem_filterMap.mp hw
  exact List.mem_of_getElem? hi
set_option maxRecDepth 100000 in
theorem inX7 : ∀ w ∈ wsX70, w ∈ mj_tw := by
  have h1 : wsX70 = ([582, 584, 586, 588, 590, 592, 594] : List Nat).filterMap (fun i => lw_tbl[i]?) := by decide +kernel
  have h2 : wsX70.all goodWord = true := by decide +kernel
  intro w hw
  refine mj_tw_in ?_ (List.all_eq_true.mp h2 w hw)
  rw [h1] at hw
  obtain ⟨i, -, hi⟩ := List.mem_filterMap.mp hw
  exact List.mem_of_getElem? hi
set_option maxRecDepth 100000 in
theorem inX8 : ∀ w ∈ wsX80, w ∈ mj_tw := by
  have h1 : wsX80 = ([502, 504, 506, 508, 510, 512, 514, 516, 518, 520, 522] : List Nat).filterMap (fun i => lw_tbl[i]?) := by decide +kernel
  have h2 : wsX80.all goodWord = true := by decide +kernel
  intro w hw
  refine mj_tw_in ?_ (List.all_eq_true.mp h2 w hw)
  rw [h1] at hw
  obtain ⟨i, -, hi⟩ := List.mem_filterMap.mp hw
  exact List.mem_of_getElem? hi
set_option maxRecDepth 100000 in
theorem inX9 : ∀ w ∈ wsX90, w ∈ mj_tw := by
  have h1 : wsX90 = ([178, 180, 182, 184, 186, 188, 190, 192, 194, 196] : List Nat).filterMap (fun i => lw_tbl[i]?) := by decide +kernel
  have h2 : wsX90.all goodWord = true := by decide +kernel
  intro w hw
  refine mj_tw_in ?_ (List.all_eq_true.mp h2 w hw)
  rw [h1] at hw
  obtain ⟨i, -, hi⟩ := List.mem_filterMap.mp hw
  exact List.mem_of_getElem? hi
set_option maxRecDepth 100000 in
theorem inX10 : ∀ w ∈ wsX100, w ∈ mj_tw := by
  have h1 : wsX100 = ([403, 405, 407, 409, 411, 413, 415, 417, 419, 421, 423, 425, 427, 429, 431, 433] : List Nat).filterMap (fun i => lw_tbl[i]?) := by decide +kernel
  have h2 : wsX100.all goodWord = true := by decide +kernel
  intro w hw
  refine mj_tw_in ?_ (List.all_eq_true.mp h2 w hw)
  rw [h1] at hw
  obtain ⟨i, -, hi⟩ := List.mem_filterMap.mp hw
  exact List.mem_of_getElem? hi
set_option maxRecDepth 100000 in
theorem inX11 : ∀ w ∈ wsX110, w ∈ mj_tw := by
  have h1 : wsX110 = ([636, 638, 640, 642, 644, 646, 648, 650, 652, 654, 656, 658] : List Nat).filterMap (fun i => lw_tbl[i]?) := by decide +kernel
  have h2 : wsX110.all goodWord = true := by decide +kernel
  intro w hw
  refine mj_tw_in ?_ (List.all_eq_true.mp h2 w hw)
  rw [h1] at hw
  obtain ⟨i, -, hi⟩ := List.mem_filterMap.mp hw
  exact List.mem_of_getElem? hi
set_option maxRecDepth 100000 in
theorem inX12 : ∀ w ∈ wsX120, w ∈ mj_tw := by
  have h1 : wsX120 = ([1511, 1513, 1515, 1517, 1519, 1521, 1523, 1525, 1527, 1529, 1531, 1533, 1535, 1537, 1539, 1541, 1543, 1545, 1547, 1549, 1551, 1553, 1555, 1557, 1559, 1561, 1563, 1565, 1567, 1569, 1571, 1573, 1575, 1577, 1579, 1581, 1583, 1585, 1587, 1589, 1591, 1593, 1595, 1597, 1599, 1601, 1603, 1605, 1607, 1609, 1611, 1613, 1615, 1617, 1619, 1621, 1623, 1625, 1627, 1629, 1631, 1633, 1635, 1637, 1639, 1641, 1643, 1645, 1647, 1649, 1651, 1653, 1655, 1657, 1659, 1661, 1663, 1665, 1667, 1669, 1671, 1673, 1675, 1677, 1679, 1681, 1683, 1685, 1687, 1689, 1691, 1693, 1695, 1697, 1699, 1701, 1703, 1705, 1707, 1709] : List Nat).filterMap (fun i => lw_tbl[i]?) := by decide +kernel
  have h2 : wsX120.all goodWord = true := by decide +kernel
  intro w hw
  refine mj_tw_in ?_ (List.all_eq_true.mp h2 w hw)
  rw [h1] at hw
  obtain ⟨i, -, hi⟩ := List.mem_filterMap.mp hw
  exact List.mem_of_getElem? hi
theorem mj_cls {ci : Nat} {C : String} {Tt : u_T} {N : Nat} (h : vwCl[ci]? = some (C, Tt, N)) : ∃ ty : Nat → FieldType, (∀ k, k < N → parseFieldDescriptor (Tt k).2.2.1 = some (ty k)) ∧ (∀ a, a < N → ∀ b, b < N → a ≠ b → (Tt a).2.1 ≠ (Tt b).2.1) ∧ (∀ w ∈ u_ws C Tt N, w ∈ mj_tw) ∧ ∀ k, k < N → ty k ≠ .float := by
  match ci, h with
  | 0, h => cases h; exact ⟨tyX0, tyX0_ok, nmX0, inX0, by decide +kernel⟩
  | 1, h => cases h; exact ⟨tyX1, tyX1_ok, nmX1, inX1, by decide +kernel⟩
  | 2, h => cases h; exact ⟨tyX2, tyX2_ok, nmX2, inX2, by decide +kernel⟩
  | 3, h => cases h; exact ⟨tyX3, tyX3_ok, nmX3, inX3, by decide +kernel⟩
  | 4, h => cases h; exact ⟨tyX4, tyX4_ok, nmX4, inX4, by decide +kernel⟩
  | 5, h => cases h; exact ⟨tyX5, tyX5_ok, nmX5, inX5, by decide +kernel⟩
  | 6, h => cases h; exact ⟨tyX6, tyX6_ok, nmX6, inX6, by decide +kernel⟩
  | 7, h => cases h; exact ⟨tyX7, tyX7_ok, nmX7, inX7, by decide +kernel⟩
  | 8, h => cases h; exact ⟨tyX8, tyX8_ok, nmX8, inX8, by decide +kernel⟩
  | 9, h => cases h; exact ⟨tyX9, tyX9_ok, nmX9, inX9, by decide +kernel⟩
  | 10, h => cases h; exact ⟨tyX10, tyX10_ok, nmX10, inX10, by decide +kernel⟩
  | 11, h => cases h; exact ⟨tyX11, tyX11_ok, nmX11, inX11, by decide +kernel⟩
  | 12, h => cases h; exact ⟨tyX12, tyX12_ok, nmX12, inX12, by decide +kernel⟩
  | n + 13, h => simp [vwCl] at h
def mj_FF (own : String) (i ci k : Nat) : Prop := ∃ (C : String) (Tt : u_T) (N : Nat), vwCl[ci]? = some (C, Tt, N) ∧ k < N ∧ (Tt k).1 = C ∧ (Cond.fieldLink own i C (Tt k).2.1 (Tt k).2.2.1 ∈ mj_tw ∨ ∃ host : String, Cond.fieldLinkNest own i C (Tt k).2.1 (Tt k).2.2.1 host ∈ lw_tbl)
def mj_ffb (own : String) (q : Nat × Nat × Nat × Nat) : Bool := match vwCl[q.2.1]?, lw_tbl[q.2.2.2]? with
  | some r, some w => decide (q.2.2.1 < r.2.2) && decide ((r.2.1 q.2.2.1).1 = r.1) && (decide (w = Cond.fieldLink own q.1 r.1 (r.2.1 q.2.2.1).2.1 (r.2.1 q.2.2.1).2.2.1) || decide (w = Cond.fieldLinkNest own q.1 r.1 (r.2.1 q.2.2.1).2.1 (r.2.1 q.2.2.1).2.2.1 "EveryChild"))
  | _, _ => false
theorem mj_ff_of {own : String} {q : Nat × Nat × Nat × Nat} (h : mj_ffb own q = true) : mj_FF own q.1 q.2.1 q.2.2.1 := by
  unfold mj_ffb at h
  split at h
  · next r w h1 h2 =>
    simp only [Bool.and_eq_true, Bool.or_eq_true, decide_eq_true_eq] at h
    obtain ⟨⟨h3, h4⟩, h5⟩ := h
    refine ⟨r.1, r.2.1, r.2.2, h1, h3, h4, ?_⟩
    rcases h5 with h5 | h5
    · subst h5; exact Or.inl (mj_tw_in (List.mem_of_getElem? h2) rfl)
    · subst h5; exact Or.inr ⟨_, List.mem_of_getElem? h2⟩
  · cases h
def mj_lk {α : Type} (l : List (Nat × α)) (i : Nat) : Option α := (l.find? fun q => q.1 == i).map Prod.snd
theorem mj_lk_mem {α : Type} {l : List (Nat × α)} {i : Nat} {a : α} (h : mj_lk l i = some a) : (i, a) ∈ l := by
  unfold mj_lk at h
  obtain ⟨q, h1, h2⟩ := Option.map_eq_some_iff.mp h
  have h3 := List.mem_of_find?_eq_some h1
  have h4 := List.find?_some h1
  simp only [beq_iff_eq] at h4
  rw [← h2, ← h4]
  exact h3
def mj_ft (l : List (Nat × Nat × Nat × Nat)) (i : Nat) : Option (Nat × Nat) := (mj_lk l i).map fun q => (q.1, q.2.1)
theorem mj_ft_ok {own : String} {l : List (Nat × Nat × Nat × Nat)} (h : l.all (mj_ffb own) = true) {i ci k : Nat} (hi : mj_ft l i = some (ci, k)) : mj_FF own i ci k := by
  unfold mj_ft at hi
  obtain ⟨q, h1, h2⟩ := Option.map_eq_some_iff.mp hi
  have h3 := mj_ff_of (List.all_eq_true.mp h _ (mj_lk_mem h1))
  cases h2
  exact h3
/-- what may be written: not final (or in the class's own constructor), and of which kind -/
def mj_PF (own : String) (ini : Bool) (i ci k : Nat) (b : Bool) : Prop := ∃ (C : String) (Tt : u_T) (N : Nat), vwCl[ci]? = some (C, Tt, N) ∧ k < N ∧ (Tt k).1 = C ∧ ((Tt k).2.2.2 = false ∧ (Cond.fieldLink own i C (Tt k).2.1 (Tt k).2.2.1 ∈ mj_tw ∨ ∃ host : String, Cond.fieldLinkNest own i C (Tt k).2.1 (Tt k).2.2.1 host ∈ lw_tbl) ∨ (Tt k).2.2.2 = true ∧ ini = true ∧ C = own ∧ Cond.fieldLink own i C (Tt k).2.1 (Tt k).2.2.1 ∈ mj_tw) ∧ (b = true ∧ parseFieldDescriptor (Tt k).2.2.1 = some .int ∨ b = false ∧ ((∃ n, parseFieldDescriptor (Tt k).2.2.1 = some (.object n)) ∨ ∃ t, parseFieldDescriptor (Tt k).2.2.1 = some (.array t)))
def mj_kd (ty : Option FieldType) (b : Bool) : Bool := match ty with
  | some .int => b
  | some (.object _) => !b
  | some (.array _) => !b
  | _ => false
def mj_pfb (own : String) (ini : Bool) (q : Nat × Nat × Nat × Nat × Bool) : Bool := mj_ffb own (q.1, q.2.1, q.2.2.1, q.2.2.2.1) && (match vwCl[q.2.1]?, lw_tbl[q.2.2.2.1]? with
  | some r, some w => (decide ((r.2.1 q.2.2.1).2.2.2 = false) || (ini && decide (r.1 = own) && decide (w = Cond.fieldLink own q.1 r.1 (r.2.1 q.2.2.1).2.1 (r.2.1 q.2.2.1).2.2.1))) && mj_kd (parseFieldDescriptor (r.2.1 q.2.2.1).2.2.1) q.2.2.2.2
  | _, _ => false)
theorem mj_pf_of {own : String} {ini : Bool} {q : Nat × Nat × Nat × Nat × Bool} (h : mj_pfb own ini q = true) : mj_PF own ini q.1 q.2.1 q.2.2.1 q.2.2.2.2 := by
  unfold mj_pfb at h
  rw [Bool.and_eq_true] at h
  obtain ⟨h0, h⟩ := h
  obtain ⟨C, Tt, N, g1, g2, g3, g4⟩ := mj_ff_of h0
  split at h
  · next r w h1 h2 =>
    dsimp only at g1 g2 g3 g4 h1
    cases h1.symm.trans g1
    simp only [Bool.and_eq_true, Bool.or_eq_true, decide_eq_true_eq] at h
    obtain ⟨h3, h4⟩ := h
    refine ⟨C, Tt, N, g1, g2, g3, ?_, ?_⟩
    · rcases h3 with h3 | ⟨⟨h3, h5⟩, h6⟩
      · exact Or.inl ⟨h3, g4⟩
      · cases hf : (Tt q.2.2.1).2.2.2 with
        | false => exact Or.inl ⟨rfl, g4⟩
        | true => subst h6; exact Or.inr ⟨rfl, h3, h5, mj_tw_in (List.mem_of_getElem? h2) rfl⟩
    · unfold mj_kd at h4
      split at h4
      · next h5 => exact Or.inl ⟨h4, h5⟩
      · next n h5 => exact Or.inr ⟨by simpa using h4, Or.inl ⟨n, h5⟩⟩
      · next t h5 => exact Or.inr ⟨by simpa using h4, Or.inr ⟨t, h5⟩⟩
      · cases h4
  · cases h
def mj_pt (l : List (Nat × Nat × Nat × Nat × Bool)) (i : Nat) : Option (Nat × Nat × Bool) := (mj_lk l i).map fun q => (q.1, q.2.1, q.2.2.2)
theorem mj_pt_ok {own : String} {ini : Bool} {l : List (Nat × Nat × Nat × Nat × Bool)} (h : l.all (mj_pfb own ini) = true) {i ci k : Nat} {b : Bool} (hi : mj_pt l i = some (ci, k, b)) : mj_PF own ini i ci k b := by
  unfold mj_pt at hi
  obtain ⟨q, h1, h2⟩ := Option.map_eq_some_iff.mp hi
  have h3 := mj_pf_of (List.all_eq_true.mp h _ (mj_lk_mem h1))
  cases h2
  exact h3
def mj_KF (own : String) (i : Nat) (v : Value) : Prop := (∃ x, v = .int x ∧ Cond.constant own i x ∈ mj_tw) ∨ ∃ x, v = .long x ∧ Cond.constantLong own i x ∈ mj_tw
def mj_kfb (own : String) (q : Nat × Value × Nat) : Bool := match q.2.1, lw_tbl[q.2.2]? with
  | .int x, some w => decide (w = Cond.constant own q.1 x)
  | .long x, some w => decide (w = Cond.constantLong own q.1 x)
  | _, _ => false
theorem mj_kf_of {own : String} {q : Nat × Value × Nat} (h : mj_kfb own q = true) : mj_KF own q.1 q.2.1 := by
  obtain ⟨i, v, pl⟩ := q
  unfold mj_kfb at h
  dsimp only at h ⊢
  split at h
  · next x w h2 => rw [decide_eq_true_eq] at h; subst h; exact Or.inl ⟨x, rfl, mj_tw_in (List.mem_of_getElem? h2) rfl⟩
  · next x w h2 => rw [decide_eq_true_eq] at h; subst h; exact Or.inr ⟨x, rfl, mj_tw_in (List.mem_of_getElem? h2) rfl⟩
  · cases h
def mj_kt (l : List (Nat × Value × Nat)) (i : Nat) : Option Value := (mj_lk l i).map fun q => q.1
theorem mj_kt_ok {own : String} {l : List (Nat × Value × Nat)} (h : l.all (mj_kfb own) = true) {i : Nat} {v : Value} (hi : mj_kt l i = some v) : mj_KF own i v := by
  unfold mj_kt at hi
  obtain ⟨q, h1, h2⟩ := Option.map_eq_some_iff.mp hi
  have h3 := mj_kf_of (List.all_eq_true.mp h _ (mj_lk_mem h1))
  cases h2
  exact h3
def mj_stn : Nat → String × String
  | 0 => ("EveryChild$Code", "LABELS")
  | 1 => ("EveryChild$Code", "USUAL")
  | _ => ("EveryChild$Yard", "PER_ROOM")
def flX0 : List (Nat × Nat × Nat × Nat) := [(49, 9, 5, 169), (52, 9, 6, 170), (59, 9, 7, 173), (61, 9, 8, 174), (45, 9, 9, 176), (41, 0, 0, 206), (9, 0, 1, 208), (15, 0, 2, 209), (18, 0, 3, 210), (21, 0, 4, 211), (25, 0, 5, 212), (29, 0, 6, 213), (32, 0, 7, 214), (35, 0, 8, 215), (64, 0, 9, 216)]
def plX0 : List (Nat × Nat × Nat × Nat × Bool) := [(52, 9, 6, 170, true), (61, 9, 8, 174, true), (45, 9, 9, 176, true), (41, 0, 0, 206, true), (64, 0, 9, 216, true)]
def qlX0 : List (Nat × Nat × Nat × Nat × Bool) := [(52, 9, 6, 170, true), (61, 9, 8, 174, true), (45, 9, 9, 176, true), (41, 0, 0, 206, true), (9, 0, 1, 208, false), (15, 0, 2, 209, false), (18, 0, 3, 210, false), (21, 0, 4, 211, false), (25, 0, 5, 212, false), (29, 0, 6, 213, false), (32, 0, 7, 214, false), (35, 0, 8, 215, false), (64, 0, 9, 216, true)]
def klX0 : List (Nat × Value × Nat) := [(101, .long 1000000, 751), (103, .int 1000000, 752), (104, .long (-1000000), 753), (106, .int (-1000000), 754)]
set_option maxRecDepth 100000 in
theorem flX0_ok : flX0.all (mj_ffb RX0) = true := by decide +kernel
set_option maxRecDepth 100000 in
theorem plX0_ok : plX0.all (mj_pfb RX0 false) = true := by decide +kernel
set_option maxRecDepth 100000 in
theorem qlX0_ok : qlX0.all (mj_pfb RX0 true) = true := by decide +kernel
set_option maxRecDepth 100000 in
theorem klX0_ok : klX0.all (mj_kfb RX0) = true := by decide +kernel
theorem FT_X0 : mj_ft flX0 49 = some (9, 5) ∧ mj_ft flX0 52 = some (9, 6) ∧ mj_ft flX0 59 = some (9, 7) ∧ mj_ft flX0 61 = some (9, 8) ∧ mj_ft flX0 45 = some (9, 9) ∧ mj_ft flX0 41 = some (0, 0) ∧ mj_ft flX0 9 = some (0, 1) ∧ mj_ft flX0 15 = some (0, 2) ∧ mj_ft flX0 18 = some (0, 3) ∧ mj_ft flX0 21 = some (0, 4) ∧ mj_ft flX0 25 = some (0, 5) ∧ mj_ft flX0 29 = some (0, 6) ∧ mj_ft flX0 32 = some (0, 7) ∧ mj_ft flX0 35 = some (0, 8) ∧ mj_ft flX0 64 = some (0, 9) := by and_intros <;> rfl
theorem PT_X0 : mj_pt plX0 52 = some (9, 6, true) ∧ mj_pt plX0 61 = some (9, 8, true) ∧ mj_pt plX0 45 = some (9, 9, true) ∧ mj_pt plX0 41 = some (0, 0, true) ∧ mj_pt plX0 64 = some (0, 9, true) := by and_intros <;> rfl
theorem QT_X0 : mj_pt qlX0 52 = some (9, 6, true) ∧ mj_pt qlX0 61 = some (9, 8, true) ∧ mj_pt qlX0 45 = some (9, 9, true) ∧ mj_pt qlX0 41 = some (0, 0, true) ∧ mj_pt qlX0 9 = some (0, 1, false) ∧ mj_pt qlX0 15 = some (0, 2, false) ∧ mj_pt qlX0 18 = some (0, 3, false) ∧ mj_pt qlX0 21 = some (0, 4, false) ∧ mj_pt qlX0 25 = some (0, 5, false) ∧ mj_pt qlX0 29 = some (0, 6, false) ∧ mj_pt qlX0 32 = some (0, 7, false) ∧ mj_pt qlX0 35 = some (0, 8, false) ∧ mj_pt qlX0 64 = some (0, 9, true) := by and_intros <;> rfl
theorem KT_X0 : mj_kt klX0 101 = some (.long 1000000) ∧ mj_kt klX0 103 = some (.int 1000000) ∧ mj_kt klX0 104 = some (.long (-1000000)) ∧ mj_kt klX0 106 = some (.int (-1000000)) := by and_intros <;> rfl
def flX1 : List (Nat × Nat × Nat × Nat) := [(54, 1, 0, 246), (64, 1, 1, 247), (9, 1, 2, 252), (15, 1, 3, 255), (18, 1, 4, 257), (21, 1, 5, 260), (24, 1, 6, 262), (68, 1, 7, 264), (27, 1, 8, 266), (30, 1, 9, 267), (33, 1, 10, 268), (36, 1, 11, 269), (39, 1, 12, 270), (71, 1, 13, 271), (42, 1, 14, 273), (45, 1, 15, 274), (48, 1, 16, 275), (51, 1, 17, 276)]
def plX1 : List (Nat × Nat × Nat × Nat × Bool) := [(64, 1, 1, 247, true), (68, 1, 7, 264, true), (71, 1, 13, 271, true)]
def qlX1 : List (Nat × Nat × Nat × Nat × Bool) := [(54, 1, 0, 246, false), (64, 1, 1, 247, true), (9, 1, 2, 252, false), (15, 1, 3, 255, false), (18, 1, 4, 257, false), (21, 1, 5, 260, false), (24, 1, 6, 262, false), (68, 1, 7, 264, true), (27, 1, 8, 266, false), (30, 1, 9, 267, false), (33, 1, 10, 268, false), (36, 1, 11, 269, false), (39, 1, 12, 270, false), (71, 1, 13, 271, true), (42, 1, 14, 273, false), (45, 1, 15, 274, false), (48, 1, 16, 275, false), (51, 1, 17, 276, false)]
def klX1 : List (Nat × Value × Nat) := [(91, .long (-1), 1269), (96, .long 1000, 1274), (114, .int (-2000000), 1334)]
set_option maxRecDepth 100000 in
theorem flX1_ok : flX1.all (mj_ffb RX1) = true := by decide +kernel
set_option maxRecDepth 100000 in
theorem plX1_ok : plX1.all (mj_pfb RX1 false) = true := by decide +kernel
set_option maxRecDepth 100000 in
theorem qlX1_ok : qlX1.all (mj_pfb RX1 true) = true := by decide +kernel
set_option maxRecDepth 100000 in
theorem klX1_ok : klX1.all (mj_kfb RX1) = true := by decide +kernel
theorem FT_X1 : mj_ft flX1 54 = some (1, 0) ∧ mj_ft flX1 64 = some (1, 1) ∧ mj_ft flX1 9 = some (1, 2) ∧ mj_ft flX1 15 = some (1, 3) ∧ mj_ft flX1 18 = some (1, 4) ∧ mj_ft flX1 21 = some (1, 5) ∧ mj_ft flX1 24 = some (1, 6) ∧ mj_ft flX1 68 = some (1, 7) ∧ mj_ft flX1 27 = some (1, 8) ∧ mj_ft flX1 30 = some (1, 9) ∧ mj_ft flX1 33 = some (1, 10) ∧ mj_ft flX1 36 = some (1, 11) ∧ mj_ft flX1 39 = some (1, 12) ∧ mj_ft flX1 71 = some (1, 13) ∧ mj_ft flX1 42 = some (1, 14) ∧ mj_ft flX1 45 = some (1, 15) ∧ mj_ft flX1 48 = some (1, 16) ∧ mj_ft flX1 51 = some (1, 17) := by and_intros <;> rfl
theorem PT_X1 : mj_pt plX1 64 = some (1, 1, true) ∧ mj_pt plX1 68 = some (1, 7, true) ∧ mj_pt plX1 71 = some (1, 13, true) := by and_intros <;> rfl
theorem QT_X1 : mj_pt qlX1 54 = some (1, 0, false) ∧ mj_pt qlX1 64 = some (1, 1, true) ∧ mj_pt qlX1 9 = some (1, 2, false) ∧ mj_pt qlX1 15 = some (1, 3, false) ∧ mj_pt qlX1 18 = some (1, 4, false) ∧ mj_pt qlX1 21 = some (1, 5, false) ∧ mj_pt qlX1 24 = some (1, 6, false) ∧ mj_pt qlX1 68 = some (1, 7, true) ∧ mj_pt qlX1 27 = some (1, 8, false) ∧ mj_pt qlX1 30 = some (1, 9, false) ∧ mj_pt qlX1 33 = some (1, 10, false) ∧ mj_pt qlX1 36 = some (1, 11, false) ∧ mj_pt qlX1 39 = some (1, 12, false) ∧ mj_pt qlX1 71 = some (1, 13, true) ∧ mj_pt qlX1 42 = some (1, 14, false) ∧ mj_pt qlX1 45 = some (1, 15, false) ∧ mj_pt qlX1 48 = some (1, 16, false) ∧ mj_pt qlX1 51 = some (1, 17, false) := by and_intros <;> rfl
theorem KT_X1 : mj_kt klX1 91 = some (.long (-1)) ∧ mj_kt klX1 96 = some (.long 1000) ∧ mj_kt klX1 114 = some (.int (-2000000)) := by and_intros <;> rfl
def flX2 : List (Nat × Nat × Nat × Nat) := [(9, 2, 0, 138), (15, 2, 1, 139), (18, 2, 2, 140), (23, 2, 3, 141), (27, 2, 4, 142)]
def plX2 : List (Nat × Nat × Nat × Nat × Bool) := []
def qlX2 : List (Nat × Nat × Nat × Nat × Bool) := [(9, 2, 0, 138, false), (15, 2, 1, 139, false), (18, 2, 2, 140, false), (23, 2, 3, 141, false), (27, 2, 4, 142, false)]
def klX2 : List (Nat × Value × Nat) := [(54, .int 100000000, 781)]
set_option maxRecDepth 100000 in
theorem flX2_ok : flX2.all (mj_ffb RX2) = true := by decide +kernel
set_option maxRecDepth 100000 in
theorem plX2_ok : plX2.all (mj_pfb RX2 false) = true := by decide +kernel
set_option maxRecDepth 100000 in
theorem qlX2_ok : qlX2.all (mj_pfb RX2 true) = true := by decide +kernel
set_option maxRecDepth 100000 in
theorem klX2_ok : klX2.all (mj_kfb RX2) = true := by decide +kernel
theorem FT_X2 : mj_ft flX2 9 = some (2, 0) ∧ mj_ft flX2 15 = some (2, 1) ∧ mj_ft flX2 18 = some (2, 2) ∧ mj_ft flX2 23 = some (2, 3) ∧ mj_ft flX2 27 = some (2, 4) := by and_intros <;> rfl
theorem QT_X2 : mj_pt qlX2 9 = some (2, 0, false) ∧ mj_pt qlX2 15 = some (2, 1, false) ∧ mj_pt qlX2 18 = some (2, 2, false) ∧ mj_pt qlX2 23 = some (2, 3, false) ∧ mj_pt qlX2 27 = some (2, 4, false) := by and_intros <;> rfl
theorem KT_X2 : mj_kt klX2 54 = some (.int 100000000) := rfl
def flX3 : List (Nat × Nat × Nat × Nat) := [(21, 3, 0, 603), (25, 3, 1, 604), (9, 3, 2, 606), (29, 3, 3, 607), (15, 3, 4, 609), (18, 3, 5, 610)]
def plX3 : List (Nat × Nat × Nat × Nat × Bool) := [(25, 3, 1, 604, true), (29, 3, 3, 607, true)]
def qlX3 : List (Nat × Nat × Nat × Nat × Bool) := [(21, 3, 0, 603, false), (25, 3, 1, 604, true), (9, 3, 2, 606, false), (29, 3, 3, 607, true), (15, 3, 4, 609, false), (18, 3, 5, 610, false)]
def klX3 : List (Nat × Value × Nat) := []
set_option maxRecDepth 100000 in
theorem flX3_ok : flX3.all (mj_ffb RX3) = true := by decide +kernel
set_option maxRecDepth 100000 in
theorem plX3_ok : plX3.all (mj_pfb RX3 false) = true := by decide +kernel
set_option maxRecDepth 100000 in
theorem qlX3_ok : qlX3.all (mj_pfb RX3 true) = true := by decide +kernel
set_option maxRecDepth 100000 in
theorem klX3_ok : klX3.all (mj_kfb RX3) = true := by decide +kernel
theorem FT_X3 : mj_ft flX3 21 = some (3, 0) ∧ mj_ft flX3 25 = some (3, 1) ∧ mj_ft flX3 9 = some (3, 2) ∧ mj_ft flX3 29 = some (3, 3) ∧ mj_ft flX3 15 = some (3, 4) ∧ mj_ft flX3 18 = some (3, 5) := by and_intros <;> rfl
theorem PT_X3 : mj_pt plX3 25 = some (3, 1, true) ∧ mj_pt plX3 29 = some (3, 3, true) := by and_intros <;> rfl
theorem QT_X3 : mj_pt qlX3 21 = some (3, 0, false) ∧ mj_pt qlX3 25 = some (3, 1, true) ∧ mj_pt qlX3 9 = some (3, 2, false) ∧ mj_pt qlX3 29 = some (3, 3, true) ∧ mj_pt qlX3 15 = some (3, 4, false) ∧ mj_pt qlX3 18 = some (3, 5, false) := by and_intros <;> rfl
def flX4 : List (Nat × Nat × Nat × Nat) := [(51, 5, 1, 325), (56, 5, 3, 334), (34, 4, 0, 532), (9, 4, 1, 533), (15, 4, 2, 535), (19, 4, 3, 537), (22, 4, 4, 538), (25, 4, 5, 539), (28, 4, 6, 540), (31, 4, 7, 541), (44, 4, 8, 542), (48, 4, 9, 544)]
def plX4 : List (Nat × Nat × Nat × Nat × Bool) := [(51, 5, 1, 325, true), (44, 4, 8, 542, true), (48, 4, 9, 544, true)]
def qlX4 : List (Nat × Nat × Nat × Nat × Bool) := [(51, 5, 1, 325, true), (34, 4, 0, 532, false), (9, 4, 1, 533, false), (15, 4, 2, 535, false), (19, 4, 3, 537, false), (22, 4, 4, 538, false), (25, 4, 5, 539, false), (28, 4, 6, 540, false), (31, 4, 7, 541, false), (44, 4, 8, 542, true), (48, 4, 9, 544, true)]
def klX4 : List (Nat × Value × Nat) := []
set_option maxRecDepth 100000 in
theorem flX4_ok : flX4.all (mj_ffb RX4) = true := by decide +kernel
set_option maxRecDepth 100000 in
theorem plX4_ok : plX4.all (mj_pfb RX4 false) = true := by decide +kernel
set_option maxRecDepth 100000 in
theorem qlX4_ok : qlX4.all (mj_pfb RX4 true) = true := by decide +kernel
set_option maxRecDepth 100000 in
theorem klX4_ok : klX4.all (mj_kfb RX4) = true := by decide +kernel
theorem FT_X4 : mj_ft flX4 51 = some (5, 1) ∧ mj_ft flX4 56 = some (5, 3) ∧ mj_ft flX4 34 = some (4, 0) ∧ mj_ft flX4 9 = some (4, 1) ∧ mj_ft flX4 15 = some (4, 2) ∧ mj_ft flX4 19 = some (4, 3) ∧ mj_ft flX4 22 = some (4, 4) ∧ mj_ft flX4 25 = some (4, 5) ∧ mj_ft flX4 28 = some (4, 6) ∧ mj_ft flX4 31 = some (4, 7) ∧ mj_ft flX4 44 = some (4, 8) ∧ mj_ft flX4 48 = some (4, 9) := by and_intros <;> rfl
theorem PT_X4 : mj_pt plX4 51 = some (5, 1, true) ∧ mj_pt plX4 44 = some (4, 8, true) ∧ mj_pt plX4 48 = some (4, 9, true) := by and_intros <;> rfl
theorem QT_X4 : mj_pt qlX4 51 = some (5, 1, true) ∧ mj_pt qlX4 34 = some (4, 0, false) ∧ mj_pt qlX4 9 = some (4, 1, false) ∧ mj_pt qlX4 15 = some (4, 2, false) ∧ mj_pt qlX4 19 = some (4, 3, false) ∧ mj_pt qlX4 22 = some (4, 4, false) ∧ mj_pt qlX4 25 = some (4, 5, false) ∧ mj_pt qlX4 28 = some (4, 6, false) ∧ mj_pt qlX4 31 = some (4, 7, false) ∧ mj_pt qlX4 44 = some (4, 8, true) ∧ mj_pt qlX4 48 = some (4, 9, true) := by and_intros <;> rfl
def flX5 : List (Nat × Nat × Nat × Nat) := [(40, 5, 0, 321), (50, 5, 1, 322), (9, 5, 2, 328), (15, 5, 3, 332), (18, 5, 4, 337), (21, 5, 5, 339), (24, 5, 6, 341), (27, 5, 7, 345), (30, 5, 8, 346), (33, 5, 9, 349), (37, 5, 10, 352)]
def plX5 : List (Nat × Nat × Nat × Nat × Bool) := [(50, 5, 1, 322, true)]
def qlX5 : List (Nat × Nat × Nat × Nat × Bool) := [(40, 5, 0, 321, false), (50, 5, 1, 322, true), (9, 5, 2, 328, false), (15, 5, 3, 332, false), (18, 5, 4, 337, false), (21, 5, 5, 339, false), (24, 5, 6, 341, false), (27, 5, 7, 345, false), (30, 5, 8, 346, false), (33, 5, 9, 349, false), (37, 5, 10, 352, false)]
def klX5 : List (Nat × Value × Nat) := []
set_option maxRecDepth 100000 in
theorem flX5_ok : flX5.all (mj_ffb RX5) = true := by decide +kernel
set_option maxRecDepth 100000 in
theorem plX5_ok : plX5.all (mj_pfb RX5 false) = true := by decide +kernel
set_option maxRecDepth 100000 in
theorem qlX5_ok : qlX5.all (mj_pfb RX5 true) = true := by decide +kernel
set_option maxRecDepth 100000 in
theorem klX5_ok : klX5.all (mj_kfb RX5) = true := by decide +kernel
theorem FT_X5 : mj_ft flX5 40 = some (5, 0) ∧ mj_ft flX5 50 = some (5, 1) ∧ mj_ft flX5 9 = some (5, 2) ∧ mj_ft flX5 15 = some (5, 3) ∧ mj_ft flX5 18 = some (5, 4) ∧ mj_ft flX5 21 = some (5, 5) ∧ mj_ft flX5 24 = some (5, 6) ∧ mj_ft flX5 27 = some (5, 7) ∧ mj_ft flX5 30 = some (5, 8) ∧ mj_ft flX5 33 = some (5, 9) ∧ mj_ft flX5 37 = some (5, 10) := by and_intros <;> rfl
theorem PT_X5 : mj_pt plX5 50 = some (5, 1, true) := rfl
theorem QT_X5 : mj_pt qlX5 40 = some (5, 0, false) ∧ mj_pt qlX5 50 = some (5, 1, true) ∧ mj_pt qlX5 9 = some (5, 2, false) ∧ mj_pt qlX5 15 = some (5, 3, false) ∧ mj_pt qlX5 18 = some (5, 4, false) ∧ mj_pt qlX5 21 = some (5, 5, false) ∧ mj_pt qlX5 24 = some (5, 6, false) ∧ mj_pt qlX5 27 = some (5, 7, false) ∧ mj_pt qlX5 30 = some (5, 8, false) ∧ mj_pt qlX5 33 = some (5, 9, false) ∧ mj_pt qlX5 37 = some (5, 10, false) := by and_intros <;> rfl
def flX6 : List (Nat × Nat × Nat × Nat) := [(79, 1, 1, 248), (88, 1, 2, 253), (139, 1, 4, 258), (53, 5, 1, 323), (135, 5, 2, 329), (72, 5, 3, 333), (136, 5, 6, 343), (37, 6, 0, 442), (41, 6, 1, 443), (45, 6, 2, 444), (49, 6, 3, 445), (9, 6, 4, 446), (15, 6, 5, 448), (18, 6, 6, 450), (21, 6, 7, 452), (24, 6, 8, 453), (28, 6, 9, 454), (31, 6, 10, 455), (34, 6, 11, 456)]
def plX6 : List (Nat × Nat × Nat × Nat × Bool) := [(79, 1, 1, 248, true), (53, 5, 1, 323, true)]
def qlX6 : List (Nat × Nat × Nat × Nat × Bool) := [(79, 1, 1, 248, true), (53, 5, 1, 323, true), (37, 6, 0, 442, false), (41, 6, 1, 443, false), (45, 6, 2, 444, false), (49, 6, 3, 445, false), (9, 6, 4, 446, false), (15, 6, 5, 448, false), (18, 6, 6, 450, false), (21, 6, 7, 452, false), (24, 6, 8, 453, false), (28, 6, 9, 454, false), (31, 6, 10, 455, false), (34, 6, 11, 456, false)]
def klX6 : List (Nat × Value × Nat) := [(142, .int 100000000, 1057), (125, .int 100000, 1101)]
set_option maxRecDepth 100000 in
theorem flX6_ok : flX6.all (mj_ffb RX6) = true := by decide +kernel
set_option maxRecDepth 100000 in
theorem plX6_ok : plX6.all (mj_pfb RX6 false) = true := by decide +kernel
set_option maxRecDepth 100000 in
theorem qlX6_ok : qlX6.all (mj_pfb RX6 true) = true := by decide +kernel
set_option maxRecDepth 100000 in
theorem klX6_ok : klX6.all (mj_kfb RX6) = true := by decide +kernel
theorem FT_X6 : mj_ft flX6 79 = some (1, 1) ∧ mj_ft flX6 88 = some (1, 2) ∧ mj_ft flX6 139 = some (1, 4) ∧ mj_ft flX6 53 = some (5, 1) ∧ mj_ft flX6 135 = some (5, 2) ∧ mj_ft flX6 72 = some (5, 3) ∧ mj_ft flX6 136 = some (5, 6) ∧ mj_ft flX6 37 = some (6, 0) ∧ mj_ft flX6 41 = some (6, 1) ∧ mj_ft flX6 45 = some (6, 2) ∧ mj_ft flX6 49 = some (6, 3) ∧ mj_ft flX6 9 = some (6, 4) ∧ mj_ft flX6 15 = some (6, 5) ∧ mj_ft flX6 18 = some (6, 6) ∧ mj_ft flX6 21 = some (6, 7) ∧ mj_ft flX6 24 = some (6, 8) ∧ mj_ft flX6 28 = some (6, 9) ∧ mj_ft flX6 31 = some (6, 10) ∧ mj_ft flX6 34 = some (6, 11) := by and_intros <;> rfl
theorem PT_X6 : mj_pt plX6 79 = some (1, 1, true) ∧ mj_pt plX6 53 = some (5, 1, true) := by and_intros <;> rfl
theorem QT_X6 : mj_pt qlX6 79 = some (1, 1, true) ∧ mj_pt qlX6 53 = some (5, 1, true) ∧ mj_pt qlX6 37 = some (6, 0, false) ∧ mj_pt qlX6 41 = some (6, 1, false) ∧ mj_pt qlX6 45 = some (6, 2, false) ∧ mj_pt qlX6 49 = some (6, 3, false) ∧ mj_pt qlX6 9 = some (6, 4, false) ∧ mj_pt qlX6 15 = some (6, 5, false) ∧ mj_pt qlX6 18 = some (6, 6, false) ∧ mj_pt qlX6 21 = some (6, 7, false) ∧ mj_pt qlX6 24 = some (6, 8, false) ∧ mj_pt qlX6 28 = some (6, 9, false) ∧ mj_pt qlX6 31 = some (6, 10, false) ∧ mj_pt qlX6 34 = some (6, 11, false) := by and_intros <;> rfl
theorem KT_X6 : mj_kt klX6 142 = some (.int 100000000) ∧ mj_kt klX6 125 = some (.int 100000) := by and_intros <;> rfl
def flX7 : List (Nat × Nat × Nat × Nat) := [(42, 1, 1, 249), (49, 1, 2, 254), (21, 7, 0, 573), (25, 7, 1, 574), (29, 7, 2, 575), (9, 7, 3, 577), (15, 7, 4, 578), (33, 7, 5, 579), (18, 7, 6, 581)]
def plX7 : List (Nat × Nat × Nat × Nat × Bool) := [(42, 1, 1, 249, true), (29, 7, 2, 575, true), (33, 7, 5, 579, true)]
def qlX7 : List (Nat × Nat × Nat × Nat × Bool) := [(42, 1, 1, 249, true), (21, 7, 0, 573, false), (25, 7, 1, 574, false), (29, 7, 2, 575, true), (9, 7, 3, 577, false), (15, 7, 4, 578, false), (33, 7, 5, 579, true), (18, 7, 6, 581, false)]
def klX7 : List (Nat × Value × Nat) := [(76, .int 100000000, 1141)]
set_option maxRecDepth 100000 in
theorem flX7_ok : flX7.all (mj_ffb RX7) = true := by decide +kernel
set_option maxRecDepth 100000 in
theorem plX7_ok : plX7.all (mj_pfb RX7 false) = true := by decide +kernel
set_option maxRecDepth 100000 in
theorem qlX7_ok : qlX7.all (mj_pfb RX7 true) = true := by decide +kernel
set_option maxRecDepth 100000 in
theorem klX7_ok : klX7.all (mj_kfb RX7) = true := by decide +kernel
theorem FT_X7 : mj_ft flX7 42 = some (1, 1) ∧ mj_ft flX7 49 = some (1, 2) ∧ mj_ft flX7 21 = some (7, 0) ∧ mj_ft flX7 25 = some (7, 1) ∧ mj_ft flX7 29 = some (7, 2) ∧ mj_ft flX7 9 = some (7, 3) ∧ mj_ft flX7 15 = some (7, 4) ∧ mj_ft flX7 33 = some (7, 5) ∧ mj_ft flX7 18 = some (7, 6) := by and_intros <;> rfl
theorem PT_X7 : mj_pt plX7 42 = some (1, 1, true) ∧ mj_pt plX7 29 = some (7, 2, true) ∧ mj_pt plX7 33 = some (7, 5, true) := by and_intros <;> rfl
theorem QT_X7 : mj_pt qlX7 42 = some (1, 1, true) ∧ mj_pt qlX7 21 = some (7, 0, false) ∧ mj_pt qlX7 25 = some (7, 1, false) ∧ mj_pt qlX7 29 = some (7, 2, true) ∧ mj_pt qlX7 9 = some (7, 3, false) ∧ mj_pt qlX7 15 = some (7, 4, false) ∧ mj_pt qlX7 33 = some (7, 5, true) ∧ mj_pt qlX7 18 = some (7, 6, false) := by and_intros <;> rfl
theorem KT_X7 : mj_kt klX7 76 = some (.int 100000000) := rfl
def flX8 : List (Nat × Nat × Nat × Nat) := [(48, 5, 1, 324), (64, 5, 3, 335), (75, 5, 6, 342), (36, 8, 0, 488), (40, 8, 1, 489), (44, 8, 2, 490), (9, 8, 3, 492), (15, 8, 4, 493), (18, 8, 5, 494), (21, 8, 6, 495), (24, 8, 7, 496), (27, 8, 8, 497), (30, 8, 9, 499), (33, 8, 10, 501)]
def plX8 : List (Nat × Nat × Nat × Nat × Bool) := [(48, 5, 1, 324, true), (44, 8, 2, 490, true)]
def qlX8 : List (Nat × Nat × Nat × Nat × Bool) := [(48, 5, 1, 324, true), (36, 8, 0, 488, false), (40, 8, 1, 489, false), (44, 8, 2, 490, true), (9, 8, 3, 492, false), (15, 8, 4, 493, false), (18, 8, 5, 494, false), (21, 8, 6, 495, false), (24, 8, 7, 496, false), (27, 8, 8, 497, false), (30, 8, 9, 499, false), (33, 8, 10, 501, false)]
def klX8 : List (Nat × Value × Nat) := []
set_option maxRecDepth 100000 in
theorem flX8_ok : flX8.all (mj_ffb RX8) = true := by decide +kernel
set_option maxRecDepth 100000 in
theorem plX8_ok : plX8.all (mj_pfb RX8 false) = true := by decide +kernel
set_option maxRecDepth 100000 in
theorem qlX8_ok : qlX8.all (mj_pfb RX8 true) = true := by decide +kernel
set_option maxRecDepth 100000 in
theorem klX8_ok : klX8.all (mj_kfb RX8) = true := by decide +kernel
theorem FT_X8 : mj_ft flX8 48 = some (5, 1) ∧ mj_ft flX8 64 = some (5, 3) ∧ mj_ft flX8 75 = some (5, 6) ∧ mj_ft flX8 36 = some (8, 0) ∧ mj_ft flX8 40 = some (8, 1) ∧ mj_ft flX8 44 = some (8, 2) ∧ mj_ft flX8 9 = some (8, 3) ∧ mj_ft flX8 15 = some (8, 4) ∧ mj_ft flX8 18 = some (8, 5) ∧ mj_ft flX8 21 = some (8, 6) ∧ mj_ft flX8 24 = some (8, 7) ∧ mj_ft flX8 27 = some (8, 8) ∧ mj_ft flX8 30 = some (8, 9) ∧ mj_ft flX8 33 = some (8, 10) := by and_intros <;> rfl
theorem PT_X8 : mj_pt plX8 48 = some (5, 1, true) ∧ mj_pt plX8 44 = some (8, 2, true) := by and_intros <;> rfl
theorem QT_X8 : mj_pt qlX8 48 = some (5, 1, true) ∧ mj_pt qlX8 36 = some (8, 0, false) ∧ mj_pt qlX8 40 = some (8, 1, false) ∧ mj_pt qlX8 44 = some (8, 2, true) ∧ mj_pt qlX8 9 = some (8, 3, false) ∧ mj_pt qlX8 15 = some (8, 4, false) ∧ mj_pt qlX8 18 = some (8, 5, false) ∧ mj_pt qlX8 21 = some (8, 6, false) ∧ mj_pt qlX8 24 = some (8, 7, false) ∧ mj_pt qlX8 27 = some (8, 8, false) ∧ mj_pt qlX8 30 = some (8, 9, false) ∧ mj_pt qlX8 33 = some (8, 10, false) := by and_intros <;> rfl
def flX9 : List (Nat × Nat × Nat × Nat) := [(9, 9, 0, 162), (21, 9, 1, 163), (25, 9, 2, 165), (28, 9, 3, 166), (31, 9, 4, 167), (15, 9, 5, 168), (34, 9, 6, 171), (18, 9, 7, 172), (37, 9, 8, 175), (40, 9, 9, 177)]
def plX9 : List (Nat × Nat × Nat × Nat × Bool) := [(21, 9, 1, 163, true), (25, 9, 2, 165, true), (28, 9, 3, 166, true), (31, 9, 4, 167, true), (34, 9, 6, 171, true), (37, 9, 8, 175, true), (40, 9, 9, 177, true)]
def qlX9 : List (Nat × Nat × Nat × Nat × Bool) := [(9, 9, 0, 162, false), (21, 9, 1, 163, true), (25, 9, 2, 165, true), (28, 9, 3, 166, true), (31, 9, 4, 167, true), (15, 9, 5, 168, false), (34, 9, 6, 171, true), (18, 9, 7, 172, false), (37, 9, 8, 175, true), (40, 9, 9, 177, true)]
def klX9 : List (Nat × Value × Nat) := []
set_option maxRecDepth 100000 in
theorem flX9_ok : flX9.all (mj_ffb RX9) = true := by decide +kernel
set_option maxRecDepth 100000 in
theorem plX9_ok : plX9.all (mj_pfb RX9 false) = true := by decide +kernel
set_option maxRecDepth 100000 in
theorem qlX9_ok : qlX9.all (mj_pfb RX9 true) = true := by decide +kernel
set_option maxRecDepth 100000 in
theorem klX9_ok : klX9.all (mj_kfb RX9) = true := by decide +kernel
theorem FT_X9 : mj_ft flX9 9 = some (9, 0) ∧ mj_ft flX9 21 = some (9, 1) ∧ mj_ft flX9 25 = some (9, 2) ∧ mj_ft flX9 28 = some (9, 3) ∧ mj_ft flX9 31 = some (9, 4) ∧ mj_ft flX9 15 = some (9, 5) ∧ mj_ft flX9 34 = some (9, 6) ∧ mj_ft flX9 18 = some (9, 7) ∧ mj_ft flX9 37 = some (9, 8) ∧ mj_ft flX9 40 = some (9, 9) := by and_intros <;> rfl
theorem PT_X9 : mj_pt plX9 21 = some (9, 1, true) ∧ mj_pt plX9 25 = some (9, 2, true) ∧ mj_pt plX9 28 = some (9, 3, true) ∧ mj_pt plX9 31 = some (9, 4, true) ∧ mj_pt plX9 34 = some (9, 6, true) ∧ mj_pt plX9 37 = some (9, 8, true) ∧ mj_pt plX9 40 = some (9, 9, true) := by and_intros <;> rfl
theorem QT_X9 : mj_pt qlX9 9 = some (9, 0, false) ∧ mj_pt qlX9 21 = some (9, 1, true) ∧ mj_pt qlX9 25 = some (9, 2, true) ∧ mj_pt qlX9 28 = some (9, 3, true) ∧ mj_pt qlX9 31 = some (9, 4, true) ∧ mj_pt qlX9 15 = some (9, 5, false) ∧ mj_pt qlX9 34 = some (9, 6, true) ∧ mj_pt qlX9 18 = some (9, 7, false) ∧ mj_pt qlX9 37 = some (9, 8, true) ∧ mj_pt qlX9 40 = some (9, 9, true) := by and_intros <;> rfl
def flX10 : List (Nat × Nat × Nat × Nat) := [(121, 1, 1, 250), (137, 1, 3, 256), (128, 1, 4, 259), (87, 5, 1, 326), (106, 5, 2, 330), (92, 5, 8, 347), (103, 5, 9, 351), (40, 10, 0, 382), (44, 10, 1, 383), (48, 10, 2, 384), (52, 10, 3, 385), (56, 10, 4, 386), (9, 10, 5, 388), (15, 10, 6, 389), (18, 10, 7, 390), (21, 10, 8, 391), (60, 10, 9, 392), (24, 10, 10, 394), (27, 10, 11, 395), (30, 10, 12, 397), (66, 10, 13, 399), (33, 10, 14, 400), (37, 10, 15, 402)]
def plX10 : List (Nat × Nat × Nat × Nat × Bool) := [(121, 1, 1, 250, true), (87, 5, 1, 326, true), (56, 10, 4, 386, true), (60, 10, 9, 392, true), (66, 10, 13, 399, true)]
def qlX10 : List (Nat × Nat × Nat × Nat × Bool) := [(121, 1, 1, 250, true), (87, 5, 1, 326, true), (40, 10, 0, 382, false), (44, 10, 1, 383, false), (48, 10, 2, 384, false), (52, 10, 3, 385, false), (56, 10, 4, 386, true), (9, 10, 5, 388, false), (15, 10, 6, 389, false), (18, 10, 7, 390, false), (21, 10, 8, 391, false), (60, 10, 9, 392, true), (24, 10, 10, 394, false), (27, 10, 11, 395, false), (30, 10, 12, 397, false), (66, 10, 13, 399, true), (33, 10, 14, 400, false), (37, 10, 15, 402, false)]
def klX10 : List (Nat × Value × Nat) := []
set_option maxRecDepth 100000 in
theorem flX10_ok : flX10.all (mj_ffb RX10) = true := by decide +kernel
set_option maxRecDepth 100000 in
theorem plX10_ok : plX10.all (mj_pfb RX10 false) = true := by decide +kernel
set_option maxRecDepth 100000 in
theorem qlX10_ok : qlX10.all (mj_pfb RX10 true) = true := by decide +kernel
set_option maxRecDepth 100000 in
theorem klX10_ok : klX10.all (mj_kfb RX10) = true := by decide +kernel
theorem FT_X10 : mj_ft flX10 121 = some (1, 1) ∧ mj_ft flX10 137 = some (1, 3) ∧ mj_ft flX10 128 = some (1, 4) ∧ mj_ft flX10 87 = some (5, 1) ∧ mj_ft flX10 106 = some (5, 2) ∧ mj_ft flX10 92 = some (5, 8) ∧ mj_ft flX10 103 = some (5, 9) ∧ mj_ft flX10 40 = some (10, 0) ∧ mj_ft flX10 44 = some (10, 1) ∧ mj_ft flX10 48 = some (10, 2) ∧ mj_ft flX10 52 = some (10, 3) ∧ mj_ft flX10 56 = some (10, 4) ∧ mj_ft flX10 9 = some (10, 5) ∧ mj_ft flX10 15 = some (10, 6) ∧ mj_ft flX10 18 = some (10, 7) ∧ mj_ft flX10 21 = some (10, 8) ∧ mj_ft flX10 60 = some (10, 9) ∧ mj_ft flX10 24 = some (10, 10) ∧ mj_ft flX10 27 = some (10, 11) ∧ mj_ft flX10 30 = some (10, 12) ∧ mj_ft flX10 66 = some (10, 13) ∧ mj_ft flX10 33 = some (10, 14) ∧ mj_ft flX10 37 = some (10, 15) := by and_intros <;> rfl
theorem PT_X10 : mj_pt plX10 121 = some (1, 1, true) ∧ mj_pt plX10 87 = some (5, 1, true) ∧ mj_pt plX10 56 = some (10, 4, true) ∧ mj_pt plX10 60 = some (10, 9, true) ∧ mj_pt plX10 66 = some (10, 13, true) := by and_intros <;> rfl
theorem QT_X10 : mj_pt qlX10 121 = some (1, 1, true) ∧ mj_pt qlX10 87 = some (5, 1, true) ∧ mj_pt qlX10 40 = some (10, 0, false) ∧ mj_pt qlX10 44 = some (10, 1, false) ∧ mj_pt qlX10 48 = some (10, 2, false) ∧ mj_pt qlX10 52 = some (10, 3, false) ∧ mj_pt qlX10 56 = some (10, 4, true) ∧ mj_pt qlX10 9 = some (10, 5, false) ∧ mj_pt qlX10 15 = some (10, 6, false) ∧ mj_pt qlX10 18 = some (10, 7, false) ∧ mj_pt qlX10 21 = some (10, 8, false) ∧ mj_pt qlX10 60 = some (10, 9, true) ∧ mj_pt qlX10 24 = some (10, 10, false) ∧ mj_pt qlX10 27 = some (10, 11, false) ∧ mj_pt qlX10 30 = some (10, 12, false) ∧ mj_pt qlX10 66 = some (10, 13, true) ∧ mj_pt qlX10 33 = some (10, 14, false) ∧ mj_pt qlX10 37 = some (10, 15, false) := by and_intros <;> rfl
def flX11 : List (Nat × Nat × Nat × Nat) := [(205, 9, 1, 164), (215, 0, 0, 207), (233, 0, 9, 217), (391, 1, 1, 251), (359, 1, 5, 261), (362, 1, 6, 263), (396, 1, 7, 265), (403, 1, 13, 272), (392, 5, 1, 327), (192, 5, 2, 331), (195, 5, 3, 336), (183, 5, 4, 338), (186, 5, 5, 340), (189, 5, 6, 344), (179, 5, 8, 348), (168, 5, 9, 350), (347, 10, 4, 387), (400, 10, 9, 393), (305, 10, 11, 396), (308, 10, 12, 398), (311, 10, 14, 401), (248, 6, 4, 447), (260, 6, 5, 449), (266, 6, 6, 451), (323, 8, 2, 491), (327, 8, 8, 498), (333, 8, 9, 500), (344, 4, 1, 534), (198, 4, 2, 536), (406, 4, 8, 543), (409, 4, 9, 545), (399, 7, 2, 576), (418, 7, 5, 580), (412, 3, 1, 605), (415, 3, 3, 608), (100, 11, 0, 624), (10, 11, 1, 625), (19, 11, 2, 626), (26, 11, 3, 627), (35, 11, 4, 628), (42, 11, 5, 629), (51, 11, 6, 630), (58, 11, 7, 631), (67, 11, 8, 632), (76, 11, 9, 633), (85, 11, 10, 634), (92, 11, 11, 635)]
def plX11 : List (Nat × Nat × Nat × Nat × Bool) := [(205, 9, 1, 164, true), (215, 0, 0, 207, true), (233, 0, 9, 217, true), (391, 1, 1, 251, true), (396, 1, 7, 265, true), (403, 1, 13, 272, true), (392, 5, 1, 327, true), (347, 10, 4, 387, true), (400, 10, 9, 393, true), (323, 8, 2, 491, true), (406, 4, 8, 543, true), (409, 4, 9, 545, true), (399, 7, 2, 576, true), (418, 7, 5, 580, true), (412, 3, 1, 605, true), (415, 3, 3, 608, true), (100, 11, 0, 624, true)]
def qlX11 : List (Nat × Nat × Nat × Nat × Bool) := [(205, 9, 1, 164, true), (215, 0, 0, 207, true), (233, 0, 9, 217, true), (391, 1, 1, 251, true), (396, 1, 7, 265, true), (403, 1, 13, 272, true), (392, 5, 1, 327, true), (347, 10, 4, 387, true), (400, 10, 9, 393, true), (323, 8, 2, 491, true), (406, 4, 8, 543, true), (409, 4, 9, 545, true), (399, 7, 2, 576, true), (418, 7, 5, 580, true), (412, 3, 1, 605, true), (415, 3, 3, 608, true), (100, 11, 0, 624, true), (10, 11, 1, 625, false), (19, 11, 2, 626, false), (26, 11, 3, 627, false), (35, 11, 4, 628, false), (42, 11, 5, 629, false), (51, 11, 6, 630, false), (58, 11, 7, 631, false), (67, 11, 8, 632, false), (76, 11, 9, 633, false), (85, 11, 10, 634, false), (92, 11, 11, 635, false)]
def klX11 : List (Nat × Value × Nat) := [(126, .int 100000000, 786), (225, .int (-2000000), 997), (368, .int 1000000, 1339), (372, .int 100000, 1348)]
set_option maxRecDepth 100000 in
theorem flX11_ok : flX11.all (mj_ffb RX11) = true := by decide +kernel
set_option maxRecDepth 100000 in
theorem plX11_ok : plX11.all (mj_pfb RX11 false) = true := by decide +kernel
set_option maxRecDepth 100000 in
theorem qlX11_ok : qlX11.all (mj_pfb RX11 true) = true := by decide +kernel
set_option maxRecDepth 100000 in
theorem klX11_ok : klX11.all (mj_kfb RX11) = true := by decide +kernel
theorem FT_X11 : mj_ft flX11 205 = some (9, 1) ∧ mj_ft flX11 215 = some (0, 0) ∧ mj_ft flX11 233 = some (0, 9) ∧ mj_ft flX11 391 = some (1, 1) ∧ mj_ft flX11 359 = some (1, 5) ∧ mj_ft flX11 362 = some (1, 6) ∧ mj_ft flX11 396 = some (1, 7) ∧ mj_ft flX11 403 = some (1, 13) ∧ mj_ft flX11 392 = some (5, 1) ∧ mj_ft flX11 192 = some (5, 2) ∧ mj_ft flX11 195 = some (5, 3) ∧ mj_ft flX11 183 = some (5, 4) ∧ mj_ft flX11 186 = some (5, 5) ∧ mj_ft flX11 189 = some (5, 6) ∧ mj_ft flX11 179 = some (5, 8) ∧ mj_ft flX11 168 = some (5, 9) ∧ mj_ft flX11 347 = some (10, 4) ∧ mj_ft flX11 400 = some (10, 9) ∧ mj_ft flX11 305 = some (10, 11) ∧ mj_ft flX11 308 = some (10, 12) ∧ mj_ft flX11 311 = some (10, 14) ∧ mj_ft flX11 248 = some (6, 4) ∧ mj_ft flX11 260 = some (6, 5) ∧ mj_ft flX11 266 = some (6, 6) ∧ mj_ft flX11 323 = some (8, 2) ∧ mj_ft flX11 327 = some (8, 8) ∧ mj_ft flX11 333 = some (8, 9) ∧ mj_ft flX11 344 = some (4, 1) ∧ mj_ft flX11 198 = some (4, 2) ∧ mj_ft flX11 406 = some (4, 8) ∧ mj_ft flX11 409 = some (4, 9) ∧ mj_ft flX11 399 = some (7, 2) ∧ mj_ft flX11 418 = some (7, 5) ∧ mj_ft flX11 412 = some (3, 1) ∧ mj_ft flX11 415 = some (3, 3) ∧ mj_ft flX11 100 = some (11, 0) ∧ mj_ft flX11 10 = some (11, 1) ∧ mj_ft flX11 19 = some (11, 2) ∧ mj_ft flX11 26 = some (11, 3) ∧ mj_ft flX11 35 = some (11, 4) ∧ mj_ft flX11 42 = some (11, 5) ∧ mj_ft flX11 51 = some (11, 6) ∧ mj_ft flX11 58 = some (11, 7) ∧ mj_ft flX11 67 = some (11, 8) ∧ mj_ft flX11 76 = some (11, 9) ∧ mj_ft flX11 85 = some (11, 10) ∧ mj_ft flX11 92 = some (11, 11) := by and_intros <;> rfl
theorem PT_X11 : mj_pt plX11 205 = some (9, 1, true) ∧ mj_pt plX11 215 = some (0, 0, true) ∧ mj_pt plX11 233 = some (0, 9, true) ∧ mj_pt plX11 391 = some (1, 1, true) ∧ mj_pt plX11 396 = some (1, 7, true) ∧ mj_pt plX11 403 = some (1, 13, true) ∧ mj_pt plX11 392 = some (5, 1, true) ∧ mj_pt plX11 347 = some (10, 4, true) ∧ mj_pt plX11 400 = some (10, 9, true) ∧ mj_pt plX11 323 = some (8, 2, true) ∧ mj_pt plX11 406 = some (4, 8, true) ∧ mj_pt plX11 409 = some (4, 9, true) ∧ mj_pt plX11 399 = some (7, 2, true) ∧ mj_pt plX11 418 = some (7, 5, true) ∧ mj_pt plX11 412 = some (3, 1, true) ∧ mj_pt plX11 415 = some (3, 3, true) ∧ mj_pt plX11 100 = some (11, 0, true) := by and_intros <;> rfl
theorem QT_X11 : mj_pt qlX11 205 = some (9, 1, true) ∧ mj_pt qlX11 215 = some (0, 0, true) ∧ mj_pt qlX11 233 = some (0, 9, true) ∧ mj_pt qlX11 391 = some (1, 1, true) ∧ mj_pt qlX11 396 = some (1, 7, true) ∧ mj_pt qlX11 403 = some (1, 13, true) ∧ mj_pt qlX11 392 = some (5, 1, true) ∧ mj_pt qlX11 347 = some (10, 4, true) ∧ mj_pt qlX11 400 = some (10, 9, true) ∧ mj_pt qlX11 323 = some (8, 2, true) ∧ mj_pt qlX11 406 = some (4, 8, true) ∧ mj_pt qlX11 409 = some (4, 9, true) ∧ mj_pt qlX11 399 = some (7, 2, true) ∧ mj_pt qlX11 418 = some (7, 5, true) ∧ mj_pt qlX11 412 = some (3, 1, true) ∧ mj_pt qlX11 415 = some (3, 3, true) ∧ mj_pt qlX11 100 = some (11, 0, true) ∧ mj_pt qlX11 10 = some (11, 1, false) ∧ mj_pt qlX11 19 = some (11, 2, false) ∧ mj_pt qlX11 26 = some (11, 3, false) ∧ mj_pt qlX11 35 = some (11, 4, false) ∧ mj_pt qlX11 42 = some (11, 5, false) ∧ mj_pt qlX11 51 = some (11, 6, false) ∧ mj_pt qlX11 58 = some (11, 7, false) ∧ mj_pt qlX11 67 = some (11, 8, false) ∧ mj_pt qlX11 76 = some (11, 9, false) ∧ mj_pt qlX11 85 = some (11, 10, false) ∧ mj_pt qlX11 92 = some (11, 11, false) := by and_intros <;> rfl
theorem KT_X11 : mj_kt klX11 126 = some (.int 100000000) ∧ mj_kt klX11 225 = some (.int (-2000000)) ∧ mj_kt klX11 368 = some (.int 1000000) ∧ mj_kt klX11 372 = some (.int 100000) := by and_intros <;> rfl
def flX12 : List (Nat × Nat × Nat × Nat) := [(239, 12, 0, 1411), (9, 12, 1, 1412), (13, 12, 2, 1413), (17, 12, 3, 1414), (20, 12, 4, 1415), (23, 12, 5, 1416), (26, 12, 6, 1417), (29, 12, 7, 1418), (32, 12, 8, 1419), (35, 12, 9, 1420), (38, 12, 10, 1421), (41, 12, 11, 1422), (268, 12, 12, 1423), (280, 12, 13, 1424), (44, 12, 14, 1425), (47, 12, 15, 1426), (50, 12, 16, 1427), (53, 12, 17, 1428), (56, 12, 18, 1429), (59, 12, 19, 1430), (62, 12, 20, 1431), (65, 12, 21, 1432), (68, 12, 22, 1433), (290, 12, 23, 1434), (71, 12, 24, 1435), (74, 12, 25, 1436), (296, 12, 26, 1437), (77, 12, 27, 1438), (80, 12, 28, 1439), (83, 12, 29, 1440), (86, 12, 30, 1441), (89, 12, 31, 1442), (92, 12, 32, 1443), (95, 12, 33, 1444), (98, 12, 34, 1445), (303, 12, 35, 1446), (306, 12, 36, 1447), (309, 12, 37, 1448), (315, 12, 38, 1449), (312, 12, 39, 1450), (376, 12, 40, 1451), (101, 12, 41, 1452), (104, 12, 42, 1453), (399, 12, 43, 1454), (408, 12, 44, 1455), (107, 12, 45, 1456), (110, 12, 46, 1457), (113, 12, 47, 1458), (116, 12, 48, 1459), (119, 12, 49, 1460), (122, 12, 50, 1461), (125, 12, 51, 1462), (128, 12, 52, 1463), (131, 12, 53, 1464), (134, 12, 54, 1465), (137, 12, 55, 1466), (491, 12, 56, 1467), (140, 12, 57, 1468), (143, 12, 58, 1469), (146, 12, 59, 1470), (149, 12, 60, 1471), (152, 12, 61, 1472), (155, 12, 62, 1473), (510, 12, 63, 1474), (513, 12, 64, 1475), (158, 12, 65, 1476), (161, 12, 66, 1477), (516, 12, 67, 1478), (164, 12, 68, 1479), (167, 12, 69, 1480), (170, 12, 70, 1481), (173, 12, 71, 1482), (176, 12, 72, 1483), (179, 12, 73, 1484), (182, 12, 74, 1485), (531, 12, 75, 1486), (185, 12, 76, 1487), (188, 12, 77, 1488), (191, 12, 78, 1489), (194, 12, 79, 1490), (540, 12, 80, 1491), (197, 12, 81, 1492), (200, 12, 82, 1493), (203, 12, 83, 1494), (206, 12, 84, 1495), (209, 12, 85, 1496), (212, 12, 86, 1497), (545, 12, 87, 1498), (548, 12, 88, 1499), (215, 12, 89, 1500), (218, 12, 90, 1501), (221, 12, 91, 1502), (224, 12, 92, 1503), (227, 12, 93, 1504), (230, 12, 94, 1505), (233, 12, 95, 1506), (551, 12, 96, 1507), (555, 12, 97, 1508), (236, 12, 98, 1509), (561, 12, 99, 1510)]
def plX12 : List (Nat × Nat × Nat × Nat × Bool) := [(239, 12, 0, 1411, true), (268, 12, 12, 1423, true), (280, 12, 13, 1424, true), (290, 12, 23, 1434, true), (296, 12, 26, 1437, true), (303, 12, 35, 1446, true), (306, 12, 36, 1447, true), (309, 12, 37, 1448, true), (315, 12, 38, 1449, true), (312, 12, 39, 1450, true), (376, 12, 40, 1451, true), (399, 12, 43, 1454, true), (408, 12, 44, 1455, true), (491, 12, 56, 1467, true), (510, 12, 63, 1474, true), (513, 12, 64, 1475, true), (516, 12, 67, 1478, true), (531, 12, 75, 1486, true), (540, 12, 80, 1491, true), (545, 12, 87, 1498, true), (548, 12, 88, 1499, true), (551, 12, 96, 1507, true), (555, 12, 97, 1508, true), (561, 12, 99, 1510, true)]
def qlX12 : List (Nat × Nat × Nat × Nat × Bool) := [(239, 12, 0, 1411, true), (9, 12, 1, 1412, false), (13, 12, 2, 1413, false), (17, 12, 3, 1414, false), (20, 12, 4, 1415, false), (23, 12, 5, 1416, false), (26, 12, 6, 1417, false), (29, 12, 7, 1418, false), (32, 12, 8, 1419, false), (35, 12, 9, 1420, false), (38, 12, 10, 1421, false), (41, 12, 11, 1422, false), (268, 12, 12, 1423, true), (280, 12, 13, 1424, true), (44, 12, 14, 1425, false), (47, 12, 15, 1426, false), (50, 12, 16, 1427, false), (53, 12, 17, 1428, false), (56, 12, 18, 1429, false), (59, 12, 19, 1430, false), (62, 12, 20, 1431, false), (65, 12, 21, 1432, false), (68, 12, 22, 1433, false), (290, 12, 23, 1434, true), (71, 12, 24, 1435, false), (74, 12, 25, 1436, false), (296, 12, 26, 1437, true), (77, 12, 27, 1438, false), (80, 12, 28, 1439, false), (83, 12, 29, 1440, false), (86, 12, 30, 1441, false), (89, 12, 31, 1442, false), (92, 12, 32, 1443, false), (95, 12, 33, 1444, false), (98, 12, 34, 1445, false), (303, 12, 35, 1446, true), (306, 12, 36, 1447, true), (309, 12, 37, 1448, true), (315, 12, 38, 1449, true), (312, 12, 39, 1450, true), (376, 12, 40, 1451, true), (101, 12, 41, 1452, false), (104, 12, 42, 1453, false), (399, 12, 43, 1454, true), (408, 12, 44, 1455, true), (107, 12, 45, 1456, false), (110, 12, 46, 1457, false), (113, 12, 47, 1458, false), (116, 12, 48, 1459, false), (119, 12, 49, 1460, false), (122, 12, 50, 1461, false), (125, 12, 51, 1462, false), (128, 12, 52, 1463, false), (131, 12, 53, 1464, false), (134, 12, 54, 1465, false), (137, 12, 55, 1466, false), (491, 12, 56, 1467, true), (140, 12, 57, 1468, false), (143, 12, 58, 1469, false), (146, 12, 59, 1470, false), (149, 12, 60, 1471, false), (152, 12, 61, 1472, false), (155, 12, 62, 1473, false), (510, 12, 63, 1474, true), (513, 12, 64, 1475, true), (158, 12, 65, 1476, false), (161, 12, 66, 1477, false), (516, 12, 67, 1478, true), (164, 12, 68, 1479, false), (167, 12, 69, 1480, false), (170, 12, 70, 1481, false), (173, 12, 71, 1482, false), (176, 12, 72, 1483, false), (179, 12, 73, 1484, false), (182, 12, 74, 1485, false), (531, 12, 75, 1486, true), (185, 12, 76, 1487, false), (188, 12, 77, 1488, false), (191, 12, 78, 1489, false), (194, 12, 79, 1490, false), (540, 12, 80, 1491, true), (197, 12, 81, 1492, false), (200, 12, 82, 1493, false), (203, 12, 83, 1494, false), (206, 12, 84, 1495, false), (209, 12, 85, 1496, false), (212, 12, 86, 1497, false), (545, 12, 87, 1498, true), (548, 12, 88, 1499, true), (215, 12, 89, 1500, false), (218, 12, 90, 1501, false), (221, 12, 91, 1502, false), (224, 12, 92, 1503, false), (227, 12, 93, 1504, false), (230, 12, 94, 1505, false), (233, 12, 95, 1506, false), (551, 12, 96, 1507, true), (555, 12, 97, 1508, true), (236, 12, 98, 1509, false), (561, 12, 99, 1510, true)]
def klX12 : List (Nat × Value × Nat) := [(255, .int 1000000, 1734), (425, .int (-2000000), 1892), (382, .long (-1000000), 1919), (384, .long 1000000, 1920), (543, .long 1000, 2162), (554, .int 100000, 2195)]
set_option maxRecDepth 100000 in
theorem flX12_ok : flX12.all (mj_ffb RX12) = true := by decide +kernel
set_option maxRecDepth 100000 in
theorem plX12_ok : plX12.all (mj_pfb RX12 false) = true := by decide +kernel
set_option maxRecDepth 100000 in
theorem qlX12_ok : qlX12.all (mj_pfb RX12 true) = true := by decide +kernel
set_option maxRecDepth 100000 in
theorem klX12_ok : klX12.all (mj_kfb RX12) = true := by decide +kernel
theorem FT_X12 : mj_ft flX12 239 = some (12, 0) ∧ mj_ft flX12 9 = some (12, 1) ∧ mj_ft flX12 13 = some (12, 2) ∧ mj_ft flX12 17 = some (12, 3) ∧ mj_ft flX12 20 = some (12, 4) ∧ mj_ft flX12 23 = some (12, 5) ∧ mj_ft flX12 26 = some (12, 6) ∧ mj_ft flX12 29 = some (12, 7) ∧ mj_ft flX12 32 = some (12, 8) ∧ mj_ft flX12 35 = some (12, 9) ∧ mj_ft flX12 38 = some (12, 10) ∧ mj_ft flX12 41 = some (12, 11) ∧ mj_ft flX12 268 = some (12, 12) ∧ mj_ft flX12 280 = some (12, 13) ∧ mj_ft flX12 44 = some (12, 14) ∧ mj_ft flX12 47 = some (12, 15) ∧ mj_ft flX12 50 = some (12, 16) ∧ mj_ft flX12 53 = some (12, 17) ∧ mj_ft flX12 56 = some (12, 18) ∧ mj_ft flX12 59 = some (12, 19) ∧ mj_ft flX12 62 = some (12, 20) ∧ mj_ft flX12 65 = some (12, 21) ∧ mj_ft flX12 68 = some (12, 22) ∧ mj_ft flX12 290 = some (12, 23) ∧ mj_ft flX12 71 = some (12, 24) ∧ mj_ft flX12 74 = some (12, 25) ∧ mj_ft flX12 296 = some (12, 26) ∧ mj_ft flX12 77 = some (12, 27) ∧ mj_ft flX12 80 = some (12, 28) ∧ mj_ft flX12 83 = some (12, 29) ∧ mj_ft flX12 86 = some (12, 30) ∧ mj_ft flX12 89 = some (12, 31) ∧ mj_ft flX12 92 = some (12, 32) ∧ mj_ft flX12 95 = some (12, 33) ∧ mj_ft flX12 98 = some (12, 34) ∧ mj_ft flX12 303 = some (12, 35) ∧ mj_ft flX12 306 = some (12, 36) ∧ mj_ft flX12 309 = some (12, 37) ∧ mj_ft flX12 315 = some (12, 38) ∧ mj_ft flX12 312 = some (12, 39) ∧ mj_ft flX12 376 = some (12, 40) ∧ mj_ft flX12 101 = some (12, 41) ∧ mj_ft flX12 104 = some (12, 42) ∧ mj_ft flX12 399 = some (12, 43) ∧ mj_ft flX12 408 = some (12, 44) ∧ mj_ft flX12 107 = some (12, 45) ∧ mj_ft flX12 110 = some (12, 46) ∧ mj_ft flX12 113 = some (12, 47) ∧ mj_ft flX12 116 = some (12, 48) ∧ mj_ft flX12 119 = some (12, 49) ∧ mj_ft flX12 122 = some (12, 50) ∧ mj_ft flX12 125 = some (12, 51) ∧ mj_ft flX12 128 = some (12, 52) ∧ mj_ft flX12 131 = some (12, 53) ∧ mj_ft flX12 134 = some (12, 54) ∧ mj_ft flX12 137 = some (12, 55) ∧ mj_ft flX12 491 = some (12, 56) ∧ mj_ft flX12 140 = some (12, 57) ∧ mj_ft flX12 143 = some (12, 58) ∧ mj_ft flX12 146 = some (12, 59) := by and_intros <;> rfl
theorem FT_X12_1 : mj_ft flX12 149 = some (12, 60) ∧ mj_ft flX12 152 = some (12, 61) ∧ mj_ft flX12 155 = some (12, 62) ∧ mj_ft flX12 510 = some (12, 63) ∧ mj_ft flX12 513 = some (12, 64) ∧ mj_ft flX12 158 = some (12, 65) ∧ mj_ft flX12 161 = some (12, 66) ∧ mj_ft flX12 516 = some (12, 67) ∧ mj_ft flX12 164 = some (12, 68) ∧ mj_ft flX12 167 = some (12, 69) ∧ mj_ft flX12 170 = some (12, 70) ∧ mj_ft flX12 173 = some (12, 71) ∧ mj_ft flX12 176 = some (12, 72) ∧ mj_ft flX12 179 = some (12, 73) ∧ mj_ft flX12 182 = some (12, 74) ∧ mj_ft flX12 531 = some (12, 75) ∧ mj_ft flX12 185 = some (12, 76) ∧ mj_ft flX12 188 = some (12, 77) ∧ mj_ft flX12 191 = some (12, 78) ∧ mj_ft flX12 194 = some (12, 79) ∧ mj_ft flX12 540 = some (12, 80) ∧ mj_ft flX12 197 = some (12, 81) ∧ mj_ft flX12 200 = some (12, 82) ∧ mj_ft flX12 203 = some (12, 83) ∧ mj_ft flX12 206 = some (12, 84) ∧ mj_ft flX12 209 = some (12, 85) ∧ mj_ft flX12 212 = some (12, 86) ∧ mj_ft flX12 545 = some (12, 87) ∧ mj_ft flX12 548 = some (12, 88) ∧ mj_ft flX12 215 = some (12, 89) ∧ mj_ft flX12 218 = some (12, 90) ∧ mj_ft flX12 221 = some (12, 91) ∧ mj_ft flX12 224 = some (12, 92) ∧ mj_ft flX12 227 = some (12, 93) ∧ mj_ft flX12 230 = some (12, 94) ∧ mj_ft flX12 233 = some (12, 95) ∧ mj_ft flX12 551 = some (12, 96) ∧ mj_ft flX12 555 = some (12, 97) ∧ mj_ft flX12 236 = some (12, 98) ∧ mj_ft flX12 561 = some (12, 99) := by and_intros <;> rfl
theorem PT_X12 : mj_pt plX12 239 = some (12, 0, true) ∧ mj_pt plX12 268 = some (12, 12, true) ∧ mj_pt plX12 280 = some (12, 13, true) ∧ mj_pt plX12 290 = some (12, 23, true) ∧ mj_pt plX12 296 = some (12, 26, true) ∧ mj_pt plX12 303 = some (12, 35, true) ∧ mj_pt plX12 306 = some (12, 36, true) ∧ mj_pt plX12 309 = some (12, 37, true) ∧ mj_pt plX12 315 = some (12, 38, true) ∧ mj_pt plX12 312 = some (12, 39, true) ∧ mj_pt plX12 376 = some (12, 40, true) ∧ mj_pt plX12 399 = some (12, 43, true) ∧ mj_pt plX12 408 = some (12, 44, true) ∧ mj_pt plX12 491 = some (12, 56, true) ∧ mj_pt plX12 510 = some (12, 63, true) ∧ mj_pt plX12 513 = some (12, 64, true) ∧ mj_pt plX12 516 = some (12, 67, true) ∧ mj_pt plX12 531 = some (12, 75, true) ∧ mj_pt plX12 540 = some (12, 80, true) ∧ mj_pt plX12 545 = some (12, 87, true) ∧ mj_pt plX12 548 = some (12, 88, true) ∧ mj_pt plX12 551 = some (12, 96, true) ∧ mj_pt plX12 555 = some (12, 97, true) ∧ mj_pt plX12 561 = some (12, 99, true) := by and_intros <;> rfl
theorem QT_X12 : mj_pt qlX12 239 = some (12, 0, true) ∧ mj_pt qlX12 9 = some (12, 1, false) ∧ mj_pt qlX12 13 = some (12, 2, false) ∧ mj_pt qlX12 17 = some (12, 3, false) ∧ mj_pt qlX12 20 = some (12, 4, false) ∧ mj_pt qlX12 23 = some (12, 5, false) ∧ mj_pt qlX12 26 = some (12, 6, false) ∧ mj_pt qlX12 29 = some (12, 7, false) ∧ mj_pt qlX12 32 = some (12, 8, false) ∧ mj_pt qlX12 35 = some (12, 9, false) ∧ mj_pt qlX12 38 = some (12, 10, false) ∧ mj_pt qlX12 41 = some (12, 11, false) ∧ mj_pt qlX12 268 = some (12, 12, true) ∧ mj_pt qlX12 280 = some (12, 13, true) ∧ mj_pt qlX12 44 = some (12, 14, false) ∧ mj_pt qlX12 47 = some (12, 15, false) ∧ mj_pt qlX12 50 = some (12, 16, false) ∧ mj_pt qlX12 53 = some (12, 17, false) ∧ mj_pt qlX12 56 = some (12, 18, false) ∧ mj_pt qlX12 59 = some (12, 19, false) ∧ mj_pt qlX12 62 = some (12, 20, false) ∧ mj_pt qlX12 65 = some (12, 21, false) ∧ mj_pt qlX12 68 = some (12, 22, false) ∧ mj_pt qlX12 290 = some (12, 23, true) ∧ mj_pt qlX12 71 = some (12, 24, false) ∧ mj_pt qlX12 74 = some (12, 25, false) ∧ mj_pt qlX12 296 = some (12, 26, true) ∧ mj_pt qlX12 77 = some (12, 27, false) ∧ mj_pt qlX12 80 = some (12, 28, false) ∧ mj_pt qlX12 83 = some (12, 29, false) ∧ mj_pt qlX12 86 = some (12, 30, false) ∧ mj_pt qlX12 89 = some (12, 31, false) ∧ mj_pt qlX12 92 = some (12, 32, false) ∧ mj_pt qlX12 95 = some (12, 33, false) ∧ mj_pt qlX12 98 = some (12, 34, false) ∧ mj_pt qlX12 303 = some (12, 35, true) ∧ mj_pt qlX12 306 = some (12, 36, true) ∧ mj_pt qlX12 309 = some (12, 37, true) ∧ mj_pt qlX12 315 = some (12, 38, true) ∧ mj_pt qlX12 312 = some (12, 39, true) ∧ mj_pt qlX12 376 = some (12, 40, true) ∧ mj_pt qlX12 101 = some (12, 41, false) ∧ mj_pt qlX12 104 = some (12, 42, false) ∧ mj_pt qlX12 399 = some (12, 43, true) ∧ mj_pt qlX12 408 = some (12, 44, true) ∧ mj_pt qlX12 107 = some (12, 45, false) ∧ mj_pt qlX12 110 = some (12, 46, false) ∧ mj_pt qlX12 113 = some (12, 47, false) ∧ mj_pt qlX12 116 = some (12, 48, false) ∧ mj_pt qlX12 119 = some (12, 49, false) ∧ mj_pt qlX12 122 = some (12, 50, false) ∧ mj_pt qlX12 125 = some (12, 51, false) ∧ mj_pt qlX12 128 = some (12, 52, false) ∧ mj_pt qlX12 131 = some (12, 53, false) ∧ mj_pt qlX12 134 = some (12, 54, false) ∧ mj_pt qlX12 137 = some (12, 55, false) ∧ mj_pt qlX12 491 = some (12, 56, true) ∧ mj_pt qlX12 140 = some (12, 57, false) ∧ mj_pt qlX12 143 = some (12, 58, false) ∧ mj_pt qlX12 146 = some (12, 59, false) := by and_intros <;> rfl
theorem QT_X12_1 : mj_pt qlX12 149 = some (12, 60, false) ∧ mj_pt qlX12 152 = some (12, 61, false) ∧ mj_pt qlX12 155 = some (12, 62, false) ∧ mj_pt qlX12 510 = some (12, 63, true) ∧ mj_pt qlX12 513 = some (12, 64, true) ∧ mj_pt qlX12 158 = some (12, 65, false) ∧ mj_pt qlX12 161 = some (12, 66, false) ∧ mj_pt qlX12 516 = some (12, 67, true) ∧ mj_pt qlX12 164 = some (12, 68, false) ∧ mj_pt qlX12 167 = some (12, 69, false) ∧ mj_pt qlX12 170 = some (12, 70, false) ∧ mj_pt qlX12 173 = some (12, 71, false) ∧ mj_pt qlX12 176 = some (12, 72, false) ∧ mj_pt qlX12 179 = some (12, 73, false) ∧ mj_pt qlX12 182 = some (12, 74, false) ∧ mj_pt qlX12 531 = some (12, 75, true) ∧ mj_pt qlX12 185 = some (12, 76, false) ∧ mj_pt qlX12 188 = some (12, 77, false) ∧ mj_pt qlX12 191 = some (12, 78, false) ∧ mj_pt qlX12 194 = some (12, 79, false) ∧ mj_pt qlX12 540 = some (12, 80, true) ∧ mj_pt qlX12 197 = some (12, 81, false) ∧ mj_pt qlX12 200 = some (12, 82, false) ∧ mj_pt qlX12 203 = some (12, 83, false) ∧ mj_pt qlX12 206 = some (12, 84, false) ∧ mj_pt qlX12 209 = some (12, 85, false) ∧ mj_pt qlX12 212 = some (12, 86, false) ∧ mj_pt qlX12 545 = some (12, 87, true) ∧ mj_pt qlX12 548 = some (12, 88, true) ∧ mj_pt qlX12 215 = some (12, 89, false) ∧ mj_pt qlX12 218 = some (12, 90, false) ∧ mj_pt qlX12 221 = some (12, 91, false) ∧ mj_pt qlX12 224 = some (12, 92, false) ∧ mj_pt qlX12 227 = some (12, 93, false) ∧ mj_pt qlX12 230 = some (12, 94, false) ∧ mj_pt qlX12 233 = some (12, 95, false) ∧ mj_pt qlX12 551 = some (12, 96, true) ∧ mj_pt qlX12 555 = some (12, 97, true) ∧ mj_pt qlX12 236 = some (12, 98, false) ∧ mj_pt qlX12 561 = some (12, 99, true) := by and_intros <;> rfl
theorem KT_X12 : mj_kt klX12 255 = some (.int 1000000) ∧ mj_kt klX12 425 = some (.int (-2000000)) ∧ mj_kt klX12 382 = some (.long (-1000000)) ∧ mj_kt klX12 384 = some (.long 1000000) ∧ mj_kt klX12 543 = some (.long 1000) ∧ mj_kt klX12 554 = some (.int 100000) := by and_intros <;> rfl
