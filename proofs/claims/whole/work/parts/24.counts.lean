/-! counts: which is known; children -/
def cge (t : St) (o : Option Nat) (n : Nat) : Bool := match o with
  | none => true
  | some b => decide (¬ t.2.1 1208 n < t.2.1 1208 b)
/-- the count that is known in q for a year: its place among the first n -/
def cbest (t : St) (v year q : Int32) : Nat → Option Nat
  | 0 => none
  | n + 1 => if t.2.1 1207 n = v then (if q < t.2.1 1211 n then cbest t v year q n else if year < t.2.1 1208 n then cbest t v year q n else if cge t (cbest t v year q n) n = true then some n else cbest t v year q n) else cbest t v year q n
theorem cbest_lt {t : St} {v year q : Int32} : ∀ {n b : Nat}, cbest t v year q n = some b → b < n
  | 0, b, h => by cases h
  | n + 1, b, h => by
    unfold cbest at h
    split at h
    · split at h
      · exact Nat.lt_succ_of_lt (cbest_lt h)
      · split at h
        · exact Nat.lt_succ_of_lt (cbest_lt h)
        · split at h
          · cases h; exact Nat.lt_succ_self _
          · exact Nat.lt_succ_of_lt (cbest_lt h)
    · exact Nat.lt_succ_of_lt (cbest_lt h)
def cgirls (t : St) (v year q : Int32) : Int32 := match cbest t v year q (t.1 1213).toInt.toNat with
  | none => 0
  | some b => t.2.1 1209 b
def cboys (t : St) (v year q : Int32) : Int32 := match cbest t v year q (t.1 1213).toInt.toNat with
  | none => 0
  | some b => t.2.1 1210 b
theorem M_childOf {t : St} (hb : inR (t.1 1213) 0 200) (v y q w : Int32) : F_X12_childOf v y q w t = some (if w = 0 then cgirls t v y q else cboys t v y q) := by
  obtain ⟨n, hn, hn2, _⟩ := i32_nat hb.1
  have hn3 : n ≤ 200 := by have := hb.2; omega
  have e : (t.1 1213).toInt.toNat = n := by omega
  unfold F_X12_childOf F_X12_childOf_6 cgirls cboys
  rw [e]
  have hl : lp (B_X12_childOf_6 v y q w t) FU (-1, 0) = some (oI (cbest t v y q n)) := by
    refine lp_cnt (fun j => (oI (cbest t v y q j), nI j)) n rfl ?_ ?_ (FU_lt (by omega))
    · intro j hj
      simp (disch := omega) only [B_X12_childOf_6, hn, nI_leI, rd_nI, bind_some]
      rw [if_neg (by omega)]
      have hlt : ∀ b, cbest t v y q j = some b → b < j := fun b h => cbest_lt h
      simp only [cbest, nI_1]
      by_cases c1 : t.2.1 1207 j = v
      · simp only [c1, if_true]
        by_cases c2 : q < t.2.1 1211 j
        · simp only [c2, if_true]
        · simp only [c2, if_false]
          by_cases c3 : y < t.2.1 1208 j
          · simp only [c3, if_true]
          · simp only [c3, if_false]
            cases hc : cbest t v y q j with
            | none => simp only [oI_none, cge, if_true, oI_some]
            | some b =>
              have := hlt b hc
              simp (disch := omega) only [oI_some, nI_neg1, if_false, rd_nI, bind_some, cge]
              by_cases c4 : t.2.1 1208 j < t.2.1 1208 b
              · simp [c4, oI]
              · simp [c4, oI]
      · simp only [c1, if_false]
    · simp (disch := omega) only [B_X12_childOf_6, hn, nI_leI]
      rw [if_pos (by omega)]
  rw [hl]
  · simp only [bind_some, F_X12_childOf_81]
    cases hc : cbest t v y q n with
    | none => simp only [oI_none, if_true]; split <;> rfl
    | some b =>
      have hlt := cbest_lt hc
      simp (disch := omega) only [oI_some, nI_neg1, if_false, rd_nI, bind_some]
      split <;> rfl
theorem M_children {t : St} (hb : inR (t.1 1213) 0 200) (v y q : Int32) : F_X12_children v y q t = some (cgirls t v y q + cboys t v y q) := by
  unfold F_X12_children
  simp only [M_childOf hb, bind_some, if_true]
  rfl
theorem C_countOf {s t : St} (h : RCnt s t) (v y q : Int32) : F_X1_countOf v y q s = some (oI (cbest t v y q (t.1 1213).toInt.toNat)) := by
  obtain ⟨z0, z1, z2, z3, z4, z5, z6, z7, z8, z9⟩ := h
  obtain ⟨n, hn, hn2, _⟩ := i32_nat z1.1
  have hn3 : n ≤ 200 := by have := z1.2; omega
  have e : (t.1 1213).toInt.toNat = n := by omega
  unfold F_X1_countOf F_X1_countOf_9
  rw [e]
  have hl : lp (B_X1_countOf_9 v y q s) FU (-1, 0, 0) = some (oI (cbest t v y q n)) := by
    refine lp_cnt (fun j => (oI (cbest t v y q j), (match cbest t v y q j with
      | none => 0
      | some b => t.2.1 1208 b), nI j)) n rfl ?_ ?_ (FU_lt (by omega))
    · intro j hj
      simp (disch := omega) only [B_X1_countOf_9, z0, hn, nI_leI, rd_nI, bind_some]
      rw [if_neg (by omega)]
      rw [z2, z3, z4]
      have hlt : ∀ b, cbest t v y q j = some b → b < j := fun b h => cbest_lt h
      simp only [cbest, nI_1]
      by_cases c1 : t.2.1 1207 j = v
      · simp only [c1, if_true]
        by_cases c2 : q < t.2.1 1211 j
        · simp only [c2, if_true]
        · simp only [c2, if_false]
          by_cases c3 : y < t.2.1 1208 j
          · simp only [c3, if_true]
          · simp only [c3, if_false]
            cases hc : cbest t v y q j with
            | none =>
              have c4 : ¬ t.2.1 1208 j < 0 := by rw [i32_lt]; have := (z7 j).1; have e0 : (0 : Int32).toInt = 0 := rfl; omega
              simp only [cge, if_true, oI_some, c4, if_false]
            | some b =>
              simp only [cge]
              by_cases c4 : t.2.1 1208 j < t.2.1 1208 b
              · simp [c4, oI]
              · simp [c4, oI]
      · simp only [c1, if_false]
    · simp (disch := omega) only [B_X1_countOf_9, z0, hn, nI_leI]
      rw [if_pos (by omega)]
  rw [hl]
  rfl
theorem C_girlsOf {s t : St} (h : RCnt s t) (v y q : Int32) : F_X1_girlsOf v y q s = some (cgirls t v y q) := by
  unfold F_X1_girlsOf cgirls
  rw [C_countOf h]
  simp only [bind_some]
  have hb := h.2.1.2
  cases hc : cbest t v y q (t.1 1213).toInt.toNat with
  | none => simp only [oI_none, if_true]
  | some b =>
    have hlt := cbest_lt hc
    simp (disch := omega) only [oI_some, nI_neg1, if_false, rd_nI, bind_some]
    rw [h.2.2.2.2.2.1]
theorem C_childrenOf {s t : St} (h : RCnt s t) (v y q : Int32) : F_X1_childrenOf v y q s = some (cgirls t v y q + cboys t v y q) := by
  unfold F_X1_childrenOf cgirls cboys
  rw [C_countOf h]
  simp only [bind_some]
  have hb := h.2.1.2
  cases hc : cbest t v y q (t.1 1213).toInt.toNat with
  | none => simp only [oI_none, if_true]; rfl
  | some b =>
    have hlt := cbest_lt hc
    simp (disch := omega) only [oI_some, nI_neg1, if_false, rd_nI, bind_some]
    rw [h.2.2.2.2.2.1, h.2.2.2.2.2.2.1]
theorem cgirls_R {s t : St} (h : RCnt s t) (v y q : Int32) : inR (cgirls t v y q) 0 999 := by
  unfold cgirls
  split
  · exact ⟨by decide, by decide⟩
  · exact h.2.2.2.2.2.2.2.2.1 _
theorem cboys_R {s t : St} (h : RCnt s t) (v y q : Int32) : inR (cboys t v y q) 0 999 := by
  unfold cboys
  split
  · exact ⟨by decide, by decide⟩
  · exact h.2.2.2.2.2.2.2.2.2 _
/-- two answers of pure methods -/
def Two0 (a b : Option Int32) : Prop := ∃ r, a = some r ∧ b = some r
theorem Two0_ret (r : Int32) : Two0 (some r) (some r) := ⟨r, rfl, rfl⟩
theorem Two0_ite {c : Prop} {d1 d2 : Decidable c} {a a' b b' : Option Int32} (h1 : c → Two0 a b) (h2 : ¬ c → Two0 a' b') : Two0 (@ite _ c d1 a a') (@ite _ c d2 b b') := by
  by_cases hc : c
  · rw [if_pos hc, if_pos hc]; exact h1 hc
  · rw [if_neg hc, if_neg hc]; exact h2 hc
theorem P_child {N : Int} {s t : St} (h : RX N s t) (a b c d : Int32) : Two0 (F_X11_child a b c d s) (F_X12_child a b c d t) := by
  unfold F_X11_child F_X12_child F_X11_isVillage F_X12_isVillage F_X11_isPast F_X12_isKnowing
  rw [h.folk.1, h.now.1]
  simp only [bind_some, bI_eq0]
  refine Two0_ite (fun _ => Two0_ret _) (fun c1 => Two0_ite (fun _ => Two0_ret _) (fun c2 => Two0_ite (fun _ => Two0_ret _) (fun c3 => Two0_ite (fun _ => Two0_ret _) (fun c4 => ?_))))
  rw [C_girlsOf h.cnt, C_childrenOf h.cnt, M_childOf h.cnt.2.1]
  simp only [bind_some]
  by_cases c5 : d = 0
  · rw [if_pos c5, if_pos c5]; exact Two0_ret _
  · rw [if_neg c5, if_neg c5]
    have e : cgirls t a b c + cboys t a b c - cgirls t a b c = cboys t a b c := by
      rw [Int32.add_comm, Int32.add_sub_cancel]
    rw [e]
    exact Two0_ret _
