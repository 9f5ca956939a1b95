/-! once at fault, the class's readers stand still -/
theorem atom_F {s0 s : St} {f : Nat} (h : FC s0 f s) (hf : f ≤ 160) (q : RTC) : F_X9_readAtom q s = some s := by
  unfold F_X9_readAtom
  rw [C_peekF h hf, bind_some]
  dsimp only
  rw [if_pos (show inb 0 48 57 = false by decide), show F_X9_letterOf 0 = some (-1) by decide, bind_some, if_pos rfl, if_neg (by decide), C_failF h hf, bind_some]
theorem term_F {s0 s : St} {f : Nat} (h : FC s0 f s) (hf : f ≤ 160) (q : RTC) (hq : q.2.2.1 s = some s) : F_X9_readTerm q s = some s := by
  unfold F_X9_readTerm
  rw [hq, bind_some, C_peekF h hf, bind_some]
  unfold F_X9_readTerm_11
  have e : B_X9_readTerm_11 q (0, 0, s) = some (.inr s) := by
    unfold B_X9_readTerm_11
    dsimp only
    rw [if_neg (by decide), if_neg (by decide), if_neg (by decide)]
  dsimp only
  rw [show FU = (FU - 1) + 1 from rfl, lp_r e, bind_some]
  rfl
theorem sum_F {s0 s : St} {f : Nat} (h : FC s0 f s) (hf : f ≤ 160) (q : RTC) (hq : q.2.1 s = some s) : F_X9_readSum q s = some s := by
  unfold F_X9_readSum
  rw [hq, bind_some, C_peekF h hf, bind_some]
  unfold F_X9_readSum_11
  have e : B_X9_readSum_11 q (0, 0, s) = some (.inr s) := by
    unfold B_X9_readSum_11
    dsimp only
    rw [if_neg (by decide), if_neg (by decide), if_neg (by decide)]
  dsimp only
  rw [show FU = (FU - 1) + 1 from rfl, lp_r e, bind_some]
  rfl
theorem unit_F {s0 s : St} {f : Nat} (h : FC s0 f s) (hf : f ≤ 160) (q : RTC) (hq : q.1 s = some s) (v : Int32) : F_X9_readUnit q v s = some s := by
  unfold F_X9_readUnit
  by_cases c : v = 0
  · rw [if_pos c, C_peekF h hf, bind_some]
    dsimp only
    rw [if_neg (by decide), if_neg (by decide), if_pos c, hq, bind_some, C_peekF h hf, bind_some]
    dsimp only
    rw [if_pos (show isRel 0 = false by decide), C_failF h hf, bind_some]
  · rw [if_neg c, if_neg c, C_peekF h hf, bind_some]
    dsimp only
    rw [if_pos (show isRel 0 = false by decide), C_failF h hf, bind_some]
theorem part_F {s0 s : St} {f : Nat} (h : FC s0 f s) (hf : f ≤ 160) (q : RTC) (v : Int32) (hq : q.2.2.2.2.2 v s = some s) : F_X9_readPart q v s = some s := by
  unfold F_X9_readPart
  rw [hq, bind_some]
  unfold F_X9_readPart_7
  have e : B_X9_readPart_7 q (0, s) = some (.inr s) := by
    unfold B_X9_readPart_7
    dsimp only
    rw [if_neg (by decide), took_F h hf (by decide), bind_some]
    dsimp only
    rw [if_pos rfl]
  rw [show FU = (FU - 1) + 1 from rfl, lp_r e, bind_some]
  rfl
theorem condition_F {s0 s : St} {f : Nat} (h : FC s0 f s) (hf : f ≤ 160) (q : RTC) (v : Int32) (hq : q.2.2.2.2.1 v s = some s) : F_X9_readCondition q v s = some s := by
  unfold F_X9_readCondition
  rw [hq, bind_some]
  unfold F_X9_readCondition_7
  have e : B_X9_readCondition_7 q (0, s) = some (.inr s) := by
    unfold B_X9_readCondition_7
    dsimp only
    rw [if_neg (by decide), took_F h hf (by decide), bind_some]
    dsimp only
    rw [if_pos rfl]
  rw [show FU = (FU - 1) + 1 from rfl, lp_r e, bind_some]
  rfl
theorem rgF {s0 s : St} {f : Nat} (h : FC s0 f s) (hf : f ≤ 160) (D : Nat) : (RGC (D + 3)).1 s = some s ∧ ∀ v, (RGC (D + 6)).2.2.2.1 v s = some s := by
  have hs : ∀ D, (RGC (D + 3)).1 s = some s := fun D => sum_F h hf (RGC (D + 2)) (term_F h hf (RGC (D + 1)) (atom_F h hf (RGC D)))
  exact ⟨hs D, fun v => condition_F h hf (RGC (D + 5)) v (part_F h hf (RGC (D + 4)) v (unit_F h hf (RGC (D + 3)) (hs D) v))⟩
theorem want_F {s0 s : St} {f : Nat} (h : FC s0 f s) (hf : f ≤ 160) {c : Int32} (c0 : ¬ (0 : Int32) = c) : F_X9_want c s = some s := by
  unfold F_X9_want
  rw [C_peekF h hf, bind_some]
  dsimp only
  rw [if_neg c0, C_failF h hf, bind_some]
