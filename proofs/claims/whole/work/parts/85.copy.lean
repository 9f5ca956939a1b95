/-! a new law: the reference's copy -/
def cpy (f g : Nat → Int32) (a m : Nat) : Nat → Int32 := fun i => if a ≤ i ∧ i < a + m then g (i - a) else f i
theorem nI_420 : ∀ n, n < 20 → (420 : Int32) * nI n = nI (420 * n) := by decide +kernel
theorem M_lawcopy {t : St} {n m : Nat} (v1 v2 : Int32) (hn : n < 20) (hm : m ≤ 420) (h1 : t.1 1239 = nI m) (h2 : t.1 1240 = nI n) : lp (B_X12_law_37 v1 v2) FU (0, t) = some (setA t 1230 (cpy (t.2.1 1230) (t.2.1 1229) (420 * n) m)) := by
  refine lp_cnt (fun j => (nI j, setA t 1230 (cpy (t.2.1 1230) (t.2.1 1229) (420 * n) j))) m ?_ ?_ ?_ (FU_lt (by omega))
  · show ((0 : Int32), t) = (nI 0, setA t 1230 (cpy (t.2.1 1230) (t.2.1 1229) (420 * n) 0))
    have e : cpy (t.2.1 1230) (t.2.1 1229) (420 * n) 0 = t.2.1 1230 := by
      funext i
      unfold cpy
      rw [if_neg (by omega)]
    rw [e, setA_self]
    rfl
  · intro j hj
    have hc : ¬ nI m ≤ nI j := by
      rw [i32_le, nI_toInt (by omega), nI_toInt (by omega)]
      omega
    unfold B_X12_law_37
    dsimp only
    rw [show (setA t 1230 (cpy (t.2.1 1230) (t.2.1 1229) (420 * n) j)).1 1239 = nI m from h1, if_neg hc, rd_nI (by omega) (by omega), bind_some]
    rw [show (setA t 1230 (cpy (t.2.1 1230) (t.2.1 1229) (420 * n) j)).1 1240 = nI n from h2, nI_420 n hn, show nI (420 * n) + nI j = nI (420 * n + j) from nI_add _ _, wr_nI (by omega) (by omega), bind_some, nI_1, sA_set]
    congr 4
    funext i
    unfold cpy upd
    show (if i = 420 * n + j then (setA t 1230 _).2.1 1229 j else _) = _
    by_cases c : i = 420 * n + j
    · rw [if_pos c, if_pos (by omega), show i - 420 * n = j by omega]
      rfl
    · rw [if_neg c]
      dsimp only
      by_cases c2 : 420 * n ≤ i ∧ i < 420 * n + j
      · rw [if_pos c2, if_pos (by omega)]
      · rw [if_neg c2, if_neg (by omega)]
  · unfold B_X12_law_37
    dsimp only
    rw [show (setA t 1230 (cpy (t.2.1 1230) (t.2.1 1229) (420 * n) m)).1 1239 = nI m from h1, if_pos (by rw [i32_le]; exact Int.le_refl _)]
/-- the reference with one law more -/
def ME (t : St) (n m : Nat) (v1 v2 : Int32) : St := pI (pI (sA (sA (sA (sA (setA t 1230 (cpy (t.2.1 1230) (t.2.1 1229) (420 * n) m)) 1231 n (nI m)) 1232 n v1) 1233 n v2) 1234 n (t.1 1200)) 1235 0) 1240 (nI (n + 1))
theorem M_lawkeep {t : St} {n m : Nat} (v1 v2 : Int32) (hn : n < 20) (hm : m ≤ 420) (h1 : t.1 1239 = nI m) (h2 : t.1 1240 = nI n) : F_X12_law_37 v1 v2 0 t = some (nI n, ME t n m v1 v2) := by
  unfold F_X12_law_37
  rw [M_lawcopy v1 v2 hn hm h1 h2, bind_some]
  unfold F_X12_law_72
  rw [show (setA t 1230 (cpy (t.2.1 1230) (t.2.1 1229) (420 * n) m)).1 1240 = nI n from h2, show (setA t 1230 (cpy (t.2.1 1230) (t.2.1 1229) (420 * n) m)).1 1239 = nI m from h1, wr_nI (by omega) (by omega), bind_some]
  rw [show (sA (setA t 1230 (cpy (t.2.1 1230) (t.2.1 1229) (420 * n) m)) 1231 n (nI m)).1 1240 = nI n from h2, wr_nI (by omega) (by omega), bind_some]
  rw [show (sA (sA (setA t 1230 (cpy (t.2.1 1230) (t.2.1 1229) (420 * n) m)) 1231 n (nI m)) 1232 n v1).1 1240 = nI n from h2, wr_nI (by omega) (by omega), bind_some]
  rw [show (sA (sA (sA (setA t 1230 (cpy (t.2.1 1230) (t.2.1 1229) (420 * n) m)) 1231 n (nI m)) 1232 n v1) 1233 n v2).1 1240 = nI n from h2, wr_nI (by omega) (by omega), bind_some, wI_ok, bind_some, wI_ok, bind_some]
  rw [pI_at]
  show some ((t.1 1240 + 1) - 1, pI (pI (sA (sA (sA (sA (setA t 1230 (cpy (t.2.1 1230) (t.2.1 1229) (420 * n) m)) 1231 n (nI m)) 1232 n v1) 1233 n v2) 1234 n (t.1 1200)) 1235 0) 1240 (t.1 1240 + 1)) = _
  rw [h2, Int32.add_sub_cancel, nI_1]
  rfl
