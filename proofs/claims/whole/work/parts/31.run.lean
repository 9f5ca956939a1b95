/-! a program is run: the class's run, the reference's work -/
theorem ra_ok {s : St} {a m j : Nat} {P : Nat → Int32} (ha : 89 ≤ a) (hd : s.2.2.2[a - 89]? = some (m, P)) (hj : j < m) (hm : m ≤ 1000) : ra s a (nI j) = some (P j) := by
  have h1 : dyn s a = some (m, P) := by
    have h2 : (mkCs s)[a]? = some (.inl (.int, m, .inl P)) := by
      unfold mkCs mkC
      rw [List.getElem?_append_right (by rw [mkC0_len]; exact ha), mkC0_len, List.getElem?_map, hd]
      rfl
    unfold dyn
    rw [h2]
  have e := nI_toInt (n := j) (by omega)
  unfold ra
  rw [h1]
  dsimp only
  rw [if_pos (vb_iff.mpr ⟨by omega, by omega⟩), nI_clamp (by omega)]
theorem la_ok {s : St} {a m : Nat} {P : Nat → Int32} (ha : 89 ≤ a) (hd : s.2.2.2[a - 89]? = some (m, P)) : la s a = some (nI m) := by
  have h1 : dyn s a = some (m, P) := by
    have h2 : (mkCs s)[a]? = some (.inl (.int, m, .inl P)) := by
      unfold mkCs mkC
      rw [List.getElem?_append_right (by rw [mkC0_len]; exact ha), mkC0_len, List.getElem?_map, hd]
      rfl
    unfold dyn
    rw [h2]
  unfold la
  rw [h1]
theorem seg_nil (P : Nat → Int32) (a : Nat) : seg P a a = [] := by unfold seg; rw [Nat.sub_self]; rfl
theorem seg_cons {P : Nat → Int32} {a b : Nat} (h : a < b) : seg P a b = P a :: seg P (a + 1) b := by
  unfold seg
  obtain ⟨n, rfl⟩ : ∃ n, b = a + (n + 1) := ⟨b - a - 1, by omega⟩
  have e1 : a + (n + 1) - a = n + 1 := by omega
  have e2 : a + (n + 1) - (a + 1) = n := by omega
  rw [e1, e2, List.range_succ_eq_map, List.map_cons, List.map_map]
  congr 1
  apply List.map_congr_left
  intro i _
  show P (a + (i + 1)) = P (a + 1 + i)
  congr 1
  omega
theorem C_letterAt {s : St} {i : Nat} (hi : i < 6) : F_X0_letterAt (nI i) s = some (s.2.1 7 i) := by
  have e := nI_toInt (n := i) (by omega)
  have h1 : ¬ nI i < 0 := by rw [i32_lt, e]; have e0 : (0 : Int32).toInt = 0 := rfl; omega
  have h2 : ¬ (6 : Int32) ≤ nI i := by rw [i32_le, e]; have e6 : (6 : Int32).toInt = 6 := rfl; omega
  unfold F_X0_letterAt
  rw [if_neg h1, if_neg h2]
  simp (disch := omega) only [rd_nI, bind_some]
theorem isOp_of {k : Int32} (h : k = 20043 ∨ k = 20045 ∨ k = 20042 ∨ k = 20047 ∨ k = 20061 ∨ k = 20060 ∨ k = 20062 ∨ k = 20038 ∨ k = 20124) : isOp (k - 20000) := by
  unfold isOp
  rcases h with z | z | z | z | z | z | z | z | z <;> subst z <;> decide
theorem C_runLoop {s : St} {a m : Nat} {P : Nat → Int32} (ha : 89 ≤ a) (hd : s.2.2.2[a - 89]? = some (m, P)) (hm : m ≤ 1000) {y : Nat} (hy : y ≤ m) : ∀ (d k h h2 : Nat) (f : Nat → Int32) (F : Nat), k + d = y → h ≤ 64 → tkH (seg P k y) h = some h2 → d < F → lp (B_X0_run_16 a (nI y)) F (nI h, nI k, setA s 8 f) = some (setA s 8 (evS (s.2.1 7) (seg P k y) f h).1)
  | 0, k, h, h2, f, F, hk, h64, ht, hF => by
    obtain ⟨F, rfl⟩ : ∃ F', F = F' + 1 := ⟨F - 1, by omega⟩
    have : k = y := by omega
    subst this
    rw [seg_nil]
    refine lp_r ?_
    simp (disch := omega) only [B_X0_run_16, nI_leI, Nat.le_refl, if_true, evS]
  | d + 1, k, h, h2, f, F, hk, h64, ht, hF => by
    obtain ⟨F, rfl⟩ : ∃ F', F = F' + 1 := ⟨F - 1, by omega⟩
    have hky : k < y := by omega
    rw [seg_cons hky] at ht ⊢
    have c1 : ¬ y ≤ k := by omega
    have c2 : ¬ m ≤ k := by omega
    have hla : la (setA s 8 f) a = some (nI m) := la_ok (s := setA s 8 f) ha hd
    have hra : ra (setA s 8 f) a (nI k) = some (P k) := ra_ok (s := setA s 8 f) ha hd (by omega) hm
    have e1 : (10000 : Int32).toInt = 10000 := rfl
    have e2 : (20000 : Int32).toInt = 20000 := rfl
    have ih := C_runLoop ha hd hm hy d (k + 1)
    unfold tkH at ht
    unfold evS
    split at ht
    · next hk1 =>
      split at ht
      · next h63 =>
        have c3 : ¬ (20000 : Int32) ≤ P k := by rw [i32_le]; omega
        have c4 : ¬ (64 : Int32) ≤ nI h := by rw [i32_le, nI_toInt (by omega)]; have : (64 : Int32).toInt = 64 := rfl; omega
        by_cases c5 : (P k).toInt ≤ 9999
        · rw [if_pos c5]
          have c6 : ¬ (10000 : Int32) ≤ P k := by rw [i32_le]; omega
          rw [← ih (h + 1) h2 (upd f h (P k)) F (by omega) (by omega) ht (by omega)]
          refine lp_l ?_
          simp (disch := omega) only [B_X0_run_16, nI_leI, c1, c2, if_false, hla, hra, bind_some, c3, c4, c6, wr_nI, sA_set, nI_1]
        · rw [if_neg c5, if_pos (show (P k).toInt ≤ 10005 by omega)]
          have c6 : (10000 : Int32) ≤ P k := by rw [i32_le]; omega
          have hs : (P k - 10000).toInt = (P k).toInt - 10000 := by rw [i32_sub (by omega) (by omega), e1]
          have hn : P k - 10000 = nI ((P k).toInt - 10000).toNat := i32_of (by omega)
          have hlt : F_X0_letterAt (P k - 10000) (setA s 8 f) = some (s.2.1 7 ((P k).toInt - 10000).toNat) := by
            rw [hn, C_letterAt (by omega)]
            rfl
          rw [← ih (h + 1) h2 (upd f h (s.2.1 7 ((P k).toInt - 10000).toNat)) F (by omega) (by omega) ht (by omega)]
          refine lp_l ?_
          simp (disch := omega) only [B_X0_run_16, nI_leI, c1, c2, if_false, hla, hra, bind_some, c3, c4, c6, if_true, hlt, wr_nI, sA_set, nI_1]
      · cases ht
    · next hk1 =>
      split at ht
      · next hk2 =>
        split at ht
        · next h0 =>
          have e : (P k).toInt = 20033 := by rw [hk2]; rfl
          have c3 : (20000 : Int32) ≤ P k := by rw [i32_le]; omega
          have c4 : ¬ nI h ≤ 0 := by rw [i32_le, nI_toInt (by omega)]; have : (0 : Int32).toInt = 0 := rfl; omega
          have hp : nI h - 1 = nI (h - 1) := by
            obtain ⟨h', rfl⟩ : ∃ h', h = h' + 1 := ⟨h - 1, by omega⟩
            exact nI_pred h'
          simp only [if_neg (show ¬ (P k).toInt ≤ 9999 by omega), if_neg (show ¬ (P k).toInt ≤ 10005 by omega), if_pos hk2]
          rw [← ih h h2 _ F (by omega) h64 ht (by omega)]
          refine lp_l ?_
          by_cases c5 : f (h - 1) = 0
          · simp (disch := omega) only [B_X0_run_16, nI_leI, c1, c2, if_false, hla, hra, bind_some, c3, if_true, hk2, c4, hp, rd_nI, setA_21, va_up_s, c5, wr_nI, sA_set, nI_1, if_pos, Int32.le_refl]
            simp only [show (20000 : Int32) ≤ 20033 by decide, if_true]
          · simp (disch := omega) only [B_X0_run_16, nI_leI, c1, c2, if_false, hla, hra, bind_some, c3, if_true, hk2, c4, hp, rd_nI, setA_21, va_up_s, c5, wr_nI, sA_set, nI_1, if_pos]
            simp only [show (20000 : Int32) ≤ 20033 by decide, if_true]
        · cases ht
      · next hk2 =>
        split at ht
        · next hk3 =>
          split at ht
          · next h1 =>
            have e : 20000 ≤ (P k).toInt := by rcases hk3 with z | z | z | z | z | z | z | z | z <;> rw [z] <;> decide
            have c3 : (20000 : Int32) ≤ P k := by rw [i32_le]; omega
            have c4 : ¬ nI h ≤ 1 := by rw [i32_le, nI_toInt (by omega)]; have : (1 : Int32).toInt = 1 := rfl; omega
            obtain ⟨h', rfl⟩ : ∃ h', h = h' + 2 := ⟨h - 2, by omega⟩
            have hp : nI (h' + 2) + (-1) = nI (h' + 1) := by
              rw [← Int32.sub_eq_add_neg]
              exact nI_pred (h' + 1)
            have hp2 : nI (h' + 1) - 1 = nI h' := nI_pred h'
            have hj : F_X0_joined (P k - 20000) (Int32.toInt64 (f h')) (Int32.toInt64 (f (h' + 1))) = some (opv (P k - 20000) (f h') (f (h' + 1))) := joined_opv (isOp_of hk3) _ _
            simp only [if_neg (show ¬ (P k).toInt ≤ 9999 by omega), if_neg (show ¬ (P k).toInt ≤ 10005 by omega), if_neg hk2]
            have e3 : h' + 2 - 1 = h' + 1 := by omega
            have e4 : h' + 2 - 2 = h' := by omega
            rw [e3] at ht
            rw [e3, e4, ← ih (h' + 1) h2 _ F (by omega) (by omega) ht (by omega)]
            refine lp_l ?_
            simp (disch := omega) only [B_X0_run_16, nI_leI, c1, c2, if_false, hla, hra, bind_some, c3, if_true, hk2, c4, hp, hp2, rd_nI, setA_21, va_up_s, hj, wr_nI, sA_set, nI_1]
          · cases ht
        · cases ht
theorem C_run {s : St} {a m : Nat} {P : Nat → Int32} (ha : 89 ≤ a) (hd : s.2.2.2[a - 89]? = some (m, P)) (hm : m ≤ 1000) {x y : Nat} (hx : x ≤ y) (hy : y ≤ m) (ht : tkH (seg P x y) 0 = some 1) : F_X0_run a (nI x) (nI y) s = some ((evS (s.2.1 7) (seg P x y) (s.2.1 8) 0).1 0, setA s 8 (evS (s.2.1 7) (seg P x y) (s.2.1 8) 0).1) := by
  have h0 : (0 : Int32) ≤ nI x := by rw [i32_le, nI_toInt (by omega)]; have : (0 : Int32).toInt = 0 := rfl; omega
  unfold F_X0_run F_X0_run_16
  rw [if_pos h0]
  have hl := C_runLoop ha hd hm hy (y - x) x 0 1 (s.2.1 8) FU (by omega) (by omega) ht (FU_lt (by omega))
  rw [setA_self] at hl
  have e0 : (0 : Int32) = nI 0 := rfl
  rw [e0, hl]
  simp only [bind_some, F_X0_run_182]
  rw [e0]
  simp (disch := omega) only [rd_nI, bind_some, setA_21, va_up_s]
