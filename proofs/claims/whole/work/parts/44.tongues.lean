/-! which tongues a teacher may teach -/
/-- may a teacher teach a tongue -/
noncomputable def mayT (s t : St) (i : Nat) (shire y q : Int32) (m : Nat) : Bool := bt (t.2.1 1270 i) m && decide (¬ wq s t 3 shire y q 0 (nI m) (y - t.2.1 1268 i) (t.2.1 1269 i) = 0)
theorem C_tongues {N : Int} {s t : St} (h : RX N s t) {i : Nat} (hi : i < 40) {shire y q : Int32} (hsh : 0 ≤ shire.toInt) (l f : Nat → Int32) (x : Int32) : ∃ (r : Int32) (l' f' : Nat → Int32) (x' : Int32), F_X8_tonguesIn (nI i) shire y q (CL s l f x) = some (r, CL s l' f' x') ∧ ∀ m, m < 32 → bt r m = (decide (m < 8) && mayT s t i shire y q m) := by
  obtain ⟨z0, z1, z2, z3, z4, z5, z6, z7⟩ := h.staff
  have e7 : (7 : Int32).toInt = 7 := rfl
  obtain ⟨Y, h1, r, l', f', x', rfl, h2⟩ := lp_inv (B := B_X8_tonguesIn_6 (nI i) shire y q)
    (fun m X => ∃ (n : Nat) (r : Int32) (l f : Nat → Int32) (x : Int32), X = (r, nI n, CL s l f x) ∧ n + m = 8 ∧ ∀ j, j < 32 → bt r j = (decide (j < n) && mayT s t i shire y q j))
    (fun Y => ∃ (r : Int32) (l f : Nat → Int32) (x : Int32), Y = (r, CL s l f x) ∧ ∀ j, j < 32 → bt r j = (decide (j < 8) && mayT s t i shire y q j)) (by
      rintro m _ ⟨n, r, l, f, x, rfl, hn, hr⟩
      by_cases c : n = 8
      · right
        subst c
        have h9 : (7 : Int32) < nI 8 := by decide
        refine ⟨(r, CL s l f x), ?_, r, l, f, x, rfl, hr⟩
        unfold B_X8_tonguesIn_6
        dsimp only
        rw [if_pos h9]
      · left
        have h9 : ¬ (7 : Int32) < nI n := by
          rw [i32_lt, nI_toInt (by omega)]
          omega
        have k1 : rd (CL s l f x) 805 40 (nI i) = some (t.2.1 1270 i) := by
          rw [rd_nI hi (by omega), ← z4]
          rfl
        have k2 : rd (CL s l f x) 803 40 (nI i) = some (t.2.1 1268 i) := by
          rw [rd_nI hi (by omega), ← z2]
          rfl
        have k3 : rd (CL s l f x) 804 40 (nI i) = some (t.2.1 1269 i) := by
          rw [rd_nI hi (by omega), ← z3]
          rfl
        have step : ∀ b : Bool, mayT s t i shire y q n = b → ∀ r2 : Int32, (∀ j, j < 32 → bt r2 j = (bt r j || (b && decide (j = n)))) → ∀ j, j < 32 → bt r2 j = (decide (j < n + 1) && mayT s t i shire y q j) := by
          intro b hb r2 h2 j hj
          rw [h2 j hj, hr j hj]
          by_cases e : j = n
          · subst e
            rw [hb]
            simp
          · have : decide (j < n + 1) = decide (j < n) := by
              by_cases e2 : j < n
              · rw [decide_eq_true e2, decide_eq_true (by omega)]
              · rw [decide_eq_false e2, decide_eq_false (by omega)]
            rw [this, decide_eq_false e]
            simp
        cases hb : bt (t.2.1 1270 i) n with
        | false =>
          have hm : mayT s t i shire y q n = false := by
            unfold mayT
            rw [hb]
            rfl
          refine ⟨(r, nI (n + 1), CL s l f x), m - 1, ?_, by omega, n + 1, r, l, f, x, rfl, by omega, step false hm r (fun j hj => by simp)⟩
          unfold B_X8_tonguesIn_6
          dsimp only
          rw [if_neg h9, k1, bind_some, if_neg (fun e => by rw [(bt_is _ (by omega)).mp e] at hb; cases hb), nI_1]
        | true =>
          obtain ⟨s3, t3, l', f', l2', g', x', p', v', a1, a2, a3, a4, _⟩ := ask_det h (k := 3) (by omega) (shire := shire) (year := y) (q := q) (a := 0) (b := nI n) (c := y - t.2.1 1268 i) (d := t.2.1 1269 i) hsh l f x (t.2.1 1241) (t.2.1 1242) (t.1 1243) (t.1 1244)
          have a3' : F_X0_worthOf 3 shire y q 0 s3 = some (wq s t 3 shire y q 0 (nI n) (y - t.2.1 1268 i) (t.2.1 1269 i), CL s l' f' x') := a3
          by_cases d : wq s t 3 shire y q 0 (nI n) (y - t.2.1 1268 i) (t.2.1 1269 i) = 0
          · have hm : mayT s t i shire y q n = false := by
              unfold mayT
              rw [decide_eq_false (fun e => e d), Bool.and_false]
            refine ⟨(r, nI (n + 1), CL s l' f' x'), m - 1, ?_, by omega, n + 1, r, l', f', x', rfl, by omega, step false hm r (fun j hj => by simp)⟩
            unfold B_X8_tonguesIn_6
            dsimp only
            rw [if_neg h9, k1, bind_some, if_pos ((bt_is _ (by omega)).mpr hb), k2, bind_some, k3, bind_some, a1, bind_some, a3', bind_some, if_pos d, nI_1]
          · have hm : mayT s t i shire y q n = true := by
              unfold mayT
              rw [hb, decide_eq_true d]
              rfl
            refine ⟨(r ||| (1 <<< (nI n &&& 31)), nI (n + 1), CL s l' f' x'), m - 1, ?_, by omega, n + 1, _, l', f', x', rfl, by omega, step true hm _ (fun j hj => by rw [bt_on r (by omega) hj]; simp)⟩
            unfold B_X8_tonguesIn_6
            dsimp only
            rw [if_neg h9, k1, bind_some, if_pos ((bt_is _ (by omega)).mpr hb), k2, bind_some, k3, bind_some, a1, bind_some, a3', bind_some, if_neg d, nI_1]) FU 8 (0, 0, CL s l f x) ⟨0, 0, l, f, x, rfl, by omega, fun j hj => by rw [b_0]; simp⟩ (FU_lt (by omega))
  refine ⟨r, l', f', x', ?_, h2⟩
  unfold F_X8_tonguesIn F_X8_tonguesIn_6
  rw [h1]
  rfl
