/-! roof, wind, blame -/
theorem cnR_ge {f : Nat → Int32} {m x : Int32} {k : Nat} : ∀ {n : Nat}, n ≤ k → cnR (upd f k x) m n = cnR f m n
  | 0, _ => rfl
  | n + 1, h => by
    have ih := cnR_ge (f := f) (m := m) (x := x) (k := k) (n := n) (by omega)
    have : ¬ n = k := by omega
    simp only [cnR, ih, upd, this, if_false]
theorem cnT_ge {f g : Nat → Int32} {m x : Int32} {k : Nat} : ∀ {n : Nat}, n ≤ k → cnT (upd f k x) g m n = cnT f g m n
  | 0, _ => rfl
  | n + 1, h => by
    have ih := cnT_ge (f := f) (g := g) (m := m) (x := x) (k := k) (n := n) (by omega)
    have : ¬ n = k := by omega
    simp only [cnT, ih, upd, this, if_false]
theorem cnT_g {f g : Nat → Int32} {m x : Int32} {k : Nat} : ∀ {n : Nat}, n ≤ k → cnT f (upd g k x) m n = cnT f g m n
  | 0, _ => rfl
  | n + 1, h => by
    have ih := cnT_g (f := f) (g := g) (m := m) (x := x) (k := k) (n := n) (by omega)
    have : ¬ n = k := by omega
    simp only [cnT, ih, upd, this, if_false]
theorem cnT_take {f g : Nat → Int32} {m : Int32} {k : Nat} (hg : g k = 0) : ∀ {n : Nat}, k < n → cnT f (upd g k 1) m n = cnT f g m n + if f k = m then 1 else 0
  | 0, h => absurd h (by omega)
  | n + 1, h => by
    by_cases e : n = k
    · subst e
      simp only [cnT, cnT_g (Nat.le_refl n), upd, if_true, hg]
      by_cases e2 : f n = m
      · simp [e2]
      · simp [e2]
    · have ih := cnT_take (f := f) (g := g) (m := m) (k := k) hg (n := n) (by omega)
      simp only [cnT, ih, upd, e, if_false]
      omega
theorem cnT_le {f g : Nat → Int32} {m : Int32} : ∀ {n : Nat}, cnT f g m n ≤ cnR f m n
  | 0 => Nat.le_refl 0
  | n + 1 => by
    have ih := cnT_le (f := f) (g := g) (m := m) (n := n)
    simp only [cnT, cnR]
    by_cases e2 : f n = m
    · by_cases e3 : g n = 0
      · simp [e2, e3]; omega
      · simp [e2, e3]; omega
    · simp [e2]; omega
theorem cnR_le {f : Nat → Int32} {m : Int32} : ∀ {n : Nat}, cnR f m n ≤ n
  | 0 => Nat.le_refl 0
  | n + 1 => by
    have ih := cnR_le (f := f) (m := m) (n := n)
    simp only [cnR]
    split <;> omega
theorem P_roof {N : Int} {s t : St} (h : RX N s t) (a b c : Int32) : Two (RX (N + 1)) (F_X11_roof a b c s) (F_X12_roof a b c t) := by
  obtain ⟨r0, r1, r2, r3, r4, r5, r6, r9, r7, r8⟩ := h.roof
  obtain ⟨y0, y1⟩ := r2
  have hnow := h.now.1
  unfold F_X11_roof F_X12_roof F_X11_isSchool F_X12_isSchool
  rw [h.sch.1, h.yard.1]
  simp only [bind_some, bI_eq0]
  refine Two_ite (fun _ => Two_ret _ h.up) (fun c1 => Two_ite (fun _ => Two_ret _ h.up) (fun c2 => Two_ite (fun _ => Two_ret _ h.up) (fun c3 => ?_)))
  obtain ⟨q1, q2⟩ := isN c1 h.sch.2.1
  obtain ⟨q3, q4⟩ := isN c3 h.yard.2.1
  have b1 := h.sch.2.1.2
  have b3 := h.yard.2.1.2
  have qb := inb_R c2
  simp only [Int32.reduceToInt] at qb
  unfold F_X4_lay
  rw [r1]
  by_cases hc : t.1 1287 = 60
  · rw [if_pos hc, if_neg (by rw [hc]; decide)]
    simp only [bind_some, bz]
    exact Two_ret _ h.up
  · have hl : (t.1 1287).toInt < 60 := ne_lt (m := 60) y1 hc
    rw [if_neg hc, if_pos (i32_lt.mpr hl)]
    obtain ⟨n, en, en2, _⟩ := i32_nat y0
    obtain ⟨j, ej, ej2, _⟩ := i32_nat q1
    obtain ⟨m, em, em2, _⟩ := i32_nat q3
    have hj : j < 20 := by omega
    have hm : m < 8 := by omega
    have hn : n < 60 := by omega
    have en3 : (t.1 1287).toInt.toNat = n := by omega
    have ej3 : a.toInt.toNat = j := by omega
    have em3 : c.toInt.toNat = m := by omega
    have e1 : (1 : Int32).toInt = 1 := rfl
    have en4 : (t.1 1287 + 1).toInt = n + 1 := by rw [i32_add (by omega) (by omega), e1]; omega
    have en5 : (n + 1 : Int).toNat = n + 1 := by omega
    simp (disch := omega) only [wI_ok, bind_some, rd_ok, wr_ok, bz_ok, or_true, pI_1, pI_2, pA_1, pA_21, pA_22, pk_us, upd_n, va_up_s, va_up_n, Nat.reduceBEq, hnow]
    have hfm := r5 m hm
    rw [en3] at hfm
    have r5' := r5
    rw [en3] at r5'
    refine Two_ret _ ⟨h.now, h.folk, h.cnt, h.rec, h.trt, h.sch, h.blt, ⟨⟨h.shut.1.1, Int.le_trans h.shut.1.2 (by omega)⟩, h.shut.2⟩, h.tape, h.yard, h.prom, h.given, h.staff, ?_, h.site, h.purse, h.land, h.law, h.ref, h.row⟩
    refine ⟨r0, by simp only [pI_1, pI_2, pA_1, pA_21, pA_22, pk_us, upd_n, va_up_s, va_up_n, Nat.reduceBEq], by simp only [pI_1, pI_2, pA_1, pA_21, pA_22, pk_us, upd_n, va_up_s, va_up_n, Nat.reduceBEq]; exact inR_inc ⟨y0, y1⟩ hl (by decide), r3, r4, ?_, ?_, ?_, ?_, ?_⟩
    · intro i hi
      simp only [pI_1, pI_2, pA_1, pA_21, pA_22, pk_us, upd_n, va_up_s, va_up_n, Nat.reduceBEq, en4, en5, en3, ej3, em3]
      have hir := r5' i hi
      simp only [cnR, cnT, cnR_ge (Nat.le_refl n), cnT_ge (Nat.le_refl n), upd, if_true]
      have ht : t.2.1 1285 n = 0 := r9 n hn (by omega)
      have hci : c = nI i ↔ m = i := by rw [em]; exact nI_eq (by omega) (by omega)
      by_cases e2 : i = m
      · subst e2
        have e3 : c = nI i := hci.mpr rfl
        simp only [if_true, e3, ht]
        refine ⟨?_, ?_⟩
        · rw [hir.1, nI_1]
        · rw [hir.2]; simp
      · have e3 : ¬ c = nI i := fun z => e2 (hci.mp z).symm
        simp only [e2, e3, if_false, false_and]
        exact hir
    · intro i hi hge
      simp only [pI_1, pI_2, pA_1, pA_21, pA_22, pk_us, upd_n, va_up_s, va_up_n, Nat.reduceBEq, en4, en5, en3, ej3, em3]
      unfold upd
      have : ¬ i = j := by intro z; subst z; have hge2 : (t.1 1223).toInt ≤ (i : Int) := hge; omega
      rw [if_neg this]
      exact r6 i hi hge
    · intro r hr hge
      simp only [pI_1, pI_2, pA_1, pA_21, pA_22, pk_us, upd_n, va_up_s, va_up_n, Nat.reduceBEq, en4, en5, en3, ej3, em3] at hge ⊢
      exact r9 r hr (by omega)
    · intro r hr
      obtain ⟨k1, k2, k3⟩ := r7 r hr
      simp only [pI_1, pI_2, pA_1, pA_21, pA_22, pk_us, upd_n, va_up_s, va_up_n, Nat.reduceBEq, en4, en5, en3, ej3, em3]
      unfold upd
      refine ⟨?_, k2, ?_⟩
      · split
        · exact qb
        · exact k1
      · split
        · exact ⟨q3, by omega⟩
        · exact k3
    · intro i hi hlt
      simp only [pI_1, pI_2, pA_1, pA_21, pA_22, pk_us, upd_n, va_up_s, va_up_n, Nat.reduceBEq, en4, en5, en3, ej3, em3] at hlt ⊢
      by_cases e2 : i = j
      · subst e2
        right
        refine ⟨by simp [upd], n, by omega, by simp [upd, en], by simp [upd], by simp [upd], by simp [upd], r9 n hn (by omega), ?_⟩
        intro k hk hklt hu
        unfold upd at hu
        by_cases e3 : k = i
        · exact e3
        · rw [if_neg e3] at hu
          rcases r8 k hk (by omega) with ⟨k1, k2⟩ | ⟨k1, r, k2, k3, _⟩
          · rw [k2] at hu; exact absurd hu.symm (nI_neg1 (by omega))
          · rw [k3] at hu
            have := (nI_eq (a := r) (b := n) (by omega) (by omega)).mp hu
            omega
      · rcases r8 i hi hlt with ⟨k1, k2⟩ | ⟨k1, r, k2, k3, k4, k5, k6, k7, k8⟩
        · left
          refine ⟨by simp [upd, e2, k1], by simp [upd, e2, k2]⟩
        · right
          have e4 : ¬ r = n := by omega
          refine ⟨by simp [upd, e2, k1], r, by omega, by simp [upd, e2, k3], by simp [upd, e2, e4, k4], by simp [upd, e2, e4, k5], by simp [upd, e2, e4, k6], k7, ?_⟩
          intro k hk hklt hu
          unfold upd at hu
          by_cases e3 : k = j
          · rw [if_pos e3, en] at hu
            have := (nI_eq (a := n) (b := r) (by omega) (by omega)).mp hu
            omega
          · rw [if_neg e3] at hu
            exact k8 k hk hklt hu
theorem P_blame {N : Int} {s t : St} (h : RX N s t) : Two0 (F_X11_blame s) (F_X12_blame t) := by
  obtain ⟨r0, r1, r2, r3, r4, r5, r6, r9, r7, r8⟩ := h.roof
  obtain ⟨y0, y1⟩ := r2
  obtain ⟨n, en, en2, _⟩ := i32_nat y0
  obtain ⟨x0, x1⟩ := h.yard.2.1
  obtain ⟨mk, emk, emk2, _⟩ := i32_nat x0
  have hn : n ≤ 60 := by omega
  have hmk : mk ≤ 8 := by omega
  have en3 : (t.1 1287).toInt.toNat = n := by omega
  rw [en3] at r5
  have hin : ∀ (b x y : Int32) (m : Nat), m < 8 → lp (B_X12_blame_27 b x y (nI m) t) FU (0, 0, 0) = some (nI (cnR (t.2.1 1282) (nI m) n), nI (cnT (t.2.1 1282) (t.2.1 1285) (nI m) n)) := by
    intro b x y m hm
    refine lp_cnt (fun j => (nI (cnR (t.2.1 1282) (nI m) j), nI (cnT (t.2.1 1282) (t.2.1 1285) (nI m) j), nI j)) n rfl ?_ ?_ (FU_lt (by omega))
    · intro j hj
      simp (disch := omega) only [B_X12_blame_27, en, nI_leI, rd_nI, bind_some, nI_1, cnR, cnT]
      rw [if_neg (by omega)]
      by_cases c1 : t.2.1 1282 j = nI m
      · simp only [c1, if_true, true_and]
        by_cases c2 : t.2.1 1285 j = 0
        · simp only [c2, if_true, not_true_eq_false, if_false, Int32.add_zero, Nat.add_zero]
        · simp only [c2, if_false, not_false_eq_true, if_true]
      · simp only [c1, if_false, false_and, Int32.add_zero, Nat.add_zero]
    · simp (disch := omega) only [B_X12_blame_27, en, nI_leI]
      rw [if_pos (by omega)]
  have hmul : ∀ a b : Nat, a ≤ 60 → b ≤ 60 → (nI a * nI b).toInt = (a : Int) * b := by
    intro a b ha hb
    have h1 : (a : Int) * b ≤ 60 * 60 := by
      calc (a : Int) * b ≤ 60 * (b : Int) := Int.mul_le_mul_of_nonneg_right (by omega) (by omega)
        _ ≤ 60 * 60 := by omega
    have h0 : 0 ≤ (a : Int) * b := Int.mul_nonneg (by omega) (by omega)
    have ea := nI_toInt (n := a) (by omega)
    have eb := nI_toInt (n := b) (by omega)
    rw [i32_mul (by rw [ea, eb]; omega) (by rw [ea, eb]; omega), ea, eb]
  have hT : ∀ m, cnT (t.2.1 1282) (t.2.1 1285) (nI m) n ≤ 60 := fun m => Nat.le_trans cnT_le (Nat.le_trans cnR_le hn)
  have hR : ∀ m, cnR (t.2.1 1282) (nI m) n ≤ 60 := fun m => Nat.le_trans cnR_le hn
  unfold F_X11_blame F_X12_blame F_X4_worstMaker F_X4_worstMaker_4 F_X12_blame_9
  rw [h.yard.1]
  have e0 : (0 : Int32).toInt = 0 := rfl
  obtain ⟨y, w, h1, h2, h3⟩ := lp_two (B := B_X4_worstMaker_4 (t.1 1263) s) (B2 := B_X12_blame_9 t)
    (fun q x z => ∃ k : Nat, k ≤ mk ∧ q = mk - k ∧ x.2 = nI k ∧ z.2.2.2 = nI k ∧ x.1 = z.1 ∧ ((x.1 = -1 ∧ z.2.1 = 0 ∧ z.2.2.1 = 1) ∨ ∃ b : Nat, b < 8 ∧ x.1 = nI b ∧ z.2.1 = nI (cnT (t.2.1 1282) (t.2.1 1285) (nI b) n) ∧ z.2.2.1 = nI (cnR (t.2.1 1282) (nI b) n)))
    (fun y w => y = w) (by
      rintro q ⟨v, v'⟩ ⟨z1, z2, z3, z4⟩ ⟨k, g1, g2, g3, g4, g5, g6⟩
      dsimp only at g3 g4 g5 g6
      subst g3 g4 g5
      by_cases hk : k = mk
      · right
        subst hk
        refine ⟨v, v, ?_, ?_, rfl⟩
        · simp (disch := omega) only [B_X4_worstMaker_4, emk, nI_leI, Nat.le_refl, if_true]
        · simp (disch := omega) only [B_X12_blame_9, emk, nI_leI, Nat.le_refl, if_true]
      · left
        have hk8 : k < 8 := by omega
        have c1 : ¬ mk ≤ k := by omega
        have c2 : ¬ (8 : Int32) ≤ nI k := by rw [i32_le, nI_toInt (by omega)]; simp only [Int32.reduceToInt]; omega
        obtain ⟨rk1, rk2⟩ := r5 k hk8
        have hTk := hT k
        have hRk := hR k
        have eT := nI_toInt (n := cnT (t.2.1 1282) (t.2.1 1285) (nI k) n) (by omega)
        have hC : ∀ x y z : Int32, B_X12_blame_9 t (x, y, z, nI k) = F_X12_blame_96 x y z (nI k) (nI (cnR (t.2.1 1282) (nI k) n)) (nI (cnT (t.2.1 1282) (t.2.1 1285) (nI k) n)) t := by
          intro x y z
          simp (disch := omega) only [B_X12_blame_9, emk, nI_leI, c1, if_false, F_X12_blame_27]
          rw [hin _ _ _ k hk8]
          rfl
        rcases g6 with ⟨g7, g8, g9⟩ | ⟨b, g7, g8, g9, g10⟩
        · subst g7 g8 g9
          by_cases c3 : cnT (t.2.1 1282) (t.2.1 1285) (nI k) n = 0
          · refine ⟨(-1, nI (k + 1)), (-1, 0, 1, nI (k + 1)), mk - (k + 1), ?_, ?_, by omega, k + 1, by omega, rfl, rfl, rfl, rfl, Or.inl ⟨rfl, rfl, rfl⟩⟩
            · have c4 : nI (cnT (t.2.1 1282) (t.2.1 1285) (nI k) n) ≤ 0 := by rw [i32_le, eT, c3]; decide
              simp (disch := omega) only [B_X4_worstMaker_4, emk, nI_leI, c1, c2, if_false, if_true, rd_nI, bind_some, rk2, c4, nI_1]
            · have c4 : nI (cnT (t.2.1 1282) (t.2.1 1285) (nI k) n) ≤ 0 := by rw [i32_le, eT, c3]; decide
              rw [hC]
              simp only [F_X12_blame_96, c4, if_true, nI_1]
          · have c4 : ¬ nI (cnT (t.2.1 1282) (t.2.1 1285) (nI k) n) ≤ 0 := by rw [i32_le, eT, e0]; omega
            refine ⟨(nI k, nI (k + 1)), (nI k, nI (cnT (t.2.1 1282) (t.2.1 1285) (nI k) n), nI (cnR (t.2.1 1282) (nI k) n), nI (k + 1)), mk - (k + 1), ?_, ?_, by omega, k + 1, by omega, rfl, rfl, rfl, rfl, Or.inr ⟨k, hk8, rfl, rfl, rfl⟩⟩
            · simp (disch := omega) only [B_X4_worstMaker_4, emk, nI_leI, c1, c2, if_false, if_true, rd_nI, bind_some, rk2, c4, nI_1]
            · rw [hC]
              have c5 : ¬ nI (cnT (t.2.1 1282) (t.2.1 1285) (nI k) n) * 1 ≤ 0 * nI (cnR (t.2.1 1282) (nI k) n) := by
                rw [Int32.mul_one, Int32.zero_mul]; exact c4
              simp only [F_X12_blame_96, c4, c5, if_false, nI_1]
        · subst g8 g9 g10
          obtain ⟨rb1, rb2⟩ := r5 b g7
          have hTb := hT b
          have hRb := hR b
          have m1 := hmul _ _ hTk hRb
          have m2 := hmul _ _ hTb hRk
          have p2 : 0 ≤ (cnT (t.2.1 1282) (t.2.1 1285) (nI b) n : Int) * (cnR (t.2.1 1282) (nI k) n : Int) := Int.mul_nonneg (by omega) (by omega)
          by_cases c3 : nI (cnT (t.2.1 1282) (t.2.1 1285) (nI k) n) * nI (cnR (t.2.1 1282) (nI b) n) ≤ nI (cnT (t.2.1 1282) (t.2.1 1285) (nI b) n) * nI (cnR (t.2.1 1282) (nI k) n)
          · refine ⟨(nI b, nI (k + 1)), (nI b, nI (cnT (t.2.1 1282) (t.2.1 1285) (nI b) n), nI (cnR (t.2.1 1282) (nI b) n), nI (k + 1)), mk - (k + 1), ?_, ?_, by omega, k + 1, by omega, rfl, rfl, rfl, rfl, Or.inr ⟨b, g7, rfl, rfl, rfl⟩⟩
            · simp (disch := omega) only [B_X4_worstMaker_4, emk, nI_leI, c1, c2, nI_neg1, if_false, rd_nI, bind_some, rk1, rk2, rb1, rb2, c3, if_true, nI_1]
            · rw [hC]
              simp only [F_X12_blame_96, c3, if_true, nI_1]
              split <;> rfl
          · have c4 : ¬ nI (cnT (t.2.1 1282) (t.2.1 1285) (nI k) n) ≤ 0 := by
              intro z
              apply c3
              rw [i32_le, eT, e0] at z
              have : cnT (t.2.1 1282) (t.2.1 1285) (nI k) n = 0 := by omega
              rw [i32_le, m1, m2, this]
              simpa using p2
            refine ⟨(nI k, nI (k + 1)), (nI k, nI (cnT (t.2.1 1282) (t.2.1 1285) (nI k) n), nI (cnR (t.2.1 1282) (nI k) n), nI (k + 1)), mk - (k + 1), ?_, ?_, by omega, k + 1, by omega, rfl, rfl, rfl, rfl, Or.inr ⟨k, hk8, rfl, rfl, rfl⟩⟩
            · simp (disch := omega) only [B_X4_worstMaker_4, emk, nI_leI, c1, c2, nI_neg1, if_false, rd_nI, bind_some, rk1, rk2, rb1, rb2, c3, nI_1]
            · rw [hC]
              simp only [F_X12_blame_96, c3, c4, if_false, nI_1]) FU FU mk (-1, 0) (-1, 0, 1, 0) ⟨0, by omega, rfl, rfl, rfl, rfl, Or.inl ⟨rfl, rfl, rfl⟩⟩ (FU_lt (by omega)) (FU_lt (by omega))
  rw [h1, h2]
  subst h3
  exact Two0_ret _
