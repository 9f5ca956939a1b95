/-! numbers, letters, brackets -/
theorem NP_mix {s0 t0 : St} {L A d z m : Nat} {s t s' t' : St} (h : NP s0 t0 L A d z m s t) (h' : NP s0 t0 L A d z m s' t') : NP s0 t0 L A d z m s t' := by
  obtain ⟨n1, n2, n3, n4, n5, n6, n7, n8, n9, n10, n11, n12, n13, n14⟩ := h
  obtain ⟨m1, m2, m3, m4, m5, m6, m7, m8, m9, m10, m11, m12, m13, m14⟩ := h'
  exact ⟨n1, m2, n3, m4, n5, m6, n7, m8, n9, m10, n11, n12, n13, n14⟩
theorem WR_rs {k : List Int32} {z m : Nat} {s t s1 t1 s2 t2 : St} (h : WR k z m s t s1 t1) (h1 : s2.2 = s1.2) (h2 : t2.2 = t1.2) : WR k z m s t s2 t2 := by
  obtain ⟨a1, a2, a3, a4⟩ := h
  refine ⟨fun j hj => ?_, fun i hi => ?_, fun j hj => ?_, fun i hi => ?_⟩
  · rw [h1]; exact a1 j hj
  · rw [h1]; exact a2 i hi
  · rw [h2]; exact a3 j hj
  · rw [h2]; exact a4 i hi
theorem WR_ls {k : List Int32} {z m : Nat} {s t s1 t1 s2 t2 : St} (h : WR k z m s1 t1 s2 t2) (h1 : s1.2 = s.2) (h2 : t1.2 = t.2) : WR k z m s t s2 t2 := WR_z (by rw [h1]) (by rw [h2]) h
/-- one step of two numbers is put down by both -/
theorem put2_np {s0 t0 : St} {L A d z m : Nat} {s t : St} (hL : L ≤ 160) (h : NP s0 t0 L A d z m s t) (hz : z + 1 ≤ A) (hm : m + 2 ≤ 2 * A + 1) {v x y : Int32} (hv : tkM v = [x, y]) : ∃ s' t1 t', F_X9_emit v s = some s' ∧ F_X12_say x t = some t1 ∧ F_X12_say y t1 = some t' ∧ NP s0 t0 L A d (z + 1) (m + 2) s' t' ∧ WR [v] z m s t s' t' ∧ KC s s' := by
  obtain ⟨n1, n2, n3, n4, n5, n6, n7, n8, n9, n10, n11, n12, n13, n14⟩ := h
  have em := C_emit n9 (by omega) v
  have sx := M_say n10 (by omega) x
  have sy := M_say (t := pI (sA t 1229 m x) 1239 (nI (m + 1))) (m := m + 1) (pI_at _ _ _) (by omega) y
  have hf : ([v] : List Int32).flatMap tkM = [x, y] := by
    show tkM v ++ [] = [x, y]
    rw [hv]
    rfl
  have b1 : (pI (sA s 905 z v) 906 (nI (z + 1))).2.1 905 = upd (s.2.1 905) z v := sA_at _ _ _ _
  have b2 : (pI (sA (pI (sA t 1229 m x) 1239 (nI (m + 1))) 1229 (m + 1) y) 1239 (nI (m + 1 + 1))).2.1 1229 = upd (upd (t.2.1 1229) m x) (m + 1) y := by
    have e1 : (sA (pI (sA t 1229 m x) 1239 (nI (m + 1))) 1229 (m + 1) y).2.1 1229 = upd ((pI (sA t 1229 m x) 1239 (nI (m + 1))).2.1 1229) (m + 1) y := sA_at _ _ _ _
    have e2 : (sA t 1229 m x).2.1 1229 = upd (t.2.1 1229) m x := sA_at _ _ _ _
    show (sA (pI (sA t 1229 m x) 1239 (nI (m + 1))) 1229 (m + 1) y).2.1 1229 = _
    rw [e1]
    show upd ((sA t 1229 m x).2.1 1229) (m + 1) y = _
    rw [e2]
  refine ⟨_, _, _, em, sx, sy, ⟨n1.trans ((SS_sA _ _ _ rfl).trans (SS_pI _ _ rfl)), n2.trans ((SS_sA _ _ _ rfl).trans ((SS_pI _ _ rfl).trans ((SS_sA _ _ _ rfl).trans (SS_pI _ _ rfl)))), n3, n4, n5, n6, n7, n8, pI_at _ _ _, pI_at _ _ _, n11, n12, by omega, by omega⟩, ⟨fun j hj => by rw [b1, upd_ne _ _ (by omega)], fun i hi => ?_, fun j hj => by rw [b2, upd_ne _ _ (show ¬ j = m + 1 by omega), upd_ne _ _ (show ¬ j = m by omega)], fun i hi => ?_⟩, rfl, rfl, rfl⟩
  · have : i = 0 := by
      simp only [List.length_cons, List.length_nil] at hi
      omega
    subst this
    rw [b1, Nat.add_zero, upd_at]
    rfl
  · rw [hf] at hi ⊢
    simp only [List.length_cons, List.length_nil] at hi
    have : i = 0 ∨ i = 1 := by omega
    rcases this with e | e
    · subst e
      rw [b2]
      show upd (upd (t.2.1 1229) m x) (m + 1) y m = x
      rw [upd_ne _ _ (show ¬ m = m + 1 by omega), upd_at]
    · subst e
      rw [b2, upd_at]
      rfl
theorem letter_ok (c : Int32) : (∃ i, i < 6 ∧ F_X9_letterOf c = some (nI i) ∧ F_X12_isLetter c = some 1 ∧ ([121, 105, 110, 108, 120, 114] : List Int32).getD i 0 = c) ∨ (F_X9_letterOf c = some (-1) ∧ F_X12_isLetter c = some 0) := by
  unfold F_X9_letterOf F_X12_isLetter
  by_cases c1 : c = 105
  · exact Or.inl ⟨1, by omega, by rw [if_pos c1]; rfl, by rw [if_pos c1], by rw [c1]; rfl⟩
  · by_cases c2 : c = 108
    · exact Or.inl ⟨3, by omega, by rw [if_neg c1, if_pos c2]; rfl, by rw [if_neg c1, if_pos c2], by rw [c2]; rfl⟩
    · by_cases c3 : c = 110
      · exact Or.inl ⟨2, by omega, by rw [if_neg c1, if_neg c2, if_pos c3]; rfl, by rw [if_neg c1, if_neg c2, if_pos c3], by rw [c3]; rfl⟩
      · by_cases c4 : c = 114
        · exact Or.inl ⟨5, by omega, by rw [if_neg c1, if_neg c2, if_neg c3, if_pos c4]; rfl, by rw [if_neg c1, if_neg c2, if_neg c3, if_pos c4], by rw [c4]; rfl⟩
        · by_cases c5 : c = 120
          · exact Or.inl ⟨4, by omega, by rw [if_neg c1, if_neg c2, if_neg c3, if_neg c4, if_pos c5]; rfl, by rw [if_neg c1, if_neg c2, if_neg c3, if_neg c4, if_pos c5], by rw [c5]; rfl⟩
          · by_cases c6 : c = 121
            · exact Or.inl ⟨0, by omega, by rw [if_neg c1, if_neg c2, if_neg c3, if_neg c4, if_neg c5, if_pos c6]; rfl, by rw [if_neg c1, if_neg c2, if_neg c3, if_neg c4, if_neg c5, if_pos c6], by rw [c6]; rfl⟩
            · exact Or.inr ⟨by rw [if_neg c1, if_neg c2, if_neg c3, if_neg c4, if_neg c5, if_neg c6], by rw [if_neg c1, if_neg c2, if_neg c3, if_neg c4, if_neg c5, if_neg c6]⟩
theorem tk_num {v : Nat} (hv : v ≤ 9999) : tkM (nI v) = [0, nI v] ∧ ∀ h, h + 1 ≤ 64 → tkH [nI v] (h + 0) = some (h + 1) := by
  have e := nI_toInt (n := v) (by omega)
  have e1 : (10000 : Int32).toInt = 10000 := rfl
  refine ⟨?_, fun h hh => ?_⟩
  · unfold tkM
    rw [if_pos (by rw [i32_lt]; omega)]
  · rw [Nat.add_zero]
    unfold tkH
    rw [if_pos (Or.inl ⟨by omega, by omega⟩), if_pos (by omega)]
    rfl
theorem tk_letter : ∀ i, i < 6 → tkM (10000 + nI i) = [1, ([121, 105, 110, 108, 120, 114] : List Int32).getD i 0] := by decide +kernel
theorem tk_letterH {i : Nat} (hi : i < 6) : ∀ h, h + 1 ≤ 64 → tkH [10000 + nI i] (h + 0) = some (h + 1) := by
  intro h hh
  have e2 : (10000 : Int32) + nI i = nI (10000 + i) := nI_add 10000 i
  have e := nI_toInt (n := 10000 + i) (by omega)
  rw [Nat.add_zero, e2]
  unfold tkH
  rw [if_pos (Or.inr ⟨by omega, by omega⟩), if_pos (by omega)]
  rfl
/-- digits -/
theorem num_np {s0 t0 : St} {T : Nat → Int32} {L : Nat} (hT : TB s0 t0 T L) {A d z m H : Nat} {s t : St} (hH : 1 ≤ H) (h : NP s0 t0 L A d z m s t) (hA : A < L) (hdg : ¬ inb (T A) 48 57 = false) : SIM s0 t0 L A d z m 0 H s t F_X9_readNumber F_X12_number := by
  have hT0 := hT
  obtain ⟨b1, b2, hL, b4, b5, b6⟩ := hT
  have h0 := h
  have e4 : (4 : Int32).toInt = 4 := rfl
  have e48 : (48 : Int32).toInt = 48 := rfl
  have e57 : (57 : Int32).toInt = 57 := rfl
  have e10 : (10 : Int32).toInt = 10 := rfl
  have hm1 : m ≤ 2 * A + 1 := h.2.2.2.2.2.2.2.2.2.2.2.2.2
  have hz1 : z ≤ A := h.2.2.2.2.2.2.2.2.2.2.2.2.1
  have hd6 : d ≤ 6 := h.2.2.2.2.2.2.2.2.2.2.2.1
  -- the reference looks at the digit once more
  obtain ⟨A2, cb, mb, s2, t2, l1, l2, l3, l4, l5, l6, l7, l8, l9, l10⟩ := look_np hT0 h0
  have hA2 : A2 = A := by
    refine Classical.byContradiction fun z => ?_
    have h32 := l10 A (Nat.le_refl _) (by omega)
    rw [h32] at hdg
    exact hdg (by decide)
  rw [hA2] at l4 l8
  have hmb : mb = T A := by
    rcases l8 with ⟨z, _⟩ | ⟨_, _, z⟩
    · omega
    · exact z
  have hmix := NP_mix h0 l4
  obtain ⟨Y, Wv, g1, g2, vn, A', s', hvn, hA1, hA3, hN, e1, hk, rfl, hW⟩ := lp_two (B := B_X9_readNumber_4) (B2 := B_X12_number_19)
    (fun j X Z => ∃ (k vn : Nat) (s' t' : St), X = (nI vn, nI k, s') ∧ Z = (nI vn, nI k, t') ∧ k + j = 4 ∧ vn + 1 ≤ 10 ^ k ∧ A + k ≤ L ∧ NP s0 t0 L (A + k) d z m s' t' ∧ s'.2 = s.2 ∧ t'.2 = t.2 ∧ KC s s')
    (fun Y Wv => ∃ (vn A' : Nat) (s' : St), vn ≤ 9999 ∧ A < A' ∧ A' ≤ L ∧ (∃ t', NP s0 t0 L A' d z m s' t' ∧ t'.2 = t.2 ∧ ((Wv = .inl (nI vn, t') ∧ (A' = L ∨ A' < L ∧ inb (T A') 48 57 = false)) ∨ (Wv = .inr t' ∧ A' < L ∧ ¬ inb (T A') 48 57 = false))) ∧ s'.2 = s.2 ∧ KC s s' ∧ Y = (nI vn, s') ∧ True) (by
      rintro j _ _ ⟨k, vn, s', t', rfl, rfl, hkj, hvn, hAk, hN, x1, x2, hk⟩
      have hN0 := hN
      obtain ⟨n1, n2, n3, n4, n5, n6, n7, n8, n9, n10, n11, n12, n13, n14⟩ := hN
      have i1 : s'.1 901 = nI L := by rw [n1.i (k := 901) rfl, b1]
      have i2 : t'.1 1235 = nI L := by rw [n2.i (k := 1235) rfl, b2]
      have hpow : vn ≤ 9999 := by
        have : 10 ^ k ≤ 10 ^ 4 := Nat.pow_le_pow_right (by omega) (by omega)
        omega
      have hlast : A + k = L ∨ A + k < L := by omega
      have cL : A + k = L → nI L ≤ nI (A + k) := fun z => by rw [z]; exact Int32.le_refl _
      have cL' : A + k < L → ¬ nI L ≤ nI (A + k) := fun z => by
        rw [i32_le, nI_toInt (by omega), nI_toInt (by omega)]
        omega
      have k1 : A + k < L → rd s' 900 160 (nI (A + k)) = some (T (A + k)) := fun z => by rw [rd_nI (by omega) (by omega), n1.a (k := 900) rfl, b4]
      have k2 : A + k < L → rd t' 1228 160 (nI (A + k)) = some (T (A + k)) := fun z => by rw [rd_nI (by omega) (by omega), n2.a (k := 1228) rfl, b5]
      have k0 : k = 0 → A + k < L ∧ ¬ inb (T (A + k)) 48 57 = false := fun z => by
        rw [z]
        exact ⟨hA, hdg⟩
      have nk4 : ¬ k = 4 → ¬ nI k = 4 := fun z y => z (by
        have := congrArg Int32.toInt y
        rw [nI_toInt (by omega), e4] at this
        omega)
      by_cases c4 : k = 4
      · right
        have c4' : (4 : Int32) ≤ nI k := by rw [c4]; decide
        have c4'' : nI k = 4 := by rw [c4]; rfl
        rcases hlast with hl | hl
        · refine ⟨(nI vn, s'), .inl (nI vn, t'), ?_, ?_, vn, A + k, s', hpow, by omega, by omega, ⟨t', hN0, x2, Or.inl ⟨rfl, Or.inl hl⟩⟩, x1, hk, rfl, trivial⟩
          · unfold B_X9_readNumber_4
            dsimp only
            rw [if_pos c4']
          · unfold B_X12_number_19
            dsimp only
            rw [i2, n6, if_pos (cL hl)]
        · by_cases dg : inb (T (A + k)) 48 57 = false
          · refine ⟨(nI vn, s'), .inl (nI vn, t'), ?_, ?_, vn, A + k, s', hpow, by omega, by omega, ⟨t', hN0, x2, Or.inl ⟨rfl, Or.inr ⟨hl, dg⟩⟩⟩, x1, hk, rfl, trivial⟩
            · unfold B_X9_readNumber_4
              dsimp only
              rw [if_pos c4']
            · unfold B_X12_number_19
              dsimp only
              rw [i2, n6, if_neg (cL' hl), k2 hl, bind_some, if_pos dg]
          · refine ⟨(nI vn, s'), .inr t', ?_, ?_, vn, A + k, s', hpow, by omega, by omega, ⟨t', hN0, x2, Or.inr ⟨rfl, hl, dg⟩⟩, x1, hk, rfl, trivial⟩
            · unfold B_X9_readNumber_4
              dsimp only
              rw [if_pos c4']
            · unfold B_X12_number_19
              dsimp only
              rw [i2, n6, if_neg (cL' hl), k2 hl, bind_some, if_neg dg, if_pos c4'']
      · have c4' : ¬ (4 : Int32) ≤ nI k := by
          rw [i32_le, nI_toInt (by omega)]
          omega
        rcases hlast with hl | hl
        · right
          have hk0 : ¬ k = 0 := fun z => by have := (k0 z).1; omega
          refine ⟨(nI vn, s'), .inl (nI vn, t'), ?_, ?_, vn, A + k, s', hpow, by omega, by omega, ⟨t', hN0, x2, Or.inl ⟨rfl, Or.inl hl⟩⟩, x1, hk, rfl, trivial⟩
          · unfold B_X9_readNumber_4
            dsimp only
            rw [if_neg c4', i1, n5, if_pos (cL hl)]
          · unfold B_X12_number_19
            dsimp only
            rw [i2, n6, if_pos (cL hl)]
        · by_cases dg : inb (T (A + k)) 48 57 = false
          · right
            have hk0 : ¬ k = 0 := fun z => (k0 z).2 dg
            refine ⟨(nI vn, s'), .inl (nI vn, t'), ?_, ?_, vn, A + k, s', hpow, by omega, by omega, ⟨t', hN0, x2, Or.inl ⟨rfl, Or.inr ⟨hl, dg⟩⟩⟩, x1, hk, rfl, trivial⟩
            · unfold B_X9_readNumber_4
              dsimp only
              rw [if_neg c4', i1, n5, if_neg (cL' hl), k1 hl, bind_some, if_pos dg]
            · unfold B_X12_number_19
              dsimp only
              rw [i2, n6, if_neg (cL' hl), k2 hl, bind_some, if_pos dg]
          · left
            obtain ⟨d1, d2⟩ := inb_R dg
            obtain ⟨g1, g2⟩ := step_np hN0 hl
            obtain ⟨x, ex, ex2, _⟩ := i32_nat (x := T (A + k)) (by omega)
            have hp1 : 10 ^ (k + 1) = 10 * 10 ^ k := by rw [Nat.pow_succ, Nat.mul_comm]
            have hval : (10 * nI vn + T (A + k)) - 48 = nI (10 * vn + (x - 48)) := by
              refine i32_of ?_
              have m1 : ((10 : Int32) * nI vn).toInt = 10 * (vn : Int) := by
                rw [i32_mul (by rw [nI_toInt (by omega), e10]; omega) (by rw [nI_toInt (by omega), e10]; omega), nI_toInt (by omega), e10]
              have m2 : ((10 : Int32) * nI vn + T (A + k)).toInt = 10 * (vn : Int) + x := by rw [i32_add (by omega) (by omega), m1, ex2]
              rw [i32_sub (by omega) (by omega), m2, e48]
              omega
            refine ⟨(nI (10 * vn + (x - 48)), nI (k + 1), pI s' 902 (s'.1 902 + 1)), (nI (10 * vn + (x - 48)), nI (k + 1), pI t' 1236 (t'.1 1236 + 1)), j - 1, ?_, ?_, by omega, k + 1, 10 * vn + (x - 48), _, _, rfl, rfl, by omega, by omega, by omega, g1, x1, x2, hk.trans g2⟩
            · unfold B_X9_readNumber_4
              dsimp only
              rw [if_neg c4', i1, n5, if_neg (cL' hl), k1 hl, bind_some, if_neg dg, bind_some, wI_ok, bind_some, hval, nI_1, ← n5]
            · unfold B_X12_number_19
              dsimp only
              rw [i2, n6, if_neg (cL' hl), k2 hl, bind_some, if_neg dg, if_neg (nk4 c4), bind_some, wI_ok, bind_some, hval, nI_1, ← n6]) FU FU 4 (0, 0, s) (0, 0, t2) ⟨0, 0, s, t2, rfl, rfl, by omega, by decide, by omega, hmix, rfl, l6, KC.refl s⟩ (FU_lt (by omega)) (FU_lt (by omega))
  obtain ⟨t', hNP, x2, hWv⟩ := hN
  have hNP0 := hNP
  obtain ⟨n1, n2, n3, n4, n5, n6, n7, n8, n9, n10, n11, n12, n13, n14⟩ := hNP
  have i1 : s'.1 901 = nI L := by rw [n1.i (k := 901) rfl, b1]
  have hM : ∀ X, lp B_X12_number_19 FU (0, 0, t2) = some X → F_X12_number t = Sum.elim (fun y => F_X12_number_89 y.1 y.2) (fun y => F_X12_number_50 y) X := by
    intro X hX
    unfold F_X12_number
    rw [l2, bind_some]
    dsimp only
    rw [hmb, if_neg hdg]
    unfold F_X12_number_19
    rw [hX, bind_some]
  have hC : F_X9_readNumber s = F_X9_readNumber_69 (nI vn) s' := by
    unfold F_X9_readNumber F_X9_readNumber_4
    have g1' : lp B_X9_readNumber_4 FU (0, 0, s) = some (nI vn, s') := g1
    rw [g1', bind_some]
  have e1' : s'.2 = s.2 := e1
  rcases hWv with ⟨rfl, hend⟩ | ⟨rfl, hl, dg⟩
  · obtain ⟨q1, q2⟩ := tk_num hvn
    obtain ⟨s3, t3, t4, p1, p2, p3, p4, p5, p6⟩ := put2_np hL hNP0 (v := nI vn) (x := 0) (y := nI vn) (by omega) (by omega) q1
    have hCe : F_X9_readNumber_69 (nI vn) s' = some s3 := by
      unfold F_X9_readNumber_69
      rw [i1, n5]
      rcases hend with hl | ⟨hl, dg⟩
      · have c1 : nI L ≤ nI A' := by rw [hl]; exact Int32.le_refl _
        rw [if_pos c1, p1, bind_some]
      · have c1 : ¬ nI L ≤ nI A' := by
          rw [i32_le, nI_toInt (by omega), nI_toInt (by omega)]
          omega
        rw [if_neg c1, rd_nI (by omega) (by omega), n1.a (k := 900) rfl, b4, bind_some, if_pos dg, p1, bind_some]
    refine ⟨s3, t4, by rw [hC, hCe], ?_, Or.inl ⟨A', [nI vn], hA1, ?_, ?_, ?_, WR_ls p5 e1' x2, hk.trans p6, fun h hh => q2 h (by omega)⟩⟩
    · rw [hM _ g2]
      show F_X12_number_89 (nI vn) t' = _
      unfold F_X12_number_89
      rw [p2, bind_some, p3, bind_some]
    · have : (([nI vn] : List Int32).flatMap tkM).length = 2 := by
        show (tkM (nI vn) ++ []).length = 2
        rw [q1]
        rfl
      rw [this]
      exact p4
    · simp only [List.length_cons, List.length_nil]
      omega
    · have : (([nI vn] : List Int32).flatMap tkM).length = 2 := by
        show (tkM (nI vn) ++ []).length = 2
        rw [q1]
        rfl
      rw [this]
      omega
  · obtain ⟨s3, t3, p1, p2, p3, p4, p5, p6⟩ := fail_np hL hNP0
    obtain ⟨s4, q1, q2, q3⟩ := C_emitF p3 (nI vn)
    have c1 : ¬ nI L ≤ nI A' := by
      rw [i32_le, nI_toInt (by omega), nI_toInt (by omega)]
      omega
    refine ⟨s4, t3, ?_, ?_, Or.inr ⟨A', A', m, p6, q2, hk.trans (p4.trans q3), p5, by omega, by omega, by omega⟩⟩
    · rw [hC]
      unfold F_X9_readNumber_69
      rw [i1, n5, if_neg c1, rd_nI (by omega) (by omega), n1.a (k := 900) rfl, b4, bind_some, if_neg dg, p1, bind_some, q1, bind_some]
    · rw [hM _ g2]
      show F_X12_number_50 t' = _
      unfold F_X12_number_50
      rw [p2, bind_some]
/-- a bracket is closed -/
theorem close_np {s0 t0 : St} {T : Nat → Int32} {L : Nat} (hT : TB s0 t0 T L) {A d z m : Nat} {s t : St} (h : NP s0 t0 L A (d + 1) z m s t) {c : Int32} (c0 : ¬ (0 : Int32) = c) (c1 : ¬ (-1 : Int32) = c) : ∃ s2 s' t', F_X9_want c s = some s2 ∧ s' = pI s2 904 (s2.1 904 - 1) ∧ F_X12_closes c t = some t' ∧ ((∃ A', A < A' ∧ NP s0 t0 L A' d z m s' t' ∧ s'.2 = s.2 ∧ t'.2 = t.2 ∧ KC s s') ∨ ∃ f A', f ≤ 160 ∧ FC s0 f s' ∧ KC s s' ∧ FM t0 f A' d m t' ∧ A ≤ A' ∧ A' + d ≤ L + 6) := by
  have hL : L ≤ 160 := hT.2.2.1
  obtain ⟨A2, cb, mb, s2, t2, l1, l2, l3, l4, l5, l6, l7, l8, l9, l10⟩ := look_np hT h
  have hd : ∀ x : St, x.1 1238 = nI (d + 1) → x.1 1238 - 1 = nI d := by
    intro x hx
    rw [hx, show nI (d + 1) = nI d + 1 from (nI_add d 1).symm, Int32.add_sub_cancel]
  have hd2 : ∀ x : St, x.1 904 = nI (d + 1) → x.1 904 - 1 = nI d := by
    intro x hx
    rw [hx, show nI (d + 1) = nI d + 1 from (nI_add d 1).symm, Int32.add_sub_cancel]
  have n4 := h.2.2.2.1
  by_cases hc : cb = c
  · have hA : A2 < L ∧ mb = c := by
      rcases l8 with ⟨_, z, _⟩ | ⟨z, y, w⟩
      · rw [z] at hc
        exact absurd hc c0
      · exact ⟨z, by rw [w, ← y, hc]⟩
    obtain ⟨hA, hmb⟩ := hA
    obtain ⟨g1, g2⟩ := step_np l4 hA
    obtain ⟨n1, n2, n3, n4b, n5, n6, n7, n8, n9, n10, n11, n12, n13, n14⟩ := g1
    refine ⟨pI s2 902 (s2.1 902 + 1), _, pI (pI t2 1236 (t2.1 1236 + 1)) 1238 (nI d), ?_, rfl, ?_, Or.inl ⟨A2 + 1, by omega, ?_, l5, l6, l7⟩⟩
    · unfold F_X9_want
      rw [l1, bind_some]
      dsimp only
      rw [if_pos hc, wI_ok, bind_some]
    · unfold F_X12_closes
      rw [n4, if_pos rfl, l2, bind_some]
      dsimp only
      rw [if_pos hmb, wI_ok, bind_some, wI_ok, bind_some, hd _ n8]
    · rw [hd2 _ n7]
      exact ⟨n1.trans (SS_pI _ _ rfl), n2.trans (SS_pI _ _ rfl), n3, n4b, n5, n6, pI_at _ _ _, pI_at _ _ _, n9, n10, n11, by omega, n13, n14⟩
  · have hmb : ¬ mb = c := by
      rcases l8 with ⟨_, _, z⟩ | ⟨_, y, w⟩
      · rw [z]
        exact c1
      · rw [w, ← y]
        exact hc
    have hd6 := l4.2.2.2.2.2.2.2.2.2.2.2.1
    have hAL := l4.2.2.2.2.2.2.2.2.2.2.1
    obtain ⟨s3, t3, p1, p2, ⟨p3, p3a, zz, p3b, p3c⟩, p4, ⟨q1, q2, q3, q4, q5⟩, p6⟩ := fail_np hL l4
    refine ⟨s3, _, pI (pI t3 1236 (nI (A2 + 1))) 1238 (nI d), ?_, rfl, ?_, Or.inr ⟨A2, A2 + 1, p6, ⟨p3.trans (SS_pI _ _ rfl), p3a, zz, p3b, p3c⟩, l7.trans p4, ⟨q1.trans ((SS_pI _ _ rfl).trans (SS_pI _ _ rfl)), q2, ?_, pI_at _ _ _, q5⟩, by omega, by omega⟩⟩
    · unfold F_X9_want
      rw [l1, bind_some]
      dsimp only
      rw [if_neg hc, p1, bind_some]
    · unfold F_X12_closes
      rw [n4, if_pos rfl, l2, bind_some]
      dsimp only
      have e : (pI t3 1236 (nI (A2 + 1))).1 1238 = nI (d + 1) := q4
      rw [if_neg hmb, p2, bind_some, wI_ok, bind_some, q3, nI_1, wI_ok, bind_some, hd _ e]
    · exact pI_at t3 1236 (nI (A2 + 1))
theorem close_F {s0 t0 : St} {A d m f : Nat} {s t : St} (hf : f ≤ 160) (hC : FC s0 f s) (hM : FM t0 f A (d + 1) m t) {c : Int32} (c0 : ¬ (0 : Int32) = c) : ∃ s2 s' t', F_X9_want c s = some s2 ∧ s' = pI s2 904 (s2.1 904 - 1) ∧ F_X12_closes c t = some t' ∧ FC s0 f s' ∧ KC s s' ∧ FM t0 f (A + 1) d m t' := by
  obtain ⟨q1, q2, q3, q4, q5⟩ := hM
  obtain ⟨p1, p2, zz, p3, p4⟩ := hC
  have hd : ∀ x : St, x.1 1238 = nI (d + 1) → x.1 1238 - 1 = nI d := by
    intro x hx
    rw [hx, show nI (d + 1) = nI d + 1 from (nI_add d 1).symm, Int32.add_sub_cancel]
  refine ⟨s, _, pI (pI t 1236 (nI (A + 1))) 1238 (nI d), ?_, rfl, ?_, ⟨p1.trans (SS_pI _ _ rfl), p2, zz, p3, p4⟩, ⟨rfl, rfl, rfl⟩, ⟨q1.trans ((SS_pI _ _ rfl).trans (SS_pI _ _ rfl)), q2, ?_, pI_at _ _ _, q5⟩⟩
  · unfold F_X9_want
    rw [C_peekF ⟨p1, p2, zz, p3, p4⟩ hf, bind_some]
    dsimp only
    rw [if_neg c0, C_failF ⟨p1, p2, zz, p3, p4⟩ hf, bind_some]
  · unfold F_X12_closes
    have e : (pI t 1236 (nI (A + 1))).1 1238 = nI (d + 1) := q4
    rw [q2, if_neg (nI_f hf), wI_ok, bind_some, q3, nI_1, wI_ok, bind_some, hd _ e]
  · exact pI_at t 1236 (nI (A + 1))
/-- a bracket is opened -/
theorem open_np {s0 t0 : St} {L A d z m : Nat} {s t : St} (hL : L ≤ 160) (h : NP s0 t0 L A d z m s t) (hA : A < L) : ∃ s' t', ((d < 6 ∧ F_X9_opened s = some (1, s') ∧ F_X12_opens t = some (1, t') ∧ NP s0 t0 L (A + 1) (d + 1) z m s' t' ∧ s'.2 = s.2 ∧ t'.2 = t.2 ∧ KC s s') ∨ (F_X9_opened s = some (0, s') ∧ F_X12_opens t = some (0, t') ∧ BAD s0 t0 L A d m s s' t')) := by
  have e6 : (6 : Int32).toInt = 6 := rfl
  have h0 := h
  obtain ⟨n1, n2, n3, n4, n5, n6, n7, n8, n9, n10, n11, n12, n13, n14⟩ := h
  by_cases c : d < 6
  · have c1 : nI d < 6 := by rw [i32_lt, nI_toInt (by omega)]; omega
    have c2 : ¬ nI d = 6 := fun z => by
      have := congrArg Int32.toInt z
      rw [nI_toInt (by omega), e6] at this
      omega
    refine ⟨pI (pI s 904 (nI (d + 1))) 902 (nI (A + 1)), pI (pI t 1238 (nI (d + 1))) 1236 (nI (A + 1)), Or.inl ⟨c, ?_, ?_, ⟨n1.trans ((SS_pI _ _ rfl).trans (SS_pI _ _ rfl)), n2.trans ((SS_pI _ _ rfl).trans (SS_pI _ _ rfl)), n3, n4, pI_at _ _ _, pI_at _ _ _, ?_, ?_, n9, n10, by omega, by omega, by omega, by omega⟩, rfl, rfl, rfl, rfl, rfl⟩⟩
    · unfold F_X9_opened
      have e : (pI s 904 (nI (d + 1))).1 902 = nI A := n5
      rw [n7, if_pos c1, wI_ok, bind_some, nI_1, wI_ok, bind_some, e, nI_1]
    · unfold F_X12_opens
      have e : (pI t 1238 (nI (d + 1))).1 1236 = nI A := n6
      rw [n8, if_neg c2, wI_ok, bind_some, nI_1, wI_ok, bind_some, e, nI_1]
    · exact pI_at s 904 (nI (d + 1))
    · exact pI_at t 1238 (nI (d + 1))
  · have hd : d = 6 := by omega
    have c1 : ¬ nI d < 6 := by rw [i32_lt, nI_toInt (by omega)]; omega
    have c2 : nI d = 6 := by rw [hd]; rfl
    obtain ⟨s3, t3, p1, p2, p3, p4, p5, p6⟩ := fail_np hL h0
    refine ⟨s3, t3, Or.inr ⟨?_, ?_, A, A, m, p6, p3, p4, p5, Nat.le_refl _, by omega, Nat.le_refl _⟩⟩
    · unfold F_X9_opened
      rw [n7, if_neg c1, p1, bind_some]
    · unfold F_X12_opens
      rw [n8, if_pos c2, p2, bind_some]
