/-! a clause, read alike -/
def U4 (n : Nat) (a b c d : Int32) (f : Nat → Int32) : Nat → Int32 := upd (upd (upd (upd f (4 * n) a) (4 * n + 1) b) (4 * n + 2) c) (4 * n + 3) d
theorem KP_is {n : Nat} {a b c : Int32} {s0 s : St} (hk : KC s0 s) : (KP n a b c s).1 908 = nI (n + 1) ∧ (KP n a b c s).1 909 = s0.1 909 ||| ((1 : Int32) <<< (a &&& 31)) ∧ (KP n a b c s).2.1 907 = U4 n a b c ((KP n a b c s).1 906) (s0.2.1 907) ∧ (KP n a b c s).2.1 905 = s.2.1 905 := by
  refine ⟨?_, ?_, ?_, rfl⟩
  · unfold KP
    show upd (upd s.1 908 (nI (n + 1))) 909 (s.1 909 ||| ((1 : Int32) <<< (a &&& 31))) 908 = _
    rw [upd_ne _ _ (by decide), upd_at]
  · unfold KP
    rw [pI_at, hk.2.1]
  · show (sA (sA (sA (sA s 907 (4 * n) a) 907 (4 * n + 1) b) 907 (4 * n + 2) c) 907 (4 * n + 3) (s.1 906)).2.1 907 = U4 n a b c (s.1 906) (s0.2.1 907)
    rw [sA_at, sA_at, sA_at, sA_at, hk.2.2]
    rfl
/-- room for a condition that always holds -/
theorem shift_lp {b : Nat} : ∀ (p F : Nat) (t : St), p < F → b + p + 4 ≤ 420 → ∃ t', lp (B_X12_clause_120 (nI (b + 1))) F (nI (b + p), t) = some t' ∧ t'.1 = t.1 ∧ SS t t' ∧ (∀ j, j ≤ b → t'.2.1 1229 j = t.2.1 1229 j) ∧ (∀ i, i < p → t'.2.1 1229 (b + 4 + i) = t.2.1 1229 (b + 1 + i)) ∧ ∀ j, b + p + 4 ≤ j → t'.2.1 1229 j = t.2.1 1229 j := by
  intro p
  induction p with
  | zero =>
    intro F t hF hb
    obtain ⟨G, rfl⟩ : ∃ G, F = G + 1 := ⟨F - 1, by omega⟩
    have c : nI (b + 0) < nI (b + 1) := by
      rw [i32_lt, nI_toInt (by omega), nI_toInt (by omega)]
      omega
    have e : B_X12_clause_120 (nI (b + 1)) (nI (b + 0), t) = some (.inr t) := by
      unfold B_X12_clause_120
      dsimp only
      rw [if_pos c]
    exact ⟨t, lp_r e, rfl, SS.refl t, fun _ _ => rfl, fun i hi => absurd hi (by omega), fun _ _ => rfl⟩
  | succ p ih =>
    intro F t hF hb
    obtain ⟨G, rfl⟩ : ∃ G, F = G + 1 := ⟨F - 1, by omega⟩
    have c : ¬ nI (b + (p + 1)) < nI (b + 1) := by
      rw [i32_lt, nI_toInt (by omega), nI_toInt (by omega)]
      omega
    have e3 : nI (b + (p + 1)) + 3 = nI (b + p + 4) := (nI_add (b + (p + 1)) 3).trans (by congr 1 <;> omega)
    have e1 : nI (b + (p + 1)) + (-1) = nI (b + p) := nI_m1 (b + p)
    have e : B_X12_clause_120 (nI (b + 1)) (nI (b + (p + 1)), t) = some (.inl (nI (b + p), sA t 1229 (b + p + 4) (t.2.1 1229 (b + (p + 1))))) := by
      unfold B_X12_clause_120
      dsimp only
      rw [if_neg c, rd_nI (by omega) (by omega), bind_some, e3, wr_nI (by omega) (by omega), bind_some, e1]
    obtain ⟨t', g1, g2, g3, g4, g5, g6⟩ := ih G (sA t 1229 (b + p + 4) (t.2.1 1229 (b + (p + 1)))) (by omega) (by omega)
    refine ⟨t', (lp_l e).trans g1, g2, (SS_sA _ _ _ rfl).trans g3, fun j hj => ?_, fun i hi => ?_, fun j hj => ?_⟩
    · rw [g4 j hj, sA_at, upd_ne _ _ (by omega)]
    · by_cases ci : i < p
      · rw [g5 i ci, sA_at, upd_ne _ _ (by omega)]
      · have ei : i = p := by omega
        subst ei
        rw [g6 _ (by omega), sA_at, show b + 4 + i = b + i + 4 by omega, upd_at, show b + (i + 1) = b + 1 + i by omega]
    · rw [g6 j (by omega), sA_at, upd_ne _ _ (by omega)]
theorem shift_np {s0 t0 : St} {L A z m b : Nat} {s t : St} {f : Nat → Int32} {kM : List Int32} (hL : L ≤ 160) (h : NP s0 t0 L A 0 z m s t) (hm : m = b + 1 + kM.length) (hmA : m + 3 ≤ 2 * A) (hk : TX kM (b + 1) f (t.2.1 1229)) : ∃ t', F_X12_clause_120 (nI (b + 1)) (nI m - 1) t = some t' ∧ NP s0 t0 L A 0 z (m + 4) s t' ∧ TX ([0, 1] ++ [2] ++ kM ++ [3]) (b + 1) f (t'.2.1 1229) := by
  have hA := h.2.2.2.2.2.2.2.2.2.2.1
  obtain ⟨t1, g1, g2, g3, g4, g5, g6⟩ := shift_lp (b := b) kM.length FU t (FU_lt (by omega)) (by omega)
  have e0 : nI m - 1 = nI (b + kM.length) := by
    rw [hm, show b + 1 + kM.length = b + kM.length + 1 by omega, show nI (b + kM.length + 1) = nI (b + kM.length) + 1 from (nI_add _ 1).symm, Int32.add_sub_cancel]
  have e1 : nI (b + 1) + 1 = nI (b + 2) := nI_add (b + 1) 1
  have e2 : nI (b + 1) + 2 = nI (b + 3) := nI_add (b + 1) 2
  obtain ⟨n1, n2, n3, n4, n5, n6, n7, n8, n9, n10, n11, n12, n13, n14⟩ := h
  have hN : NP s0 t0 L A 0 z (m + 3) s (pI (sA (sA (sA t1 1229 (b + 1) 0) 1229 (b + 2) 1) 1229 (b + 3) 2) 1239 (nI (m + 3))) := by
    refine ⟨n1, n2.trans (g3.trans ((SS_sA _ _ _ rfl).trans ((SS_sA _ _ _ rfl).trans ((SS_sA _ _ _ rfl).trans (SS_pI _ _ rfl))))), n3, ?_, n5, ?_, n7, ?_, n9, pI_at _ _ _, n11, n12, n13, by omega⟩
    · show t1.1 1237 = -1
      rw [g2, n4]
    · show t1.1 1236 = nI A
      rw [g2, n6]
    · show t1.1 1238 = nI 0
      rw [g2, n8]
  have hT3 : TX ([0, 1] ++ [2] ++ kM) (b + 1) f ((pI (sA (sA (sA t1 1229 (b + 1) 0) 1229 (b + 2) 1) 1229 (b + 3) 2) 1239 (nI (m + 3))).2.1 1229) := by
    show TX ([0, 1] ++ [2] ++ kM) (b + 1) f ((sA (sA (sA t1 1229 (b + 1) 0) 1229 (b + 2) 1) 1229 (b + 3) 2).2.1 1229)
    rw [sA_at, sA_at, sA_at]
    refine ⟨fun j hj => ?_, fun i hi => ?_⟩
    · rw [upd_ne _ _ (by omega), upd_ne _ _ (by omega), upd_ne _ _ (by omega), g4 j (by omega), hk.1 j hj]
    · have hl : ([0, 1] ++ [2] ++ kM : List Int32).length = kM.length + 3 := by
        rw [List.length_append]
        show 3 + kM.length = _
        omega
      by_cases c0 : i = 0
      · subst c0
        rw [Nat.add_zero, upd_ne _ _ (by omega), upd_ne _ _ (by omega), upd_at]
        rfl
      by_cases c1 : i = 1
      · subst c1
        rw [upd_ne _ _ (by omega), upd_at]
        rfl
      by_cases c2 : i = 2
      · subst c2
        rw [upd_at]
        rfl
      · rw [upd_ne _ _ (by omega), upd_ne _ _ (by omega), upd_ne _ _ (by omega), getD_app_r (by show 3 ≤ i; omega)]
        have e5 := g5 (i - 3) (by omega)
        rw [show b + 4 + (i - 3) = b + 1 + i by omega, hk.2 (i - 3) (by omega)] at e5
        rw [e5]
        rfl
  obtain ⟨t5, p1, p2, p3⟩ := say_np hL hN (by omega) 3
  have hl : ([0, 1] ++ [2] ++ kM : List Int32).length = kM.length + 3 := by
    rw [List.length_append]
    show 3 + kM.length = _
    omega
  refine ⟨t5, ?_, p2, TX_app hT3 ?_⟩
  · unfold F_X12_clause_120
    rw [e0, g1, bind_some]
    unfold F_X12_clause_149
    rw [wr_nI (by omega) (by omega), bind_some, e1, wr_nI (by omega) (by omega), bind_some, e2, wr_nI (by omega) (by omega), bind_some]
    rw [show (sA (sA (sA t1 1229 (b + 1) 0) 1229 (b + 2) 1) 1229 (b + 3) 2).1 1239 = nI m from (congrFun g2 1239).trans n10, show nI m + 3 = nI (m + 3) from nI_add m 3, wI_ok, bind_some, p1, bind_some]
  · rw [hl, show b + 1 + (kM.length + 3) = m + 3 by omega]
    exact p3
