/-! seated, unseated -/
/-- the survey and the seating of both sides -/
theorem seats_two {N : Int} {s t : St} (h : RX N s t) (hN : N ≤ 4096) {w q nn V : Nat} (hw : w ≤ 600) (hq : q ≤ 600) (en : t.1 1223 = nI nn) (hnn : nn ≤ 20) (eV : t.1 1212 = nI V) (hV : V ≤ 24) : ∃ s1 s' t1 t' W O0 C0, F_X6_survey (nI w) (nI q) s = some s1 ∧ F_X12_gather (nI w) (nI q) t = some t1 ∧ F_X6_seatAll s1 = some s' ∧ F_X12_seatAll (nI w) (nI q) t = some t' ∧ RX N s' t' ∧ SS t t1 ∧ SS t t' ∧ RX N s' t ∧ RX N s' t1 ∧ WF W nn V s1 t1 ∧ SR W nn V s1 t1 O0 C0 V s' t' ∧ (∀ i, i < V → 0 ≤ O0 i ∧ O0 i ≤ 1998 ∧ O0 i = (t1.2.1 1247 i).toInt) ∧ ∀ k, k < nn → C0 k = max 0 (t1.2.1 1246 k).toInt := by
  obtain ⟨e, he, ewet⟩ := wet_nat h w
  obtain ⟨s1, t1, a1, a2, a3, a4, a5⟩ := surv_all h hN hw hq en hnn eV hV he ewet
  obtain ⟨v1, v2, v3⟩ := a5
  have i2 : t1.1 1223 = nI nn := by rw [a4.1.i (k := 1223) rfl, en]
  have i4 : t1.1 1212 = nI V := by rw [a4.1.i (k := 1212) rfl, eV]
  have hW : WF (wayV s t e (nI w / 52) (nI q)) nn V s1 t1 := ⟨by rw [a3.sch.1, i2], i2, by rw [a3.folk.1, i4], i4, hnn, hV, fun i k => wayV_cases h he _ _ i k, v3⟩
  have hr := fun i => chi_R h.cnt i (nI w / 52) (nI q)
  obtain ⟨s', t', b1, b2, b3⟩ := seat_all hW (O0 := fun i => (chi t i (nI w / 52) (nI q)).toInt) (C0 := fun k => max 0 (s1.2.1 607 k).toInt) (fun i hi => by have := (hr i).2; show (chi t i (nI w / 52) (nI q)).toInt ≤ _; omega) v1 (fun j hj => by rw [(v2 j hj).1, (v2 j hj).2]) (fun i hi => by
    rw [(v2 i hi).1]
    exact ⟨(hr i).1, rfl⟩) (fun k hk => rfl)
  have hx : RX N s' t' := a3.ss b3.1 b3.2.1
  have ht' : SS t t' := a4.1.trans b3.2.1
  refine ⟨s1, s', t1, t', _, _, _, a1, a2, b1, ?_, hx, a4.1, ht', hx.ss (SS.refl _) ht'.symm, hx.ss (SS.refl _) b3.2.1.symm, hW, b3, fun i hi => ⟨(hr i).1, (hr i).2, by rw [(v2 i hi).2]⟩, fun k hk => by rw [← v1 k hk]⟩
  unfold F_X12_seatAll
  rw [a2, bind_some, b2]
theorem P_seated {N : Int} {s t : St} (h : RX N s t) (hN : N ≤ 4096) (a b c d : Int32) : Two (RX (N + 1)) (F_X11_seated a b c d s) (F_X12_seated a b c d t) := by
  obtain ⟨nn, V, hnn, hV, en, eV, en1, eV1, en2, eV2⟩ := sizes h
  obtain ⟨z0, z1, _⟩ := h.sch
  obtain ⟨f0, f1, _⟩ := h.folk
  obtain ⟨n0, n1⟩ := h.now
  have e0 : (0 : Int32).toInt = 0 := rfl
  have em : (-1 : Int32).toInt = -1 := rfl
  have e1 : (1 : Int32).toInt = 1 := rfl
  have hsub : (t.1 1223 - 1).toInt = (nn : Int) - 1 := by rw [i32_sub (by omega) (by omega), en2, e1]
  unfold F_X11_seated F_X12_seated F_X11_isVillage F_X12_isVillage F_X11_isSchoolOrAll F_X12_isSchool F_X11_isPast F_X12_isWeek F_X12_isKnowing
  rw [z0, f0, n0]
  simp only [bind_some, bI_eq0]
  refine Two_ite (fun _ => Two_ret _ h.up) (fun c1 => ?_)
  obtain ⟨q1, q2⟩ := isN c1 f1
  obtain ⟨i, ei, ei2, _⟩ := i32_nat q1
  subst ei
  have hi : i < V := by omega
  have key : ¬ inb c 0 (t.1 1200) = false → ¬ inb d 0 (t.1 1200) = false → ∃ s1 s' t', F_X6_survey c d s = some s1 ∧ F_X6_seatAll s1 = some s' ∧ F_X12_seatAll c d t = some t' ∧ RX N s' t' ∧ SS t t' ∧ s'.1 501 = nI nn ∧ t'.1 1223 = nI nn ∧ ∀ k : Nat, k < nn → s'.2.1 605 (20 * i + k) = t'.2.1 1245 (20 * i + k) := by
    intro c2 c3
    obtain ⟨r2a, r2b⟩ := inb_R c2
    obtain ⟨r3a, r3b⟩ := inb_R c3
    have n2 := n1.2
    obtain ⟨w, ew, ew2, _⟩ := i32_nat (x := c) (by omega)
    obtain ⟨k, ek, ek2, _⟩ := i32_nat (x := d) (by omega)
    subst ew ek
    obtain ⟨s1, s', t1, t', W, O0, C0, a1, a2, a3, a4, a5, a6, a7, _, _, _, a8, _⟩ := seats_two h hN (w := w) (q := k) (by omega) (by omega) en hnn eV hV
    have i2 : t'.1 1223 = nI nn := by rw [a7.i (k := 1223) rfl, en]
    exact ⟨s1, s', t', a1, a3, a4, a5, a7, by rw [a5.sch.1, i2], i2, fun k hk => a8.2.2.2.2.2.2.2.1 i hi hi k hk⟩
  by_cases c0 : b = -1
  · subst c0
    have g1 : ¬ inb (-1) (-1) (t.1 1223 - 1) = false := by
      rw [Bool.not_eq_false, inb_iff]
      exact ⟨by omega, by omega⟩
    rw [if_neg g1, if_pos rfl]
    refine Two_ite (fun _ => Two_ret _ h.up) (fun c2 => ?_)
    refine Two_ite (fun _ => Two_ret _ h.up) (fun c3 => ?_)
    obtain ⟨s1, s', t', a1, a2, a3, a4, a5, i1, i2, a6⟩ := key c2 c3
    rw [a1, bind_some, a2, a3, bind_some, bind_some, if_pos rfl]
    unfold F_X6_seatedOf F_X6_seatedOf_4 F_X12_seated_53
    obtain ⟨x, y, b1, b2, rfl⟩ := lp_two (B := B_X6_seatedOf_4 (nI i) s') (B2 := B_X12_seated_53 (nI i) (-1) t')
      (fun m X Z => ∃ (n : Nat) (v : Int32), X = (v, nI n) ∧ Z = (v, nI n) ∧ n + m = nn) (fun x y => x = y) (by
        rintro m _ _ ⟨n, v, rfl, rfl, hn⟩
        by_cases c : n = nn
        · right
          subst c
          refine ⟨v, v, ?_, ?_, rfl⟩
          · unfold B_X6_seatedOf_4
            dsimp only
            rw [i1, if_pos (Int32.le_refl _)]
          · unfold B_X12_seated_53
            dsimp only
            rw [i2, if_pos (Int32.le_refl _)]
        · left
          have h9 : ¬ nI nn ≤ nI n := by
            rw [i32_le, nI_toInt (by omega), nI_toInt (by omega)]
            omega
          have ix : nI i * 20 + nI n = nI (20 * i + n) := idxN (k := 20) (by omega) (by omega) (by omega)
          have ix2 : 20 * nI i + nI n = nI (20 * i + n) := idxN2 (k := 20) (by omega) (by omega) (by omega)
          refine ⟨(v + t'.2.1 1245 (20 * i + n), nI (n + 1)), (v + t'.2.1 1245 (20 * i + n), nI (n + 1)), m - 1, ?_, ?_, by omega, n + 1, _, rfl, rfl, by omega⟩
          · unfold B_X6_seatedOf_4
            dsimp only
            rw [i1, if_neg h9, ix, rd_nI (by omega) (by omega), bind_some, a6 n (by omega), nI_1]
          · unfold B_X12_seated_53
            dsimp only
            rw [i2, if_neg h9, if_pos rfl, ix2, rd_nI (by omega) (by omega), bind_some, nI_1]) FU FU nn (0, 0) (0, 0) ⟨0, 0, rfl, rfl, by omega⟩ (FU_lt (by omega)) (FU_lt (by omega))
    rw [b1, b2]
    exact Two_ret x a4.up
  · rw [if_neg c0]
    by_cases c1' : inb b (-1) (t.1 1223 - 1) = false
    · have c1'' : inb b 0 (t.1 1223 - 1) = false := by
        rw [inb_no] at c1' ⊢
        exact fun e => c1' ⟨by have := e.1; omega, e.2⟩
      rw [if_pos c1', if_pos c1'']
      exact Two_ret _ h.up
    · have c1'' : ¬ inb b 0 (t.1 1223 - 1) = false := by
        rw [inb_no]
        rw [Bool.not_eq_false, inb_iff] at c1'
        refine fun e => e ⟨?_, c1'.2⟩
        have := c1'.1
        have n0 : ¬ b.toInt = -1 := fun e => c0 (Int32.toInt_inj.mp (e.trans em.symm))
        omega
      rw [if_neg c1', if_neg c1'']
      refine Two_ite (fun _ => Two_ret _ h.up) (fun c2 => ?_)
      refine Two_ite (fun _ => Two_ret _ h.up) (fun c3 => ?_)
      obtain ⟨s1, s', t', a1, a2, a3, a4, a5, i1, i2, a6⟩ := key c2 c3
      obtain ⟨r1a, r1b⟩ := inb_R c1''
      obtain ⟨j, ej, ej2, _⟩ := i32_nat (x := b) (by omega)
      subst ej
      have hj : j < nn := by omega
      have ix : nI i * 20 + nI j = nI (20 * i + j) := idxN (k := 20) (by omega) (by omega) (by omega)
      rw [a1, bind_some, a2, a3, bind_some, bind_some, if_neg c0, ix, rd_nI (by omega) (by omega), bind_some]
      unfold F_X12_seated_53
      have hl : lp (B_X12_seated_53 (nI i) (nI j) t') FU (0, 0) = some (t'.2.1 1245 (20 * i + j)) := by
        refine lp_cnt (fun m => (if j < m then t'.2.1 1245 (20 * i + j) else 0, nI m)) nn rfl ?_ ?_ (FU_lt (by omega))
        · intro m hm
          have h9 : ¬ nI nn ≤ nI m := by
            rw [i32_le, nI_toInt (by omega), nI_toInt (by omega)]
            omega
          have ix2 : 20 * nI i + nI m = nI (20 * i + m) := idxN2 (k := 20) (by omega) (by omega) (by omega)
          unfold B_X12_seated_53
          dsimp only
          rw [i2, if_neg h9, if_neg c0]
          by_cases e : m = j
          · subst e
            rw [if_pos rfl, ix2, rd_nI (by omega) (by omega), bind_some, if_neg (by omega), if_pos (by omega), Int32.zero_add, nI_1]
          · have e' : ¬ nI j = nI m := fun z => e ((nI_eq (by omega) (by omega)).mp z).symm
            rw [if_neg e', Int32.add_zero, nI_1]
            by_cases e2 : j < m
            · rw [if_pos e2, if_pos (by omega)]
            · rw [if_neg e2, if_neg (by omega)]
        · unfold B_X12_seated_53
          dsimp only
          rw [i2, if_pos (Int32.le_refl _), if_pos hj]
      rw [hl, a6 j hj]
      exact Two_ret _ a4.up
theorem P_unseated {N : Int} {s t : St} (h : RX N s t) (hN : N ≤ 4096) (a c d : Int32) : Two (RX (N + 1)) (F_X11_unseated a c d s) (F_X12_unseated a c d t) := by
  obtain ⟨nn, V, hnn, hV, en, eV, en1, eV1, en2, eV2⟩ := sizes h
  obtain ⟨f0, f1, _⟩ := h.folk
  obtain ⟨n0, n1⟩ := h.now
  have e0 : (0 : Int32).toInt = 0 := rfl
  have em : (-1 : Int32).toInt = -1 := rfl
  have e1 : (1 : Int32).toInt = 1 := rfl
  unfold F_X11_unseated F_X12_unseated F_X11_isVillage F_X12_isVillage F_X11_isPast F_X12_isWeek F_X12_isKnowing
  rw [f0, n0]
  simp only [bind_some, bI_eq0]
  have key : ¬ inb c 0 (t.1 1200) = false → ¬ inb d 0 (t.1 1200) = false → ∃ s1 s' t', F_X6_survey c d s = some s1 ∧ F_X6_seatAll s1 = some s' ∧ F_X12_seatAll c d t = some t' ∧ RX N s' t' ∧ SS t t' ∧ s'.1 101 = nI V ∧ t'.1 1212 = nI V ∧ ∀ k : Nat, k < V → s'.2.1 606 k = t'.2.1 1247 k := by
    intro c2 c3
    obtain ⟨r2a, r2b⟩ := inb_R c2
    obtain ⟨r3a, r3b⟩ := inb_R c3
    have n2 := n1.2
    obtain ⟨w, ew, ew2, _⟩ := i32_nat (x := c) (by omega)
    obtain ⟨k, ek, ek2, _⟩ := i32_nat (x := d) (by omega)
    subst ew ek
    obtain ⟨s1, s', t1, t', W, O0, C0, a1, a2, a3, a4, a5, a6, a7, _, _, _, a8, _⟩ := seats_two h hN (w := w) (q := k) (by omega) (by omega) en hnn eV hV
    have i2 : t'.1 1212 = nI V := by rw [a7.i (k := 1212) rfl, eV]
    exact ⟨s1, s', t', a1, a3, a4, a5, a7, by rw [a5.folk.1, i2], i2, a8.2.2.2.2.2.2.1⟩
  by_cases c0 : a = -1
  · subst c0
    have g1 : inb (-1) 0 (t.1 1212 - 1) = false := by
      rw [inb_no]
      exact fun z => absurd z.1 (by decide)
    rw [if_pos g1, if_pos rfl, if_pos rfl]
    refine Two_ite (fun _ => Two_ret _ h.up) (fun c2 => ?_)
    refine Two_ite (fun _ => Two_ret _ h.up) (fun c3 => ?_)
    obtain ⟨s1, s', t', a1, a2, a3, a4, a5, i1, i2, a6⟩ := key c2 c3
    rw [a1, bind_some, a2, a3, bind_some, bind_some, if_pos rfl]
    unfold F_X6_standing F_X6_standing_4 F_X12_unseated_43
    obtain ⟨x, y, b1, b2, rfl⟩ := lp_two (B := B_X6_standing_4 s') (B2 := B_X12_unseated_43 (-1) t')
      (fun m X Z => ∃ (n : Nat) (v : Int32), X = (v, nI n) ∧ Z = (v, nI n) ∧ n + m = V) (fun x y => x = y) (by
        rintro m _ _ ⟨n, v, rfl, rfl, hn⟩
        by_cases c : n = V
        · right
          subst c
          refine ⟨v, v, ?_, ?_, rfl⟩
          · unfold B_X6_standing_4
            dsimp only
            rw [i1, if_pos (Int32.le_refl _)]
          · unfold B_X12_unseated_43
            dsimp only
            rw [i2, if_pos (Int32.le_refl _)]
        · left
          have h9 : ¬ nI V ≤ nI n := by
            rw [i32_le, nI_toInt (by omega), nI_toInt (by omega)]
            omega
          refine ⟨(v + t'.2.1 1247 n, nI (n + 1)), (v + t'.2.1 1247 n, nI (n + 1)), m - 1, ?_, ?_, by omega, n + 1, _, rfl, rfl, by omega⟩
          · unfold B_X6_standing_4
            dsimp only
            rw [i1, if_neg h9, rd_nI (by omega) (by omega), bind_some, a6 n (by omega), nI_1]
          · unfold B_X12_unseated_43
            dsimp only
            rw [i2, if_neg h9, if_pos rfl, rd_nI (by omega) (by omega), bind_some, nI_1]) FU FU V (0, 0) (0, 0) ⟨0, 0, rfl, rfl, by omega⟩ (FU_lt (by omega)) (FU_lt (by omega))
    rw [b1, b2]
    exact Two_ret x a4.up
  · rw [if_neg c0, if_neg c0]
    by_cases c1 : inb a 0 (t.1 1212 - 1) = false
    · rw [if_pos c1, if_pos c1]
      exact Two_ret _ h.up
    · rw [if_neg c1, if_neg c1]
      refine Two_ite (fun _ => Two_ret _ h.up) (fun c2 => ?_)
      refine Two_ite (fun _ => Two_ret _ h.up) (fun c3 => ?_)
      obtain ⟨s1, s', t', a1, a2, a3, a4, a5, i1, i2, a6⟩ := key c2 c3
      obtain ⟨q1, q2⟩ := isN c1 f1
      obtain ⟨j, ej, ej2, _⟩ := i32_nat q1
      subst ej
      have hj : j < V := by omega
      rw [a1, bind_some, a2, a3, bind_some, bind_some, if_neg c0, rd_nI (by omega) (by omega), bind_some]
      unfold F_X12_unseated_43
      have hl : lp (B_X12_unseated_43 (nI j) t') FU (0, 0) = some (t'.2.1 1247 j) := by
        refine lp_cnt (fun m => (if j < m then t'.2.1 1247 j else 0, nI m)) V rfl ?_ ?_ (FU_lt (by omega))
        · intro m hm
          have h9 : ¬ nI V ≤ nI m := by
            rw [i32_le, nI_toInt (by omega), nI_toInt (by omega)]
            omega
          unfold B_X12_unseated_43
          dsimp only
          rw [i2, if_neg h9, if_neg c0]
          by_cases e : m = j
          · subst e
            rw [if_pos rfl, rd_nI (by omega) (by omega), bind_some, if_neg (by omega), if_pos (by omega), Int32.zero_add, nI_1]
          · have e' : ¬ nI j = nI m := fun z => e ((nI_eq (by omega) (by omega)).mp z).symm
            rw [if_neg e', Int32.add_zero, nI_1]
            by_cases e2 : j < m
            · rw [if_pos e2, if_pos (by omega)]
            · rw [if_neg e2, if_neg (by omega)]
        · unfold B_X12_unseated_43
          dsimp only
          rw [i2, if_pos (Int32.le_refl _), if_pos hj]
      rw [hl, a6 j hj]
      exact Two_ret _ a4.up
