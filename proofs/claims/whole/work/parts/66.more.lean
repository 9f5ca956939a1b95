/-! the class seats as many as can be -/
theorem rsum_mono {f : Nat → Int} {n : Nat} : ∀ {m : Nat}, n ≤ m → (∀ j, j < m → 0 ≤ f j) → rsum f n ≤ rsum f m
  | 0, h, _ => by
    have : n = 0 := by omega
    rw [this]
    exact Int.le_refl _
  | m + 1, h, hp => by
    by_cases e : n = m + 1
    · rw [e]
      exact Int.le_refl _
    · have ih := rsum_mono (f := f) (n := n) (m := m) (by omega) (fun j hj => hp j (by omega))
      have := hp m (by omega)
      have e2 : rsum f (m + 1) = rsum f m + f m := rfl
      omega
theorem C_seatedOf {nn V : Nat} {ok : Nat → Nat → Prop} {s : St} {O0 C0 : Nat → Int} (hF : FI nn V ok (s.2.1 605) (s.2.1 606) (s.2.1 607) O0 C0) (hnn : nn ≤ 20) (hV : V ≤ 24) (iN : s.1 501 = nI nn) (hO : ∀ i, i < V → O0 i ≤ 1998) {i : Nat} (hi : i < V) : ∃ r, F_X6_seatedOf (nI i) s = some r ∧ r.toInt = rsum (fun k => (s.2.1 605 (20 * i + k)).toInt) nn := by
  have hrow := hF.2.1 i hi
  have hO0 := hO i hi
  obtain ⟨y, h1, h2⟩ := lp_inv (B := B_X6_seatedOf_4 (nI i) s)
    (fun m X => ∃ (n : Nat) (v : Int32), X = (v, nI n) ∧ n + m = nn ∧ v.toInt = rsum (fun k => (s.2.1 605 (20 * i + k)).toInt) n)
    (fun y => y.toInt = rsum (fun k => (s.2.1 605 (20 * i + k)).toInt) nn) (by
      rintro m _ ⟨n, v, rfl, hn, hv⟩
      by_cases c : n = nn
      · right
        subst c
        refine ⟨v, ?_, hv⟩
        unfold B_X6_seatedOf_4
        dsimp only
        rw [iN, if_pos (Int32.le_refl _)]
      · left
        have h9 : ¬ nI nn ≤ nI n := by
          rw [i32_le, nI_toInt (by omega), nI_toInt (by omega)]
          omega
        have ix : nI i * 20 + nI n = nI (20 * i + n) := idxN (k := 20) (by omega) (by omega) (by omega)
        have p1 := rsum_mono (f := fun k => (s.2.1 605 (20 * i + k)).toInt) (n := n) (m := nn) (by omega) (fun j hj => (hF.1 i hi j hj).1)
        have p2 := rsum_ge (f := fun k => (s.2.1 605 (20 * i + k)).toInt) (n := n) (fun j hj => (hF.1 i hi j (by omega)).1)
        have p3 := FI_cell hF hi (k := n) (by omega)
        have p4 := (hF.1 i hi n (by omega)).1
        refine ⟨(v + s.2.1 605 (20 * i + n), nI (n + 1)), m - 1, ?_, by omega, n + 1, _, rfl, by omega, ?_⟩
        · unfold B_X6_seatedOf_4
          dsimp only
          rw [iN, if_neg h9, ix, rd_nI (by omega) (by omega), bind_some, nI_1]
        · rw [i32_add (by omega) (by omega), hv]
          rfl) FU nn (0, 0) ⟨0, 0, rfl, by omega, rfl⟩ (FU_lt (by omega))
  refine ⟨y, ?_, h2⟩
  unfold F_X6_seatedOf F_X6_seatedOf_4
  rw [h1]
  rfl
theorem rsum_bound {f : Nat → Int} {b : Int} : ∀ {n : Nat}, (∀ j, j < n → f j ≤ b) → rsum f n ≤ n * b
  | 0, _ => by
    show (0 : Int) ≤ (0 : Nat) * b
    rw [Int.natCast_zero, Int.zero_mul]
    exact Int.le_refl _
  | n + 1, h => by
    have ih := rsum_bound (f := f) (b := b) (n := n) (fun j hj => h j (by omega))
    have h2 := h n (by omega)
    have e : rsum f (n + 1) = rsum f n + f n := rfl
    rw [e, Int.natCast_add, Int.add_mul]
    show _ ≤ (n : Int) * b + 1 * b
    rw [Int.one_mul]
    omega
theorem C_inAll {nn V : Nat} {ok : Nat → Nat → Prop} {s : St} {O0 C0 : Nat → Int} (hF : FI nn V ok (s.2.1 605) (s.2.1 606) (s.2.1 607) O0 C0) (hnn : nn ≤ 20) (hV : V ≤ 24) (iN : s.1 501 = nI nn) (iV : s.1 101 = nI V) (hO : ∀ i, i < V → O0 i ≤ 1998) : ∃ r, F_X6_seatedInAll s = some r ∧ r.toInt = tot nn V (s.2.1 605) := by
  have hrow : ∀ i, i < V → 0 ≤ rsum (fun k => (s.2.1 605 (20 * i + k)).toInt) nn ∧ rsum (fun k => (s.2.1 605 (20 * i + k)).toInt) nn ≤ 1998 := by
    intro i hi
    have h1 := hF.2.1 i hi
    have h2 := hO i hi
    exact ⟨rsum_ge (fun j hj => (hF.1 i hi j hj).1), by omega⟩
  obtain ⟨y, h1, h2⟩ := lp_inv (B := B_X6_seatedInAll_4 s)
    (fun m X => ∃ (n : Nat) (v : Int32), X = (v, nI n) ∧ n + m = V ∧ v.toInt = rsum (fun i => rsum (fun k => (s.2.1 605 (20 * i + k)).toInt) nn) n)
    (fun y => y.toInt = tot nn V (s.2.1 605)) (by
      rintro m _ ⟨n, v, rfl, hn, hv⟩
      by_cases c : n = V
      · right
        subst c
        refine ⟨v, ?_, hv⟩
        unfold B_X6_seatedInAll_4
        dsimp only
        rw [iV, if_pos (Int32.le_refl _)]
      · left
        have h9 : ¬ nI V ≤ nI n := by
          rw [i32_le, nI_toInt (by omega), nI_toInt (by omega)]
          omega
        obtain ⟨r, r1, r2⟩ := C_seatedOf hF hnn hV iN hO (i := n) (by omega)
        have p1 := rsum_bound (f := fun i => rsum (fun k => (s.2.1 605 (20 * i + k)).toInt) nn) (b := 1998) (n := n) (fun j hj => (hrow j (by omega)).2)
        have p2 := rsum_ge (f := fun i => rsum (fun k => (s.2.1 605 (20 * i + k)).toInt) nn) (n := n) (fun j hj => (hrow j (by omega)).1)
        have p3 := hrow n (by omega)
        refine ⟨(v + r, nI (n + 1)), m - 1, ?_, by omega, n + 1, _, rfl, by omega, ?_⟩
        · unfold B_X6_seatedInAll_4
          dsimp only
          rw [iV, if_neg h9, r1, bind_some, nI_1]
        · rw [i32_add (by omega) (by omega), hv, r2]
          rfl) FU V (0, 0) ⟨0, 0, rfl, by omega, rfl⟩ (FU_lt (by omega))
  refine ⟨y, ?_, h2⟩
  unfold F_X6_seatedInAll F_X6_seatedInAll_4
  rw [h1]
  rfl
theorem C_more {W : Nat → Nat → Int32} {nn V : Nat} {s0 : St} {O0 C0 : Nat → Int} (hnn : nn ≤ 20) (hV : V ≤ 24) (iN : s0.1 501 = nI nn) (iV : s0.1 101 = nI V) (hO : ∀ i, i < V → 0 ≤ O0 i ∧ O0 i ≤ 1998) (hW : ∀ i, i < V → ∀ k, k < nn → s0.2.1 604 (20 * i + k) = W i k) (hF0 : FI nn V (fun i k => ¬ W i k = -1) (s0.2.1 605) (s0.2.1 606) (s0.2.1 607) O0 C0) : ∃ r s', F_X6_seatMore s0 = some (r, s') ∧ SS s0 s' ∧ ∃ S O L A B, FI nn V (fun i k => ¬ W i k = -1) S O L O0 C0 ∧ CUT nn V (fun i k => ¬ W i k = -1) S O L V A B ∧ r.toInt = tot nn V S := by
  have e0 : (0 : Int32).toInt = 0 := rfl
  have eT : (100000 : Int32).toInt = 100000 := rfl
  obtain ⟨r0, z1, z2⟩ := C_inAll hF0 hnn hV iN iV (fun i hi => (hO i hi).2)
  have hsum0 : rsum O0 V ≤ 47952 := by
    have := rsum_bound (f := O0) (b := 1998) (n := V) (fun j hj => (hO j hj).2)
    omega
  obtain ⟨Z, k1, r, s', hZ, k3, S, O, L, A, B, k4, k5, k6⟩ := lp_inv (B := B_X6_seatMore_7)
    (fun m X => ∃ (n : Nat) (v : Int32) (s : St), X = (v, nI n, s) ∧ SS s0 s ∧ s.2.1 604 = s0.2.1 604 ∧ FI nn V (fun i k => ¬ W i k = -1) (s.2.1 605) (s.2.1 606) (s.2.1 607) O0 C0 ∧ v.toInt = tot nn V (s.2.1 605) ∧ (rsum (fun i => (s.2.1 606 i).toInt) V).toNat = m ∧ (n : Int) + rsum (fun i => (s.2.1 606 i).toInt) V ≤ 47952)
    (fun Z => ∃ r s', Z = .inr (r, s') ∧ SS s0 s' ∧ ∃ S O L A B, FI nn V (fun i k => ¬ W i k = -1) S O L O0 C0 ∧ CUT nn V (fun i k => ¬ W i k = -1) S O L V A B ∧ r.toInt = tot nn V S) (by
      rintro m _ ⟨n, v, s, rfl, q1, q2, hF, hv, hm, hn⟩
      have jN : s.1 501 = nI nn := by rw [q1.i (k := 501) rfl, iN]
      have jV : s.1 101 = nI V := by rw [q1.i (k := 101) rfl, iV]
      have hOp : 0 ≤ rsum (fun i => (s.2.1 606 i).toInt) V := rsum_ge (fun j hj => (hF.2.1 j hj).1)
      have h9 : ¬ (100000 : Int32) ≤ nI n := by
        rw [i32_le, nI_toInt (by omega)]
        omega
      obtain ⟨r, s2, e1, e2, e3⟩ := C_end (W := W) hnn hV jV jN (fun i hi k hk => by rw [q2]; exact hW i hi k hk) (fun i hi k hk => (hF.1 i hi k hk).1)
      rcases e3 with ⟨rfl, A, B, e4⟩ | ⟨k, rfl, e4⟩
      · right
        refine ⟨.inr (v, s2), ?_, v, s2, rfl, q1.trans e2.1, _, _, _, A, B, hF, e4, hv⟩
        unfold B_X6_seatMore_7
        dsimp only
        rw [if_neg h9, e1, bind_some, if_pos rfl]
      · left
        obtain ⟨f1, f2, f3, f4, i, P, f5, f6⟩ := e4
        obtain ⟨g1, g2, g3, g4, g5⟩ := f1
        have nk : ¬ nI k = -1 := nI_neg1 (by omega)
        have k1 : rd s2 607 20 (nI k) = some (s.2.1 607 k) := by rw [rd_nI (by omega) (by omega), g5]
        have f5' : PT nn V (fun i k => ¬ W i k = -1) (s2.2.1 605) (s2.2.1 610) (s2.2.1 609) (fun i => 0 < (s.2.1 606 i).toInt) ((k, i) :: P) := by rw [g3]; exact f5
        obtain ⟨mv, m1, m2, m3, m4⟩ := C_min hnn hV (s := s2) (rt := fun i => 0 < (s.2.1 606 i).toInt) (fun i hi hr => ⟨f2 i hi hr, by rw [g4]; exact hr⟩) (nI k) P k i (s.2.1 607 k) 0 f5' (by omega) f4 FU (FU_lt (by omega))
        have s3e : ∃ s3, wr s2 607 20 (nI k) (s.2.1 607 k - mv) = some s3 ∧ SS s2 s3 ∧ s3.2.1 604 = s2.2.1 604 ∧ s3.2.1 605 = s2.2.1 605 ∧ s3.2.1 606 = s2.2.1 606 ∧ s3.2.1 607 = upd (s2.2.1 607) k (s.2.1 607 k - mv) ∧ s3.2.1 609 = s2.2.1 609 ∧ s3.2.1 610 = s2.2.1 610 := ⟨_, wr_nI (by omega) (by omega), SS_sA _ _ _ rfl, rfl, rfl, rfl, sA_at _ _ _ _, rfl, rfl⟩
        obtain ⟨s3, a1, a2, a3, a4, a5, a6, a7, a8⟩ := s3e
        have hFP : FP nn V (fun i k => ¬ W i k = -1) (s3.2.1 605) (s3.2.1 606) (s3.2.1 607) (pd k mv.toInt) O0 C0 := by
          rw [a4, a5, a6, g3, g4, g5]
          exact FP_start hF (by omega) (by omega)
        obtain ⟨s4, b1, b2, b3, b4, b5⟩ := C_shift hnn hV (rt := fun i => 0 < (s.2.1 606 i).toInt) (fun i hi => by have := (hO i hi).2; omega) m4 P k i 0 s3 (by rw [a4, a7, a8]; exact f5') (fun i hi hr => by rw [a7]; exact f2 i hi hr) (by rw [a4, a5]; exact m2) hFP (by omega) FU (FU_lt (by omega))
        have hmv : F_X6_moveAlong (nI k) s2 = some (mv, s4) := by
          unfold F_X6_moveAlong
          rw [k1, bind_some]
          unfold F_X6_moveAlong_12
          have m1' : lp (B_X6_moveAlong_12 (nI k) s2) FU (s.2.1 607 k, nI k, 0) = some mv := m1
          rw [m1', bind_some]
          unfold F_X6_moveAlong_91
          rw [k1, bind_some, a1, bind_some]
          unfold F_X6_moveAlong_106
          have b1' : lp (B_X6_moveAlong_106 mv) FU (nI k, 0, s3) = some s4 := b1
          rw [b1']
          rfl
        rw [a5, g4] at b5
        have t1 := FI_tot hF
        have t2 := FI_tot b2
        have hOp2 : 0 ≤ rsum (fun i => (s4.2.1 606 i).toInt) V := rsum_ge (fun j hj => (b2.2.1 j hj).1)
        have htp : 0 ≤ tot nn V (s.2.1 605) := rsum_ge (fun j hj => rsum_ge (fun k hk => (hF.1 j hj k hk).1))
        refine ⟨(v + mv, nI (n + 1), s4), (rsum (fun i => (s4.2.1 606 i).toInt) V).toNat, ?_, by omega, n + 1, v + mv, s4, rfl, q1.trans (g1.trans (a2.trans b3)), b4.trans (a3.trans (g2.trans q2)), b2, ?_, rfl, by omega⟩
        · unfold B_X6_seatMore_7
          dsimp only
          rw [if_neg h9, e1, bind_some, if_neg nk, hmv, bind_some, nI_1]
        · rw [i32_add (by omega) (by omega)]
          omega) FU (rsum (fun i => (s0.2.1 606 i).toInt) V).toNat (r0, 0, s0) ⟨0, r0, s0, rfl, SS.refl _, rfl, hF0, z2, rfl, by
        have := FI_tot hF0
        have htp : 0 ≤ tot nn V (s0.2.1 605) := rsum_ge (fun j hj => rsum_ge (fun k hk => (hF0.1 j hj k hk).1))
        omega⟩ (by
        have := FI_tot hF0
        have htp : 0 ≤ tot nn V (s0.2.1 605) := rsum_ge (fun j hj => rsum_ge (fun k hk => (hF0.1 j hj k hk).1))
        exact FU_lt (by omega))
  refine ⟨r, s', ?_, k3, S, O, L, A, B, k4, k5, k6⟩
  unfold F_X6_seatMore
  rw [z1, bind_some]
  unfold F_X6_seatMore_7
  rw [k1, hZ]
  rfl
