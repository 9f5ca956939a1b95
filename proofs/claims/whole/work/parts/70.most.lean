/-! most -/
theorem M_most {W : Nat → Nat → Int32} {nn V : Nat} {t : St} {O0 C0 : Nat → Int} (hnn : nn ≤ 20) (hV : V ≤ 24) (iN : t.1 1223 = nI nn) (iV : t.1 1212 = nI V) (hG : ∀ i, i < V → ∀ k, k < nn → t.2.1 1249 (20 * i + k) = bI (decide (¬ W i k = -1))) (hO : ∀ i, i < V → 0 ≤ O0 i ∧ O0 i ≤ 1998 ∧ O0 i = (t.2.1 1247 i).toInt) (hC0 : ∀ k, k < nn → C0 k = max 0 (t.2.1 1246 k).toInt) : ∃ r t', F_X12_most_29 0 0 t = some (r, t') ∧ SS t t' ∧ ∃ S O L A B, FI nn V (fun i k => ¬ W i k = -1) S O L O0 C0 ∧ CUT nn V (fun i k => ¬ W i k = -1) S O L V A B ∧ r.toInt = tot nn V S := by
  have e0 : (0 : Int32).toInt = 0 := rfl
  have e480 : (480 : Int32).toInt = 480 := rfl
  have hO' : ∀ i, i < V → O0 i ≤ 100000 := fun i hi => by have := (hO i hi).2.1; omega
  have hsum0 : rsum O0 V ≤ 47952 := by
    have := rsum_bound (f := O0) (b := 1998) (n := V) (fun j hj => (hO j hj).2.1)
    omega
  -- no flows
  obtain ⟨t1, p1, p2, p3⟩ := lp_inv (B := B_X12_most_29 0)
    (fun m X => ∃ (c : Nat) (t1 : St), X = (nI c, t1) ∧ c + m = 480 ∧ (SS t t1 ∧ t1.2.1 1246 = t.2.1 1246 ∧ t1.2.1 1247 = t.2.1 1247 ∧ t1.2.1 1249 = t.2.1 1249) ∧ ∀ k, k < c → t1.2.1 1250 k = 0)
    (fun t1 => (SS t t1 ∧ t1.2.1 1246 = t.2.1 1246 ∧ t1.2.1 1247 = t.2.1 1247 ∧ t1.2.1 1249 = t.2.1 1249) ∧ ∀ k, k < 480 → t1.2.1 1250 k = 0) (by
      rintro m _ ⟨c, t1, rfl, hcm, ⟨q1, q3, q4, q5⟩, q2⟩
      by_cases e : c = 480
      · right
        subst e
        refine ⟨t1, ?_, ⟨q1, q3, q4, q5⟩, q2⟩
        unfold B_X12_most_29
        dsimp only
        exact if_pos (by decide)
      · left
        have h9 : ¬ (480 : Int32) ≤ nI c := by
          rw [i32_le, nI_toInt (by omega)]
          omega
        have s3e : ∃ s3, wr t1 1250 480 (nI c) 0 = some s3 ∧ SS t1 s3 ∧ s3.2.1 1246 = t1.2.1 1246 ∧ s3.2.1 1247 = t1.2.1 1247 ∧ s3.2.1 1249 = t1.2.1 1249 ∧ s3.2.1 1250 = upd (t1.2.1 1250) c 0 := ⟨_, wr_nI (by omega) (by omega), SS_sA _ _ _ rfl, rfl, rfl, rfl, sA_at _ _ _ _⟩
        obtain ⟨s3, a1, a2, a3, a4, a5, a6⟩ := s3e
        refine ⟨(nI (c + 1), s3), m - 1, ?_, by omega, c + 1, s3, rfl, by omega, ⟨q1.trans a2, a3.trans q3, a4.trans q4, a5.trans q5⟩, fun k hk => ?_⟩
        · unfold B_X12_most_29
          dsimp only
          rw [if_neg h9, a1, bind_some, nI_1]
        · rw [a6]
          by_cases e2 : k = c
          · rw [e2, upd_at]
          · rw [upd_ne _ _ e2]
            exact q2 k (by omega)) FU 480 (0, t) ⟨0, t, rfl, by omega, ⟨SS.refl t, rfl, rfl, rfl⟩, fun k hk => absurd hk (by omega)⟩ (FU_lt (by omega))
  obtain ⟨p4, p5, p6, p7⟩ := p2
  have hF1 : FI nn V (fun i k => ¬ W i k = -1) (t1.2.1 1250) (t1.2.1 1247) (t1.2.1 1246) O0 C0 := by
    refine ⟨fun i hi k hk => ?_, fun i hi => ?_, fun k hk => ?_⟩
    · rw [p3 _ (by omega), e0]
      exact ⟨by omega, fun z => absurd rfl z⟩
    · have : rsum (fun k => (t1.2.1 1250 (20 * i + k)).toInt) nn = rsum (fun _ => 0) nn := rsum_cong (fun k hk => by rw [p3 _ (by omega), e0])
      rw [this, rsum_zero, p6]
      obtain ⟨x1, x2, x3⟩ := hO i hi
      exact ⟨by omega, by omega⟩
    · have : rsum (fun i => (t1.2.1 1250 (20 * i + k)).toInt) V = rsum (fun _ => 0) V := rsum_cong (fun i hi => by rw [p3 _ (by omega), e0])
      rw [this, rsum_zero, p5, hC0 k hk]
      omega
  have tot_le : ∀ (S O L : Nat → Int32), FI nn V (fun i k => ¬ W i k = -1) S O L O0 C0 → 0 ≤ tot nn V S ∧ 0 ≤ rsum (fun i => (O i).toInt) V ∧ tot nn V S + rsum (fun i => (O i).toInt) V = rsum O0 V := by
    intro S O L h
    exact ⟨rsum_ge (fun j hj => rsum_ge (fun k hk => (h.1 j hj k hk).1)), rsum_ge (fun j hj => (h.2.1 j hj).1), FI_tot h⟩
  have tot0 : tot nn V (t1.2.1 1250) = 0 := by
    unfold tot
    have : rsum (fun i => rsum (fun k => (t1.2.1 1250 (20 * i + k)).toInt) nn) V = rsum (fun _ => 0) V := rsum_cong (fun i hi => by
      have : rsum (fun k => (t1.2.1 1250 (20 * i + k)).toInt) nn = rsum (fun _ => 0) nn := rsum_cong (fun k hk => by rw [p3 _ (by omega), e0])
      rw [this, rsum_zero])
    rw [this, rsum_zero]
  -- villages, rising
  obtain ⟨Y, k1, r, t2, rfl, k2, A, B, k3, k4, k5⟩ := lp_inv (B := B_X12_most_54)
    (fun m X => ∃ (v : Nat) (all : Int32) (t2 : St), X = (all, nI v, t2) ∧ v + m = V ∧ (SS t t2 ∧ t2.2.1 1249 = t.2.1 1249) ∧ FI nn V (fun i k => ¬ W i k = -1) (t2.2.1 1250) (t2.2.1 1247) (t2.2.1 1246) O0 C0 ∧ all.toInt = tot nn V (t2.2.1 1250) ∧ ∃ A B, CUT nn V (fun i k => ¬ W i k = -1) (t2.2.1 1250) (t2.2.1 1247) (t2.2.1 1246) v A B)
    (fun Y => ∃ (r : Int32) (t2 : St), Y = (r, t2) ∧ SS t t2 ∧ ∃ A B, FI nn V (fun i k => ¬ W i k = -1) (t2.2.1 1250) (t2.2.1 1247) (t2.2.1 1246) O0 C0 ∧ CUT nn V (fun i k => ¬ W i k = -1) (t2.2.1 1250) (t2.2.1 1247) (t2.2.1 1246) V A B ∧ r.toInt = tot nn V (t2.2.1 1250)) (by
      rintro m _ ⟨v, all, t2, rfl, hvm, ⟨q1, q2⟩, hF, hall, A, B, hc⟩
      have jN : t2.1 1223 = nI nn := by rw [q1.i (k := 1223) rfl, iN]
      have jV : t2.1 1212 = nI V := by rw [q1.i (k := 1212) rfl, iV]
      by_cases e : v = V
      · right
        subst e
        refine ⟨(all, t2), ?_, all, t2, rfl, q1, A, B, hF, hc, hall⟩
        unfold B_X12_most_54
        dsimp only
        rw [jV, if_pos (Int32.le_refl _)]
      · left
        have h9 : ¬ nI V ≤ nI v := by
          rw [i32_le, nI_toInt (by omega), nI_toInt (by omega)]
          omega
        have hv : v < V := by omega
        -- how a push goes on: the next number, the new state
        have next : ∀ (t2 : St), SS t t2 → t2.2.1 1249 = t.2.1 1249 → FI nn V (fun i k => ¬ W i k = -1) (t2.2.1 1250) (t2.2.1 1247) (t2.2.1 1246) O0 C0 → (∃ A B, CUT nn V (fun i k => ¬ W i k = -1) (t2.2.1 1250) (t2.2.1 1247) (t2.2.1 1246) v A B) → ∃ r t3, F_X12_push (nI v) t2 = some (r, t3) ∧ SS t t3 ∧ t3.2.1 1249 = t.2.1 1249 ∧ FI nn V (fun i k => ¬ W i k = -1) (t3.2.1 1250) (t3.2.1 1247) (t3.2.1 1246) O0 C0 ∧ 0 ≤ r.toInt ∧ tot nn V (t3.2.1 1250) = tot nn V (t2.2.1 1250) + r.toInt ∧ (r.toInt = 0 → ∃ A B, CUT nn V (fun i k => ¬ W i k = -1) (t3.2.1 1250) (t3.2.1 1247) (t3.2.1 1246) (v + 1) A B) ∧ (0 < r.toInt → ∃ A B, CUT nn V (fun i k => ¬ W i k = -1) (t3.2.1 1250) (t3.2.1 1247) (t3.2.1 1246) v A B) := by
          intro t2 q1 q2 hF ⟨A, B, hc⟩
          obtain ⟨r, t3, a1, a2, a3, a4, a5⟩ := M_push hnn hV (t := t2) (by rw [q1.i (k := 1223) rfl, iN]) (by rw [q1.i (k := 1212) rfl, iV]) (fun i hi k hk => by rw [q2]; exact hG i hi k hk) hO' hF hv hc
          have x1 := tot_le _ _ _ hF
          have x2 := tot_le _ _ _ a4
          refine ⟨r, t3, a1, q1.trans a2, a3.trans q2, a4, ?_⟩
          rcases a5 with ⟨rfl, b2, b3⟩ | ⟨b1, b2, b3⟩
          · rw [e0]
            exact ⟨Int.le_refl _, by omega, fun _ => b3, fun z => absurd z (by omega)⟩
          · exact ⟨by omega, by omega, fun z => absurd z (by omega), fun _ => b3⟩
        obtain ⟨r, t3, a1, a2, a3, a4, a5, a6, a7, a8⟩ := next t2 q1 q2 hF ⟨A, B, hc⟩
        obtain ⟨Z, z1, all', t4, rfl, z2, z3, z4, z5, z6⟩ := lp_inv (B := B_X12_most_71 (nI v))
          (fun m X => ∃ (all n : Int32) (t3 : St), X = (all, n, t3) ∧ SS t t3 ∧ t3.2.1 1249 = t.2.1 1249 ∧ FI nn V (fun i k => ¬ W i k = -1) (t3.2.1 1250) (t3.2.1 1247) (t3.2.1 1246) O0 C0 ∧ 0 ≤ n.toInt ∧ 0 ≤ all.toInt ∧ all.toInt + n.toInt = tot nn V (t3.2.1 1250) ∧ (n.toInt = 0 → ∃ A B, CUT nn V (fun i k => ¬ W i k = -1) (t3.2.1 1250) (t3.2.1 1247) (t3.2.1 1246) (v + 1) A B) ∧ (0 < n.toInt → ∃ A B, CUT nn V (fun i k => ¬ W i k = -1) (t3.2.1 1250) (t3.2.1 1247) (t3.2.1 1246) v A B) ∧ (m : Int) = rsum (fun i => (t3.2.1 1247 i).toInt) V + if 0 < n.toInt then 1 else 0)
          (fun Z => ∃ (all : Int32) (t3 : St), Z = (all, t3) ∧ SS t t3 ∧ t3.2.1 1249 = t.2.1 1249 ∧ FI nn V (fun i k => ¬ W i k = -1) (t3.2.1 1250) (t3.2.1 1247) (t3.2.1 1246) O0 C0 ∧ all.toInt = tot nn V (t3.2.1 1250) ∧ ∃ A B, CUT nn V (fun i k => ¬ W i k = -1) (t3.2.1 1250) (t3.2.1 1247) (t3.2.1 1246) (v + 1) A B) (by
            rintro m _ ⟨all, n, t3, rfl, b1, b2, b3, b4, b4', b5, b6, b7, b8⟩
            by_cases d : n ≤ 0
            · right
              refine ⟨(all, t3), ?_, all, t3, rfl, b1, b2, b3, ?_, ?_⟩
              · unfold B_X12_most_71
                dsimp only
                rw [if_pos d]
              · rw [i32_le, e0] at d
                omega
              · rw [i32_le, e0] at d
                exact b6 (by omega)
            · left
              have d' := d
              rw [i32_le, e0] at d'
              obtain ⟨r, t4, c1, c2, c3, c4, c5, c6, c7, c8⟩ := next t3 b1 b2 b3 (b7 (by omega))
              have x1 := tot_le _ _ _ b3
              have x2 := tot_le _ _ _ c4
              have ea : (all + n).toInt = all.toInt + n.toInt := i32_add (by omega) (by omega)
              rw [if_pos (by omega)] at b8
              refine ⟨(all + n, r, t4), (rsum (fun i => (t4.2.1 1247 i).toInt) V + if 0 < r.toInt then 1 else 0).toNat, ?_, ?_, all + n, r, t4, rfl, c2, c3, c4, c5, by omega, by omega, c7, c8, ?_⟩
              · unfold B_X12_most_71
                dsimp only
                rw [if_neg d, c1, bind_some]
              · split <;> omega
              · split <;> omega) FU (rsum (fun i => (t3.2.1 1247 i).toInt) V + if 0 < r.toInt then 1 else 0).toNat (all, r, t3) (by
            have x1 := tot_le _ _ _ hF
            have x2 := tot_le _ _ _ a4
            exact ⟨all, r, t3, rfl, a2, a3, a4, a5, by omega, by omega, a7, a8, by split <;> omega⟩) (by
            have x2 := tot_le _ _ _ a4
            exact FU_lt (by split <;> omega))
        refine ⟨(all', nI (v + 1), t4), m - 1, ?_, by omega, v + 1, all', t4, rfl, by omega, ⟨z2, z3⟩, z4, z5, z6⟩
        unfold B_X12_most_54
        dsimp only
        rw [jV, if_neg h9, a1, bind_some]
        unfold F_X12_most_71
        rw [z1, bind_some]
        unfold F_X12_most_92
        rw [nI_1]) FU V (0, 0, t1) ⟨0, 0, t1, rfl, by omega, ⟨p4, p7⟩, hF1, by rw [tot0]; rfl, fun _ => False, fun _ => False, fun j hj => absurd hj (by omega), fun _ _ _ _ z => absurd z (fun z => z), fun _ _ z => absurd z (fun z => z), fun _ _ _ _ z => absurd z (fun z => z)⟩ (FU_lt (by omega))
  refine ⟨r, t2, ?_, k2, _, _, _, A, B, k3, k4, k5⟩
  unfold F_X12_most_29
  have p1' : lp (B_X12_most_29 0) FU (0, t) = some t1 := p1
  rw [p1', bind_some]
  unfold F_X12_most_51 F_X12_most_54
  have k1' : lp B_X12_most_54 FU (0, 0, t1) = some (r, t2) := k1
  rw [k1']
  rfl
theorem P_most {N : Int} {s t : St} (h : RX N s t) (hN : N ≤ 4096) (a b : Int32) : Two (RX (N + 1)) (F_X11_most a b s) (F_X12_most a b t) := by
  obtain ⟨nn, V, hnn, hV, en, eV, en1, eV1, en2, eV2⟩ := sizes h
  obtain ⟨n0, n1⟩ := h.now
  have e0 : (0 : Int32).toInt = 0 := rfl
  unfold F_X11_most F_X12_most F_X11_isPast F_X12_isWeek F_X12_isKnowing
  rw [n0]
  simp only [bind_some, bI_eq0]
  refine Two_ite (fun _ => Two_ret _ h.up) (fun c2 => ?_)
  refine Two_ite (fun _ => Two_ret _ h.up) (fun c3 => ?_)
  obtain ⟨r2a, r2b⟩ := inb_R c2
  obtain ⟨r3a, r3b⟩ := inb_R c3
  have n2 := n1.2
  obtain ⟨w, ew, ew2, _⟩ := i32_nat (x := a) (by omega)
  obtain ⟨k, ek, ek2, _⟩ := i32_nat (x := b) (by omega)
  subst ew ek
  obtain ⟨s1, s', t1, t', W, O0, C0, a1, a2, a3, a4, a5, a6, a7, a8, a9, hW, hSR, hO, hC⟩ := seats_two h hN (w := w) (q := k) (by omega) (by omega) en hnn eV hV
  obtain ⟨w1, w2, w3, w4, _, _, wc, wk⟩ := hW
  obtain ⟨g1, g2, g3, g4, g5, g6, g7, g8, g9, g10⟩ := hSR
  obtain ⟨r, s2, m1, m2, S, O, L, A, B, m3, m4, m5⟩ := C_more (W := W) hnn hV (s0 := s') (by rw [g1.i (k := 501) rfl, w1]) (by rw [g1.i (k := 101) rfl, w3]) (fun i hi => ⟨(hO i hi).1, (hO i hi).2.1⟩) (fun i hi k hk => by rw [g3]; exact (wk i hi k hk).1) g10
  obtain ⟨r', t2, q1, q2, S', O', L', A', B', q3, q4, q5⟩ := M_most (W := W) hnn hV w2 w4 (fun i hi k hk => (wk i hi k hk).2.1) hO hC
  have er : r = r' := by
    refine Int32.toInt_inj.mp ?_
    have x1 := cut_ge m3 q3 m4
    have x2 := cut_ge q3 m3 q4
    omega
  rw [a1, bind_some, a3, bind_some, m1, bind_some, a2, bind_some, q1, er]
  exact Two_ret r' (a9.ss m2 q2).up
