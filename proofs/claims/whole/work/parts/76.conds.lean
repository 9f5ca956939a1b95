/-! units, parts, conditions; the recursion -/
theorem sim_unit {s0 t0 : St} {T : Nat → Int32} {L : Nat} (hT : TB s0 t0 T L) {d Hs Hu Hn : Nat} (hH : Hs + 1 ≤ Hu) (hHn : Hn ≤ Hu) (q : RTC) (p : RTM) (hs : ∀ A z m s t, NP s0 t0 L A d z m s t → SIM s0 t0 L A d z m 0 Hs s t q.1 p.1) (hcp : ∀ A z m s t, NP s0 t0 L A d z m s t → SIM s0 t0 L A d z m 1 (Hs + 1) s t (F_X9_readUnit q 1) p.2.2.2.2.2.2) (hcF : ∀ f A m t, f ≤ 160 → FM t0 f A d m t → ∃ t', p.2.2.2.2.2.2 t = some t' ∧ FM t0 f A d m t') (hu : d < 6 → ∀ A z m s t, NP s0 t0 L A (d + 1) z m s t → SIM s0 t0 L A (d + 1) z m 0 Hn s t (q.2.2.2.2.2 0) p.2.2.2.2.2.1) (hc : d < 6 → ∀ A z m s t, NP s0 t0 L A (d + 1) z m s t → SIM s0 t0 L A (d + 1) z m 0 Hn s t (q.2.2.2.1 0) (p.2.2.2.1 0)) {A z m : Nat} {s t : St} (h : NP s0 t0 L A d z m s t) : SIM s0 t0 L A d z m 0 Hu s t (F_X9_readUnit q 0) (F_X12_unit p) := by
  have hL : L ≤ 160 := hT.2.2.1
  have hz1 : z ≤ A := h.2.2.2.2.2.2.2.2.2.2.2.2.1
  have hm1 : m ≤ 2 * A + 1 := h.2.2.2.2.2.2.2.2.2.2.2.2.2
  obtain ⟨A1, cb, mb, s1, t1, l1, l2, l3, l4, l5, l6, l7, l8, l9, l10⟩ := look_np hT h
  have same : ∀ c : Int32, ¬ (0 : Int32) = c → ¬ (-1 : Int32) = c → (cb = c → A1 < L ∧ mb = c) ∧ (¬ cb = c → ¬ mb = c) := by
    intro c c0 c1
    rcases l8 with ⟨_, x2, x3⟩ | ⟨x1, x2, x3⟩
    · exact ⟨fun z => absurd (x2.symm.trans z) c0, fun _ z => c1 (x3.symm.trans z)⟩
    · exact ⟨fun z => ⟨x1, by rw [x3, ← x2, z]⟩, fun z y => z (by rw [x2, ← x3, y])⟩
  have hdec : ∀ (x : St) (k : Nat), x.1 k = nI (d + 1) → x.1 k - 1 = nI d := by
    intro x k hx
    rw [hx, show nI (d + 1) = nI d + 1 from (nI_add d 1).symm, Int32.add_sub_cancel]
  by_cases c33 : cb = 33
  · obtain ⟨hA1, hmb⟩ := (same 33 (by decide) (by decide)).1 c33
    obtain ⟨s2, t2, ⟨o1, o2, o3, o4, o5, o6, o7⟩ | ⟨o1, o2, o3⟩⟩ := open_np hL l4 hA1
    · obtain ⟨s3, t3, g1, g2, g3⟩ := hu o1 _ _ _ _ _ o4
      have cC : ∀ s6, F_X9_emit 20033 (pI s3 904 (s3.1 904 - 1)) = some s6 → F_X9_readUnit q 0 s = some s6 := by
        intro s6 w1
        unfold F_X9_readUnit
        rw [if_pos rfl, l1, bind_some]
        dsimp only
        rw [if_pos c33, o2, bind_some]
        dsimp only
        rw [if_neg (show ¬ (1 : Int32) = 0 by decide), g1, bind_some, wI_ok, bind_some, w1, bind_some]
      have cM : ∀ t6, F_X12_say 33 (pI t3 1238 (t3.1 1238 - 1)) = some t6 → F_X12_unit p t = some t6 := by
        intro t6 w1
        unfold F_X12_unit
        rw [l2, bind_some]
        dsimp only
        rw [if_pos hmb, o3, bind_some]
        dsimp only
        rw [if_neg (show ¬ (1 : Int32) = 0 by decide), g2, bind_some, wI_ok, bind_some, w1, bind_some]
      rcases g3 with ⟨A2, k, a1, a2, a3, a4, a5, a6, a7⟩ | ⟨f, A2, m2, a1, a2, a3, a4, a5, a6, a7⟩
      · obtain ⟨n1, n2, n3, n4, n5, n6, n7, n8, n9, n10, n11, n12, n13, n14⟩ := a2
        have hN : NP s0 t0 L A2 d (z + k.length) (m + (k.flatMap tkM).length) (pI s3 904 (s3.1 904 - 1)) (pI t3 1238 (t3.1 1238 - 1)) := by
          rw [hdec s3 904 n7, hdec t3 1238 n8]
          exact ⟨n1.trans (SS_pI _ _ rfl), n2.trans (SS_pI _ _ rfl), n3, n4, n5, n6, pI_at _ _ _, pI_at _ _ _, n9, n10, n11, by omega, n13, n14⟩
        obtain ⟨s6, t6, e1, e2, e3⟩ := GOOD_put (A := A) (e := 0) (H := Hu) (s := s) (t := t) (v := 20033) (x := 33) hL (by decide) (by omega) hN (by omega) (by omega) hz1 hm1 (WR_rs (WR_ls a5 (by rw [o5, l5]) (by rw [o6, l6])) rfl rfl) (l7.trans (o7.trans (a6.trans ⟨rfl, rfl, rfl⟩))) (fun hh hle => by
          rw [tkH_app, a7 hh (by omega)]
          show tkH [20033] (hh + 1) = _
          unfold tkH
          rw [if_neg (by decide), if_pos rfl, if_pos (by omega)]
          rfl)
        exact ⟨s6, t6, cC s6 e1, cM t6 e2, Or.inl e3⟩
      · obtain ⟨p1, p2, zz, p3, p4⟩ := a2
        obtain ⟨q1, q2, q3, q4, q5⟩ := a4
        have hFC : FC s0 f (pI s3 904 (s3.1 904 - 1)) := ⟨p1.trans (SS_pI _ _ rfl), p2, zz, p3, p4⟩
        have hFM : FM t0 f A2 d m2 (pI t3 1238 (t3.1 1238 - 1)) := by
          rw [hdec t3 1238 q4]
          exact ⟨q1.trans (SS_pI _ _ rfl), q2, q3, pI_at _ _ _, q5⟩
        obtain ⟨s6, e1, e2, e3⟩ := C_emitF hFC 20033
        obtain ⟨t6, y1, y2⟩ := M_sayF hFM (by omega) 33
        exact ⟨s6, t6, cC s6 e1, cM t6 y1, Or.inr ⟨f, A2, m2 + 1, a1, e2, l7.trans (o7.trans (a3.trans (KC.trans ⟨rfl, rfl, rfl⟩ e3))), y2, by omega, by omega, by omega⟩⟩
    · refine ⟨s2, t2, ?_, ?_, Or.inr (BAD_up l3 l7 o3)⟩
      · unfold F_X9_readUnit
        rw [if_pos rfl, l1, bind_some]
        dsimp only
        rw [if_pos c33, o1, bind_some]
        dsimp only
        rw [if_pos rfl]
      · unfold F_X12_unit
        rw [l2, bind_some]
        dsimp only
        rw [if_pos hmb, o2, bind_some]
        dsimp only
        rw [if_pos rfl]
  · have m33 := (same 33 (by decide) (by decide)).2 c33
    by_cases c40 : cb = 40
    · obtain ⟨hA1, hmb⟩ := (same 40 (by decide) (by decide)).1 c40
      obtain ⟨s2, t2, ⟨o1, o2, o3, o4, o5, o6, o7⟩ | ⟨o1, o2, o3⟩⟩ := open_np hL l4 hA1
      · obtain ⟨s3, t3, g1, g2, g3⟩ := hc o1 _ _ _ _ _ o4
        have cC : ∀ s5 s6, F_X9_want 41 s3 = some s5 → s6 = pI s5 904 (s5.1 904 - 1) → F_X9_readUnit q 0 s = some s6 := by
          intro s5 s6 w1 w2
          unfold F_X9_readUnit
          rw [if_pos rfl, l1, bind_some]
          dsimp only
          rw [if_neg c33, if_pos c40, o2, bind_some]
          dsimp only
          rw [if_neg (show ¬ (1 : Int32) = 0 by decide), g1, bind_some, w1, bind_some, wI_ok, bind_some, w2]
        have cM : ∀ t5, F_X12_closes 41 t3 = some t5 → F_X12_unit p t = some t5 := by
          intro t5 w1
          unfold F_X12_unit
          rw [l2, bind_some]
          dsimp only
          rw [if_neg m33, if_pos hmb, o3, bind_some]
          dsimp only
          rw [if_neg (show ¬ (1 : Int32) = 0 by decide), g2, bind_some, w1, bind_some]
        rcases g3 with ⟨A2, k, a1, a2, a3, a4, a5, a6, a7⟩ | ⟨f, A2, m2, a1, a2, a3, a4, a5, a6, a7⟩
        · obtain ⟨s5, s6, t6, w1, w2, w3, ⟨A3, w4, w5, w6, w7, w8⟩ | ⟨f, A3, w4, w5, w6, w7, w8, w9⟩⟩ := close_np hT a2 (c := 41) (by decide) (by decide)
          · refine ⟨s6, t6, cC s5 s6 w1 w2, cM t6 w3, Or.inl ⟨A3, k, by omega, w5, by omega, by omega, WR_ls (WR_rs a5 w6 w7) (by rw [o5, l5]) (by rw [o6, l6]), l7.trans (o7.trans (a6.trans w8)), fun h hh => a7 h (by omega)⟩⟩
          · refine ⟨s6, t6, cC s5 s6 w1 w2, cM t6 w3, Or.inr ⟨f, A3, _, w4, w5, l7.trans (o7.trans (a6.trans w6)), w7, by omega, w9, by omega⟩⟩
        · obtain ⟨s5, s6, t6, w1, w2, w3, w4, w5, w6⟩ := close_F a1 a2 a4 (c := 41) (by decide)
          refine ⟨s6, t6, cC s5 s6 w1 w2, cM t6 w3, Or.inr ⟨f, A2 + 1, m2, a1, w4, l7.trans (o7.trans (a3.trans w5)), w6, by omega, by omega, by omega⟩⟩
      · refine ⟨s2, t2, ?_, ?_, Or.inr (BAD_up l3 l7 o3)⟩
        · unfold F_X9_readUnit
          rw [if_pos rfl, l1, bind_some]
          dsimp only
          rw [if_neg c33, if_pos c40, o1, bind_some]
          dsimp only
          rw [if_pos rfl]
        · unfold F_X12_unit
          rw [l2, bind_some]
          dsimp only
          rw [if_neg m33, if_pos hmb, o2, bind_some]
          dsimp only
          rw [if_pos rfl]
    · have m40 := (same 40 (by decide) (by decide)).2 c40
      obtain ⟨s2, t2, g1, g2, g3⟩ := hs _ _ _ _ _ l4
      have cC : F_X9_readUnit q 0 s = F_X9_readUnit q 1 s2 := by
        have e1 : F_X9_readUnit q 1 s2 = ((F_X9_peek s2).bind fun r8 => if isRel r8.1 = false then (F_X9_fail r8.2).bind fun s9 => some s9 else (wI r8.2 902 ((r8.2.1 902) + 1)).bind fun s10 => (q.1 s10).bind fun s11 => (F_X9_emit (20000 + r8.1) s11).bind fun s12 => some s12) := by
          unfold F_X9_readUnit
          rw [if_neg (show ¬ (1 : Int32) = 0 by decide), if_neg (show ¬ (1 : Int32) = 0 by decide)]
        rw [e1]
        unfold F_X9_readUnit
        rw [if_pos rfl, l1, bind_some]
        dsimp only
        rw [if_neg c33, if_neg c40, if_pos rfl, g1, bind_some]
      have cM : F_X12_unit p t = p.2.2.2.2.2.2 t2 := by
        unfold F_X12_unit
        rw [l2, bind_some]
        dsimp only
        rw [if_neg m33, if_neg m40, g2, bind_some]
        cases p.2.2.2.2.2.2 t2 <;> rfl
      rcases g3 with ⟨A2, k, a1, a2, a3, a4, a5, a6, a7⟩ | ⟨f, A2, m2, a1, a2, a3, a4, a5, a6, a7⟩
      · obtain ⟨s3, t3, w1, w2, w3⟩ := hcp _ _ _ _ _ a2
        refine ⟨s3, t3, by rw [cC, w1], by rw [cM, w2], ?_⟩
        rcases w3 with ⟨A3, k3, b1, b2, b3, b4, b5, b6, b7⟩ | ⟨f, A3, m3, b1, b2, b3, b4, b5, b6, b7⟩
        · have h1 : (k ++ k3).length = k.length + k3.length := List.length_append
          have h2 : ((k ++ k3).flatMap tkM).length = (k.flatMap tkM).length + (k3.flatMap tkM).length := by rw [List.flatMap_append, List.length_append]
          refine Or.inl ⟨A3, k ++ k3, by omega, ?_, by omega, by omega, WR_app (WR_ls a5 l5 l6) b5, l7.trans (a6.trans b6), fun hh hle => ?_⟩
          · rw [h1, h2, ← Nat.add_assoc, ← Nat.add_assoc]
            exact b2
          · rw [tkH_app, a7 hh (by omega)]
            exact b7 hh (by omega)
        · exact Or.inr ⟨f, A3, m3, b1, b2, l7.trans (a6.trans b3), b4, by omega, b6, by omega⟩
      · obtain ⟨t3, y1, y2⟩ := hcF f A2 m2 t2 a1 a4
        exact ⟨s2, t3, by rw [cC, unit1F a2 a1 q], by rw [cM, y1], Or.inr ⟨f, A2, m2, a1, a2, l7.trans a3, y2, by omega, a6, by omega⟩⟩
theorem took_F {s0 s : St} {f : Nat} (h : FC s0 f s) (hf : f ≤ 160) {c : Int32} (c0 : ¬ (0 : Int32) = c) : F_X9_took c s = some (0, s) := by
  unfold F_X9_took
  rw [C_peekF h hf, bind_some]
  dsimp only
  rw [if_neg c0]
/-- operands with signs between (part) -/
theorem loop_part {s0 t0 : St} {T : Nat → Int32} {L : Nat} (hT : TB s0 t0 T L) {d Ho e : Nat} (q : RTC) (p : RTM) (hq : ∀ A z m s t, NP s0 t0 L A d z m s t → SIM s0 t0 L A d z m 0 Ho s t (q.2.2.2.2.2 0) (p.2.2.2.2.2.1)) {A z m : Nat} {s t s1 t1 : St} (hm1 : m ≤ 2 * A + 1) (hz1 : z ≤ A) (hd6 : d ≤ 6) (f3 : GOOD s0 t0 L A d z m e Ho s t s1 t1 ∨ BAD s0 t0 L A d m s s1 t1) : ∃ s' t', lp (B_X9_readPart_7 q) FU (0, s1) = some s' ∧ lp (B_X12_part_15 p) FU t1 = some t' ∧ (GOOD s0 t0 L A d z m e (Ho + 1) s t s' t' ∨ BAD s0 t0 L A d m s s' t') := by
  have hL : L ≤ 160 := hT.2.2.1
  have e160 : (160 : Int32).toInt = 160 := rfl
  have loop := lp_two (B := B_X9_readPart_7 q) (B2 := B_X12_part_15 p)
    (fun j X Z => (∃ (A' n : Nat) (K : List Int32) (s' : St), X = (nI n, s') ∧ j = L - A' + 2 ∧ A < A' ∧ n + A ≤ A' ∧ NP s0 t0 L A' d (z + K.length) (m + (K.flatMap tkM).length) s' Z ∧ K.length + A ≤ A' ∧ (K.flatMap tkM).length + 2 * A ≤ 2 * A' ∧ WR K z m s t s' Z ∧ KC s s' ∧ ∀ h, h + (Ho + 1) ≤ 64 → tkH K (h + e) = some (h + 1)) ∨ (∃ (cb : Int32) (s' : St), X = (cb, s') ∧ j = 1 ∧ BAD s0 t0 L A d m s s' Z))
    (fun s' t' => GOOD s0 t0 L A d z m e (Ho + 1) s t s' t' ∨ BAD s0 t0 L A d m s s' t') (by
      rintro j X t' (⟨A', n, K, s', rfl, hj, hA, hn, hN, hk1, hk2, hW, hK, hH⟩ | ⟨cb, s', rfl, hj, hB⟩)
      · have nn4 := hN.2.2.2.1
        obtain ⟨A1, cb, mb, s2, t2, l1, l2, l3, l4, l5, l6, l7, l8, l9, l10⟩ := look_np hT hN
        have exit : ∀ (X : St), X = s' ∨ X = s2 → ∀ (Z : St), Z = t2 → X = s2 → GOOD s0 t0 L A d z m e (Ho + 1) s t X Z := by
          intro X _ Z hZ hX
          rw [hX, hZ]
          exact ⟨A1, K, by omega, l4, by omega, by omega, WR_rs hW l5 l6, hK.trans l7, hH⟩
        by_cases op : cb = 38
        · left
          have hA1 : A1 < L ∧ mb = 38 := by
            rcases l8 with ⟨_, c2, _⟩ | ⟨c1, c2, c3⟩
            · rw [c2] at op
              exact absurd op (by decide)
            · exact ⟨c1, by rw [c3, ← c2, op]⟩
          obtain ⟨hA1, hmb⟩ := hA1
          have h160 : ¬ (160 : Int32) ≤ nI n := by
            rw [i32_le, nI_toInt (by omega)]
            omega
          obtain ⟨g1, g2⟩ := step_np l4 hA1
          obtain ⟨s3, t3, o1, o2, o3⟩ := hq _ _ _ _ _ g1
          have htook : F_X9_took 38 s' = some (1, pI s2 902 (s2.1 902 + 1)) := by
            unfold F_X9_took
            rw [l1, bind_some]
            dsimp only
            rw [if_pos op, wI_ok, bind_some]
          rcases o3 with ⟨A2, k2, a1, a2, a3, a4, a5, a6, a7⟩ | ⟨f, A2, m2, a1, a2, a3, a4, a5, a6, a7⟩
          · have h1 : (K ++ k2).length = K.length + k2.length := List.length_append
            have h2 : ((K ++ k2).flatMap tkM).length = (K.flatMap tkM).length + (k2.flatMap tkM).length := by rw [List.flatMap_append, List.length_append]
            have hN2 : NP s0 t0 L A2 d (z + (K ++ k2).length) (m + ((K ++ k2).flatMap tkM).length) s3 t3 := by
              rw [h1, h2, ← Nat.add_assoc, ← Nat.add_assoc]
              exact a2
            obtain ⟨s4, t4, p1, p2, A4, k4, b1, b2, b3, b4, b5, b6, b7⟩ := GOOD_put (A := A) (e := e) (H := Ho + 1) (s := s) (t := t) (v := 20038) (x := 38) (k := K ++ k2) hL (by decide) (by omega) hN2 (by omega) (by omega) hz1 hm1 (WR_app (WR_rs hW l5 l6) (WR_ls a5 rfl rfl)) (hK.trans (l7.trans (g2.trans a6))) (fun hh hle => by
              rw [List.append_assoc, tkH_app, hH hh hle]
              show tkH (k2 ++ [20038]) (hh + 1) = _
              rw [tkH_app]
              have := a7 (hh + 1) (by omega)
              rw [Nat.add_zero] at this
              rw [this]
              show tkH [20038] (hh + 2) = _
              unfold tkH
              rw [if_neg (by decide), if_neg (by decide), if_pos (by decide), if_pos (by omega)]
              rfl)
            have hA4 : A2 ≤ A4 ∧ A4 ≤ A2 := by
              have r1 := b2.2.2.2.2.1
              have em := p1
              have hz3 := a2.2.2.2.2.2.2.2.2.1
              rw [C_emit hz3 (by have := a2.2.2.2.2.2.2.2.2.2.2.2.2.1; have := a2.2.2.2.2.2.2.2.2.2.2.1; omega)] at em
              have e2 := Option.some.inj em
              rw [← e2] at r1
              have r2 : (pI (sA s3 905 (z + K.length + k2.length) 20038) 906 (nI (z + K.length + k2.length + 1))).1 902 = nI A2 := a2.2.2.2.2.1
              rw [r2] at r1
              have := (nI_eq (by have := a2.2.2.2.2.2.2.2.2.2.2.1; omega) (by have := b2.2.2.2.2.2.2.2.2.2.2.1; omega)).mp r1
              omega
            refine ⟨(nI (n + 1), s4), t4, L - A4 + 2, ?_, ?_, by omega, Or.inl ⟨A4, n + 1, k4, s4, rfl, rfl, by omega, by omega, b2, by omega, by omega, b5, b6, b7⟩⟩
            · unfold B_X9_readPart_7
              dsimp only
              rw [if_neg h160, htook, bind_some]
              dsimp only
              rw [if_neg (show ¬ (1 : Int32) = 0 by decide), o1, bind_some, p1, bind_some, nI_1]
            · unfold B_X12_part_15
              dsimp only
              rw [nn4, if_pos rfl, l2, bind_some]
              dsimp only
              rw [if_pos hmb, wI_ok, bind_some, o2, bind_some, p2, bind_some]
          · obtain ⟨s4, e1, e2, e3⟩ := C_emitF a2 20038
            obtain ⟨t4, y1, y2⟩ := M_sayF a4 (by omega) 38
            have hB : BAD s0 t0 L A d m s s4 t4 := ⟨f, A2, m2 + 1, a1, e2, hK.trans (l7.trans (g2.trans (a3.trans e3))), y2, by omega, a6, by omega⟩
            refine ⟨(nI (n + 1), s4), t4, 1, ?_, ?_, by omega, Or.inr ⟨nI (n + 1), s4, rfl, rfl, hB⟩⟩
            · unfold B_X9_readPart_7
              dsimp only
              rw [if_neg h160, htook, bind_some]
              dsimp only
              rw [if_neg (show ¬ (1 : Int32) = 0 by decide), o1, bind_some, e1, bind_some, nI_1]
            · unfold B_X12_part_15
              dsimp only
              rw [nn4, if_pos rfl, l2, bind_some]
              dsimp only
              rw [if_pos hmb, wI_ok, bind_some, o2, bind_some, y1, bind_some]
        · right
          have mop : ¬ mb = 38 := by
            rcases l8 with ⟨_, _, c3⟩ | ⟨_, c2, c3⟩
            · rw [c3]
              decide
            · rw [c3, ← c2]
              exact op
          by_cases h160 : (160 : Int32) ≤ nI n
          · -- the tape is at its end
            have h0 := h160
            rw [i32_le, nI_toInt (by have := hN.2.2.2.2.2.2.2.2.2.2.2.1; omega)] at h0
            have hAL := l4.2.2.2.2.2.2.2.2.2.2.2.1
            have hAA : A1 = A' := by omega
            refine ⟨s', t2, ?_, ?_, Or.inl ⟨A', K, by omega, NP_mix hN (hAA ▸ l4), by omega, by omega, WR_rs hW rfl l6, hK, hH⟩⟩
            · unfold B_X9_readPart_7
              dsimp only
              rw [if_pos h160]
            · unfold B_X12_part_15
              dsimp only
              rw [nn4, if_pos rfl, l2, bind_some]
              dsimp only
              rw [if_neg mop]
          · refine ⟨s2, t2, ?_, ?_, Or.inl (exit s2 (Or.inr rfl) t2 rfl rfl)⟩
            · unfold B_X9_readPart_7
              dsimp only
              have htook : F_X9_took 38 s' = some (0, s2) := by
                unfold F_X9_took
                rw [l1, bind_some]
                dsimp only
                rw [if_neg op]
              rw [if_neg h160, htook, bind_some]
              dsimp only
              rw [if_pos rfl]
            · unfold B_X12_part_15
              dsimp only
              rw [nn4, if_pos rfl, l2, bind_some]
              dsimp only
              rw [if_neg mop]
      · right
        have hB0 := hB
        obtain ⟨f, A', m', g1, g2, g3, g4, _⟩ := hB
        refine ⟨s', t', ?_, ?_, Or.inr hB0⟩
        · unfold B_X9_readPart_7
          dsimp only
          by_cases c : (160 : Int32) ≤ cb
          · rw [if_pos c]
          · rw [if_neg c, took_F g2 g1 (c := 38) (by decide), bind_some]
            dsimp only
            rw [if_pos rfl]
        · unfold B_X12_part_15
          dsimp only
          rw [g4.2.1, if_neg (nI_f g1)])
  rcases f3 with ⟨A1, k1, a1, a2, a3, a3', a4, a5, a6⟩ | hB
  · exact loop FU FU (L - A1 + 2) (0, s1) t1 (Or.inl ⟨A1, 0, k1, s1, rfl, rfl, a1, by omega, a2, a3, a3', a4, a5, fun h hh => a6 h (by omega)⟩) (FU_lt (by omega)) (FU_lt (by omega))
  · exact loop FU FU 1 (0, s1) t1 (Or.inr ⟨0, s1, rfl, rfl, hB⟩) (FU_lt (by omega)) (FU_lt (by omega))
/-- operands with signs between (condition) -/
theorem loop_condition {s0 t0 : St} {T : Nat → Int32} {L : Nat} (hT : TB s0 t0 T L) {d Ho e : Nat} (q : RTC) (p : RTM) (hq : ∀ A z m s t, NP s0 t0 L A d z m s t → SIM s0 t0 L A d z m 0 Ho s t (q.2.2.2.2.1 0) (p.2.2.2.2.1 0)) {A z m : Nat} {s t s1 t1 : St} (hm1 : m ≤ 2 * A + 1) (hz1 : z ≤ A) (hd6 : d ≤ 6) (f3 : GOOD s0 t0 L A d z m e Ho s t s1 t1 ∨ BAD s0 t0 L A d m s s1 t1) : ∃ s' t', lp (B_X9_readCondition_7 q) FU (0, s1) = some s' ∧ lp (B_X12_condition_5 p) FU t1 = some t' ∧ (GOOD s0 t0 L A d z m e (Ho + 1) s t s' t' ∨ BAD s0 t0 L A d m s s' t') := by
  have hL : L ≤ 160 := hT.2.2.1
  have e160 : (160 : Int32).toInt = 160 := rfl
  have loop := lp_two (B := B_X9_readCondition_7 q) (B2 := B_X12_condition_5 p)
    (fun j X Z => (∃ (A' n : Nat) (K : List Int32) (s' : St), X = (nI n, s') ∧ j = L - A' + 2 ∧ A < A' ∧ n + A ≤ A' ∧ NP s0 t0 L A' d (z + K.length) (m + (K.flatMap tkM).length) s' Z ∧ K.length + A ≤ A' ∧ (K.flatMap tkM).length + 2 * A ≤ 2 * A' ∧ WR K z m s t s' Z ∧ KC s s' ∧ ∀ h, h + (Ho + 1) ≤ 64 → tkH K (h + e) = some (h + 1)) ∨ (∃ (cb : Int32) (s' : St), X = (cb, s') ∧ j = 1 ∧ BAD s0 t0 L A d m s s' Z))
    (fun s' t' => GOOD s0 t0 L A d z m e (Ho + 1) s t s' t' ∨ BAD s0 t0 L A d m s s' t') (by
      rintro j X t' (⟨A', n, K, s', rfl, hj, hA, hn, hN, hk1, hk2, hW, hK, hH⟩ | ⟨cb, s', rfl, hj, hB⟩)
      · have nn4 := hN.2.2.2.1
        obtain ⟨A1, cb, mb, s2, t2, l1, l2, l3, l4, l5, l6, l7, l8, l9, l10⟩ := look_np hT hN
        have exit : ∀ (X : St), X = s' ∨ X = s2 → ∀ (Z : St), Z = t2 → X = s2 → GOOD s0 t0 L A d z m e (Ho + 1) s t X Z := by
          intro X _ Z hZ hX
          rw [hX, hZ]
          exact ⟨A1, K, by omega, l4, by omega, by omega, WR_rs hW l5 l6, hK.trans l7, hH⟩
        by_cases op : cb = 124
        · left
          have hA1 : A1 < L ∧ mb = 124 := by
            rcases l8 with ⟨_, c2, _⟩ | ⟨c1, c2, c3⟩
            · rw [c2] at op
              exact absurd op (by decide)
            · exact ⟨c1, by rw [c3, ← c2, op]⟩
          obtain ⟨hA1, hmb⟩ := hA1
          have h160 : ¬ (160 : Int32) ≤ nI n := by
            rw [i32_le, nI_toInt (by omega)]
            omega
          obtain ⟨g1, g2⟩ := step_np l4 hA1
          obtain ⟨s3, t3, o1, o2, o3⟩ := hq _ _ _ _ _ g1
          have htook : F_X9_took 124 s' = some (1, pI s2 902 (s2.1 902 + 1)) := by
            unfold F_X9_took
            rw [l1, bind_some]
            dsimp only
            rw [if_pos op, wI_ok, bind_some]
          rcases o3 with ⟨A2, k2, a1, a2, a3, a4, a5, a6, a7⟩ | ⟨f, A2, m2, a1, a2, a3, a4, a5, a6, a7⟩
          · have h1 : (K ++ k2).length = K.length + k2.length := List.length_append
            have h2 : ((K ++ k2).flatMap tkM).length = (K.flatMap tkM).length + (k2.flatMap tkM).length := by rw [List.flatMap_append, List.length_append]
            have hN2 : NP s0 t0 L A2 d (z + (K ++ k2).length) (m + ((K ++ k2).flatMap tkM).length) s3 t3 := by
              rw [h1, h2, ← Nat.add_assoc, ← Nat.add_assoc]
              exact a2
            obtain ⟨s4, t4, p1, p2, A4, k4, b1, b2, b3, b4, b5, b6, b7⟩ := GOOD_put (A := A) (e := e) (H := Ho + 1) (s := s) (t := t) (v := 20124) (x := 124) (k := K ++ k2) hL (by decide) (by omega) hN2 (by omega) (by omega) hz1 hm1 (WR_app (WR_rs hW l5 l6) (WR_ls a5 rfl rfl)) (hK.trans (l7.trans (g2.trans a6))) (fun hh hle => by
              rw [List.append_assoc, tkH_app, hH hh hle]
              show tkH (k2 ++ [20124]) (hh + 1) = _
              rw [tkH_app]
              have := a7 (hh + 1) (by omega)
              rw [Nat.add_zero] at this
              rw [this]
              show tkH [20124] (hh + 2) = _
              unfold tkH
              rw [if_neg (by decide), if_neg (by decide), if_pos (by decide), if_pos (by omega)]
              rfl)
            have hA4 : A2 ≤ A4 ∧ A4 ≤ A2 := by
              have r1 := b2.2.2.2.2.1
              have em := p1
              have hz3 := a2.2.2.2.2.2.2.2.2.1
              rw [C_emit hz3 (by have := a2.2.2.2.2.2.2.2.2.2.2.2.2.1; have := a2.2.2.2.2.2.2.2.2.2.2.1; omega)] at em
              have e2 := Option.some.inj em
              rw [← e2] at r1
              have r2 : (pI (sA s3 905 (z + K.length + k2.length) 20124) 906 (nI (z + K.length + k2.length + 1))).1 902 = nI A2 := a2.2.2.2.2.1
              rw [r2] at r1
              have := (nI_eq (by have := a2.2.2.2.2.2.2.2.2.2.2.1; omega) (by have := b2.2.2.2.2.2.2.2.2.2.2.1; omega)).mp r1
              omega
            refine ⟨(nI (n + 1), s4), t4, L - A4 + 2, ?_, ?_, by omega, Or.inl ⟨A4, n + 1, k4, s4, rfl, rfl, by omega, by omega, b2, by omega, by omega, b5, b6, b7⟩⟩
            · unfold B_X9_readCondition_7
              dsimp only
              rw [if_neg h160, htook, bind_some]
              dsimp only
              rw [if_neg (show ¬ (1 : Int32) = 0 by decide), o1, bind_some, p1, bind_some, nI_1]
            · unfold B_X12_condition_5
              dsimp only
              rw [nn4, if_pos rfl, l2, bind_some]
              dsimp only
              rw [if_pos hmb, wI_ok, bind_some, o2, bind_some, p2, bind_some]
          · obtain ⟨s4, e1, e2, e3⟩ := C_emitF a2 20124
            obtain ⟨t4, y1, y2⟩ := M_sayF a4 (by omega) 124
            have hB : BAD s0 t0 L A d m s s4 t4 := ⟨f, A2, m2 + 1, a1, e2, hK.trans (l7.trans (g2.trans (a3.trans e3))), y2, by omega, a6, by omega⟩
            refine ⟨(nI (n + 1), s4), t4, 1, ?_, ?_, by omega, Or.inr ⟨nI (n + 1), s4, rfl, rfl, hB⟩⟩
            · unfold B_X9_readCondition_7
              dsimp only
              rw [if_neg h160, htook, bind_some]
              dsimp only
              rw [if_neg (show ¬ (1 : Int32) = 0 by decide), o1, bind_some, e1, bind_some, nI_1]
            · unfold B_X12_condition_5
              dsimp only
              rw [nn4, if_pos rfl, l2, bind_some]
              dsimp only
              rw [if_pos hmb, wI_ok, bind_some, o2, bind_some, y1, bind_some]
        · right
          have mop : ¬ mb = 124 := by
            rcases l8 with ⟨_, _, c3⟩ | ⟨_, c2, c3⟩
            · rw [c3]
              decide
            · rw [c3, ← c2]
              exact op
          by_cases h160 : (160 : Int32) ≤ nI n
          · -- the tape is at its end
            have h0 := h160
            rw [i32_le, nI_toInt (by have := hN.2.2.2.2.2.2.2.2.2.2.2.1; omega)] at h0
            have hAL := l4.2.2.2.2.2.2.2.2.2.2.2.1
            have hAA : A1 = A' := by omega
            refine ⟨s', t2, ?_, ?_, Or.inl ⟨A', K, by omega, NP_mix hN (hAA ▸ l4), by omega, by omega, WR_rs hW rfl l6, hK, hH⟩⟩
            · unfold B_X9_readCondition_7
              dsimp only
              rw [if_pos h160]
            · unfold B_X12_condition_5
              dsimp only
              rw [nn4, if_pos rfl, l2, bind_some]
              dsimp only
              rw [if_neg mop]
          · refine ⟨s2, t2, ?_, ?_, Or.inl (exit s2 (Or.inr rfl) t2 rfl rfl)⟩
            · unfold B_X9_readCondition_7
              dsimp only
              have htook : F_X9_took 124 s' = some (0, s2) := by
                unfold F_X9_took
                rw [l1, bind_some]
                dsimp only
                rw [if_neg op]
              rw [if_neg h160, htook, bind_some]
              dsimp only
              rw [if_pos rfl]
            · unfold B_X12_condition_5
              dsimp only
              rw [nn4, if_pos rfl, l2, bind_some]
              dsimp only
              rw [if_neg mop]
      · right
        have hB0 := hB
        obtain ⟨f, A', m', g1, g2, g3, g4, _⟩ := hB
        refine ⟨s', t', ?_, ?_, Or.inr hB0⟩
        · unfold B_X9_readCondition_7
          dsimp only
          by_cases c : (160 : Int32) ≤ cb
          · rw [if_pos c]
          · rw [if_neg c, took_F g2 g1 (c := 124) (by decide), bind_some]
            dsimp only
            rw [if_pos rfl]
        · unfold B_X12_condition_5
          dsimp only
          rw [g4.2.1, if_neg (nI_f g1)])
  rcases f3 with ⟨A1, k1, a1, a2, a3, a3', a4, a5, a6⟩ | hB
  · exact loop FU FU (L - A1 + 2) (0, s1) t1 (Or.inl ⟨A1, 0, k1, s1, rfl, rfl, a1, by omega, a2, a3, a3', a4, a5, fun h hh => a6 h (by omega)⟩) (FU_lt (by omega)) (FU_lt (by omega))
  · exact loop FU FU 1 (0, s1) t1 (Or.inr ⟨0, s1, rfl, rfl, hB⟩) (FU_lt (by omega)) (FU_lt (by omega))
