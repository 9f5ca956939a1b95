/-! terms and sums -/
/-- the reference looks on behind a fault -/
theorem M_lookF {s0 t0 : St} {T : Nat → Int32} {L : Nat} (hT : TB s0 t0 T L) {f A d m : Nat} {t : St} (hA0 : A ≤ 1000) (h : FM t0 f A d m t) : ∃ c A' t', F_X12_look t = some (c, t') ∧ FM t0 f A' d m t' ∧ A ≤ A' ∧ (A' = A ∨ A' ≤ L) := by
  obtain ⟨b1, b2, b3, b4, b5, b6⟩ := hT
  have key : ∀ (n A : Nat) (t : St) (F : Nat), FM t0 f A d m t → L - A = n → n < F → A < 2000 → ∃ A' t', lp B_X12_look_0 F t = some t' ∧ FM t0 f A' d m t' ∧ A ≤ A' ∧ (A' = A ∨ A' ≤ L) := by
    intro n
    induction n with
    | zero =>
      intro A t F h hn hF hA
      obtain ⟨F, rfl⟩ : ∃ F', F = F' + 1 := ⟨F - 1, by omega⟩
      obtain ⟨h1, h2, h3, h4, h5⟩ := h
      have i2 : t.1 1235 = nI L := by rw [h1.i (k := 1235) rfl, b2]
      refine ⟨A, t, lp_r ?_, ⟨h1, h2, h3, h4, h5⟩, Nat.le_refl _, Or.inl rfl⟩
      unfold B_X12_look_0
      dsimp only
      rw [i2, h3, if_pos]
      rw [i32_le, nI_toInt (by omega), nI_toInt (by omega)]
      omega
    | succ n ih =>
      intro A t F h hn hF hA
      obtain ⟨F, rfl⟩ : ∃ F', F = F' + 1 := ⟨F - 1, by omega⟩
      have h0 := h
      obtain ⟨h1, h2, h3, h4, h5⟩ := h
      have i2 : t.1 1235 = nI L := by rw [h1.i (k := 1235) rfl, b2]
      have c1 : ¬ nI L ≤ nI A := by
        rw [i32_le, nI_toInt (by omega), nI_toInt (by omega)]
        omega
      have k2 : rd t 1228 160 (nI A) = some (T A) := by rw [rd_nI (by omega) (by omega), h1.a (k := 1228) rfl, b5]
      by_cases c2 : T A = 32
      · have hb : B_X12_look_0 t = some (.inl (pI t 1236 (nI (A + 1)))) := by
          unfold B_X12_look_0
          dsimp only
          rw [i2, h3, if_neg c1, k2, bind_some, if_pos c2, wI_ok, bind_some, nI_1]
        obtain ⟨A', t', x1, x2, x3, x4⟩ := ih (A + 1) (pI t 1236 (nI (A + 1))) F ⟨h1.trans (SS_pI _ _ rfl), h2, pI_at _ _ _, h4, h5⟩ (by omega) (by omega) (by omega)
        exact ⟨A', t', by rw [lp_l hb, x1], x2, by omega, Or.inr (by omega)⟩
      · refine ⟨A, t, lp_r ?_, h0, Nat.le_refl _, Or.inl rfl⟩
        unfold B_X12_look_0
        dsimp only
        rw [i2, h3, if_neg c1, k2, bind_some, if_neg c2]
  have fin : ∀ (A' : Nat) (t' : St), A' < 2000 → FM t0 f A' d m t' → ∃ c, F_X12_look_38 t' = some (c, t') := by
    intro A' t' hA' ⟨g1, g2, g3, g4, g5⟩
    have i3 : t'.1 1235 = nI L := by rw [g1.i (k := 1235) rfl, b2]
    unfold F_X12_look_38
    rw [i3, g3]
    by_cases c : nI L ≤ nI A'
    · rw [if_pos c]
      exact ⟨_, rfl⟩
    · rw [if_neg c]
      rw [i32_le, nI_toInt (by omega), nI_toInt (by omega)] at c
      rw [rd_nI (by omega) (by omega)]
      exact ⟨_, rfl⟩
  have h0 := h
  obtain ⟨h1, h2, h3, h4, h5⟩ := h
  have i2 : t.1 1235 = nI L := by rw [h1.i (k := 1235) rfl, b2]
  unfold F_X12_look
  rw [i2, h3]
  by_cases c : nI L ≤ nI A
  · rw [if_pos c]
    obtain ⟨c0, hc0⟩ := fin A t (by omega) h0
    exact ⟨c0, A, t, hc0, h0, Nat.le_refl _, Or.inl rfl⟩
  · rw [if_neg c]
    have c' := c
    rw [i32_le, nI_toInt (by omega), nI_toInt (by omega)] at c'
    have k2 : rd t 1228 160 (nI A) = some (T A) := by rw [rd_nI (by omega) (by omega), h1.a (k := 1228) rfl, b5]
    rw [k2, bind_some]
    by_cases c2 : T A = 32
    · rw [if_pos c2, wI_ok, bind_some, nI_1]
      obtain ⟨A', t', x1, x2, x3, x4⟩ := key (L - (A + 1)) (A + 1) (pI t 1236 (nI (A + 1))) FU ⟨h1.trans (SS_pI _ _ rfl), h2, pI_at _ _ _, h4, h5⟩ rfl (FU_lt (by omega)) (by omega)
      obtain ⟨c0, hc0⟩ := fin A' t' (by omega) x2
      unfold F_X12_look_0
      rw [x1, bind_some, hc0]
      exact ⟨c0, A', t', rfl, x2, by omega, Or.inr (by omega)⟩
    · rw [if_neg c2]
      obtain ⟨c0, hc0⟩ := fin A t (by omega) h0
      exact ⟨c0, A, t, hc0, h0, Nat.le_refl _, Or.inl rfl⟩
/-- operands with signs between: both (term) -/
theorem sim_term {s0 t0 : St} {T : Nat → Int32} {L : Nat} (hT : TB s0 t0 T L) {d Ho : Nat} (q : RTC) (p : RTM) (hq : ∀ A z m s t, NP s0 t0 L A d z m s t → SIM s0 t0 L A d z m 0 Ho s t (q.2.2.1) (p.2.2.1)) {A z m : Nat} {s t : St} (h : NP s0 t0 L A d z m s t) : SIM s0 t0 L A d z m 0 (Ho + 1) s t (F_X9_readTerm q) (F_X12_term p) := by
  have hL : L ≤ 160 := hT.2.2.1
  have e160 : (160 : Int32).toInt = 160 := rfl
  have hd6 : d ≤ 6 := h.2.2.2.2.2.2.2.2.2.2.2.1
  have hm1 : m ≤ 2 * A + 1 := h.2.2.2.2.2.2.2.2.2.2.2.2.2
  obtain ⟨s1, t1, f1, f2, f3⟩ := hq A z m s t h
  have hbad : ∀ (cb : Int32) (mb : Int32) (s' t' : St), BAD s0 t0 L A d m s s' t' → B_X9_readTerm_11 q (0, cb, s') = some (.inr s') ∧ B_X12_term_9 p (mb, t') = some (.inr t') := by
    rintro cb mb s' t' ⟨f, A', m', g1, g2, g3, g4, _⟩
    constructor
    · unfold B_X9_readTerm_11
      dsimp only
      by_cases c : (160 : Int32) ≤ cb
      · rw [if_pos c]
      · rw [if_neg c, if_neg (show ¬ (0 : Int32) = 42 by decide), if_neg (show ¬ (0 : Int32) = 47 by decide)]
    · unfold B_X12_term_9
      dsimp only
      rw [g4.2.1, if_neg (nI_f g1)]
  -- the state ahead of a round
  have loop := lp_two (B := B_X9_readTerm_11 q) (B2 := B_X12_term_9 p)
    (fun j X Z => (∃ (A' n : Nat) (K : List Int32) (cb mb : Int32) (s' t' : St), X = (cb, nI n, s') ∧ Z = (mb, t') ∧ j = L - A' + 2 ∧ A < A' ∧ n + A ≤ A' ∧ NP s0 t0 L A' d (z + K.length) (m + (K.flatMap tkM).length) s' t' ∧ K.length + A ≤ A' ∧ (K.flatMap tkM).length + 2 * A ≤ 2 * A' ∧ WR K z m s t s' t' ∧ KC s s' ∧ (∀ h, h + (Ho + 1) ≤ 64 → tkH K h = some (h + 1)) ∧ ((A' = L ∧ cb = 0 ∧ mb = -1) ∨ (A' < L ∧ cb = T A' ∧ mb = T A'))) ∨ (∃ (cb mb : Int32) (s' t' : St), X = (0, cb, s') ∧ Z = (mb, t') ∧ j = 1 ∧ BAD s0 t0 L A d m s s' t'))
    (fun s' t' => GOOD s0 t0 L A d z m 0 (Ho + 1) s t s' t' ∨ BAD s0 t0 L A d m s s' t') (by
      rintro j X Z (⟨A', n, K, cb, mb, s', t', rfl, rfl, hj, hA, hn, hN, hk1, hk2, hW, hK, hH, hc⟩ | ⟨cb, mb, s', t', rfl, rfl, hj, hB⟩)
      · have hN0 := hN
        obtain ⟨n1, n2, n3, n4, n5, n6, n7, n8, n9, n10, n11, n12, n13, n14⟩ := hN
        by_cases op : cb = 42 ∨ cb = 47
        · -- a sign
          left
          have hA' : A' < L ∧ cb = mb := by
            rcases hc with ⟨_, c2, _⟩ | ⟨c1, c2, c3⟩
            · rw [c2] at op
              rcases op with op | op <;> exact absurd op (by decide)
            · exact ⟨c1, by rw [c2, c3]⟩
          obtain ⟨hA', hcm⟩ := hA'
          have h160 : ¬ (160 : Int32) ≤ nI n := by
            rw [i32_le, nI_toInt (by omega)]
            omega
          obtain ⟨g1, g2⟩ := step_np hN0 hA'
          obtain ⟨s2, t2, o1, o2, o3⟩ := hq (A' + 1) _ _ _ _ g1
          have hw1 : s'.1 902 + 1 = (pI s' 902 (s'.1 902 + 1)).1 902 := (pI_at _ _ _).symm
          have tok : tkM (20000 + cb) = [cb] ∧ (∀ hh, tkH [20000 + cb] (hh + 2) = some (hh + 1)) := by
            rcases op with op | op
            · rw [op]
              refine ⟨by decide, fun hh => ?_⟩
              unfold tkH
              rw [if_neg (by decide), if_neg (by decide), if_pos (by decide), if_pos (by omega)]
              rfl
            · rw [op]
              refine ⟨by decide, fun hh => ?_⟩
              unfold tkH
              rw [if_neg (by decide), if_neg (by decide), if_pos (by decide), if_pos (by omega)]
              rfl
          rcases o3 with ⟨A2, k2, a1, a2, a3, a4, a5, a6, a7⟩ | ⟨f, A2, m2, a1, a2, a3, a4, a5, a6, a7⟩
          · have a2' := a2
            obtain ⟨r1, r2, r3, r4, r5, r6, r7, r8, r9, r10, r11, r12, r13, r14⟩ := a2
            have em := C_emit r9 (by omega) (20000 + cb)
            have sy := M_say r10 (by omega) mb
            have hN3 : NP s0 t0 L A2 d (z + K.length + k2.length + 1) (m + (K.flatMap tkM).length + (k2.flatMap tkM).length + 1) (pI (sA s2 905 (z + K.length + k2.length) (20000 + cb)) 906 (nI (z + K.length + k2.length + 1))) (pI (sA t2 1229 (m + (K.flatMap tkM).length + (k2.flatMap tkM).length) mb) 1239 (nI (m + (K.flatMap tkM).length + (k2.flatMap tkM).length + 1))) :=
              ⟨r1.trans ((SS_sA _ _ _ rfl).trans (SS_pI _ _ rfl)), r2.trans ((SS_sA _ _ _ rfl).trans (SS_pI _ _ rfl)), r3, r4, r5, r6, r7, r8, pI_at _ _ _, pI_at _ _ _, r11, r12, by omega, by omega⟩
            have hW3 : WR [20000 + cb] (z + K.length + k2.length) (m + (K.flatMap tkM).length + (k2.flatMap tkM).length) s2 t2 (pI (sA s2 905 (z + K.length + k2.length) (20000 + cb)) 906 (nI (z + K.length + k2.length + 1))) (pI (sA t2 1229 (m + (K.flatMap tkM).length + (k2.flatMap tkM).length) mb) 1239 (nI (m + (K.flatMap tkM).length + (k2.flatMap tkM).length + 1))) := by
              have b1 : (pI (sA s2 905 (z + K.length + k2.length) (20000 + cb)) 906 (nI (z + K.length + k2.length + 1))).2.1 905 = upd (s2.2.1 905) (z + K.length + k2.length) (20000 + cb) := sA_at _ _ _ _
              have b2 : (pI (sA t2 1229 (m + (K.flatMap tkM).length + (k2.flatMap tkM).length) mb) 1239 (nI (m + (K.flatMap tkM).length + (k2.flatMap tkM).length + 1))).2.1 1229 = upd (t2.2.1 1229) (m + (K.flatMap tkM).length + (k2.flatMap tkM).length) mb := sA_at _ _ _ _
              have b3 : ([20000 + cb] : List Int32).flatMap tkM = [cb] := by
                show tkM (20000 + cb) ++ [] = [cb]
                rw [tok.1]
                rfl
              refine ⟨fun j hj => by rw [b1, upd_ne _ _ (by omega)], fun i hi => ?_, fun j hj => by rw [b2, upd_ne _ _ (by omega)], fun i hi => ?_⟩
              · have : i = 0 := by
                  simp only [List.length_cons, List.length_nil] at hi
                  omega
                subst this
                rw [b1, Nat.add_zero, upd_at]
                rfl
              · rw [b3] at hi ⊢
                have : i = 0 := by
                  simp only [List.length_cons, List.length_nil] at hi
                  omega
                subst this
                rw [b2, Nat.add_zero, upd_at, ← hcm]
                rfl
            obtain ⟨A3, cb3, mb3, s4, t4, l1, l2, l3, l4, l5, l6, l7, l8, l9, l10⟩ := look_np hT hN3
            have hlen : (K ++ (k2 ++ [20000 + cb])).length = K.length + k2.length + 1 := by simp only [List.length_append, List.length_cons, List.length_nil]; omega
            have hlenM : ((K ++ (k2 ++ [20000 + cb])).flatMap tkM).length = (K.flatMap tkM).length + (k2.flatMap tkM).length + 1 := by
              rw [List.flatMap_append, List.flatMap_append, List.length_append, List.length_append]
              have : ([20000 + cb] : List Int32).flatMap tkM = [cb] := by
                show tkM (20000 + cb) ++ [] = [cb]
                rw [tok.1]
                rfl
              rw [this]
              simp only [List.length_cons, List.length_nil]
              omega
            have hWall : WR (K ++ (k2 ++ [20000 + cb])) z m s t s4 t4 := by
              refine WR_app hW ?_
              have w2 : WR k2 (z + K.length) (m + (K.flatMap tkM).length) s' t' s2 t2 := WR_z rfl rfl a5
              have w3 := WR_app w2 hW3
              obtain ⟨x1, x2, x3, x4⟩ := w3
              exact ⟨fun j hj => by rw [congrArg (fun y : (Nat → Nat → Int32) × (Nat → Nat → Option Nat) × List (Nat × (Nat → Int32)) => y.1 905) l5]; exact x1 j hj, fun i hi => by rw [congrArg (fun y : (Nat → Nat → Int32) × (Nat → Nat → Option Nat) × List (Nat × (Nat → Int32)) => y.1 905) l5]; exact x2 i hi, fun j hj => by rw [congrArg (fun y : (Nat → Nat → Int32) × (Nat → Nat → Option Nat) × List (Nat × (Nat → Int32)) => y.1 1229) l6]; exact x3 j hj, fun i hi => by rw [congrArg (fun y : (Nat → Nat → Int32) × (Nat → Nat → Option Nat) × List (Nat × (Nat → Int32)) => y.1 1229) l6]; exact x4 i hi⟩
            have hl4 : NP s0 t0 L A3 d (z + (K ++ (k2 ++ [20000 + cb])).length) (m + ((K ++ (k2 ++ [20000 + cb])).flatMap tkM).length) s4 t4 := by
              rw [hlen, hlenM, show z + (K.length + k2.length + 1) = z + K.length + k2.length + 1 by omega, show m + ((K.flatMap tkM).length + (k2.flatMap tkM).length + 1) = m + (K.flatMap tkM).length + (k2.flatMap tkM).length + 1 by omega]
              exact l4
            have hKall : KC s s4 := hK.trans (g2.trans (a6.trans (KC.trans ⟨rfl, rfl, rfl⟩ l7)))
            have hHall : ∀ h, h + (Ho + 1) ≤ 64 → tkH (K ++ (k2 ++ [20000 + cb])) h = some (h + 1) := by
              intro hh hle
              rw [tkH_app, hH hh hle]
              show tkH (k2 ++ [20000 + cb]) (hh + 1) = _
              rw [tkH_app, a7 (hh + 1) (by omega)]
              exact tok.2 hh
            refine ⟨(cb3, nI (n + 1), s4), (mb3, t4), L - A3 + 2, ?_, ?_, by omega, Or.inl ⟨A3, n + 1, K ++ (k2 ++ [20000 + cb]), cb3, mb3, s4, t4, rfl, rfl, rfl, by omega, by omega, hl4, by omega, by omega, hWall, hKall, hHall, l8⟩⟩
            · unfold B_X9_readTerm_11
              dsimp only
              rw [if_neg h160]
              rcases op with op | op
              · rw [if_pos op, wI_ok, bind_some, o1, bind_some, em, bind_some, l1, bind_some, nI_1]
              · rw [if_neg (show ¬ cb = 42 by rw [op]; decide), if_pos op, wI_ok, bind_some, o1, bind_some, em, bind_some, l1, bind_some, nI_1]
            · unfold B_X12_term_9
              dsimp only
              rw [n4, if_pos rfl]
              rw [hcm] at op
              rcases op with op | op
              · rw [if_pos op, wI_ok, bind_some, o2, bind_some, sy, bind_some, l2, bind_some]
              · rw [if_neg (show ¬ mb = 42 by rw [op]; decide), if_pos op, wI_ok, bind_some, o2, bind_some, sy, bind_some, l2, bind_some]
          · -- a fault in the operand
            obtain ⟨s3, e1, e2, e3⟩ := C_emitF a2 (20000 + cb)
            obtain ⟨t3, y1, y2⟩ := M_sayF a4 (by omega) mb
            obtain ⟨c4, A4, t4, y3, y4, y5, y6⟩ := M_lookF hT (by omega) y2
            have hB : BAD s0 t0 L A d m s s3 t4 := ⟨f, A4, m2 + 1, a1, e2, hK.trans (g2.trans (a3.trans e3)), y4, by omega, by omega, by omega⟩
            refine ⟨(0, nI (n + 1), s3), (c4, t4), 1, ?_, ?_, by omega, Or.inr ⟨nI (n + 1), c4, s3, t4, rfl, rfl, rfl, hB⟩⟩
            · unfold B_X9_readTerm_11
              dsimp only
              rw [if_neg h160]
              rcases op with op | op
              · rw [if_pos op, wI_ok, bind_some, o1, bind_some, e1, bind_some, C_peekF e2 a1, bind_some, nI_1]
              · rw [if_neg (show ¬ cb = 42 by rw [op]; decide), if_pos op, wI_ok, bind_some, o1, bind_some, e1, bind_some, C_peekF e2 a1, bind_some, nI_1]
            · unfold B_X12_term_9
              dsimp only
              rw [n4, if_pos rfl]
              rw [hcm] at op
              rcases op with op | op
              · rw [if_pos op, wI_ok, bind_some, o2, bind_some, y1, bind_some, y3, bind_some]
              · rw [if_neg (show ¬ mb = 42 by rw [op]; decide), if_pos op, wI_ok, bind_some, o2, bind_some, y1, bind_some, y3, bind_some]
        · right
          have op1 : ¬ cb = 42 := fun e => op (Or.inl e)
          have op2 : ¬ cb = 47 := fun e => op (Or.inr e)
          have mb1 : ¬ mb = 42 ∧ ¬ mb = 47 := by
            rcases hc with ⟨_, _, c3⟩ | ⟨_, c2, c3⟩
            · rw [c3]
              exact ⟨by decide, by decide⟩
            · rw [c3, ← c2]
              exact ⟨op1, op2⟩
          refine ⟨s', t', ?_, ?_, Or.inl ⟨A', K, hA, hN0, hk1, hk2, hW, hK, fun h hh => hH h hh⟩⟩
          · unfold B_X9_readTerm_11
            dsimp only
            by_cases c : (160 : Int32) ≤ nI n
            · rw [if_pos c]
            · rw [if_neg c, if_neg op1, if_neg op2]
          · unfold B_X12_term_9
            dsimp only
            rw [n4, if_pos rfl, if_neg mb1.1, if_neg mb1.2]
      · right
        obtain ⟨x1, x2⟩ := hbad cb mb s' t' hB
        exact ⟨s', t', x1, x2, Or.inr hB⟩)
  rcases f3 with ⟨A1, k1, a1, a2, a3, a3', a4, a5, a6⟩ | hB
  · obtain ⟨A2, cb, mb, s2, t2, l1, l2, l3, l4, l5, l6, l7, l8, l9, l10⟩ := look_np hT a2
    have w2 : WR k1 z m s t s2 t2 := by
      obtain ⟨x1, x2, x3, x4⟩ := a4
      exact ⟨fun j hj => by rw [congrArg (fun y : (Nat → Nat → Int32) × (Nat → Nat → Option Nat) × List (Nat × (Nat → Int32)) => y.1 905) l5]; exact x1 j hj, fun i hi => by rw [congrArg (fun y : (Nat → Nat → Int32) × (Nat → Nat → Option Nat) × List (Nat × (Nat → Int32)) => y.1 905) l5]; exact x2 i hi, fun j hj => by rw [congrArg (fun y : (Nat → Nat → Int32) × (Nat → Nat → Option Nat) × List (Nat × (Nat → Int32)) => y.1 1229) l6]; exact x3 j hj, fun i hi => by rw [congrArg (fun y : (Nat → Nat → Int32) × (Nat → Nat → Option Nat) × List (Nat × (Nat → Int32)) => y.1 1229) l6]; exact x4 i hi⟩
    obtain ⟨s', t', b1, b2, b3⟩ := loop FU FU (L - A2 + 2) (cb, 0, s2) (mb, t2) (Or.inl ⟨A2, 0, k1, cb, mb, s2, t2, rfl, rfl, rfl, by omega, by omega, l4, by omega, by omega, w2, a5.trans l7, fun h hh => a6 h (by omega), l8⟩) (FU_lt (by omega)) (FU_lt (by omega))
    refine ⟨s', t', ?_, ?_, b3⟩
    · unfold F_X9_readTerm
      rw [f1, bind_some, l1, bind_some]
      unfold F_X9_readTerm_11
      rw [b1]
      rfl
    · unfold F_X12_term
      rw [f2, bind_some, l2, bind_some]
      unfold F_X12_term_9
      rw [b2]
      rfl
  · obtain ⟨f, A2, m2, a1, a2, a3, a4, a5, a6, a7⟩ := hB
    obtain ⟨c4, A4, t4, y3, y4, y5, y6⟩ := M_lookF hT (by omega) a4
    have hB2 : BAD s0 t0 L A d m s s1 t4 := ⟨f, A4, m2, a1, a2, a3, y4, by omega, by omega, by omega⟩
    obtain ⟨s', t', b1, b2, b3⟩ := loop FU FU 1 (0, 0, s1) (c4, t4) (Or.inr ⟨0, c4, s1, t4, rfl, rfl, rfl, hB2⟩) (FU_lt (by omega)) (FU_lt (by omega))
    refine ⟨s', t', ?_, ?_, b3⟩
    · unfold F_X9_readTerm
      rw [f1, bind_some, C_peekF a2 a1, bind_some]
      unfold F_X9_readTerm_11
      rw [b1]
      rfl
    · unfold F_X12_term
      rw [f2, bind_some, y3, bind_some]
      unfold F_X12_term_9
      rw [b2]
      rfl
/-- operands with signs between: both (sum) -/
theorem sim_sum {s0 t0 : St} {T : Nat → Int32} {L : Nat} (hT : TB s0 t0 T L) {d Ho : Nat} (q : RTC) (p : RTM) (hq : ∀ A z m s t, NP s0 t0 L A d z m s t → SIM s0 t0 L A d z m 0 Ho s t (q.2.1) (p.2.1)) {A z m : Nat} {s t : St} (h : NP s0 t0 L A d z m s t) : SIM s0 t0 L A d z m 0 (Ho + 1) s t (F_X9_readSum q) (F_X12_sum p) := by
  have hL : L ≤ 160 := hT.2.2.1
  have e160 : (160 : Int32).toInt = 160 := rfl
  have hd6 : d ≤ 6 := h.2.2.2.2.2.2.2.2.2.2.2.1
  have hm1 : m ≤ 2 * A + 1 := h.2.2.2.2.2.2.2.2.2.2.2.2.2
  obtain ⟨s1, t1, f1, f2, f3⟩ := hq A z m s t h
  have hbad : ∀ (cb : Int32) (mb : Int32) (s' t' : St), BAD s0 t0 L A d m s s' t' → B_X9_readSum_11 q (0, cb, s') = some (.inr s') ∧ B_X12_sum_9 p (mb, t') = some (.inr t') := by
    rintro cb mb s' t' ⟨f, A', m', g1, g2, g3, g4, _⟩
    constructor
    · unfold B_X9_readSum_11
      dsimp only
      by_cases c : (160 : Int32) ≤ cb
      · rw [if_pos c]
      · rw [if_neg c, if_neg (show ¬ (0 : Int32) = 43 by decide), if_neg (show ¬ (0 : Int32) = 45 by decide)]
    · unfold B_X12_sum_9
      dsimp only
      rw [g4.2.1, if_neg (nI_f g1)]
  -- the state ahead of a round
  have loop := lp_two (B := B_X9_readSum_11 q) (B2 := B_X12_sum_9 p)
    (fun j X Z => (∃ (A' n : Nat) (K : List Int32) (cb mb : Int32) (s' t' : St), X = (cb, nI n, s') ∧ Z = (mb, t') ∧ j = L - A' + 2 ∧ A < A' ∧ n + A ≤ A' ∧ NP s0 t0 L A' d (z + K.length) (m + (K.flatMap tkM).length) s' t' ∧ K.length + A ≤ A' ∧ (K.flatMap tkM).length + 2 * A ≤ 2 * A' ∧ WR K z m s t s' t' ∧ KC s s' ∧ (∀ h, h + (Ho + 1) ≤ 64 → tkH K h = some (h + 1)) ∧ ((A' = L ∧ cb = 0 ∧ mb = -1) ∨ (A' < L ∧ cb = T A' ∧ mb = T A'))) ∨ (∃ (cb mb : Int32) (s' t' : St), X = (0, cb, s') ∧ Z = (mb, t') ∧ j = 1 ∧ BAD s0 t0 L A d m s s' t'))
    (fun s' t' => GOOD s0 t0 L A d z m 0 (Ho + 1) s t s' t' ∨ BAD s0 t0 L A d m s s' t') (by
      rintro j X Z (⟨A', n, K, cb, mb, s', t', rfl, rfl, hj, hA, hn, hN, hk1, hk2, hW, hK, hH, hc⟩ | ⟨cb, mb, s', t', rfl, rfl, hj, hB⟩)
      · have hN0 := hN
        obtain ⟨n1, n2, n3, n4, n5, n6, n7, n8, n9, n10, n11, n12, n13, n14⟩ := hN
        by_cases op : cb = 43 ∨ cb = 45
        · -- a sign
          left
          have hA' : A' < L ∧ cb = mb := by
            rcases hc with ⟨_, c2, _⟩ | ⟨c1, c2, c3⟩
            · rw [c2] at op
              rcases op with op | op <;> exact absurd op (by decide)
            · exact ⟨c1, by rw [c2, c3]⟩
          obtain ⟨hA', hcm⟩ := hA'
          have h160 : ¬ (160 : Int32) ≤ nI n := by
            rw [i32_le, nI_toInt (by omega)]
            omega
          obtain ⟨g1, g2⟩ := step_np hN0 hA'
          obtain ⟨s2, t2, o1, o2, o3⟩ := hq (A' + 1) _ _ _ _ g1
          have hw1 : s'.1 902 + 1 = (pI s' 902 (s'.1 902 + 1)).1 902 := (pI_at _ _ _).symm
          have tok : tkM (20000 + cb) = [cb] ∧ (∀ hh, tkH [20000 + cb] (hh + 2) = some (hh + 1)) := by
            rcases op with op | op
            · rw [op]
              refine ⟨by decide, fun hh => ?_⟩
              unfold tkH
              rw [if_neg (by decide), if_neg (by decide), if_pos (by decide), if_pos (by omega)]
              rfl
            · rw [op]
              refine ⟨by decide, fun hh => ?_⟩
              unfold tkH
              rw [if_neg (by decide), if_neg (by decide), if_pos (by decide), if_pos (by omega)]
              rfl
          rcases o3 with ⟨A2, k2, a1, a2, a3, a4, a5, a6, a7⟩ | ⟨f, A2, m2, a1, a2, a3, a4, a5, a6, a7⟩
          · have a2' := a2
            obtain ⟨r1, r2, r3, r4, r5, r6, r7, r8, r9, r10, r11, r12, r13, r14⟩ := a2
            have em := C_emit r9 (by omega) (20000 + cb)
            have sy := M_say r10 (by omega) mb
            have hN3 : NP s0 t0 L A2 d (z + K.length + k2.length + 1) (m + (K.flatMap tkM).length + (k2.flatMap tkM).length + 1) (pI (sA s2 905 (z + K.length + k2.length) (20000 + cb)) 906 (nI (z + K.length + k2.length + 1))) (pI (sA t2 1229 (m + (K.flatMap tkM).length + (k2.flatMap tkM).length) mb) 1239 (nI (m + (K.flatMap tkM).length + (k2.flatMap tkM).length + 1))) :=
              ⟨r1.trans ((SS_sA _ _ _ rfl).trans (SS_pI _ _ rfl)), r2.trans ((SS_sA _ _ _ rfl).trans (SS_pI _ _ rfl)), r3, r4, r5, r6, r7, r8, pI_at _ _ _, pI_at _ _ _, r11, r12, by omega, by omega⟩
            have hW3 : WR [20000 + cb] (z + K.length + k2.length) (m + (K.flatMap tkM).length + (k2.flatMap tkM).length) s2 t2 (pI (sA s2 905 (z + K.length + k2.length) (20000 + cb)) 906 (nI (z + K.length + k2.length + 1))) (pI (sA t2 1229 (m + (K.flatMap tkM).length + (k2.flatMap tkM).length) mb) 1239 (nI (m + (K.flatMap tkM).length + (k2.flatMap tkM).length + 1))) := by
              have b1 : (pI (sA s2 905 (z + K.length + k2.length) (20000 + cb)) 906 (nI (z + K.length + k2.length + 1))).2.1 905 = upd (s2.2.1 905) (z + K.length + k2.length) (20000 + cb) := sA_at _ _ _ _
              have b2 : (pI (sA t2 1229 (m + (K.flatMap tkM).length + (k2.flatMap tkM).length) mb) 1239 (nI (m + (K.flatMap tkM).length + (k2.flatMap tkM).length + 1))).2.1 1229 = upd (t2.2.1 1229) (m + (K.flatMap tkM).length + (k2.flatMap tkM).length) mb := sA_at _ _ _ _
              have b3 : ([20000 + cb] : List Int32).flatMap tkM = [cb] := by
                show tkM (20000 + cb) ++ [] = [cb]
                rw [tok.1]
                rfl
              refine ⟨fun j hj => by rw [b1, upd_ne _ _ (by omega)], fun i hi => ?_, fun j hj => by rw [b2, upd_ne _ _ (by omega)], fun i hi => ?_⟩
              · have : i = 0 := by
                  simp only [List.length_cons, List.length_nil] at hi
                  omega
                subst this
                rw [b1, Nat.add_zero, upd_at]
                rfl
              · rw [b3] at hi ⊢
                have : i = 0 := by
                  simp only [List.length_cons, List.length_nil] at hi
                  omega
                subst this
                rw [b2, Nat.add_zero, upd_at, ← hcm]
                rfl
            obtain ⟨A3, cb3, mb3, s4, t4, l1, l2, l3, l4, l5, l6, l7, l8, l9, l10⟩ := look_np hT hN3
            have hlen : (K ++ (k2 ++ [20000 + cb])).length = K.length + k2.length + 1 := by simp only [List.length_append, List.length_cons, List.length_nil]; omega
            have hlenM : ((K ++ (k2 ++ [20000 + cb])).flatMap tkM).length = (K.flatMap tkM).length + (k2.flatMap tkM).length + 1 := by
              rw [List.flatMap_append, List.flatMap_append, List.length_append, List.length_append]
              have : ([20000 + cb] : List Int32).flatMap tkM = [cb] := by
                show tkM (20000 + cb) ++ [] = [cb]
                rw [tok.1]
                rfl
              rw [this]
              simp only [List.length_cons, List.length_nil]
              omega
            have hWall : WR (K ++ (k2 ++ [20000 + cb])) z m s t s4 t4 := by
              refine WR_app hW ?_
              have w2 : WR k2 (z + K.length) (m + (K.flatMap tkM).length) s' t' s2 t2 := WR_z rfl rfl a5
              have w3 := WR_app w2 hW3
              obtain ⟨x1, x2, x3, x4⟩ := w3
              exact ⟨fun j hj => by rw [congrArg (fun y : (Nat → Nat → Int32) × (Nat → Nat → Option Nat) × List (Nat × (Nat → Int32)) => y.1 905) l5]; exact x1 j hj, fun i hi => by rw [congrArg (fun y : (Nat → Nat → Int32) × (Nat → Nat → Option Nat) × List (Nat × (Nat → Int32)) => y.1 905) l5]; exact x2 i hi, fun j hj => by rw [congrArg (fun y : (Nat → Nat → Int32) × (Nat → Nat → Option Nat) × List (Nat × (Nat → Int32)) => y.1 1229) l6]; exact x3 j hj, fun i hi => by rw [congrArg (fun y : (Nat → Nat → Int32) × (Nat → Nat → Option Nat) × List (Nat × (Nat → Int32)) => y.1 1229) l6]; exact x4 i hi⟩
            have hl4 : NP s0 t0 L A3 d (z + (K ++ (k2 ++ [20000 + cb])).length) (m + ((K ++ (k2 ++ [20000 + cb])).flatMap tkM).length) s4 t4 := by
              rw [hlen, hlenM, show z + (K.length + k2.length + 1) = z + K.length + k2.length + 1 by omega, show m + ((K.flatMap tkM).length + (k2.flatMap tkM).length + 1) = m + (K.flatMap tkM).length + (k2.flatMap tkM).length + 1 by omega]
              exact l4
            have hKall : KC s s4 := hK.trans (g2.trans (a6.trans (KC.trans ⟨rfl, rfl, rfl⟩ l7)))
            have hHall : ∀ h, h + (Ho + 1) ≤ 64 → tkH (K ++ (k2 ++ [20000 + cb])) h = some (h + 1) := by
              intro hh hle
              rw [tkH_app, hH hh hle]
              show tkH (k2 ++ [20000 + cb]) (hh + 1) = _
              rw [tkH_app, a7 (hh + 1) (by omega)]
              exact tok.2 hh
            refine ⟨(cb3, nI (n + 1), s4), (mb3, t4), L - A3 + 2, ?_, ?_, by omega, Or.inl ⟨A3, n + 1, K ++ (k2 ++ [20000 + cb]), cb3, mb3, s4, t4, rfl, rfl, rfl, by omega, by omega, hl4, by omega, by omega, hWall, hKall, hHall, l8⟩⟩
            · unfold B_X9_readSum_11
              dsimp only
              rw [if_neg h160]
              rcases op with op | op
              · rw [if_pos op, wI_ok, bind_some, o1, bind_some, em, bind_some, l1, bind_some, nI_1]
              · rw [if_neg (show ¬ cb = 43 by rw [op]; decide), if_pos op, wI_ok, bind_some, o1, bind_some, em, bind_some, l1, bind_some, nI_1]
            · unfold B_X12_sum_9
              dsimp only
              rw [n4, if_pos rfl]
              rw [hcm] at op
              rcases op with op | op
              · rw [if_pos op, wI_ok, bind_some, o2, bind_some, sy, bind_some, l2, bind_some]
              · rw [if_neg (show ¬ mb = 43 by rw [op]; decide), if_pos op, wI_ok, bind_some, o2, bind_some, sy, bind_some, l2, bind_some]
          · -- a fault in the operand
            obtain ⟨s3, e1, e2, e3⟩ := C_emitF a2 (20000 + cb)
            obtain ⟨t3, y1, y2⟩ := M_sayF a4 (by omega) mb
            obtain ⟨c4, A4, t4, y3, y4, y5, y6⟩ := M_lookF hT (by omega) y2
            have hB : BAD s0 t0 L A d m s s3 t4 := ⟨f, A4, m2 + 1, a1, e2, hK.trans (g2.trans (a3.trans e3)), y4, by omega, by omega, by omega⟩
            refine ⟨(0, nI (n + 1), s3), (c4, t4), 1, ?_, ?_, by omega, Or.inr ⟨nI (n + 1), c4, s3, t4, rfl, rfl, rfl, hB⟩⟩
            · unfold B_X9_readSum_11
              dsimp only
              rw [if_neg h160]
              rcases op with op | op
              · rw [if_pos op, wI_ok, bind_some, o1, bind_some, e1, bind_some, C_peekF e2 a1, bind_some, nI_1]
              · rw [if_neg (show ¬ cb = 43 by rw [op]; decide), if_pos op, wI_ok, bind_some, o1, bind_some, e1, bind_some, C_peekF e2 a1, bind_some, nI_1]
            · unfold B_X12_sum_9
              dsimp only
              rw [n4, if_pos rfl]
              rw [hcm] at op
              rcases op with op | op
              · rw [if_pos op, wI_ok, bind_some, o2, bind_some, y1, bind_some, y3, bind_some]
              · rw [if_neg (show ¬ mb = 43 by rw [op]; decide), if_pos op, wI_ok, bind_some, o2, bind_some, y1, bind_some, y3, bind_some]
        · right
          have op1 : ¬ cb = 43 := fun e => op (Or.inl e)
          have op2 : ¬ cb = 45 := fun e => op (Or.inr e)
          have mb1 : ¬ mb = 43 ∧ ¬ mb = 45 := by
            rcases hc with ⟨_, _, c3⟩ | ⟨_, c2, c3⟩
            · rw [c3]
              exact ⟨by decide, by decide⟩
            · rw [c3, ← c2]
              exact ⟨op1, op2⟩
          refine ⟨s', t', ?_, ?_, Or.inl ⟨A', K, hA, hN0, hk1, hk2, hW, hK, fun h hh => hH h hh⟩⟩
          · unfold B_X9_readSum_11
            dsimp only
            by_cases c : (160 : Int32) ≤ nI n
            · rw [if_pos c]
            · rw [if_neg c, if_neg op1, if_neg op2]
          · unfold B_X12_sum_9
            dsimp only
            rw [n4, if_pos rfl, if_neg mb1.1, if_neg mb1.2]
      · right
        obtain ⟨x1, x2⟩ := hbad cb mb s' t' hB
        exact ⟨s', t', x1, x2, Or.inr hB⟩)
  rcases f3 with ⟨A1, k1, a1, a2, a3, a3', a4, a5, a6⟩ | hB
  · obtain ⟨A2, cb, mb, s2, t2, l1, l2, l3, l4, l5, l6, l7, l8, l9, l10⟩ := look_np hT a2
    have w2 : WR k1 z m s t s2 t2 := by
      obtain ⟨x1, x2, x3, x4⟩ := a4
      exact ⟨fun j hj => by rw [congrArg (fun y : (Nat → Nat → Int32) × (Nat → Nat → Option Nat) × List (Nat × (Nat → Int32)) => y.1 905) l5]; exact x1 j hj, fun i hi => by rw [congrArg (fun y : (Nat → Nat → Int32) × (Nat → Nat → Option Nat) × List (Nat × (Nat → Int32)) => y.1 905) l5]; exact x2 i hi, fun j hj => by rw [congrArg (fun y : (Nat → Nat → Int32) × (Nat → Nat → Option Nat) × List (Nat × (Nat → Int32)) => y.1 1229) l6]; exact x3 j hj, fun i hi => by rw [congrArg (fun y : (Nat → Nat → Int32) × (Nat → Nat → Option Nat) × List (Nat × (Nat → Int32)) => y.1 1229) l6]; exact x4 i hi⟩
    obtain ⟨s', t', b1, b2, b3⟩ := loop FU FU (L - A2 + 2) (cb, 0, s2) (mb, t2) (Or.inl ⟨A2, 0, k1, cb, mb, s2, t2, rfl, rfl, rfl, by omega, by omega, l4, by omega, by omega, w2, a5.trans l7, fun h hh => a6 h (by omega), l8⟩) (FU_lt (by omega)) (FU_lt (by omega))
    refine ⟨s', t', ?_, ?_, b3⟩
    · unfold F_X9_readSum
      rw [f1, bind_some, l1, bind_some]
      unfold F_X9_readSum_11
      rw [b1]
      rfl
    · unfold F_X12_sum
      rw [f2, bind_some, l2, bind_some]
      unfold F_X12_sum_9
      rw [b2]
      rfl
  · obtain ⟨f, A2, m2, a1, a2, a3, a4, a5, a6, a7⟩ := hB
    obtain ⟨c4, A4, t4, y3, y4, y5, y6⟩ := M_lookF hT (by omega) a4
    have hB2 : BAD s0 t0 L A d m s s1 t4 := ⟨f, A4, m2, a1, a2, a3, y4, by omega, by omega, by omega⟩
    obtain ⟨s', t', b1, b2, b3⟩ := loop FU FU 1 (0, 0, s1) (c4, t4) (Or.inr ⟨0, c4, s1, t4, rfl, rfl, rfl, hB2⟩) (FU_lt (by omega)) (FU_lt (by omega))
    refine ⟨s', t', ?_, ?_, b3⟩
    · unfold F_X9_readSum
      rw [f1, bind_some, C_peekF a2 a1, bind_some]
      unfold F_X9_readSum_11
      rw [b1]
      rfl
    · unfold F_X12_sum
      rw [f2, bind_some, y3, bind_some]
      unfold F_X12_sum_9
      rw [b2]
      rfl
