/-! a clause, read alike (2) -/
def bodyC (r y : Int32) (s4 : St) : Option St :=
  (F_X9_peek s4).bind fun r5 =>
  if r5.1 = 33 then
    ((RGC 64).2.2.2.1 0 r5.2).bind fun s6 => tailC r y s6
  else
    if r5.1 = 40 then
      ((RGC 64).2.2.2.1 0 r5.2).bind fun s17 => tailC r y s17
    else
      ((RGC 64).1 r5.2).bind fun s10 =>
      (F_X9_peek s10).bind fun r11 =>
      if isRel r11.1 = false then
        (F_X9_keepClause r y y r11.2).bind fun s12 =>
        some s12
      else
        ((RGC 64).2.2.2.1 1 r11.2).bind fun s13 => tailC r y s13
def bodyM (s6 : St) : Option St :=
  (F_X12_look s6).bind fun r7 =>
  if r7.1 = 33 then
    ((RGM 64).2.2.2.1 0 r7.2).bind fun s8 => tailM s8
  else
    if r7.1 = 40 then
      ((RGM 64).2.2.2.1 0 r7.2).bind fun s23 => tailM s23
    else
      ((RGM 64).1 r7.2).bind fun s38 =>
      if (s38.1 1237) = (-1) then
        (F_X12_look s38).bind fun r39 =>
        if isRel r39.1 = false then
          F_X12_clause_120 (r7.2.1 1239) ((r39.2.1 1239) - 1) r39.2
        else
          ((RGM 64).2.2.2.1 1 r39.2).bind fun s40 => tailM s40
      else
        some s38
theorem C_clauseIs (s : St) : F_X9_readClause s = (F_X9_peek s).bind fun r1 => (F_X0_labelOf r1.1).bind fun r2 => if r2 = (-1) then (F_X9_fail r1.2).bind fun s21 => some s21 else (wI r1.2 902 ((r1.2.1 902) + 1)).bind fun s3 => (F_X9_want 58 s3).bind fun s4 => bodyC r2 (s4.1 906) s4 := rfl
theorem M_clauseIs (t : St) : F_X12_clause t = (F_X12_look t).bind fun r1 => (F_X12_isLabel r1.1).bind fun r2 => if r2 = 0 then (F_X12_bad r1.2).bind fun s56 => some s56 else (wI r1.2 1236 ((r1.2.1 1236) + 1)).bind fun s3 => (F_X12_look s3).bind fun r4 => if r4.1 = 58 then (wI r4.2 1236 ((r4.2.1 1236) + 1)).bind fun s5 => (F_X12_say r1.1 s5).bind fun s6 => bodyM s6 else (F_X12_bad r4.2).bind fun s55 => some s55 := rfl
/-- the condition and the sum of a clause as the reference writes them -/
def boM (k1 k2 : List Int32) : List Int32 := (if k1 = [] then [0, 1] else k1.flatMap tkM) ++ [2] ++ k2.flatMap tkM ++ [3]
/-- a clause is read well -/
def BOK (s0 t0 : St) (L A z m n : Nat) (r : Int32) (s t s' t' : St) : Prop := ∃ (A' : Nat) (k1 k2 : List Int32), A < A' ∧ NP s0 t0 L A' 0 (z + k1.length + k2.length) (m + (boM k1 k2).length) s' t' ∧ TX (k1 ++ k2) z (s.2.1 905) (s'.2.1 905) ∧ TX (boM k1 k2) m (t.2.1 1229) (t'.2.1 1229) ∧ (k1 = [] ∨ tkH k1 0 = some 1) ∧ tkH k2 0 = some 1 ∧ s'.1 908 = nI (n + 1) ∧ s'.1 909 = s.1 909 ||| ((1 : Int32) <<< (r &&& 31)) ∧ s'.2.1 907 = U4 n r (nI z) (nI (z + k1.length)) (nI (z + k1.length + k2.length)) (s.2.1 907)
theorem tk_ne {k : List Int32} (h : tkH k 0 = some 1) : ¬ k = [] := by
  intro e
  rw [e] at h
  exact absurd h (by decide)
/-- after a condition -/
theorem after_cond {s0 t0 : St} {T : Nat → Int32} {L : Nat} (hT : TB s0 t0 T L) {A A1 z m n : Nat} {s t s1 t1 : St} (hm : m + 3 ≤ 2 * A) (hn : n ≤ 40) (h8 : s.1 908 = nI n) (r : Int32) {k1 : List Int32} (hA : A < A1) (h1 : NP s0 t0 L A1 0 (z + k1.length) (m + (k1.flatMap tkM).length) s1 t1) (h2 : (k1.flatMap tkM).length + 2 * A ≤ 2 * A1) (h3 : TX k1 z (s.2.1 905) (s1.2.1 905)) (h4 : TX (k1.flatMap tkM) m (t.2.1 1229) (t1.2.1 1229)) (hk : KC s s1) (hH : tkH k1 0 = some 1) : ∃ s' t', tailC r (nI z) s1 = some s' ∧ tailM t1 = some t' ∧ (BOK s0 t0 L A z m n r s t s' t' ∨ FF s0 t0 s' t') := by
  obtain ⟨s', t', g1, g2, ⟨A', k, s8, a1, a2, a3, a4, a5, a6, a7, a8⟩ | hF⟩ := tail_np hT h1 (by omega) hn (hk.1.trans h8) r (nI z)
  · have eM : boM k1 k = k1.flatMap tkM ++ ([2] ++ k.flatMap tkM ++ [3]) := by
      unfold boM
      rw [if_neg (tk_ne hH), List.append_assoc, List.append_assoc, List.append_assoc]
    have lM : (boM k1 k).length = (k1.flatMap tkM).length + 1 + (k.flatMap tkM).length + 1 := by
      rw [eM, List.length_append, List.length_append, List.length_append]
      show (k1.flatMap tkM).length + (1 + (k.flatMap tkM).length + 1) = _
      omega
    obtain ⟨q1, q2, q3, q4⟩ := KP_is (n := n) (a := r) (b := nI z) (c := nI (z + k1.length)) (hk.trans a3)
    rw [← a2] at q1 q2 q3 q4
    refine ⟨s', t', g1, g2, Or.inl ⟨A', k1, k, by omega, ?_, ?_, ?_, Or.inr hH, a8, q1, q2, ?_⟩⟩
    · rw [lM, show m + ((k1.flatMap tkM).length + 1 + (k.flatMap tkM).length + 1) = m + (k1.flatMap tkM).length + 1 + (k.flatMap tkM).length + 1 by omega]
      exact a4
    · rw [q4]
      exact TX_app h3 a6
    · rw [eM]
      exact TX_app h4 a7
    · rw [q3, a4.2.2.2.2.2.2.2.2.1]
  · exact ⟨s', t', g1, g2, Or.inr hF⟩
theorem body_np {s0 t0 : St} {T : Nat → Int32} {L : Nat} (hT : TB s0 t0 T L) {A z m n : Nat} {s t : St} (h : NP s0 t0 L A 0 z m s t) (hm : m + 3 ≤ 2 * A) (hm0 : 1 ≤ m) (hn : n ≤ 40) (h8 : s.1 908 = nI n) (r : Int32) : ∃ s' t', bodyC r (nI z) s = some s' ∧ bodyM t = some t' ∧ (BOK s0 t0 L A z m n r s t s' t' ∨ FF s0 t0 s' t') := by
  have hL : L ≤ 160 := hT.2.2.1
  obtain ⟨A1, cb, mb, s1, t1, l1, l2, l3, l4, l5, l6, l7, l8, l9, l10⟩ := look_np hT h
  have same : ∀ c : Int32, ¬ (0 : Int32) = c → ¬ (-1 : Int32) = c → (cb = c ↔ mb = c) := by
    intro c c0 c1
    rcases l8 with ⟨_, x2, x3⟩ | ⟨x1, x2, x3⟩
    · exact ⟨fun z => absurd (x2.symm.trans z) c0, fun z => absurd (x3.symm.trans z) c1⟩
    · rw [x2, x3]
  have h8' : s1.1 908 = nI n := l7.1.trans h8
  -- a condition that opens with ! or (
  have opened : ∃ s' t', ((RGC 64).2.2.2.1 0 s1).bind (fun s6 => tailC r (nI z) s6) = some s' ∧ ((RGM 64).2.2.2.1 0 t1).bind (fun s8 => tailM s8) = some t' ∧ (BOK s0 t0 L A z m n r s t s' t' ∨ FF s0 t0 s' t') := by
    obtain ⟨s2, t2, g1, g2, g3⟩ := cond_of hT (rg_unit hT 6) (Dc := 64) (Dm := 64) (d := 0) (e := 0) (v := 0) (Or.inl ⟨rfl, rfl⟩) rfl (by omega) (by omega) _ _ _ _ _ l4
    rw [g1, g2, bind_some, bind_some]
    rcases g3 with ⟨A2, k, a1, a2, a3, a4, a5, a6, a7⟩ | hB
    · have w := WR_TX a5
      rw [l5, l6] at w
      exact after_cond hT hm hn h8 r (by omega) a2 (by omega) w.1 w.2 (l7.trans a6) (a7 0 (by omega))
    · have k8 : s2.1 908 = nI n := by
        obtain ⟨f, A', m', _, _, q3, _⟩ := hB
        rw [q3.1, h8']
      obtain ⟨s', t', w1, w2, w3⟩ := tail_F hB.ff hn k8 r (nI z)
      exact ⟨s', t', w1, w2, Or.inr w3⟩
  by_cases c33 : cb = 33
  · have m33 := (same 33 (by decide) (by decide)).mp c33
    obtain ⟨s', t', g1, g2, g3⟩ := opened
    refine ⟨s', t', ?_, ?_, g3⟩
    · unfold bodyC
      rw [l1, bind_some]
      dsimp only
      rw [if_pos c33]
      exact g1
    · unfold bodyM
      rw [l2, bind_some]
      dsimp only
      rw [if_pos m33]
      exact g2
  · have m33 : ¬ mb = 33 := fun e => c33 ((same 33 (by decide) (by decide)).mpr e)
    by_cases c40 : cb = 40
    · have m40 := (same 40 (by decide) (by decide)).mp c40
      obtain ⟨s', t', g1, g2, g3⟩ := opened
      refine ⟨s', t', ?_, ?_, g3⟩
      · unfold bodyC
        rw [l1, bind_some]
        dsimp only
        rw [if_neg c33, if_pos c40]
        exact g1
      · unfold bodyM
        rw [l2, bind_some]
        dsimp only
        rw [if_neg m33, if_pos m40]
        exact g2
    · have m40 : ¬ mb = 40 := fun e => c40 ((same 40 (by decide) (by decide)).mpr e)
      obtain ⟨s2, t2, g1, g2, g3⟩ := rg_sum hT 6 64 64 0 rfl (by omega) (by omega) _ _ _ _ _ l4
      have cC : bodyC r (nI z) s = (F_X9_peek s2).bind fun r11 => if isRel r11.1 = false then (F_X9_keepClause r (nI z) (nI z) r11.2).bind fun s12 => some s12 else ((RGC 64).2.2.2.1 1 r11.2).bind fun s13 => tailC r (nI z) s13 := by
        unfold bodyC
        rw [l1, bind_some]
        dsimp only
        rw [if_neg c33, if_neg c40, g1, bind_some]
      have cM : bodyM t = if (t2.1 1237) = (-1) then (F_X12_look t2).bind fun r39 => if isRel r39.1 = false then F_X12_clause_120 (t1.1 1239) ((r39.2.1 1239) - 1) r39.2 else ((RGM 64).2.2.2.1 1 r39.2).bind fun s40 => tailM s40 else some t2 := by
        unfold bodyM
        rw [l2, bind_some]
        dsimp only
        rw [if_neg m33, if_neg m40, g2, bind_some]
      rw [cC, cM]
      rcases g3 with ⟨A2, k, a1, a2, a3, a4, a5, a6, a7⟩ | hB
      · obtain ⟨A3, cb2, mb2, s3, t3, y1, y2, y3, y4, y5, y6, y7, y8, y9, y10⟩ := look_np hT a2
        have w := WR_TX a5
        rw [l5, l6] at w
        rw [← y5, ← y6] at w
        have hkk : KC s s3 := l7.trans (a6.trans y7)
        have hrel : isRel cb2 = isRel mb2 := by
          rcases y8 with ⟨_, x2, x3⟩ | ⟨x1, x2, x3⟩
          · rw [x2, x3]
            decide
          · rw [x2, x3]
        rw [y1, bind_some, a2.2.2.2.1, if_pos rfl, y2, bind_some]
        dsimp only
        by_cases cr : isRel cb2 = false
        · rw [if_pos cr, if_pos (hrel ▸ cr), l4.2.2.2.2.2.2.2.2.2.1, y4.2.2.2.2.2.2.2.2.2.1, C_keep hn (hkk.1.trans h8) r (nI z) (nI z), bind_some]
          obtain ⟨b, rfl⟩ : ∃ b, m = b + 1 := ⟨m - 1, by omega⟩
          obtain ⟨t5, p1, p2, p3⟩ := shift_np (b := b) hL y4 rfl (by omega) w.2
          obtain ⟨q1, q2, q3, q4⟩ := KP_is (n := n) (a := r) (b := nI z) (c := nI z) hkk
          have eM : boM [] k = [0, 1] ++ [2] ++ k.flatMap tkM ++ [3] := by
            unfold boM
            rw [if_pos rfl]
          have lM : (boM [] k).length = (k.flatMap tkM).length + 4 := by
            rw [eM, List.length_append, List.length_append]
            show 3 + (k.flatMap tkM).length + 1 = _
            omega
          refine ⟨_, t5, rfl, p1, Or.inl ⟨A3, [], k, by omega, ?_, ?_, ?_, Or.inl rfl, a7 0 (by omega), q1, q2, ?_⟩⟩
          · rw [lM, show b + 1 + ((k.flatMap tkM).length + 4) = b + 1 + (k.flatMap tkM).length + 4 by omega]
            obtain ⟨n1, n2, n3, n4, n5, n6, n7, n8, n9, n10, n11, n12, n13, n14⟩ := p2
            exact ⟨n1.trans (KP_SS _ _ _ _ _), n2, n3, n4, n5, n6, n7, n8, n9, n10, n11, n12, n13, n14⟩
          · rw [q4]
            exact w.1
          · rw [eM]
            exact p3
          · rw [q3]
            show U4 n r (nI z) (nI z) (s3.1 906) _ = _
            rw [y4.2.2.2.2.2.2.2.2.1]
            rfl
        · rw [if_neg cr, if_neg (hrel ▸ cr)]
          obtain ⟨s4, t4, z1, z2, z3⟩ := cond_of hT (rg_unit hT 6) (Dc := 64) (Dm := 64) (d := 0) (e := 1) (v := 1) (Or.inr ⟨rfl, rfl⟩) rfl (by omega) (by omega) _ _ _ _ _ y4
          rw [z1, z2, bind_some, bind_some]
          rcases z3 with ⟨A4, k4, b1, b2, b3, b4, b5, b6, b7⟩ | hB
          · have w4 := WR_TX b5
            have h1 : (k ++ k4).length = k.length + k4.length := List.length_append
            have h2 : ((k ++ k4).flatMap tkM) = k.flatMap tkM ++ k4.flatMap tkM := List.flatMap_append
            have h2' : ((k ++ k4).flatMap tkM).length = (k.flatMap tkM).length + (k4.flatMap tkM).length := by rw [h2, List.length_append]
            refine after_cond hT hm hn h8 r (A1 := A4) (k1 := k ++ k4) (by omega) ?_ (by omega) (TX_app w.1 w4.1) ?_ (hkk.trans b6) ?_
            · rw [h1, h2', ← Nat.add_assoc, ← Nat.add_assoc]
              exact b2
            · rw [h2]
              exact TX_app w.2 w4.2
            · rw [tkH_app, a7 0 (by omega)]
              exact b7 0 (by omega)
          · have k8 : s4.1 908 = nI n := by
              obtain ⟨f, A', m', _, _, q3, _⟩ := hB
              rw [q3.1, hkk.1, h8]
            obtain ⟨s', t', w1, w2, w3⟩ := tail_F hB.ff hn k8 r (nI z)
            exact ⟨s', t', w1, w2, Or.inr w3⟩
      · obtain ⟨f, A', m', q1, q2, q3, q4, _⟩ := hB
        obtain ⟨s', e1, e2⟩ := FC_keep q2 hn (q3.1.trans h8') r (nI z) (nI z)
        refine ⟨s', t2, ?_, ?_, Or.inr ⟨f, A', 0, m', q1, e2, q4⟩⟩
        · rw [C_peekF q2 q1, bind_some]
          dsimp only
          rw [if_pos (show isRel 0 = false by decide), e1, bind_some]
        · rw [q4.2.1, if_neg (nI_f q1)]
