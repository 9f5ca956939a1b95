/-! fault (2) -/
theorem TB_of {s t : St} (h : RTape s t) : ∃ L, TB s t (t.2.1 1228) L := by
  obtain ⟨t0, t1, t2, t3, t4⟩ := h
  obtain ⟨L, eL, eL2, _⟩ := i32_nat t1.1
  exact ⟨L, t0.trans eL, eL, by have := t1.2; omega, t2, rfl, fun j hj => ⟨t4 j (by omega), (t3 j).2⟩⟩
theorem fault_two {s t : St} {T : Nat → Int32} {L : Nat} (hT : TB s t T L) : ∃ r s' t', F_X9_compile s = some (r, s') ∧ F_X12_fault t = some (r, t') ∧ SS s s' ∧ SS t t' ∧ ((r = -1 ∧ ∃ A z m cl, NP s t L A 0 z m s' t' ∧ KR cl z m s' t' ∧ 1 ≤ cl.length ∧ cl.length ≤ 40) ∨ ∃ f, f ≤ 160 ∧ r = nI f) := by
  have hL : L ≤ 160 := hT.2.2.1
  have hC0 : F_X9_compile s = F_X9_compile_34 1 0 (pI (pI (pI (pI (pI (pI s 902 0) 903 (-1)) 904 0) 906 0) 908 0) 909 0) := rfl
  have hM0 : F_X12_fault t = (F_X12_clause (pI (pI (pI (pI t 1236 0) 1237 (-1)) 1238 0) 1239 0)).bind fun s5 => F_X12_fault_24 s5 := rfl
  have hN : NP s t L 0 0 0 0 (pI (pI (pI (pI (pI (pI s 902 0) 903 (-1)) 904 0) 906 0) 908 0) 909 0) (pI (pI (pI (pI t 1236 0) 1237 (-1)) 1238 0) 1239 0) :=
    ⟨(SS_pI _ _ rfl).trans ((SS_pI _ _ rfl).trans ((SS_pI _ _ rfl).trans ((SS_pI _ _ rfl).trans ((SS_pI _ _ rfl).trans (SS_pI _ _ rfl))))), (SS_pI _ _ rfl).trans ((SS_pI _ _ rfl).trans ((SS_pI _ _ rfl).trans (SS_pI _ _ rfl))), rfl, rfl, rfl, rfl, rfl, rfl, rfl, rfl, Nat.zero_le _, Nat.zero_le _, Nat.zero_le _, Nat.zero_le _⟩
  have hK : KR [] 0 0 (pI (pI (pI (pI (pI (pI s 902 0) 903 (-1)) 904 0) 906 0) 908 0) 909 0) (pI (pI (pI (pI t 1236 0) 1237 (-1)) 1238 0) 1239 0) := by
    refine ⟨rfl, rfl, fun i hi => absurd hi (Nat.not_lt_zero _), fun c hc => absurd hc (List.not_mem_nil), fun k hk => ?_, fun i c hi => ?_⟩
    · constructor
      · intro hb
        rw [pI_at] at hb
        exact absurd hb ((by decide : ∀ k, k < 7 → ¬ bt 0 k = true) k hk)
      · rintro ⟨c, hc, _⟩
        exact absurd hc (List.not_mem_nil)
    · rw [List.getElem?_nil] at hi
      exact absurd hi (by simp)
  obtain ⟨s1, t1, w1, w2, w3⟩ := sim_clause hT hN (Nat.zero_le _) (Nat.zero_le 40) hK.1
  have hI : ((∃ A z m c, 3 ≤ A ∧ NP s t L A 0 z m s1 t1 ∧ KR [c] z m s1 t1) ∨ FF s t s1 t1) ∧ ∃ r, F_X9_took 59 s1 = some r := by
    rcases w3 with hG | hF
    · obtain ⟨A', z', m', c', q1, q2, q3⟩ := KR_step (cl := []) (Nat.zero_le 40) hK hG
      exact ⟨Or.inl ⟨A', z', m', c', by omega, q2, q3⟩, took_some hT q2 59⟩
    · have hF0 := hF
      obtain ⟨f, A', d, m', x1, x2, x3⟩ := hF
      exact ⟨Or.inr hF0, _, took_F x2 x1 (by decide)⟩
  obtain ⟨hI, ⟨v, s2⟩, htk⟩ := hI
  obtain ⟨s3, t3, y1, y2, y3⟩ := loop_fault hT (F := FU - 1) (by decide : 200 < 1000000000000 - 1) htk hI
  have c1 : F_X9_compile s = F_X9_compile_61 s3 := by
    rw [hC0]
    have e : B_X9_compile_34 (1, 0, (pI (pI (pI (pI (pI (pI s 902 0) 903 (-1)) 904 0) 906 0) 908 0) 909 0)) = some (.inl (v, 1, s2)) := by
      unfold B_X9_compile_34
      dsimp only
      rw [if_neg (by decide), if_neg (by decide), w1, bind_some, htk, bind_some]
      rfl
    unfold F_X9_compile_34
    rw [show FU = (FU - 1) + 1 from rfl, lp_l e, y1, bind_some]
  have c2 : F_X12_fault t = F_X12_fault_58 t3 := by
    rw [hM0, w2, bind_some]
    unfold F_X12_fault_24
    rw [y2, bind_some]
  rw [c1, c2]
  rcases y3 with ⟨A, z, m, cl, a1, a2, a3, a4⟩ | hF
  · obtain ⟨A1, cb, mb, s4, t4, l1, l2, l3, l4, l5, l6, l7, l8, l9, l10⟩ := look_np hT a1
    have hAL := l4.2.2.2.2.2.2.2.2.2.2.1
    rcases l8 with ⟨x1, x2, x3⟩ | ⟨x1, x2, x3⟩
    · refine ⟨-1, s4, t4, ?_, ?_, l4.1, l4.2.1, Or.inl ⟨rfl, A1, z, m, cl, l4, KR_look a2 l5 l6 l7, a3, by omega⟩⟩
      · unfold F_X9_compile_61
        rw [a1.2.2.1, if_pos rfl, l1, bind_some]
        dsimp only
        rw [if_pos x2, l4.2.2.1]
      · unfold F_X12_fault_58
        rw [a1.2.2.2.1, if_pos rfl, l2, bind_some]
        dsimp only
        rw [if_pos x3, l4.2.2.2.1]
    · obtain ⟨s5, t5, f1, f2, f3, f4, f5, f6⟩ := fail_np hL l4
      have hb := hT.2.2.2.2.2 A1 x1
      have n0 : ¬ cb = 0 := by
        intro e
        rw [← x2, e] at hb
        exact absurd hb.1 (by decide)
      have n1 : ¬ mb = -1 := by
        intro e
        rw [← x3, e] at hb
        exact absurd hb.1 (by decide)
      refine ⟨nI A1, s5, t5, ?_, ?_, f3.1, f5.1, Or.inr ⟨A1, f6, rfl⟩⟩
      · unfold F_X9_compile_61
        rw [a1.2.2.1, if_pos rfl, l1, bind_some]
        dsimp only
        rw [if_neg n0, f1, bind_some, f3.2.1]
      · unfold F_X12_fault_58
        rw [a1.2.2.2.1, if_pos rfl, l2, bind_some]
        dsimp only
        rw [if_neg n1, f2, bind_some, f5.2.1]
  · obtain ⟨f, A', d, m', x1, x2, x3⟩ := hF
    refine ⟨nI f, s3, t3, ?_, ?_, x2.1, x3.1, Or.inr ⟨f, x1, rfl⟩⟩
    · unfold F_X9_compile_61
      rw [x2.2.1, if_neg (nI_f x1)]
    · unfold F_X12_fault_58
      rw [x3.2.1, if_neg (nI_f x1)]
theorem P_fault {N : Int} {s t : St} (h : RX N s t) : Two (RX (N + 1)) (F_X11_fault s) (F_X12_fault t) := by
  obtain ⟨L, hT⟩ := TB_of h.tape
  obtain ⟨r, s', t', h1, h2, h3, h4, _⟩ := fault_two hT
  refine ⟨r, s', t', ?_, h2, (h.ss h3 h4).up⟩
  unfold F_X11_fault
  rw [h1, bind_some]
