/-! fault -/
def KR (cl : List Cla) (z m : Nat) (s t : St) : Prop := s.1 908 = nI cl.length ∧ m = (cl.flatMap caM).length ∧ (∀ i, i < (cl.flatMap caM).length → t.2.1 1229 i = (cl.flatMap caM).getD i 0) ∧ clW cl ∧ (∀ k, k < 7 → (bt (s.1 909) k = true ↔ ∃ c ∈ cl, c.1 = k)) ∧ ∀ (i : Nat) (c : Cla), cl[i]? = some c → ∃ x y w : Nat, s.2.1 907 (4 * i) = nI c.1 ∧ s.2.1 907 (4 * i + 1) = nI x ∧ s.2.1 907 (4 * i + 2) = nI y ∧ s.2.1 907 (4 * i + 3) = nI w ∧ x ≤ y ∧ y ≤ w ∧ w ≤ z ∧ c.2.1 = seg (s.2.1 905) x y ∧ c.2.2 = seg (s.2.1 905) y w
theorem KR_look {cl : List Cla} {z m : Nat} {s t s' t' : St} (h : KR cl z m s t) (e1 : s'.2 = s.2) (e2 : t'.2 = t.2) (hk : KC s s') : KR cl z m s' t' := by
  obtain ⟨h1, h2, h3, h4, h5, h6⟩ := h
  refine ⟨hk.1.trans h1, h2, ?_, h4, ?_, ?_⟩
  · rw [e2]
    exact h3
  · rw [hk.2.1]
    exact h5
  · rw [e1]
    exact h6
theorem KR_step {s0 t0 : St} {L A z m : Nat} {s t s' t' : St} {cl : List Cla} (hn : cl.length ≤ 40) (h : KR cl z m s t) (hc : CLG s0 t0 L A z m cl.length s t s' t') : ∃ (A' z' m' : Nat) (c : Cla), A + 3 ≤ A' ∧ NP s0 t0 L A' 0 z' m' s' t' ∧ KR (cl ++ [c]) z' m' s' t' := by
  obtain ⟨h1, h2, h3, h4, h5, h6⟩ := h
  obtain ⟨A', c, a1, a2, a3, a4, a5, a6, a7, a8, a9, a10⟩ := hc
  have eF : (cl ++ [c]).flatMap caM = cl.flatMap caM ++ caM c := by
    rw [List.flatMap_append]
    show cl.flatMap caM ++ (caM c ++ []) = _
    rw [List.append_nil]
  have eL : ((cl ++ [c]).flatMap caM).length = m + (caM c).length := by rw [eF, List.length_append, h2]
  refine ⟨A', _, _, c, a1, a2, ?_, eL.symm, ?_, ?_, ?_, ?_⟩
  · rw [a8, List.length_append]
    rfl
  · intro i hi
    rw [eL] at hi
    rw [eF]
    by_cases ci : i < m
    · rw [getD_app_l (by omega), a4.1 i ci, h3 i (by omega)]
    · rw [getD_app_r (by omega), ← h2, ← a4.2 (i - m) (by omega), show m + (i - m) = i by omega]
  · intro d hd
    rw [List.mem_append] at hd
    rcases hd with hd | hd
    · exact h4 d hd
    · rw [List.mem_singleton.mp hd]
      exact ⟨a5, a6, a7⟩
  · intro k hk
    rw [a9, bt_on _ (by omega) (by omega), Bool.or_eq_true, decide_eq_true_iff, h5 k hk]
    constructor
    · rintro (⟨d, hd, e⟩ | e)
      · exact ⟨d, List.mem_append_left _ hd, e⟩
      · exact ⟨c, List.mem_append_right _ (List.mem_singleton.mpr rfl), e.symm⟩
    · rintro ⟨d, hd, e⟩
      rw [List.mem_append] at hd
      rcases hd with hd | hd
      · exact Or.inl ⟨d, hd, e⟩
      · rw [List.mem_singleton.mp hd] at e
        exact Or.inr e.symm
  · intro i d hi
    by_cases ci : i < cl.length
    · rw [List.getElem?_append_left ci] at hi
      obtain ⟨x, y, w, q1, q2, q3, q4, q5, q6, q7, q8, q9⟩ := h6 i d hi
      refine ⟨x, y, w, ?_, ?_, ?_, ?_, q5, q6, by omega, ?_, ?_⟩
      · rw [a10]
        unfold U4
        rw [upd_ne _ _ (by omega), upd_ne _ _ (by omega), upd_ne _ _ (by omega), upd_ne _ _ (by omega), q1]
      · rw [a10]
        unfold U4
        rw [upd_ne _ _ (by omega), upd_ne _ _ (by omega), upd_ne _ _ (by omega), upd_ne _ _ (by omega), q2]
      · rw [a10]
        unfold U4
        rw [upd_ne _ _ (by omega), upd_ne _ _ (by omega), upd_ne _ _ (by omega), upd_ne _ _ (by omega), q3]
      · rw [a10]
        unfold U4
        rw [upd_ne _ _ (by omega), upd_ne _ _ (by omega), upd_ne _ _ (by omega), upd_ne _ _ (by omega), q4]
      · rw [q8]
        exact (seg_congr fun j hj => a3.1 j (by omega)).symm
      · rw [q9]
        exact (seg_congr fun j hj => a3.1 j (by omega)).symm
    · rw [List.getElem?_append_right (by omega)] at hi
      have ei : i = cl.length := by
        have := (List.getElem?_eq_some_iff.mp hi).1
        have e1 : ([c] : List Cla).length = 1 := rfl
        omega
      subst ei
      rw [Nat.sub_self] at hi
      have ed : c = d := Option.some.inj hi
      subst ed
      refine ⟨z, z + c.2.1.length, z + c.2.1.length + c.2.2.length, ?_, ?_, ?_, ?_, by omega, by omega, Nat.le_refl _, ?_, ?_⟩
      · rw [a10]
        unfold U4
        rw [upd_ne _ _ (by omega), upd_ne _ _ (by omega), upd_ne _ _ (by omega), upd_at]
      · rw [a10]
        unfold U4
        rw [upd_ne _ _ (by omega), upd_ne _ _ (by omega), upd_at]
      · rw [a10]
        unfold U4
        rw [upd_ne _ _ (by omega), upd_at]
      · rw [a10]
        unfold U4
        rw [upd_at]
      · refine (seg_is rfl fun i hi => ?_).symm
        rw [a3.2 i (by rw [List.length_append]; omega), getD_app_l hi]
      · refine (seg_is rfl fun i hi => ?_).symm
        have := a3.2 (c.2.1.length + i) (by rw [List.length_append]; omega)
        rw [getD_app_r (by omega), ← Nat.add_assoc, Nat.add_sub_cancel_left] at this
        exact this
theorem took_some {s0 t0 : St} {T : Nat → Int32} {L : Nat} (hT : TB s0 t0 T L) {A d z m : Nat} {s t : St} (h : NP s0 t0 L A d z m s t) (c : Int32) : ∃ r, F_X9_took c s = some r := by
  obtain ⟨A1, cb, mb, s1, t1, l1, _⟩ := look_np hT h
  unfold F_X9_took
  rw [l1, bind_some]
  dsimp only
  by_cases e : cb = c
  · rw [if_pos e, wI_ok, bind_some]
    exact ⟨_, rfl⟩
  · rw [if_neg e]
    exact ⟨_, rfl⟩
theorem loop_fault {s0 t0 : St} {T : Nat → Int32} {L : Nat} (hT : TB s0 t0 T L) {sp t : St} {v : Int32} {s : St} {F : Nat} (hFu : 200 < F) (htk : F_X9_took 59 sp = some (v, s)) (hI : (∃ A z m c, 3 ≤ A ∧ NP s0 t0 L A 0 z m sp t ∧ KR [c] z m sp t) ∨ FF s0 t0 sp t) : ∃ s' t', lp B_X9_compile_34 F (v, 1, s) = some s' ∧ lp B_X12_fault_24 FU t = some t' ∧ ((∃ A z m cl, NP s0 t0 L A 0 z m s' t' ∧ KR cl z m s' t' ∧ 1 ≤ cl.length ∧ 4 * cl.length ≤ A + 1) ∨ FF s0 t0 s' t') := by
  have hL : L ≤ 160 := hT.2.2.1
  have e41 : (41 : Int32).toInt = 41 := rfl
  have loop := lp_two (B := B_X9_compile_34) (B2 := B_X12_fault_24)
    (fun j X Z => (∃ sp A z m cl, F_X9_took 59 sp = some (X.1, X.2.2) ∧ X.2.1 = nI (cl : List Cla).length ∧ NP s0 t0 L A 0 z m sp Z ∧ KR cl z m sp Z ∧ 4 * cl.length ≤ A + 1 ∧ 1 ≤ cl.length ∧ j = L - A + 2) ∨ (FF s0 t0 X.2.2 Z ∧ X.1 = 0 ∧ j = 1))
    (fun s' t' => (∃ A z m cl, NP s0 t0 L A 0 z m s' t' ∧ KR cl z m s' t' ∧ 1 ≤ cl.length ∧ 4 * cl.length ≤ A + 1) ∨ FF s0 t0 s' t') (by
      rintro j ⟨v, n, s⟩ Z (⟨sp, A, z, m, cl, h1, h2, h3, h4, h5, h6, h7⟩ | ⟨h1, h2, h3⟩)
      · dsimp only at h1 h2
        have hAL := h3.2.2.2.2.2.2.2.2.2.2.1
        have hmA := h3.2.2.2.2.2.2.2.2.2.2.2.2.2
        obtain ⟨A1, cb, mb, s1, t1, l1, l2, l3, l4, l5, l6, l7, l8, l9, l10⟩ := look_np hT h3
        have hK1 := KR_look h4 l5 l6 l7
        by_cases c : cb = 59
        · have hA1 : A1 < L ∧ mb = 59 := by
            rcases l8 with ⟨_, c2, _⟩ | ⟨c1, c2, c3⟩
            · rw [c2] at c
              exact absurd c (by decide)
            · exact ⟨c1, by rw [c3, ← c2, c]⟩
          obtain ⟨hA1, hmb⟩ := hA1
          have etk : F_X9_took 59 sp = some (1, pI s1 902 (s1.1 902 + 1)) := by
            unfold F_X9_took
            rw [l1, bind_some]
            dsimp only
            rw [if_pos c, wI_ok, bind_some]
          rw [etk] at h1
          have ev := Option.some.inj h1
          have e1 : (1 : Int32) = v := congrArg Prod.fst ev
          have e2 : pI s1 902 (s1.1 902 + 1) = s := congrArg Prod.snd ev
          subst e1
          subst e2
          obtain ⟨g1, g2⟩ := step_np l4 hA1
          have hK2 : KR cl z m (pI s1 902 (s1.1 902 + 1)) (pI t1 1236 (t1.1 1236 + 1)) := KR_look hK1 rfl rfl g2
          have hn : ¬ (41 : Int32) ≤ n := by
            rw [h2, i32_le, nI_toInt (by omega)]
            omega
          obtain ⟨s', t', w1, w2, w3⟩ := sim_clause hT g1 (by omega) (show cl.length ≤ 40 by omega) hK2.1
          have cM : B_X12_fault_24 Z = some (.inl t') := by
            unfold B_X12_fault_24
            dsimp only
            rw [h3.2.2.2.1, if_pos rfl, l2, bind_some]
            dsimp only
            rw [if_pos hmb, wI_ok, bind_some, w2, bind_some]
          have cC : ∀ r, F_X9_took 59 s' = some r → B_X9_compile_34 (1, n, pI s1 902 (s1.1 902 + 1)) = some (.inl (r.1, n + 1, r.2)) := by
            intro r hr
            unfold B_X9_compile_34
            dsimp only
            rw [if_neg hn, if_neg (by decide), w1, bind_some, hr, bind_some]
          left
          rcases w3 with hG | hF
          · obtain ⟨A', z', m', c', q1, q2, q3⟩ := KR_step (by omega) hK2 hG
            obtain ⟨r, hr⟩ := took_some hT q2 59
            have hAL' := q2.2.2.2.2.2.2.2.2.2.2.1
            have ell : (cl ++ [c']).length = cl.length + 1 := by rw [List.length_append]; rfl
            refine ⟨(r.1, n + 1, r.2), t', L - A' + 2, cC r hr, cM, by omega, Or.inl ⟨s', A', z', m', cl ++ [c'], hr, ?_, q2, q3, by omega, by omega, rfl⟩⟩
            show n + 1 = _
            rw [h2, ell, nI_1]
          · have hF0 := hF
            obtain ⟨f, A', d, m', x1, x2, x3⟩ := hF
            exact ⟨(0, n + 1, s'), t', 1, cC (0, s') (took_F x2 x1 (by decide)), cM, by omega, Or.inr ⟨hF0, rfl, rfl⟩⟩
        · right
          have mc : ¬ mb = 59 := by
            rcases l8 with ⟨_, _, c3⟩ | ⟨_, c2, c3⟩
            · rw [c3]
              decide
            · rw [c3, ← c2]
              exact c
          have etk : F_X9_took 59 sp = some (0, s1) := by
            unfold F_X9_took
            rw [l1, bind_some]
            dsimp only
            rw [if_neg c]
          rw [etk] at h1
          have ev := Option.some.inj h1
          have e1 : (0 : Int32) = v := congrArg Prod.fst ev
          have e2 : s1 = s := congrArg Prod.snd ev
          subst e1
          subst e2
          refine ⟨s1, t1, ?_, ?_, Or.inl ⟨A1, z, m, cl, l4, hK1, h6, by omega⟩⟩
          · unfold B_X9_compile_34
            dsimp only
            by_cases cn : (41 : Int32) ≤ n
            · rw [if_pos cn]
            · rw [if_neg cn, if_pos rfl]
          · unfold B_X12_fault_24
            dsimp only
            rw [h3.2.2.2.1, if_pos rfl, l2, bind_some]
            dsimp only
            rw [if_neg mc]
      · right
        dsimp only at h1 h2
        have h10 := h1
        obtain ⟨f, A', d, m', x1, x2, x3⟩ := h1
        refine ⟨s, Z, ?_, ?_, Or.inr h10⟩
        · unfold B_X9_compile_34
          dsimp only
          by_cases cn : (41 : Int32) ≤ n
          · rw [if_pos cn]
          · rw [if_neg cn, if_pos h2]
        · unfold B_X12_fault_24
          dsimp only
          rw [x3.2.1, if_neg (nI_f x1)])
  rcases hI with ⟨A, z, m, c, a1, a2, a3⟩ | hF
  · exact loop F FU (L - A + 2) (v, 1, s) t (Or.inl ⟨sp, A, z, m, [c], htk, rfl, a2, a3, by show 4 * 1 ≤ A + 1; omega, Nat.le_refl 1, rfl⟩) (by omega) (FU_lt (by omega))
  · have hF0 := hF
    obtain ⟨f, A', d, m', x1, x2, x3⟩ := hF
    rw [took_F x2 x1 (by decide)] at htk
    have ev := Option.some.inj htk
    have e1 : (0 : Int32) = v := congrArg Prod.fst ev
    have e2 : sp = s := congrArg Prod.snd ev
    subst e1
    subst e2
    exact loop F FU 1 (0, 1, sp) t (Or.inr ⟨hF0, rfl, rfl⟩) (by omega) (FU_lt (by omega))
