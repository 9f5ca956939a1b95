/-! law -/
theorem dyn_newf (s : St) (n : Nat) (f : Nat → Int32) : dyn (pNf s n f) (aL s) = some (n, f) := by
  unfold dyn
  rw [← sS_newf, ← mkCs_len, List.getElem?_append_right (Nat.le_refl _), Nat.sub_self]
  rfl
theorem wR_nI {s : St} {k n j a : Nat} {q : Nat × (Nat → Int32)} (hd : dyn s a = some q) (h : j < n) (hn : n < 2 ^ 31) : wR s k n (nI j) a = some (s.1, s.2.1, va_up s.2.2.1 k (va_up (s.2.2.1 k) j (some a)), s.2.2.2) := by
  have hv : vb (nI j) n = true := by
    unfold vb
    rw [nI_toInt (by omega)]
    exact decide_eq_true ⟨by omega, by omega⟩
  unfold wR
  rw [hd]
  dsimp only
  rw [if_pos hv]
  unfold pR
  rw [nI_clamp (by omega)]
theorem cpA_nI {s : St} {k n w : Nat} (hw : w ≤ n) (hn : n ≤ 164) : cpA s k n (nI w) = some (pNf s w (cpf (s.2.1 k) n w)) := by
  unfold cpA
  rw [nI_toInt (by omega), if_pos ⟨by omega, by omega, hn⟩, nI_clamp (by omega)]
theorem cpf_at {f : Nat → Int32} {n w i : Nat} (hi : i < w) : cpf f n w i = f i := by
  unfold cpf
  split
  · rfl
  · unfold va_cpy
    rw [if_pos (by omega), Nat.sub_zero, Nat.zero_add]
theorem C_enact {s : St} {n z l : Nat} (v1 v2 : Int32) (hn : n < 20) (h0 : s.1 0 = nI n) (h6 : s.1 906 = nI z) (h8 : s.1 908 = nI l) (hz : z ≤ 160) (hl : l ≤ 40) : ∃ s', F_X0_enact v1 v2 (s.1 1100) s = some (nI n, s') ∧ pI s' 901 0 = CE s n z l v1 v2 (cpf (s.2.1 905) 160 z) (cpf (s.2.1 907) 164 (4 * l)) := by
  have e20 : (20 : Int32).toInt = 20 := rfl
  have c0 : nI n < (20 : Int32) := by
    rw [i32_lt, nI_toInt (by omega)]
    omega
  refine ⟨pI (((pNf (s.1, (sA (sA (sA (sA s 1 n v1) 2 n v2) 3 n (s.1 1100)) 4 n (s.1 909)).2.1, va_up s.2.2.1 5 (va_up (s.2.2.1 5) n (some (aL s))), s.2.2.2 ++ [(z, cpf (s.2.1 905) 160 z)]) (4 * l) (cpf (s.2.1 907) 164 (4 * l))).1, (sA (sA (sA (sA s 1 n v1) 2 n v2) 3 n (s.1 1100)) 4 n (s.1 909)).2.1, va_up (va_up s.2.2.1 5 (va_up (s.2.2.1 5) n (some (aL s)))) 6 (va_up ((va_up s.2.2.1 5 (va_up (s.2.2.1 5) n (some (aL s)))) 6) n (some (89 + (s.2.2.2 ++ [(z, cpf (s.2.1 905) 160 z)]).length))), (s.2.2.2 ++ [(z, cpf (s.2.1 905) 160 z)]) ++ [(4 * l, cpf (s.2.1 907) 164 (4 * l))]) : St) 0 (nI n + 1), ?_, ?_⟩
  · unfold F_X0_enact
    rw [h0, if_pos c0, wr_nI (by omega) (by omega), bind_some]
    rw [show (sA s 1 n v1).1 0 = nI n from h0, wr_nI (by omega) (by omega), bind_some]
    rw [show (sA (sA s 1 n v1) 2 n v2).1 0 = nI n from h0, wr_nI (by omega) (by omega), bind_some]
    rw [show (sA (sA (sA s 1 n v1) 2 n v2) 3 n (s.1 1100)).1 0 = nI n from h0, wr_nI (by omega) (by omega), bind_some]
    rw [show (sA (sA (sA (sA s 1 n v1) 2 n v2) 3 n (s.1 1100)) 4 n ((sA (sA (sA s 1 n v1) 2 n v2) 3 n (s.1 1100)).1 909)).1 906 = nI z from h6, cpA_nI hz (by omega), bind_some]
    rw [show (sA (sA (sA (sA s 1 n v1) 2 n v2) 3 n (s.1 1100)) 4 n ((sA (sA (sA s 1 n v1) 2 n v2) 3 n (s.1 1100)).1 909)).1 0 = nI n from h0, wR_nI (dyn_newf _ _ _) (by omega) (by omega), bind_some]
    dsimp only
    rw [show ((pNf (sA (sA (sA (sA s 1 n v1) 2 n v2) 3 n (s.1 1100)) 4 n ((sA (sA (sA s 1 n v1) 2 n v2) 3 n (s.1 1100)).1 909)) z (cpf ((sA (sA (sA (sA s 1 n v1) 2 n v2) 3 n (s.1 1100)) 4 n ((sA (sA (sA s 1 n v1) 2 n v2) 3 n (s.1 1100)).1 909)).2.1 905) 160 z)).1 908) = nI l from h8, nI_4 l (by omega), cpA_nI (by omega) (by omega), bind_some]
    rw [show ((pNf (sA (sA (sA (sA s 1 n v1) 2 n v2) 3 n (s.1 1100)) 4 n ((sA (sA (sA s 1 n v1) 2 n v2) 3 n (s.1 1100)).1 909)) z (cpf ((sA (sA (sA (sA s 1 n v1) 2 n v2) 3 n (s.1 1100)) 4 n ((sA (sA (sA s 1 n v1) 2 n v2) 3 n (s.1 1100)).1 909)).2.1 905) 160 z)).1 0) = nI n from h0, wR_nI (dyn_newf _ _ _) (by omega) (by omega), bind_some]
    dsimp only
    rw [wI_ok, bind_some, pI_at]
    show some ((s.1 0 + 1) - 1, _) = _
    rw [h0, Int32.add_sub_cancel]
    rw [← h0]
    rfl
  · rw [nI_1]
    refine Prod.ext rfl (Prod.ext rfl (Prod.ext ?_ ?_))
    · show va_up (va_up s.2.2.1 5 (va_up (s.2.2.1 5) n (some (aL s)))) 6 (va_up (s.2.2.1 6) n (some (89 + (s.2.2.2 ++ [(z, cpf (s.2.1 905) 160 z)]).length))) = _
      rw [List.length_append]
      rfl
    · show (s.2.2.2 ++ [(z, cpf (s.2.1 905) 160 z)]) ++ [(4 * l, cpf (s.2.1 907) 164 (4 * l))] = _
      rw [List.append_assoc]
      rfl
theorem P_law {N : Int} {s t : St} (h : RX N s t) (v1 v2 : Int32) : Two (RX (N + 1)) (F_X11_law v1 v2 s) (F_X12_law v1 v2 t) := by
  obtain ⟨l0, l1, _⟩ := h.law
  obtain ⟨n, en, en2, _⟩ := i32_nat l1.1
  have hn20 : n ≤ 20 := by have := l1.2; omega
  have e20 : (20 : Int32).toInt = 20 := rfl
  unfold F_X11_law F_X12_law
  refine Two_ite (fun _ => Two_ret _ h.up) (fun c1 => Two_ite (fun _ => Two_ret _ h.up) (fun c2 => ?_))
  rw [l0, en]
  by_cases c3 : n = 20
  · rw [if_pos (by rw [i32_le, nI_toInt (by omega)]; omega), if_pos (by rw [c3]; rfl)]
    exact Two_ret _ h.up
  · have hn : n < 20 := by omega
    rw [if_neg (by rw [i32_le, nI_toInt (by omega)]; omega), if_neg (by intro e; have := (nI_eq (b := 20) (by omega) (by omega)).mp e; omega)]
    obtain ⟨L, hT⟩ := TB_of h.tape
    obtain ⟨r, s', t', h1, h2, h3, h4, h5⟩ := fault_two hT
    have hX : RX N s' t' := h.ss h3 h4
    rw [h1, h2, bind_some, bind_some]
    dsimp only
    rcases h5 with ⟨er, A, z, m, cl, a1, a2, a3, a4⟩ | ⟨f, hf, er⟩
    · subst er
      rw [if_pos rfl, if_pos rfl]
      have hAL := a1.2.2.2.2.2.2.2.2.2.2.1
      have hzA := a1.2.2.2.2.2.2.2.2.2.2.2.2.1
      have hmA := a1.2.2.2.2.2.2.2.2.2.2.2.2.2
      have hL := hT.2.2.1
      obtain ⟨l0', l1', _⟩ := hX.law
      have en' : t'.1 1240 = nI n := by
        rw [h4.i (k := 1240) rfl, en]
      obtain ⟨s2, w1, w2⟩ := C_enact (s := s') v1 v2 hn (by rw [l0', en']) a1.2.2.2.2.2.2.2.2.1 a2.1 (by omega) a4
      rw [w1, bind_some, wI_ok, bind_some, M_lawkeep v1 v2 hn (by omega) a1.2.2.2.2.2.2.2.2.2.1 en']
      dsimp only
      rw [w2]
      refine Two_ret _ (lawrel hX hn en' ?_ ?_ a2 (by omega) (by omega) (by omega) (fun i hi => cpf_at hi) (fun i hi => cpf_at hi)).up
      · exact inb_R c1
      · exact inb_R c2
    · subst er
      rw [if_neg (nI_f hf), if_neg (nI_f hf)]
      exact Two_ret _ hX.up
