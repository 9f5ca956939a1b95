/-! the least school for a teacher: the reference -/
theorem ML_1273 (t : St) (V l g : Nat → Int32) (p v : Int32) {i : Nat} (y : Int32) (hi : i < 40) : wr (ML (setA t 1273 V) l g p v) 1273 40 (nI i) y = some (ML (setA t 1273 (upd V i y)) l g p v) := by
  rw [wr_nI hi (by omega)]
  refine congrArg (fun A => some (upd (upd t.1 1243 p) 1244 v, A, t.2.2)) ?_
  funext j
  show va_up (va_up (va_up (va_up t.2.1 1273 V) 1241 l) 1242 g) 1273 (upd V i y) j = va_up (va_up (va_up t.2.1 1273 (upd V i y)) 1241 l) 1242 g j
  unfold va_up
  by_cases e : j = 1273
  · subst e; rfl
  · simp [e]
theorem M_lowest {N : Int} {s t : St} (h : RX N s t) {i : Nat} (hi : i < 40) (w q y4 : Int32) {nn : Nat} (hnn : nn ≤ 20) (V0 l0 g0 : Nat → Int32) (p0 v0 : Int32) : ∃ (V l g : Nat → Int32) (p v : Int32), lp (B_X12_sendAll_112 w q y4 (nI i)) FU (nI nn - 1, ML (setA t 1273 V0) l0 g0 p0 v0) = some (ML (setA t 1273 V) l g p v) ∧ (∀ k, k ≠ i → V k = V0 k) ∧ ((V i = V0 i ∧ ∀ k, k < nn → ¬ okT s t i (w / 52) q (t.2.1 1274) k) ∨ ∃ j, j < nn ∧ V i = nI j ∧ okT s t i (w / 52) q (t.2.1 1274) j ∧ ∀ k, k < j → ¬ okT s t i (w / 52) q (t.2.1 1274) k) := by
  have e0 : (0 : Int32).toInt = 0 := rfl
  have em : (-1 : Int32).toInt = -1 := rfl
  have e1 : (1 : Int32).toInt = 1 := rfl
  obtain ⟨Y, h1, V, l, g, p, v, rfl, h2, h3⟩ := lp_inv (B := B_X12_sendAll_112 w q y4 (nI i))
    (fun m X => ∃ (V l g : Nat → Int32) (p v : Int32), X = (nI m - 1, ML (setA t 1273 V) l g p v) ∧ m ≤ nn ∧ (∀ k, k ≠ i → V k = V0 k) ∧ ((V i = V0 i ∧ ∀ k, m ≤ k → k < nn → ¬ okT s t i (w / 52) q (t.2.1 1274) k) ∨ ∃ j, m ≤ j ∧ j < nn ∧ V i = nI j ∧ okT s t i (w / 52) q (t.2.1 1274) j ∧ ∀ k, m ≤ k → k < j → ¬ okT s t i (w / 52) q (t.2.1 1274) k))
    (fun Y => ∃ (V l g : Nat → Int32) (p v : Int32), Y = ML (setA t 1273 V) l g p v ∧ (∀ k, k ≠ i → V k = V0 k) ∧ ((V i = V0 i ∧ ∀ k, 0 ≤ k → k < nn → ¬ okT s t i (w / 52) q (t.2.1 1274) k) ∨ ∃ j, 0 ≤ j ∧ j < nn ∧ V i = nI j ∧ okT s t i (w / 52) q (t.2.1 1274) j ∧ ∀ k, 0 ≤ k → k < j → ¬ okT s t i (w / 52) q (t.2.1 1274) k)) (by
      rintro m _ ⟨V, l, g, p, v, rfl, hm, hV, hk⟩
      cases m with
      | zero =>
        right
        have h9 : nI 0 - 1 < 0 := by decide
        refine ⟨ML (setA t 1273 V) l g p v, ?_, V, l, g, p, v, rfl, hV, hk⟩
        unfold B_X12_sendAll_112
        dsimp only
        rw [if_pos h9]
      | succ m =>
        left
        have en : nI (m + 1) - 1 = nI m := by
          have : nI (m + 1) = nI m + 1 := (nI_add m 1).symm
          rw [this, Int32.add_sub_cancel]
        have en2 : nI m + (-1) = nI m - 1 := (Int32.sub_eq_add_neg (nI m) 1).symm
        have h9 : ¬ nI m < 0 := by
          rw [i32_lt, nI_toInt (by omega), e0]
          omega
        have k1 : rd (ML (setA t 1273 V) l g p v) 1274 20 (nI m) = some (t.2.1 1274 m) := rd_nI (by omega) (by omega)
        have same : ∀ (V l g : Nat → Int32) (p v : Int32), (rd (ML (setA t 1273 V) l g p v) 1273 40 (nI i)) = some (V i) := fun V l g p v => rd_nI hi (by omega)
        have no : ¬ okT s t i (w / 52) q (t.2.1 1274) m → ((V i = V0 i ∧ ∀ k, m ≤ k → k < nn → ¬ okT s t i (w / 52) q (t.2.1 1274) k) ∨ ∃ j, m ≤ j ∧ j < nn ∧ V i = nI j ∧ okT s t i (w / 52) q (t.2.1 1274) j ∧ ∀ k, m ≤ k → k < j → ¬ okT s t i (w / 52) q (t.2.1 1274) k) := by
          intro h0
          rcases hk with ⟨a1, a2⟩ | ⟨j, a1, a2, a3, a4, a5⟩
          · refine Or.inl ⟨a1, fun k b1 b2 => ?_⟩
            by_cases e : k = m
            · rw [e]; exact h0
            · exact a2 k (by omega) b2
          · refine Or.inr ⟨j, by omega, a2, a3, a4, fun k b1 b2 => ?_⟩
            by_cases e : k = m
            · rw [e]; exact h0
            · exact a5 k (by omega) b2
        have hu : upd V i (V i) = V := upd_eq rfl
        by_cases hU : t.2.1 1274 m ≤ 0
        · refine ⟨(nI m - 1, ML (setA t 1273 V) l g p v), m, ?_, by omega, V, l, g, p, v, rfl, by omega, hV, no (fun e => ?_)⟩
          · unfold B_X12_sendAll_112
            dsimp only
            rw [en, if_neg h9, k1, bind_some, if_pos hU, same, bind_some, ML_1273 _ _ _ _ _ _ _ hi, bind_some, hu, en2]
          · rw [i32_le, e0] at hU
            have := e.1
            omega
        · have hU2 : 0 < (t.2.1 1274 m).toInt := by
            rw [i32_le, e0] at hU
            omega
          obtain ⟨r, l', g', p', v', g1, g2⟩ := M_mayTeach (h.set1273 V) hi (j := m) (by omega) w q l g p v
          have g2' : r = true ↔ okT s t i (w / 52) q (t.2.1 1274) m := by
            rw [g2]
            unfold okT
            constructor
            · rintro ⟨n, n1, n2, n3⟩
              rw [mayT_1273 h] at n3
              exact ⟨hU2, n, n1, n2, n3⟩
            · rintro ⟨_, n, n1, n2, n3⟩
              refine ⟨n, n1, n2, ?_⟩
              rw [mayT_1273 h]
              exact n3
          cases r with
          | false =>
            refine ⟨(nI m - 1, ML (setA t 1273 V) l' g' p' v'), m, ?_, by omega, V, l', g', p', v', rfl, by omega, hV, no (fun e => by have := g2'.mpr e; cases this)⟩
            unfold B_X12_sendAll_112
            dsimp only
            rw [en, if_neg h9, k1, bind_some, if_neg hU, g1, bind_some, if_pos (show bI false = 0 from rfl), same, bind_some, ML_1273 _ _ _ _ _ _ _ hi, bind_some, hu, en2]
          | true =>
            refine ⟨(nI m - 1, ML (setA t 1273 (upd V i (nI m))) l' g' p' v'), m, ?_, by omega, upd V i (nI m), l', g', p', v', rfl, by omega, fun k hk2 => ?_, Or.inr ⟨m, by omega, by omega, if_pos rfl, g2'.mp rfl, fun k b1 b2 => absurd b2 (by omega)⟩⟩
            · unfold B_X12_sendAll_112
              dsimp only
              rw [en, if_neg h9, k1, bind_some, if_neg hU, g1, bind_some, if_neg (show ¬ bI true = 0 by decide), ML_1273 _ _ _ _ _ _ _ hi, bind_some, en2]
            · rw [← hV k hk2]
              exact if_neg hk2) FU nn (nI nn - 1, ML (setA t 1273 V0) l0 g0 p0 v0) ⟨V0, l0, g0, p0, v0, rfl, by omega, fun _ _ => rfl, Or.inl ⟨rfl, fun k b1 b2 => absurd b2 (by omega)⟩⟩ (FU_lt (by omega))
  refine ⟨V, l, g, p, v, h1, h2, ?_⟩
  rcases h3 with ⟨a1, a2⟩ | ⟨j, a0, a1, a2, a3, a4⟩
  · exact Or.inl ⟨a1, fun k hk => a2 k (by omega) hk⟩
  · exact Or.inr ⟨j, a1, a2, a3, fun k hk => a4 k (by omega) hk⟩
