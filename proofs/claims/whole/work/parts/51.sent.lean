/-! where teachers are sent -/
theorem okT_ss {N : Int} {s t s' t' : St} (h : RX N s t) (e1 : SS s s') (e2 : SS t t') (i : Nat) (y q : Int32) {U U' : Nat → Int32} {j : Nat} (hU : U' j = U j) : okT s' t' i y q U' j ↔ okT s t i y q U j := by
  unfold okT
  rw [hU, e2.a (k := 1218) rfl, e2.a (k := 1215) rfl]
  constructor
  · rintro ⟨a, m, m1, m2, m3⟩
    rw [mayT_ss h e1 e2] at m3
    exact ⟨a, m, m1, m2, m3⟩
  · rintro ⟨a, m, m1, m2, m3⟩
    refine ⟨a, m, m1, m2, ?_⟩
    rw [mayT_ss h e1 e2]
    exact m3
/-- the first loop: classes -/
theorem send_one {N : Int} {s t : St} (h : RX N s t) (hN : N ≤ 4096) {w q nn : Nat} (hw : w ≤ 600) (hq : q ≤ 600) (en : t.1 1223 = nI nn) (hnn : nn ≤ 20) (y3 : Int32) : ∃ s' t', lp (B_X8_assign_8 (nI w) (nI q) y3) FU (0, s) = some s' ∧ lp (B_X12_sendAll_2 (nI w) (nI q)) FU (0, t) = some t' ∧ SS s s' ∧ SS t t' ∧ ∀ k, k < nn → s'.2.1 809 k = t'.2.1 1274 k := by
  obtain ⟨z0, z1, _⟩ := h.sch
  have e20 : (20 : Int32).toInt = 20 := rfl
  obtain ⟨s', t', h1, h2, h3⟩ := lp_two (B := B_X8_assign_8 (nI w) (nI q) y3) (B2 := B_X12_sendAll_2 (nI w) (nI q))
    (fun m X Z => ∃ (n : Nat) (s' t' : St), X = (nI n, s') ∧ Z = (nI n, t') ∧ n + m = nn ∧ SS s s' ∧ SS t t' ∧ ∀ k, k < n → s'.2.1 809 k = t'.2.1 1274 k)
    (fun s' t' => SS s s' ∧ SS t t' ∧ ∀ k, k < nn → s'.2.1 809 k = t'.2.1 1274 k) (by
      rintro m _ _ ⟨n, s', t', rfl, rfl, hn, hs, ht, hk⟩
      have i1 : s'.1 501 = nI nn := by rw [hs.i (k := 501) rfl, z0, en]
      have i2 : t'.1 1223 = nI nn := by rw [ht.i (k := 1223) rfl, en]
      by_cases c : n = nn
      · right
        subst c
        refine ⟨s', t', ?_, ?_, hs, ht, hk⟩
        · unfold B_X8_assign_8
          dsimp only
          rw [i1, if_pos (Int32.le_refl _)]
        · unfold B_X12_sendAll_2
          dsimp only
          rw [i2, if_pos (Int32.le_refl _)]
      · left
        have h9 : ¬ nI nn ≤ nI n := by
          rw [i32_le, nI_toInt (by omega), nI_toInt (by omega)]
          omega
        have hx := h.ss hs ht
        have hj : (n : Int) < (t'.1 1223).toInt := by rw [i2, nI_toInt (by omega)]; omega
        have ext : ∀ (f g : Nat → Int32) (c : Int32), f = upd (s'.2.1 809) n c → g = upd (t'.2.1 1274) n c → ∀ k, k < n + 1 → f k = g k := by
          intro f g c ef eg k hk2
          subst ef eg
          by_cases e : k = n
          · rw [e, upd_at, upd_at]
          · rw [upd_ne _ _ e, upd_ne _ _ e]
            exact hk k (by omega)
        obtain ⟨c', l, f, x, g1, ⟨g2, rfl⟩ | ⟨g2, l2, g, p, v, g3⟩⟩ := classes_two hx hN hj hw hq
        · refine ⟨(nI (n + 1), sA (CL s' l f x) 809 n 0), (nI (n + 1), sA t' 1274 n 0), m - 1, ?_, ?_, by omega, n + 1, _, _, rfl, rfl, by omega, hs.trans ((SS_CL s' l f x).trans (SS_sA _ _ _ rfl)), ht.trans (SS_sA _ _ _ rfl), ext _ _ 0 (sA_at _ _ _ _) (sA_at _ _ _ _)⟩
          · unfold B_X8_assign_8
            dsimp only
            rw [i1, if_neg h9, g1, bind_some, wr_nI (by omega) (by omega), bind_some, nI_1]
          · unfold B_X12_sendAll_2
            dsimp only
            rw [i2, if_neg h9, g2, bind_some, if_pos rfl, wr_nI (by omega) (by omega), bind_some, nI_1]
        · refine ⟨(nI (n + 1), sA (CL s' l f x) 809 n c'), (nI (n + 1), sA (ML t' l2 g p v) 1274 n c'), m - 1, ?_, ?_, by omega, n + 1, _, _, rfl, rfl, by omega, hs.trans ((SS_CL s' l f x).trans (SS_sA _ _ _ rfl)), ht.trans ((SS_ML t' l2 g p v).trans (SS_sA _ _ _ rfl)), ext _ _ c' (sA_at _ _ _ _) (sA_at _ _ _ _)⟩
          · unfold B_X8_assign_8
            dsimp only
            rw [i1, if_neg h9, g1, bind_some, wr_nI (by omega) (by omega), bind_some, nI_1]
          · unfold B_X12_sendAll_2
            dsimp only
            rw [i2, if_neg h9, g2, bind_some, if_neg (show ¬ (1 : Int32) = 0 by decide), g3, bind_some, wr_nI (by omega) (by omega), bind_some, nI_1]) FU FU nn (0, s) (0, t) ⟨0, s, t, rfl, rfl, by omega, SS.refl s, SS.refl t, fun k hk => absurd hk (by omega)⟩ (FU_lt (by omega)) (FU_lt (by omega))
  exact ⟨s', t', h1, h2, h3⟩
/-- the least one is one -/
theorem least_one {P Q : Nat → Prop} {nn : Nat} (hPQ : ∀ k, k < nn → (P k ↔ Q k)) {r v : Int32} (h1 : (r = -1 ∧ ∀ k, k < nn → ¬ P k) ∨ ∃ j, j < nn ∧ r = nI j ∧ P j ∧ ∀ k, k < j → ¬ P k) (h2 : (v = -1 ∧ ∀ k, k < nn → ¬ Q k) ∨ ∃ j, j < nn ∧ v = nI j ∧ Q j ∧ ∀ k, k < j → ¬ Q k) : r = v ∧ (r = -1 ∨ ∃ j, j < nn ∧ r = nI j) := by
  rcases h1 with ⟨a1, a2⟩ | ⟨j, a1, a2, a3, a4⟩
  · rcases h2 with ⟨b1, b2⟩ | ⟨i, b1, b2, b3, b4⟩
    · exact ⟨a1.trans b1.symm, Or.inl a1⟩
    · exact absurd ((hPQ i b1).mpr b3) (a2 i b1)
  · rcases h2 with ⟨b1, b2⟩ | ⟨i, b1, b2, b3, b4⟩
    · exact absurd ((hPQ j a1).mp a3) (b2 j a1)
    · have : j = i := by
        rcases Nat.lt_trichotomy j i with c | c | c
        · exact absurd ((hPQ j a1).mp a3) (b4 j c)
        · exact c
        · exact absurd ((hPQ i b1).mpr b3) (a4 i c)
      subst this
      exact ⟨a2.trans b2.symm, Or.inr ⟨j, a1, a2⟩⟩
theorem send_two {N : Int} {s t : St} (h : RX N s t) (hN : N ≤ 4096) {w q nn mm : Nat} (en : t.1 1223 = nI nn) (hnn : nn ≤ 20) (em : t.1 1275 = nI mm) (hmm : mm ≤ 40) (hU : ∀ k, k < nn → s.2.1 809 k = t.2.1 1274 k) : ∃ s' t', lp (B_X8_assign_47 (nI q) (nI w / 52)) FU (0, s) = some s' ∧ lp (B_X12_sendAll_51 (nI w) (nI q) (nI w / 52)) FU (0, t) = some t' ∧ SS s s' ∧ SS t t' ∧ (∀ k, k < nn → s'.2.1 809 k = t'.2.1 1274 k) ∧ ∀ k, k < mm → s'.2.1 808 k = t'.2.1 1273 k := by
  obtain ⟨z0, z1, _⟩ := h.sch
  obtain ⟨y0, y1, y2, y3, y4, y5, y6, y7⟩ := h.staff
  obtain ⟨s', t', h1, h2, h3⟩ := lp_two (B := B_X8_assign_47 (nI q) (nI w / 52)) (B2 := B_X12_sendAll_51 (nI w) (nI q) (nI w / 52))
    (fun m X Z => ∃ (n : Nat) (s' t' : St), X = (nI n, s') ∧ Z = (nI n, t') ∧ n + m = mm ∧ SS s s' ∧ SS t t' ∧ (∀ k, k < nn → s'.2.1 809 k = t'.2.1 1274 k) ∧ ∀ k, k < n → s'.2.1 808 k = t'.2.1 1273 k)
    (fun s' t' => SS s s' ∧ SS t t' ∧ (∀ k, k < nn → s'.2.1 809 k = t'.2.1 1274 k) ∧ ∀ k, k < mm → s'.2.1 808 k = t'.2.1 1273 k) (by
      rintro m _ _ ⟨n, s', t', rfl, rfl, hn, hs, ht, hk, hp⟩
      have i1 : s'.1 802 = nI mm := by rw [hs.i (k := 802) rfl, y0, em]
      have i2 : t'.1 1275 = nI mm := by rw [ht.i (k := 1275) rfl, em]
      by_cases c : n = mm
      · right
        subst c
        refine ⟨s', t', ?_, ?_, hs, ht, hk, hp⟩
        · unfold B_X8_assign_47
          dsimp only
          rw [i1, if_pos (Int32.le_refl _)]
        · unfold B_X12_sendAll_51
          dsimp only
          rw [i2, if_pos (Int32.le_refl _)]
      · left
        have h9 : ¬ nI mm ≤ nI n := by
          rw [i32_le, nI_toInt (by omega), nI_toInt (by omega)]
          omega
        have hn40 : n < 40 := by omega
        have hs2 : SS s (sA s' 808 n (-1)) := hs.trans (SS_sA _ _ _ rfl)
        have ht2 : SS t (sA t' 1273 n (-1)) := ht.trans (SS_sA _ _ _ rfl)
        have w1 : wr s' 808 40 (nI n) (-1) = some (sA s' 808 n (-1)) := wr_nI hn40 (by omega)
        have w2 : wr t' 1273 40 (nI n) (-1) = some (sA t' 1273 n (-1)) := wr_nI hn40 (by omega)
        have hk2 : ∀ k, k < nn → (sA s' 808 n (-1)).2.1 809 k = (sA t' 1273 n (-1)).2.1 1274 k := hk
        have a8 : (sA s' 808 n (-1)).2.1 808 = upd (s'.2.1 808) n (-1) := sA_at _ _ _ _
        have b8 : (sA t' 1273 n (-1)).2.1 1273 = upd (t'.2.1 1273) n (-1) := sA_at _ _ _ _
        have q1 : ∀ k, k < n → (sA s' 808 n (-1)).2.1 808 k = s'.2.1 808 k := fun k hk => by rw [a8, upd_ne _ _ (by omega)]
        have q2 : ∀ k, k < n → (sA t' 1273 n (-1)).2.1 1273 k = t'.2.1 1273 k := fun k hk => by rw [b8, upd_ne _ _ (by omega)]
        have q3 : (sA s' 808 n (-1)).2.1 808 n = -1 := by rw [a8, upd_at]
        have q4 : (sA t' 1273 n (-1)).2.1 1273 n = -1 := by rw [b8, upd_at]
        have sN : (sA t' 1273 n (-1)).1 1223 = nI nn := by rw [ht2.i (k := 1223) rfl, en]
        have rC : ∀ k, k = 807 ∨ k = 803 ∨ k = 806 → (sA s' 808 n (-1)).2.1 k = s.2.1 k := by
          rintro k (e | e | e) <;> subst e
          · exact hs2.a (k := 807) rfl
          · exact hs2.a (k := 803) rfl
          · exact hs2.a (k := 806) rfl
        have rM : ∀ k, k = 1272 ∨ k = 1268 ∨ k = 1271 → (sA t' 1273 n (-1)).2.1 k = t.2.1 k := by
          rintro k (e | e | e) <;> subst e
          · exact ht2.a (k := 1272) rfl
          · exact ht2.a (k := 1268) rfl
          · exact ht2.a (k := 1271) rfl
        generalize sA s' 808 n (-1) = s2 at *
        generalize sA t' 1273 n (-1) = t2 at *
        have r1 : rd s2 807 40 (nI n) = some (t.2.1 1272 n) := by rw [rd_nI hn40 (by omega), rC 807 (Or.inl rfl), y6]
        have r2 : rd s2 803 40 (nI n) = some (t.2.1 1268 n) := by rw [rd_nI hn40 (by omega), rC 803 (Or.inr (Or.inl rfl)), y2]
        have r3 : rd s2 806 40 (nI n) = some (t.2.1 1271 n) := by rw [rd_nI hn40 (by omega), rC 806 (Or.inr (Or.inr rfl)), y5]
        have r4 : rd t2 1272 40 (nI n) = some (t.2.1 1272 n) := by rw [rd_nI hn40 (by omega), rM 1272 (Or.inl rfl)]
        have r5 : rd t2 1268 40 (nI n) = some (t.2.1 1268 n) := by rw [rd_nI hn40 (by omega), rM 1268 (Or.inr (Or.inl rfl))]
        have r6 : rd t2 1271 40 (nI n) = some (t.2.1 1271 n) := by rw [rd_nI hn40 (by omega), rM 1271 (Or.inr (Or.inr rfl))]
        have r7 : rd s2 808 40 (nI n) = some (-1) := by rw [rd_nI hn40 (by omega), q3]
        have pp : ∀ k, k < n + 1 → s2.2.1 808 k = t2.2.1 1273 k := by
          intro k hk3
          by_cases e : k = n
          · rw [e, q3, q4]
          · rw [q1 k (by omega), q2 k (by omega)]
            exact hp k (by omega)
        by_cases c1 : nI q < t.2.1 1272 n
        · refine ⟨(nI (n + 1), s2), (nI (n + 1), t2), m - 1, ?_, ?_, by omega, n + 1, s2, t2, rfl, rfl, by omega, hs2, ht2, hk2, pp⟩
          · unfold B_X8_assign_47
            dsimp only
            rw [i1, if_neg h9, w1, bind_some, r1, bind_some, if_pos c1, r7, bind_some, if_pos rfl, nI_1]
          · unfold B_X12_sendAll_51
            dsimp only
            rw [i2, if_neg h9, w2, bind_some, r4, bind_some, if_pos c1, nI_1]
        by_cases c2 : nI w / 52 ≤ t.2.1 1268 n
        · refine ⟨(nI (n + 1), s2), (nI (n + 1), t2), m - 1, ?_, ?_, by omega, n + 1, s2, t2, rfl, rfl, by omega, hs2, ht2, hk2, pp⟩
          · unfold B_X8_assign_47
            dsimp only
            rw [i1, if_neg h9, w1, bind_some, r1, bind_some, if_neg c1, r2, bind_some, if_pos c2, r7, bind_some, if_pos rfl, nI_1]
          · unfold B_X12_sendAll_51
            dsimp only
            rw [i2, if_neg h9, w2, bind_some, r4, bind_some, if_neg c1, r5, bind_some, if_pos c2, nI_1]
        by_cases c3 : t.2.1 1271 n ≤ nI w / 52
        · have c3' : ¬ nI w / 52 < t.2.1 1271 n := by rw [i32_lt]; rw [i32_le] at c3; omega
          refine ⟨(nI (n + 1), s2), (nI (n + 1), t2), m - 1, ?_, ?_, by omega, n + 1, s2, t2, rfl, rfl, by omega, hs2, ht2, hk2, pp⟩
          · unfold B_X8_assign_47
            dsimp only
            rw [i1, if_neg h9, w1, bind_some, r1, bind_some, if_neg c1, r2, bind_some, if_neg c2, r3, bind_some, if_pos c3, r7, bind_some, if_pos rfl, nI_1]
          · unfold B_X12_sendAll_51
            dsimp only
            rw [i2, if_neg h9, w2, bind_some, r4, bind_some, if_neg c1, r5, bind_some, if_neg c2, r6, bind_some, if_neg c3', nI_1]
        have c3' : nI w / 52 < t.2.1 1271 n := by rw [i32_lt]; rw [i32_le] at c3; omega
        have hx := h.ss hs2 ht2
        obtain ⟨V, l, f, x, r, g1, g2⟩ := C_lowestFor hx hn40 (nI w / 52) (nI q) sN hnn (V0 := flf (s2.2.1 810) 4 (-1)) (fun c hc => flf_lt hc)
        obtain ⟨V2, l2, g, p, v, j1, j2, j3⟩ := M_lowest hx hn40 (nI w) (nI q) (nI w / 52) hnn (t2.2.1 1273) (t2.2.1 1241) (t2.2.1 1242) (t2.1 1243) (t2.1 1244)
        rw [setA_self, ML_self] at j1
        rw [q4] at j3
        obtain ⟨er, hr⟩ := least_one (P := fun k => okT s2 t2 n (nI w / 52) (nI q) (s2.2.1 809) k) (Q := fun k => okT s2 t2 n (nI w / 52) (nI q) (t2.2.1 1274) k) (fun k hk3 => okT_ss hx (SS.refl _) (SS.refl _) n (nI w / 52) (nI q) (hk2 k hk3)) g2 j3
        have g1' : F_X8_lowestFor (nI n) (nI w / 52) (nI q) s2 = some (r, CL (setA s2 810 V) l f x) := g1
        -- the class
        have s3e : ∃ s3, wr (CL (setA s2 810 V) l f x) 808 40 (nI n) r = some s3 ∧ SS s s3 ∧ (∀ k, k < n → s3.2.1 808 k = s2.2.1 808 k) ∧ s3.2.1 808 n = r ∧ s3.2.1 809 = s2.2.1 809 := by
          have a9 : (sA (CL (setA s2 810 V) l f x) 808 n r).2.1 808 = upd (s2.2.1 808) n r := sA_at _ _ _ _
          refine ⟨sA (CL (setA s2 810 V) l f x) 808 n r, wr_nI hn40 (by omega), hs2.trans ((SS_setA s2 (k := 810) V rfl).trans ((SS_CL _ _ _ _).trans (SS_sA _ _ _ rfl))), fun k hk => ?_, ?_, rfl⟩
          · rw [a9, upd_ne _ _ (by omega)]
          · rw [a9, upd_at]
        obtain ⟨s3, k1, k2, k3, k4, k5⟩ := s3e
        have k6 : rd s3 808 40 (nI n) = some r := by rw [rd_nI hn40 (by omega), k4]
        have t3e : ∃ t3, t3 = ML (setA t2 1273 V2) l2 g p v ∧ SS t t3 ∧ t3.2.1 1273 = V2 ∧ t3.2.1 1274 = t2.2.1 1274 := ⟨_, rfl, ht2.trans ((SS_setA t2 (k := 1273) V2 rfl).trans (SS_ML _ _ _ _ _)), rfl, rfl⟩
        obtain ⟨t3, d0, d1, d2, d3⟩ := t3e
        rw [← d0] at j1
        have d4 : rd t3 1273 40 (nI n) = some r := by rw [rd_nI hn40 (by omega), d2, er]
        have hB2 : B_X12_sendAll_51 (nI w) (nI q) (nI w / 52) (nI n, t') = F_X12_sendAll_165 (nI w) (nI q) (nI w / 52) (nI n) t3 := by
          unfold B_X12_sendAll_51
          dsimp only
          rw [i2, if_neg h9, w2, bind_some, r4, bind_some, if_neg c1, r5, bind_some, if_neg c2, r6, bind_some, if_pos c3']
          unfold F_X12_sendAll_112
          rw [sN, j1, bind_some]
        have pp3 : ∀ k, k < n + 1 → s3.2.1 808 k = t3.2.1 1273 k := by
          intro k hk3
          by_cases e : k = n
          · rw [e, k4, d2, er]
          · rw [k3 k (by omega), d2, j2 k e]
            exact pp k hk3
        rcases hr with hr | ⟨j, hj, hr⟩
        · refine ⟨(nI (n + 1), s3), (nI (n + 1), t3), m - 1, ?_, ?_, by omega, n + 1, s3, t3, rfl, rfl, by omega, k2, d1, by rw [k5, d3]; exact hk2, pp3⟩
          · unfold B_X8_assign_47
            dsimp only
            rw [i1, if_neg h9, w1, bind_some, r1, bind_some, if_neg c1, r2, bind_some, if_neg c2, r3, bind_some, if_neg c3, g1', bind_some]
            dsimp only
            rw [k1, bind_some, k6, bind_some, if_pos hr, nI_1]
          · rw [hB2]
            unfold F_X12_sendAll_165
            rw [d4, bind_some, if_pos hr, nI_1]
        · have nr : ¬ r = -1 := by rw [hr]; exact nI_neg1 (by omega)
          have u1 : rd s3 809 20 r = some (t2.2.1 1274 j) := by rw [hr, rd_nI (by omega) (by omega), k5, hk2 j hj]
          have u2 : rd t3 1274 20 r = some (t2.2.1 1274 j) := by rw [hr, rd_nI (by omega) (by omega), d3]
          have u3 : wr s3 809 20 r (t2.2.1 1274 j - 1) = some (sA s3 809 j (t2.2.1 1274 j - 1)) := by rw [hr]; exact wr_nI (by omega) (by omega)
          have u4 : wr t3 1274 20 r (t2.2.1 1274 j - 1) = some (sA t3 1274 j (t2.2.1 1274 j - 1)) := by rw [hr]; exact wr_nI (by omega) (by omega)
          refine ⟨(nI (n + 1), sA s3 809 j (t2.2.1 1274 j - 1)), (nI (n + 1), sA t3 1274 j (t2.2.1 1274 j - 1)), m - 1, ?_, ?_, by omega, n + 1, _, _, rfl, rfl, by omega, k2.trans (SS_sA _ _ _ rfl), d1.trans (SS_sA _ _ _ rfl), ?_, pp3⟩
          · unfold B_X8_assign_47
            dsimp only
            rw [i1, if_neg h9, w1, bind_some, r1, bind_some, if_neg c1, r2, bind_some, if_neg c2, r3, bind_some, if_neg c3, g1', bind_some]
            dsimp only
            rw [k1, bind_some, k6, bind_some, if_neg nr, bind_some, u1, bind_some, u3, bind_some, nI_1]
          · rw [hB2]
            unfold F_X12_sendAll_165
            rw [d4, bind_some, if_neg nr, bind_some, u2, bind_some, u4, bind_some, nI_1]
          · intro k hk3
            rw [sA_at, sA_at, k5, d3]
            by_cases e : k = j
            · rw [e, upd_at, upd_at]
            · rw [upd_ne _ _ e, upd_ne _ _ e]
              exact hk2 k hk3) FU FU mm (0, s) (0, t) ⟨0, s, t, rfl, rfl, by omega, SS.refl s, SS.refl t, hU, fun k hk => absurd hk (by omega)⟩ (FU_lt (by omega)) (FU_lt (by omega))
  exact ⟨s', t', h1, h2, h3⟩
theorem send_all {N : Int} {s t : St} (h : RX N s t) (hN : N ≤ 4096) {w q : Nat} (hw : w ≤ 600) (hq : q ≤ 600) : ∃ s' t', F_X8_assign (nI w) (nI q) s = some s' ∧ F_X12_sendAll (nI w) (nI q) t = some t' ∧ SS s s' ∧ SS t t' ∧ (∀ k : Nat, (k : Int) < (t.1 1223).toInt → s'.2.1 809 k = t'.2.1 1274 k) ∧ ∀ k : Nat, (k : Int) < (t.1 1275).toInt → s'.2.1 808 k = t'.2.1 1273 k := by
  obtain ⟨nn, en, en2, _⟩ := i32_nat h.sch.2.1.1
  obtain ⟨mm, em, em2, _⟩ := i32_nat h.staff.2.1.1
  have hnn : nn ≤ 20 := by have := h.sch.2.1.2; omega
  have hmm : mm ≤ 40 := by have := h.staff.2.1.2; omega
  obtain ⟨s1, t1, a1, a2, a3, a4, a5⟩ := send_one h hN hw hq en hnn (nI w / 52)
  have hx := h.ss a3 a4
  obtain ⟨s2, t2, b1, b2, b3, b4, b5, b6⟩ := send_two hx hN (w := w) (q := q) (nn := nn) (mm := mm) (by rw [a4.i (k := 1223) rfl, en]) hnn (by rw [a4.i (k := 1275) rfl, em]) hmm a5
  refine ⟨s2, t2, ?_, ?_, a3.trans b3, a4.trans b4, fun k hk => b5 k (by omega), fun k hk => b6 k (by omega)⟩
  · unfold F_X8_assign F_X8_assign_8
    rw [a1, bind_some]
    unfold F_X8_assign_44 F_X8_assign_47
    rw [b1]
    rfl
  · unfold F_X12_sendAll F_X12_sendAll_2
    rw [a2, bind_some]
    unfold F_X12_sendAll_43 F_X12_sendAll_51
    rw [b2]
    rfl
theorem P_sent {N : Int} {s t : St} (h : RX N s t) (hN : N ≤ 4096) (a b c : Int32) : Two (RX (N + 1)) (F_X11_sent a b c s) (F_X12_sent a b c t) := by
  obtain ⟨n0, n1⟩ := h.now
  obtain ⟨y0, y1, _⟩ := h.staff
  unfold F_X11_sent F_X12_sent F_X11_isPast F_X12_isWeek F_X12_isKnowing
  rw [y0, n0]
  simp only [bind_some, bI_eq0]
  refine Two_ite (fun _ => Two_ret _ h.up) (fun c1 => ?_)
  refine Two_ite (fun _ => Two_ret _ h.up) (fun c2 => ?_)
  refine Two_ite (fun _ => Two_ret _ h.up) (fun c3 => ?_)
  obtain ⟨q1, q2⟩ := isN c1 y1
  have e0 : (0 : Int32).toInt = 0 := rfl
  obtain ⟨r2a, r2b⟩ := inb_R c2
  obtain ⟨r3a, r3b⟩ := inb_R c3
  have n2 := n1.2
  have y2 := y1.2
  obtain ⟨j, ej, ej2, _⟩ := i32_nat q1
  obtain ⟨w, ew, ew2, _⟩ := i32_nat (x := b) (by omega)
  obtain ⟨k, ek, ek2, _⟩ := i32_nat (x := c) (by omega)
  subst ej ew ek
  obtain ⟨s', t', a1, a2, a3, a4, a5, a6⟩ := send_all h hN (w := w) (q := k) (by omega) (by omega)
  rw [a1, a2, bind_some, bind_some, rd_nI (by omega) (by omega), rd_nI (by omega) (by omega), a6 j (by omega)]
  exact Two_ret _ (h.ss a3 a4).up
theorem P_teacherless {N : Int} {s t : St} (h : RX N s t) (hN : N ≤ 4096) (a b c : Int32) : Two (RX (N + 1)) (F_X11_teacherless a b c s) (F_X12_teacherless a b c t) := by
  obtain ⟨n0, n1⟩ := h.now
  obtain ⟨z0, z1, _⟩ := h.sch
  obtain ⟨nn, en, en2, _⟩ := i32_nat z1.1
  have hnn : nn ≤ 20 := by have := z1.2; omega
  have e0 : (0 : Int32).toInt = 0 := rfl
  have em : (-1 : Int32).toInt = -1 := rfl
  have e1 : (1 : Int32).toInt = 1 := rfl
  have hsub : (t.1 1223 - 1).toInt = (nn : Int) - 1 := by rw [i32_sub (by omega) (by omega), en2, e1]
  unfold F_X11_teacherless F_X12_teacherless F_X11_isSchoolOrAll F_X12_isSchool F_X11_isPast F_X12_isWeek F_X12_isKnowing
  rw [z0, n0]
  simp only [bind_some, bI_eq0]
  have key : ¬ inb b 0 (t.1 1200) = false → ¬ inb c 0 (t.1 1200) = false → ∃ s' t', F_X8_assign b c s = some s' ∧ F_X12_sendAll b c t = some t' ∧ SS s s' ∧ SS t t' ∧ ∀ k : Nat, k < nn → s'.2.1 809 k = t'.2.1 1274 k := by
    intro c2 c3
    obtain ⟨r2a, r2b⟩ := inb_R c2
    obtain ⟨r3a, r3b⟩ := inb_R c3
    have n2 := n1.2
    obtain ⟨w, ew, ew2, _⟩ := i32_nat (x := b) (by omega)
    obtain ⟨k, ek, ek2, _⟩ := i32_nat (x := c) (by omega)
    subst ew ek
    obtain ⟨s', t', a1, a2, a3, a4, a5, a6⟩ := send_all h hN (w := w) (q := k) (by omega) (by omega)
    exact ⟨s', t', a1, a2, a3, a4, fun k hk => a5 k (by omega)⟩
  by_cases c0 : a = -1
  · subst c0
    have g1 : ¬ inb (-1) (-1) (t.1 1223 - 1) = false := by
      rw [Bool.not_eq_false, inb_iff]
      exact ⟨by omega, by omega⟩
    rw [if_neg g1, if_pos rfl]
    refine Two_ite (fun _ => Two_ret _ h.up) (fun c2 => ?_)
    refine Two_ite (fun _ => Two_ret _ h.up) (fun c3 => ?_)
    obtain ⟨s', t', a1, a2, a3, a4, a5⟩ := key c2 c3
    rw [a1, a2, bind_some, bind_some, if_pos rfl]
    have i1 : s'.1 501 = nI nn := by rw [a3.i (k := 501) rfl, z0, en]
    have i2 : t'.1 1223 = nI nn := by rw [a4.i (k := 1223) rfl, en]
    unfold F_X8_allWithout F_X8_allWithout_4 F_X12_teacherless_43
    obtain ⟨x, y, b1, b2, rfl⟩ := lp_two (B := B_X8_allWithout_4 s') (B2 := B_X12_teacherless_43 (-1) t')
      (fun m X Z => ∃ (n : Nat) (v : Int32), X = (v, nI n) ∧ Z = (v, nI n) ∧ n + m = nn) (fun x y => x = y) (by
        rintro m _ _ ⟨n, v, rfl, rfl, hn⟩
        by_cases c : n = nn
        · right
          subst c
          refine ⟨v, v, ?_, ?_, rfl⟩
          · unfold B_X8_allWithout_4
            dsimp only
            rw [i1, if_pos (Int32.le_refl _)]
          · unfold B_X12_teacherless_43
            dsimp only
            rw [i2, if_pos (Int32.le_refl _)]
        · left
          have h9 : ¬ nI nn ≤ nI n := by
            rw [i32_le, nI_toInt (by omega), nI_toInt (by omega)]
            omega
          refine ⟨(v + t'.2.1 1274 n, nI (n + 1)), (v + t'.2.1 1274 n, nI (n + 1)), m - 1, ?_, ?_, by omega, n + 1, _, rfl, rfl, by omega⟩
          · unfold B_X8_allWithout_4
            dsimp only
            rw [i1, if_neg h9, rd_nI (by omega) (by omega), bind_some, a5 n (by omega), nI_1]
          · unfold B_X12_teacherless_43
            dsimp only
            rw [i2, if_neg h9, if_pos rfl, rd_nI (by omega) (by omega), bind_some, nI_1]) FU FU nn (0, 0) (0, 0) ⟨0, 0, rfl, rfl, by omega⟩ (FU_lt (by omega)) (FU_lt (by omega))
    rw [b1, b2]
    exact Two_ret x (h.ss a3 a4).up
  · rw [if_neg c0]
    by_cases c1 : inb a (-1) (t.1 1223 - 1) = false
    · have c1' : inb a 0 (t.1 1223 - 1) = false := by
        rw [inb_no] at c1 ⊢
        exact fun e => c1 ⟨by have := e.1; omega, e.2⟩
      rw [if_pos c1, if_pos c1']
      exact Two_ret _ h.up
    · have c1' : ¬ inb a 0 (t.1 1223 - 1) = false := by
        rw [inb_no]
        rw [Bool.not_eq_false, inb_iff] at c1
        refine fun e => e ⟨?_, c1.2⟩
        have := c1.1
        have n0 : ¬ a.toInt = -1 := fun e => c0 (Int32.toInt_inj.mp (e.trans em.symm))
        omega
      rw [if_neg c1, if_neg c1']
      refine Two_ite (fun _ => Two_ret _ h.up) (fun c2 => ?_)
      refine Two_ite (fun _ => Two_ret _ h.up) (fun c3 => ?_)
      obtain ⟨s', t', a1, a2, a3, a4, a5⟩ := key c2 c3
      obtain ⟨r1a, r1b⟩ := inb_R c1'
      obtain ⟨j, ej, ej2, _⟩ := i32_nat (x := a) (by omega)
      subst ej
      have hj : j < nn := by omega
      rw [a1, a2, bind_some, bind_some, if_neg c0, rd_nI (by omega) (by omega), bind_some]
      have i2 : t'.1 1223 = nI nn := by rw [a4.i (k := 1223) rfl, en]
      unfold F_X12_teacherless_43
      have hl : lp (B_X12_teacherless_43 (nI j) t') FU (0, 0) = some (t'.2.1 1274 j) := by
        refine lp_cnt (fun m => (if j < m then t'.2.1 1274 j else 0, nI m)) nn rfl ?_ ?_ (FU_lt (by omega))
        · intro m hm
          have h9 : ¬ nI nn ≤ nI m := by
            rw [i32_le, nI_toInt (by omega), nI_toInt (by omega)]
            omega
          unfold B_X12_teacherless_43
          dsimp only
          rw [i2, if_neg h9, if_neg c0]
          by_cases e : m = j
          · subst e
            rw [if_pos rfl, rd_nI (by omega) (by omega), bind_some, if_neg (by omega), if_pos (by omega), Int32.zero_add, nI_1]
          · have e' : ¬ nI j = nI m := fun z => e ((nI_eq (by omega) (by omega)).mp z).symm
            rw [if_neg e', Int32.add_zero, nI_1]
            by_cases e2 : j < m
            · rw [if_pos e2, if_pos (by omega)]
            · rw [if_neg e2, if_neg (by omega)]
        · unfold B_X12_teacherless_43
          dsimp only
          rw [i2, if_pos (Int32.le_refl _), if_pos hj]
      rw [hl, a5 j hj]
      exact Two_ret _ (h.ss a3 a4).up
