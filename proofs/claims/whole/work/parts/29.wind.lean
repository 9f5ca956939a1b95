/-! wind -/
theorem blow_step {N : Int} {s t : St} (h : RX N s t) {k r : Nat} (hk : k < 20) (hk2 : (k : Int) < (t.1 1223).toInt) (h1 : s.2.1 402 k = 1) (hr : (r : Int) < (t.1 1287).toInt) (h3 : t.2.1 1286 k = nI r) (h4 : s.2.1 404 k = t.2.1 1282 r) (h7 : t.2.1 1285 r = 0) (h8 : ∀ i : Nat, i < 20 → (i : Int) < (t.1 1223).toInt → t.2.1 1286 i = nI r → i = k) : RX N (sA (sA s 402 k 0) 407 (t.2.1 1282 r).toInt.toNat (s.2.1 407 (t.2.1 1282 r).toInt.toNat + 1)) (sA (sA t 1285 r 1) 1286 k (-1)) := by
  obtain ⟨r0, r1, r2, r3, r4, r5, r6, r9, r7, r8⟩ := h.roof
  obtain ⟨y0, y1⟩ := r2
  obtain ⟨n, en, en2, _⟩ := i32_nat y0
  have en3 : (t.1 1287).toInt.toNat = n := by omega
  have hn : n ≤ 60 := by omega
  have hrn : r < n := by omega
  obtain ⟨k1, k2, k3⟩ := r7 r (by omega)
  obtain ⟨m, em, em2, _⟩ := i32_nat k3.1
  have hm : m < 8 := by have := k3.2; omega
  have em3 : (t.2.1 1282 r).toInt.toNat = m := by omega
  rw [en3] at r5
  refine ⟨h.now, h.folk, h.cnt, h.rec, h.trt, h.sch, h.blt, h.shut, h.tape, h.yard, h.prom, h.given, h.staff, ?_, h.site, h.purse, h.land, h.law, h.ref, h.row⟩
  refine ⟨r0, r1, ⟨y0, y1⟩, r3, r4, ?_, ?_, ?_, ?_, ?_⟩
  · intro j hj
    obtain ⟨w1, w2⟩ := r5 j hj
    obtain ⟨v1, v2⟩ := r5 m hm
    simp only [pI_1, pI_2, pA_1, pA_21, pA_22, sA_1, sA_21, pk_us, upd_n, va_up_s, va_up_n, Nat.reduceBEq, en3, em3]
    refine ⟨w1, ?_⟩
    rw [cnT_take h7 hrn, em]
    unfold upd
    have hci : nI m = nI j ↔ m = j := nI_eq (by omega) (by omega)
    by_cases e : j = m
    · subst e
      simp only [if_true]
      rw [v2, nI_1]
    · have e2 : ¬ nI m = nI j := fun z => e (hci.mp z).symm
      simp only [e, e2, if_false]
      rw [w2, Nat.add_zero]
  · intro j hj hge
    simp only [pI_1, pI_2, pA_1, pA_21, pA_22, sA_1, sA_21, pk_us, upd_n, va_up_s, va_up_n, Nat.reduceBEq]
    unfold upd
    split
    · rfl
    · exact r6 j hj hge
  · intro i hi hge
    have hge2 : (t.1 1287).toInt ≤ (i : Int) := hge
    simp only [pI_1, pI_2, pA_1, pA_21, pA_22, sA_1, sA_21, pk_us, upd_n, va_up_s, va_up_n, Nat.reduceBEq]
    unfold upd
    rw [if_neg (by omega)]
    exact r9 i hi hge
  · intro i hi
    obtain ⟨p1, p2, p3⟩ := r7 i hi
    simp only [pI_1, pI_2, pA_1, pA_21, pA_22, sA_1, sA_21, pk_us, upd_n, va_up_s, va_up_n, Nat.reduceBEq]
    refine ⟨p1, ?_, p3⟩
    unfold upd
    split
    · exact ⟨by decide, by decide⟩
    · exact p2
  · intro i hi hlt
    have hlt2 : (i : Int) < (t.1 1223).toInt := hlt
    simp only [pI_1, pI_2, pA_1, pA_21, pA_22, sA_1, sA_21, pk_us, upd_n, va_up_s, va_up_n, Nat.reduceBEq]
    by_cases e : i = k
    · subst e
      left
      exact ⟨by simp [upd], by simp [upd]⟩
    · rcases r8 i hi hlt2 with ⟨p1, p2⟩ | ⟨p1, q, p2, p3, p4, p5, p6, p7, p8⟩
      · left
        exact ⟨by simp [upd, e, p1], by simp [upd, e, p2]⟩
      · right
        have e4 : ¬ q = r := by intro z; subst z; exact e (h8 i hi hlt2 p3)
        refine ⟨by simp [upd, e, p1], q, p2, by simp [upd, e, p3], p4, p5, p6, by simp [upd, e4, p7], ?_⟩
        intro j hj hjlt hu
        unfold upd at hu
        by_cases e3 : j = k
        · rw [if_pos e3] at hu
          exact absurd hu.symm (nI_neg1 (by omega))
        · rw [if_neg e3] at hu
          exact p8 j hj hjlt hu
theorem P_wind {N : Int} {s t : St} (h : RX N s t) (a b : Int32) : Two (RX (N + 1)) (F_X11_wind a b s) (F_X12_wind a b t) := by
  obtain ⟨r0, r1, r2, r3, r4, r5, r6, r9, r7, r8⟩ := h.roof
  unfold F_X11_wind F_X12_wind
  refine Two_ite (fun _ => Two_ret _ h.up) (fun c1 => Two_ite (fun _ => Two_ret _ h.up) (fun c2 => ?_))
  unfold F_X4_blow
  rw [r3]
  by_cases hc : t.1 1288 = 60
  · rw [if_pos hc, if_neg (by rw [hc]; decide)]
    exact Two_ret _ h.up
  · have hl : (t.1 1288).toInt < 60 := ne_lt (m := 60) r4.2 hc
    rw [if_neg hc, if_pos (i32_lt.mpr hl)]
    simp only [wI_ok, bind_some]
    have h1 : RX (N + 1) (pI s 409 (t.1 1288 + 1)) (pI t 1288 (t.1 1288 + 1)) := ⟨h.now, h.folk, h.cnt, h.rec, h.trt, h.sch, h.blt, ⟨⟨h.shut.1.1, Int.le_trans h.shut.1.2 (by omega)⟩, h.shut.2⟩, h.tape, h.yard, h.prom, h.given, h.staff, ⟨r0, r1, r2, by simp only [pI_1, pI_2, pA_1, pA_21, pA_22, sA_1, sA_21, pk_us, upd_n, va_up_s, va_up_n, Nat.reduceBEq], by simp only [pI_1, pI_2, pA_1, pA_21, pA_22, sA_1, sA_21, pk_us, upd_n, va_up_s, va_up_n, Nat.reduceBEq]; exact inR_inc r4 hl (by decide), r5, r6, r9, r7, r8⟩, h.site, h.purse, h.land, h.law, h.ref, h.row⟩
    have z0 := h.sch.2.1
    obtain ⟨n, en, en2, _⟩ := i32_nat z0.1
    have hn : n ≤ 20 := by have := z0.2; omega
    unfold F_X4_blow_27 F_X12_wind_44
    obtain ⟨y, w, g1, g2, g3, g4⟩ := lp_two (B := B_X4_blow_27 a b (s.1 1100)) (B2 := B_X12_wind_44 a b)
      (fun q x z => ∃ k : Nat, k ≤ n ∧ q = n - k ∧ x.1 = z.1 ∧ x.2.1 = nI k ∧ z.2.1 = nI k ∧ RX (N + 1) x.2.2 z.2.2 ∧ z.2.2.1 1223 = t.1 1223 ∧ z.2.2.1 1200 = t.1 1200)
      (fun y w => y.1 = w.1 ∧ RX (N + 1) y.2 w.2) (by
        rintro q ⟨v, v', s'⟩ ⟨z1, z2, t'⟩ ⟨k, g1, g2, g3, g4, g5, g6, g7, g8⟩
        dsimp only at g3 g4 g5 g6 g7 g8
        subst g3 g4 g5
        have x0 := g6.sch.1
        by_cases hk : k = n
        · right
          subst hk
          refine ⟨(v, s'), (v, t'), ?_, ?_, rfl, g6⟩
          · simp (disch := omega) only [B_X4_blow_27, x0, g7, en, nI_leI, Nat.le_refl, if_true]
          · simp (disch := omega) only [B_X12_wind_44, g7, en, nI_leI, Nat.le_refl, if_true]
        · left
          have hkn : k < n := by omega
          have c3 : ¬ n ≤ k := by omega
          have hk20 : k < 20 := by omega
          have hsh := g6.sch.2.2.2.1
          have hnow : s.1 1100 = t.1 1200 := h.now.1
          obtain ⟨u0, u1, u2, u3, u4, u5, u6, u9, u7, u8⟩ := g6.roof
          rcases u8 k hk20 (by rw [g7]; omega) with ⟨p1, p2⟩ | ⟨p1, r, p2, p3, p4, p5, p6, p7, p8⟩
          · refine ⟨(v, nI (k + 1), s'), (v, nI (k + 1), t'), n - (k + 1), ?_, ?_, by omega, k + 1, by omega, rfl, rfl, rfl, rfl, g6, g7, g8⟩
            · simp (disch := omega) only [B_X4_blow_27, x0, g7, en, nI_leI, c3, if_false, rd_nI, bind_some, p1, if_true, nI_1]
            · simp (disch := omega) only [B_X12_wind_44, g7, en, nI_leI, c3, if_false, rd_nI, bind_some, p2, if_true, nI_1]
              split <;> rfl
          · have hr60 : r < 60 := by have := u2.2; omega
            obtain ⟨k1, k2, k3⟩ := u7 r hr60
            have e10 : ¬ (1 : Int32) = 0 := by decide
            have hst : F_X4_strengthOf (nI k) (s.1 1100) s' = some (t'.2.1 1281 (t'.2.1 1283 r).toInt.toNat - ((t'.1 1200 - t'.2.1 1284 r) / 26)) := by
              unfold F_X4_strengthOf
              have k1a := k1.1
              have k1b := k1.2
              simp (disch := omega) only [rd_nI, rd_ok, bind_some, p4, p6, u0, hnow, g8]
            by_cases c4 : t'.2.1 1215 k = a
            · by_cases c5 : b ≤ (t'.2.1 1281 (t'.2.1 1283 r).toInt.toNat - ((t'.1 1200 - t'.2.1 1284 r) / 26))
              · refine ⟨(v, nI (k + 1), s'), (v, nI (k + 1), t'), n - (k + 1), ?_, ?_, by omega, k + 1, by omega, rfl, rfl, rfl, rfl, g6, g7, g8⟩
                · simp (disch := omega) only [B_X4_blow_27, x0, g7, en, nI_leI, c3, if_false, rd_nI, bind_some, p1, e10, hsh, c4, if_true, hst, c5, nI_1]
                · have k1a := k1.1
                  have k1b := k1.2
                  simp (disch := omega) only [B_X12_wind_44, g7, en, nI_leI, c3, if_false, rd_nI, rd_ok, bind_some, p3, c4, nI_neg1, if_true, c5, nI_1]
              · have hb := blow_step g6 hk20 (by rw [g7]; omega) p1 p2 p3 p5 p7 p8
                obtain ⟨m, em, em2, _⟩ := i32_nat k3.1
                have hm8 : m < 8 := by have := k3.2; omega
                have em3 : (t'.2.1 1282 r).toInt.toNat = m := by omega
                refine ⟨(v + 1, nI (k + 1), sA (sA s' 402 k 0) 407 (t'.2.1 1282 r).toInt.toNat (s'.2.1 407 (t'.2.1 1282 r).toInt.toNat + 1)), (v + 1, nI (k + 1), sA (sA t' 1285 r 1) 1286 k (-1)), n - (k + 1), ?_, ?_, by omega, k + 1, by omega, rfl, rfl, rfl, rfl, hb, g7, g8⟩
                · rw [em3]
                  simp (disch := omega) only [B_X4_blow_27, x0, g7, en, nI_leI, c3, if_false, rd_nI, bind_some, p1, e10, hsh, c4, if_true, hst, c5, wr_nI, nI_1]
                  simp only [sA_21, va_up_n, Nat.reduceBEq, p5, em]
                  simp (disch := omega) only [rd_nI, wr_nI, bind_some]
                  simp only [sA_21, va_up_n, Nat.reduceBEq]
                · have k1a := k1.1
                  have k1b := k1.2
                  simp (disch := omega) only [B_X12_wind_44, g7, en, nI_leI, c3, if_false, rd_nI, rd_ok, bind_some, p3, c4, nI_neg1, if_true, c5, wr_nI, nI_1]
            · refine ⟨(v, nI (k + 1), s'), (v, nI (k + 1), t'), n - (k + 1), ?_, ?_, by omega, k + 1, by omega, rfl, rfl, rfl, rfl, g6, g7, g8⟩
              · simp (disch := omega) only [B_X4_blow_27, x0, g7, en, nI_leI, c3, if_false, rd_nI, bind_some, p1, e10, hsh, c4, nI_1]
              · simp (disch := omega) only [B_X12_wind_44, g7, en, nI_leI, c3, if_false, rd_nI, bind_some, p3, c4, nI_1]) FU FU n (0, 0, pI s 409 (t.1 1288 + 1)) (0, 0, pI t 1288 (t.1 1288 + 1)) ⟨0, by omega, rfl, rfl, rfl, rfl, h1, rfl, rfl⟩ (FU_lt (by omega)) (FU_lt (by omega))
    have en0 : (pI s 409 (t.1 1288 + 1)).1 1100 = s.1 1100 := rfl
    rw [g1, g2]
    simp only [bind_some, F_X4_blow_107, F_X12_wind_136]
    rw [g3]
    exact Two_ret _ g4
