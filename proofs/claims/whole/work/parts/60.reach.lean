/-! the survey whole; reach -/
def SVF (s0 t0 : St) (e : Nat) (y q : Int32) (nn V : Nat) (s' t' : St) : Prop := (∀ k, k < nn → s'.2.1 607 k = t'.2.1 1246 k) ∧ (∀ i, i < V → s'.2.1 606 i = chi t0 i y q ∧ t'.2.1 1247 i = chi t0 i y q) ∧ ∀ i, i < V → ∀ k, k < nn → s'.2.1 604 (20 * i + k) = wayV s0 t0 e y q i k ∧ t'.2.1 1249 (20 * i + k) = bI (decide (¬ wayV s0 t0 e y q i k = -1)) ∧ (¬ wayV s0 t0 e y q i k = -1 → t'.2.1 1248 (20 * i + k) = wayV s0 t0 e y q i k)
theorem surv_two {N : Int} {s t s0 t0 : St} (h : RX N s t) (hB : BS s0 t0 s t) {e w q nn V : Nat} (he : e = 0 ∨ e = 1) (hw : w ≤ 600) (ew : t.2.1 1202 w = nI e) (en : t.1 1223 = nI nn) (hnn : nn ≤ 20) (eV : t.1 1212 = nI V) (hV : V ≤ 24) (h7 : ∀ k, k < nn → s.2.1 607 k = t.2.1 1246 k) (h8 : ∀ k, k < nn → s.2.1 608 k = bI (decide (¬ wq s0 t0 6 (t0.2.1 1215 k) (nI w / 52) (nI q) 0 0 0 0 = 0))) : ∃ s' t', lp (B_X6_survey_107 (nI w) (nI q) (nI w / 52)) 25 (0, s) = some s' ∧ lp (B_X12_gather_31 (nI w) (nI q)) FU (0, t) = some t' ∧ RX N s' t' ∧ BS s0 t0 s' t' ∧ SVF s0 t0 e (nI w / 52) (nI q) nn V s' t' := by
  generalize hy : nI w / 52 = y at h8 ⊢
  obtain ⟨s', t', h1, h2, h3⟩ := lp_two (B := B_X6_survey_107 (nI w) (nI q) y) (B2 := B_X12_gather_31 (nI w) (nI q))
    (fun m X Z => ∃ (n : Nat) (s' t' : St), X = (nI n, s') ∧ Z = (nI n, t') ∧ n + m = V ∧ RX N s' t' ∧ BS s0 t0 s' t' ∧ SS t t' ∧ SVF s0 t0 e y (nI q) nn n s' t' ∧ ∀ k, k < nn → s'.2.1 608 k = bI (decide (¬ wq s0 t0 6 (t0.2.1 1215 k) y (nI q) 0 0 0 0 = 0)))
    (fun s' t' => RX N s' t' ∧ BS s0 t0 s' t' ∧ SVF s0 t0 e y (nI q) nn V s' t') (by
      rintro m _ _ ⟨n, s', t', rfl, rfl, hn, hR, hb, hs, ⟨v1, v2, v3⟩, k8⟩
      have i2 : t'.1 1212 = nI V := by rw [hs.i (k := 1212) rfl, eV]
      have i1 : s'.1 101 = nI V := by rw [hR.folk.1, i2]
      by_cases c : n = V
      · right
        subst c
        refine ⟨s', t', ?_, ?_, hR, hb, v1, v2, v3⟩
        · unfold B_X6_survey_107
          dsimp only
          rw [i1, if_pos (Int32.le_refl _)]
        · unfold B_X12_gather_31
          dsimp only
          rw [i2, if_pos (Int32.le_refl _)]
      · left
        have h9 : ¬ nI V ≤ nI n := by
          rw [i32_le, nI_toInt (by omega), nI_toInt (by omega)]
          omega
        have hn24 : n < 24 := by omega
        -- children
        have cC := C_childrenOf hR.cnt (nI n) y (nI q)
        have cM := M_children hR.cnt.2.1 (nI n) y (nI q)
        have ch : cgirls t' (nI n) y (nI q) + cboys t' (nI n) y (nI q) = chi t0 n y (nI q) := chi_ss hb.1 n y (nI q)
        rw [ch] at cC cM
        have s1e : ∃ s1, wr s' 606 24 (nI n) (chi t0 n y (nI q)) = some s1 ∧ SS s' s1 ∧ s1.2.1 606 = upd (s'.2.1 606) n (chi t0 n y (nI q)) ∧ s1.2.1 604 = s'.2.1 604 ∧ s1.2.1 607 = s'.2.1 607 ∧ s1.2.1 608 = s'.2.1 608 := ⟨_, wr_nI hn24 (by omega), SS_sA _ _ _ rfl, sA_at _ _ _ _, rfl, rfl, rfl⟩
        obtain ⟨s1, a1, a2, a3, a4, a5, a6⟩ := s1e
        have t1e : ∃ t1, wr t' 1247 24 (nI n) (chi t0 n y (nI q)) = some t1 ∧ SS t' t1 ∧ t1.2.1 1247 = upd (t'.2.1 1247) n (chi t0 n y (nI q)) ∧ t1.2.1 1246 = t'.2.1 1246 ∧ t1.2.1 1248 = t'.2.1 1248 ∧ t1.2.1 1249 = t'.2.1 1249 := ⟨_, wr_nI hn24 (by omega), SS_sA _ _ _ rfl, sA_at _ _ _ _, rfl, rfl, rfl⟩
        obtain ⟨t1, b1, b2, b3, b4, b5, b6⟩ := t1e
        have hR1 : RX N s1 t1 := hR.ss a2 b2
        have hb1 : BS s0 t0 s1 t1 := hb.trans (BS.ss hR a2 b2)
        have hs1 : SS t t1 := hs.trans b2
        -- the class's limit and row
        obtain ⟨l, f, x, _, _, _, _, g1, _⟩ := limit_two hR1 hn24 (nI w) (nI q)
        rw [hy, lmt_bs hb1] at g1
        obtain ⟨f0, f1, f2, f3, f4, f5, f6, f7⟩ := hR1.folk
        obtain ⟨b, eb, eb2, _⟩ := i32_nat (f5 n).1
        have hb120 : b < 120 := by have := (f5 n).2; omega
        have eb3 : (t1.2.1 1204 n).toInt.toNat = b := by omega
        have hRc : RX N (CL s1 l f x) t1 := hR1.ss (SS_CL _ _ _ _) (SS.refl _)
        have k1 : rd (CL s1 l f x) 102 24 (nI n) = some (nI b) := by
          rw [rd_nI hn24 (by omega), ← eb, ← f2]
          rfl
        have k2 : F_X2_isWet (nI w) (CL s1 l f x) = some (nI e) := by
          rw [C_isWet hRc hw, hs1.a (k := 1202) rfl, ew]
        obtain ⟨a, s2, fr, r1, r2, r3, r4, r5⟩ := C_rowFrom hRc he hb120 (Fw_ok hR1 he hb120)
        have hb2 : BS s0 t0 s2 t1 := (hb1.trans (BS.ss hR1 (SS_CL _ _ _ _) (SS.refl _))).trans (BS.rw r5)
        have n1 : t1.1 1223 = nI nn := by rw [hs1.i (k := 1223) rfl, en]
        have c8 : ∀ k, k < nn → s2.2.1 608 k = bI (decide (¬ wq s0 t0 6 (t0.2.1 1215 k) y (nI q) 0 0 0 0 = 0)) := by
          intro k hk
          rw [r5.2.1 608 (by omega)]
          show s1.2.1 608 k = _
          rw [a6]
          exact k8 k hk
        obtain ⟨W, u1, u2, u3⟩ := C_measure r2 hb2 he (y := y) (q := nI q) n1 hnn hn24 r3 (by rw [eb3]; exact r4) c8
        -- the reference
        obtain ⟨D, d1, d2⟩ := M_far2 hR1 he hb120
        have hRd : RX N s2 (setA t1 1203 D) := r2.ss (SS.refl _) (SS_setA _ (k := 1203) D rfl)
        have hR1d : RX N s1 (setA t1 1203 D) := hR1.ss (SS.refl _) (SS_setA _ (k := 1203) D rfl)
        obtain ⟨_, _, _, l2, g, p, v, _, g2⟩ := limit_two hR1d hn24 (nI w) (nI q)
        have hb1d : BS s0 t0 s1 (setA t1 1203 D) := hb1.trans (BS.ss hR1 (SS.refl _) (SS_setA _ (k := 1203) D rfl))
        rw [hy, lmt_bs hb1d] at g2
        have hR8 : RX N s2 (ML (setA t1 1203 D) l2 g p v) := hRd.ss (SS.refl _) (SS_ML _ _ _ _ _)
        have hb8 : BS s0 t0 s2 (ML (setA t1 1203 D) l2 g p v) := hb2.trans ((BS.ss r2 (SS.refl _) (SS_setA _ (k := 1203) D rfl)).trans (BS.ss hRd (SS.refl _) (SS_ML _ _ _ _ _)))
        have ss8 : SS t1 (ML (setA t1 1203 D) l2 g p v) := (SS_setA _ (k := 1203) D rfl).trans (SS_ML _ _ _ _ _)
        have e8a : (ML (setA t1 1203 D) l2 g p v).2.1 1203 = D := rfl
        have e8b : (ML (setA t1 1203 D) l2 g p v).2.1 1246 = t'.2.1 1246 := b4
        have e8c : (ML (setA t1 1203 D) l2 g p v).2.1 1247 = t1.2.1 1247 := rfl
        have e8d : (ML (setA t1 1203 D) l2 g p v).2.1 1248 = t'.2.1 1248 := b5
        have e8e : (ML (setA t1 1203 D) l2 g p v).2.1 1249 = t'.2.1 1249 := b6
        generalize ML (setA t1 1203 D) l2 g p v = t8 at *
        obtain ⟨t9, w1, w2, w3, w4, w5, w6⟩ := M_measure hR8 hb8 he (nI w) (nI q) (nn := nn) (i := n) (by rw [ss8.i (k := 1223) rfl, n1]) hnn hn24 (fun c hc => by
          rw [e8a, Fw_ss ss8, ss8.a (k := 1204) rfl, eb3]
          exact d2 c hc)
        rw [hy] at w1 w5
        have hRf : RX N (setA s2 604 W) t9 := hR8.ss (SS_setA _ (k := 604) W rfl) w2
        have hbf : BS s0 t0 (setA s2 604 W) t9 := hb8.trans (BS.ss hR8 (SS_setA _ (k := 604) W rfl) w2)
        have m1 : rd t1 1204 24 (nI n) = some (nI b) := by rw [rd_nI hn24 (by omega), eb]
        have m2 : rd t1 1202 601 (nI w) = some (nI e) := by rw [rd_nI (by omega) (by omega), hs1.a (k := 1202) rfl, ew]
        have hM : B_X12_gather_31 (nI w) (nI q) (nI n, t') = some (.inl (nI (n + 1), t9)) := by
          have fin : F_X12_gather_91 (nI w) (nI q) (nI n) (lmt s0 t0 n y (nI q)) 0 t8 = some (.inl (nI (n + 1), t9)) := by
            unfold F_X12_gather_91
            rw [w1, bind_some]
            unfold F_X12_gather_180
            rw [nI_1]
          unfold B_X12_gather_31
          dsimp only
          rw [i2, if_neg h9, hy, cM, bind_some, b1, bind_some, m1, bind_some, m2, bind_some]
          rcases he with rfl | rfl
          · rw [show nI 0 = (0 : Int32) from rfl] at d1 ⊢
            rw [if_pos rfl, d1, bind_some, g2, bind_some]
            exact fin
          · rw [show nI 1 = (1 : Int32) from rfl] at d1 ⊢
            rw [if_neg (show ¬ (1 : Int32) = 0 by decide), d1, bind_some, g2, bind_some]
            exact fin
        have x607 : (setA s2 604 W).2.1 607 = s'.2.1 607 := by
          show s2.2.1 607 = _
          rw [r5.2.1 607 (by omega)]
          exact a5
        have x606 : (setA s2 604 W).2.1 606 = upd (s'.2.1 606) n (chi t0 n y (nI q)) := by
          show s2.2.1 606 = _
          rw [r5.2.1 606 (by omega)]
          exact a3
        have x604 : (setA s2 604 W).2.1 604 = W := rfl
        have y604 : s2.2.1 604 = s'.2.1 604 := by
          rw [r5.2.1 604 (by omega)]
          exact a4
        refine ⟨(nI (n + 1), setA s2 604 W), (nI (n + 1), t9), m - 1, ?_, hM, by omega, n + 1, _, _, rfl, rfl, by omega, hRf, hbf, hs1.trans (ss8.trans w2), ⟨fun k hk => ?_, fun i hi => ?_, fun i hi k hk => ?_⟩, fun k hk => c8 k hk⟩
        · unfold B_X6_survey_107
          dsimp only
          rw [i1, if_neg h9, cC, bind_some, a1, bind_some, g1, bind_some]
          dsimp only
          rw [k1, bind_some, k2, bind_some, r1, bind_some]
          dsimp only
          rw [u1, bind_some, nI_1]
        · rw [x607, w3, e8b]
          exact v1 k hk
        · rw [x606, w4, e8c, b3]
          by_cases e2 : i = n
          · rw [e2, upd_at, upd_at]
            exact ⟨rfl, rfl⟩
          · rw [upd_ne _ _ e2, upd_ne _ _ e2]
            exact v2 i (by omega)
        · rw [x604]
          by_cases e2 : i = n
          · subst e2
            exact ⟨u2 k hk, (w5 k hk).1, (w5 k hk).2⟩
          · have hlt : 20 * i + k < 20 * n ∨ 20 * n + 20 ≤ 20 * i + k := by omega
            rw [u3 _ hlt, y604, (w6 _ hlt).1, (w6 _ hlt).2, e8d, e8e]
            exact v3 i (by omega) k hk) 25 FU V (0, s) (0, t) ⟨0, s, t, rfl, rfl, by omega, h, hB, SS.refl t, ⟨h7, fun i hi => absurd hi (by omega), fun i hi => absurd hi (by omega)⟩, h8⟩ (by omega) (FU_lt (by omega))
  exact ⟨s', t', h1, h2, h3⟩
theorem surv_all {N : Int} {s t : St} (h : RX N s t) (hN : N ≤ 4096) {w q nn V e : Nat} (hw : w ≤ 600) (hq : q ≤ 600) (en : t.1 1223 = nI nn) (hnn : nn ≤ 20) (eV : t.1 1212 = nI V) (hV : V ≤ 24) (he : e = 0 ∨ e = 1) (ew : t.2.1 1202 w = nI e) : ∃ s' t', F_X6_survey (nI w) (nI q) s = some s' ∧ F_X12_gather (nI w) (nI q) t = some t' ∧ RX N s' t' ∧ BS s t s' t' ∧ SVF s t e (nI w / 52) (nI q) nn V s' t' := by
  obtain ⟨s1, t1, a1, a2, a3, a4, a5, a6⟩ := surv_one h hN hw hq en hnn
  have h1 := h.ss a3 a4
  obtain ⟨s2, t2, b1, b2, b3, b4, b5⟩ := surv_two h1 (BS.ss h a3 a4) he hw (by rw [a4.a (k := 1202) rfl, ew]) (by rw [a4.i (k := 1223) rfl, en]) hnn (by rw [a4.i (k := 1212) rfl, eV]) hV a5 a6
  refine ⟨s2, t2, ?_, ?_, b3, b4, b5⟩
  · unfold F_X6_survey F_X6_survey_8
    rw [a1, bind_some]
    unfold F_X6_survey_104 F_X6_survey_107
    rw [b1]
    rfl
  · unfold F_X12_gather F_X12_gather_2
    rw [a2, bind_some]
    unfold F_X12_gather_29 F_X12_gather_31
    rw [b2]
    rfl
/-- the sizes -/
theorem sizes {N : Int} {s t : St} (h : RX N s t) : ∃ nn V : Nat, nn ≤ 20 ∧ V ≤ 24 ∧ t.1 1223 = nI nn ∧ t.1 1212 = nI V ∧ s.1 501 = nI nn ∧ s.1 101 = nI V ∧ (t.1 1223).toInt = nn ∧ (t.1 1212).toInt = V := by
  obtain ⟨nn, en, en2, _⟩ := i32_nat h.sch.2.1.1
  obtain ⟨V, eV, eV2, _⟩ := i32_nat h.folk.2.1.1
  exact ⟨nn, V, by have := h.sch.2.1.2; omega, by have := h.folk.2.1.2; omega, en, eV, by rw [h.sch.1, en], by rw [h.folk.1, eV], en2, eV2⟩
theorem M_reaches {N : Int} {s t : St} (h : RX N s t) {i j w e : Nat} (hi : i < 24) (hj : j < 20) (hw : w ≤ 600) (he : e = 0 ∨ e = 1) (ew : t.2.1 1202 w = nI e) (q : Int32) : ∃ t', F_X12_reaches (nI i) (nI j) (nI w) q t = some (bI (decide (¬ wayV s t e (nI w / 52) q i j = -1)), t') ∧ SS t t' := by
  obtain ⟨z0, z1, z2, z3, z4, z5, z6, z7, z8, z9, z10, z11, z12, z13, z14, z15⟩ := h.sch
  obtain ⟨f0, f1, f2, f3, f4, f5, f6, f7⟩ := h.folk
  obtain ⟨b, eb, eb2, _⟩ := i32_nat (f5 i).1
  have hb120 : b < 120 := by have := (f5 i).2; omega
  have eb3 : (t.2.1 1204 i).toInt.toNat = b := by omega
  obtain ⟨cc, ec, ec2, _⟩ := i32_nat (z9 j).1
  have hcc : cc < 120 := by have := (z9 j).2; omega
  have ec3 : (t.2.1 1214 j).toInt.toNat = cc := by omega
  obtain ⟨D, d1, d2⟩ := M_far2 h he hb120
  have hF := Fw_ok h he hb120
  have m1 : rd t 1214 20 (nI j) = some (nI cc) := by rw [rd_nI hj (by omega), ec]
  have m2 : rd t 1204 24 (nI i) = some (nI b) := by rw [rd_nI hi (by omega), eb]
  have m3 : rd t 1202 601 (nI w) = some (nI e) := by rw [rd_nI (by omega) (by omega), ew]
  generalize hr : (if wN (Fw t e b) 1000000 cc < 1000000 then wN (Fw t e b) 1000000 cc else (-1 : Int32)) = r
  have m4 : F_X12_walkIn (nI i) (nI cc) (nI w) t = some (r, setA t 1203 D) := by
    have hO : F_X12_walkOf (nI b) (nI cc) (nI e) t = some (r, setA t 1203 D) := by
      unfold F_X12_walkOf
      rw [d1, bind_some, M_walkedTo t D hcc, bind_some, d2 cc hcc, hr]
    unfold F_X12_walkIn
    rw [m2, bind_some, m3, bind_some]
    rcases he with rfl | rfl
    · rw [show nI 0 = (0 : Int32) from rfl] at hO ⊢
      rw [if_pos rfl, hO, bind_some]
    · rw [show nI 1 = (1 : Int32) from rfl] at hO ⊢
      rw [if_neg (show ¬ (1 : Int32) = 0 by decide), hO, bind_some]
  have hS := SS_setA t (k := 1203) D rfl
  have hR1 := h.ss (SS.refl s) hS
  have hb1 := BS.ss h (SS.refl s) hS
  obtain ⟨_, _, _, l2, g, p, v, _, g2⟩ := limit_two hR1 hi (nI w) q
  rw [lmt_bs hb1] at g2
  have hS2 : SS t (ML (setA t 1203 D) l2 g p v) := hS.trans (SS_ML _ _ _ _ _)
  have hR2 := h.ss (SS.refl s) hS2
  have hb2 := BS.ss h (SS.refl s) hS2
  obtain ⟨l3, g3, p3, v3, g4⟩ := M_tongue hR2 hi hj (nI w) q
  rw [spk_bs hb2] at g4
  have hway : wayV s t e (nI w / 52) q i j = if (100000000 : Int32) ≤ wN (Fw t e b) 100000000 cc then -1 else if lmt s t i (nI w / 52) q < wN (Fw t e b) 100000000 cc then -1 else if spk s t i j (nI w / 52) q = true then wN (Fw t e b) 100000000 cc else -1 := by
    unfold wayV
    rw [eb3, ec3]
  unfold F_X12_reaches
  rw [m1, bind_some, m4, bind_some, hway]
  dsimp only
  rcases near_cases (F := Fw t e b) (c := cc) (hF.2 cc hcc) with ⟨q1, q2⟩ | ⟨x, x1, q1, q2, q3, q4⟩
  · rw [hr] at q2
    rw [if_pos q2, if_pos q1]
    exact ⟨_, rfl, hS⟩
  · rw [hr] at q3
    have nr : ¬ r = -1 := by rw [q3]; exact q4
    rw [if_neg nr, g2, bind_some, q1, if_neg q2]
    dsimp only
    by_cases u : lmt s t i (nI w / 52) q < nI x
    · rw [q3, if_pos u, if_pos u]
      exact ⟨_, rfl, hS2⟩
    · rw [q3, if_neg u, if_neg u, g4, bind_some]
      dsimp only
      cases hsb : spk s t i j (nI w / 52) q with
      | false =>
        rw [if_pos (show bI false = 0 from rfl), if_neg (by decide)]
        exact ⟨_, rfl, hS2.trans (SS_ML _ _ _ _ _)⟩
      | true =>
        rw [if_neg (show ¬ bI true = 0 by decide), if_pos rfl, decide_eq_true q4]
        exact ⟨_, rfl, hS2.trans (SS_ML _ _ _ _ _)⟩
theorem P_reach {N : Int} {s t : St} (h : RX N s t) (hN : N ≤ 4096) (a b c d : Int32) : Two (RX (N + 1)) (F_X11_reach a b c d s) (F_X12_reach a b c d t) := by
  obtain ⟨nn, V, hnn, hV, en, eV, en1, eV1, en2, eV2⟩ := sizes h
  obtain ⟨z0, z1, _⟩ := h.sch
  obtain ⟨f0, f1, _⟩ := h.folk
  obtain ⟨n0, n1⟩ := h.now
  unfold F_X11_reach F_X12_reach F_X11_isVillage F_X12_isVillage F_X11_isSchool F_X12_isSchool F_X11_isPast F_X12_isWeek F_X12_isKnowing
  rw [z0, f0, n0]
  simp only [bind_some, bI_eq0]
  refine Two_ite (fun _ => Two_ret _ h.up) (fun c1 => ?_)
  refine Two_ite (fun _ => Two_ret _ h.up) (fun c2 => ?_)
  refine Two_ite (fun _ => Two_ret _ h.up) (fun c3 => ?_)
  refine Two_ite (fun _ => Two_ret _ h.up) (fun c4 => ?_)
  obtain ⟨q1, q2⟩ := isN c1 f1
  obtain ⟨q3, q4⟩ := isN c2 z1
  have e0 : (0 : Int32).toInt = 0 := rfl
  obtain ⟨r3a, r3b⟩ := inb_R c3
  obtain ⟨r4a, r4b⟩ := inb_R c4
  have n2 := n1.2
  obtain ⟨i, ei, ei2, _⟩ := i32_nat q1
  obtain ⟨j, ej, ej2, _⟩ := i32_nat q3
  obtain ⟨w, ew, ew2, _⟩ := i32_nat (x := c) (by omega)
  obtain ⟨k, ek, ek2, _⟩ := i32_nat (x := d) (by omega)
  subst ei ej ew ek
  obtain ⟨e, he, ewet⟩ := wet_nat h w
  obtain ⟨s', t', a1, a2, a3, a4, a5⟩ := surv_all h hN (w := w) (q := k) (by omega) (by omega) en hnn eV hV he ewet
  obtain ⟨t2, b1, b2⟩ := M_reaches h (i := i) (j := j) (by omega) (by omega) (w := w) (by omega) he ewet (nI k)
  have hix : nI i * 20 + nI j = nI (20 * i + j) := idxN (k := 20) (by omega) (by omega) (by omega)
  have hR : RX N s' t2 := a3.ss (SS.refl _) (a4.1.symm.trans b2)
  rw [a1, b1, bind_some, bind_some, hix, rd_nI (by omega) (by omega), bind_some, (a5.2.2 i (by omega) j (by omega)).1]
  dsimp only
  by_cases u : wayV s t e (nI w / 52) (nI k) i j = -1
  · rw [if_pos u, decide_eq_false (fun z => z u), if_pos (show bI false = 0 from rfl)]
    exact Two_ret _ hR.up
  · rw [if_neg u, decide_eq_true u, if_neg (show ¬ bI true = 0 by decide)]
    exact Two_ret _ hR.up
