/-! the survey: places, children, ways -/
/-- what a question answers stays, but for scratch and kept rows -/
def BS (s t s' t' : St) : Prop := SS t t' ∧ ∀ (kk : Nat) (shire year q a b c d : Int32), wq s' t' kk shire year q a b c d = wq s t kk shire year q a b c d
theorem BS.refl (s t : St) : BS s t s t := ⟨SS.refl t, fun _ _ _ _ _ _ _ _ => rfl⟩
theorem BS.trans {s t s1 t1 s2 t2 : St} (h : BS s t s1 t1) (h2 : BS s1 t1 s2 t2) : BS s t s2 t2 := ⟨h.1.trans h2.1, fun kk shire year q a b c d => (h2.2 kk shire year q a b c d).trans (h.2 kk shire year q a b c d)⟩
theorem BS.ss {N : Int} {s t s' t' : St} (h : RX N s t) (e1 : SS s s') (e2 : SS t t') : BS s t s' t' := ⟨e2, fun kk shire year q a b c d => wq_ss h e1 e2 kk shire year q a b c d⟩
theorem BS.rw {s s' t : St} (h : RW s s' t) : BS s t s' t := ⟨SS.refl t, h.2.2⟩
theorem cbest_ss {t t' : St} (e : SS t t') (v y q : Int32) : ∀ n : Nat, cbest t' v y q n = cbest t v y q n
  | 0 => rfl
  | n + 1 => by
    have ih := cbest_ss e v y q n
    unfold cbest cge
    rw [ih, e.a (k := 1207) rfl, e.a (k := 1208) rfl, e.a (k := 1211) rfl]
theorem cg_ss {t t' : St} (e : SS t t') (v y q : Int32) : cgirls t' v y q = cgirls t v y q := by
  unfold cgirls
  rw [e.i (k := 1213) rfl, cbest_ss e, e.a (k := 1209) rfl]
theorem cb_ss {t t' : St} (e : SS t t') (v y q : Int32) : cboys t' v y q = cboys t v y q := by
  unfold cboys
  rw [e.i (k := 1213) rfl, cbest_ss e, e.a (k := 1210) rfl]
def chi (t : St) (i : Nat) (y q : Int32) : Int32 := cgirls t (nI i) y q + cboys t (nI i) y q
theorem chi_ss {t t' : St} (e : SS t t') (i : Nat) (y q : Int32) : chi t' i y q = chi t i y q := by
  unfold chi
  rw [cg_ss e, cb_ss e]
theorem chi_R {s t : St} (h : RCnt s t) (i : Nat) (y q : Int32) : inR (chi t i y q) 0 1998 := by
  obtain ⟨a1, a2⟩ := cgirls_R h (nI i) y q
  obtain ⟨b1, b2⟩ := cboys_R h (nI i) y q
  unfold chi inR
  rw [i32_add (by omega) (by omega)]
  exact ⟨by omega, by omega⟩
theorem lmt_bs {s t s' t' : St} (e : BS s t s' t') (i : Nat) (y q : Int32) : lmt s' t' i y q = lmt s t i y q := by
  unfold lmt
  rw [e.2, e.1.a (k := 1205) rfl, e.1.a (k := 1206) rfl, cg_ss e.1, cb_ss e.1]
/-- is a tongue spoken -/
noncomputable def spk (s t : St) (i j : Nat) (y q : Int32) : Bool := decide (wq s t 6 (t.2.1 1215 j) y q 0 0 0 0 = 0) || bt (t.2.1 1218 j) (t.2.1 1206 i).toInt.toNat
theorem spk_bs {s t s' t' : St} (e : BS s t s' t') (i j : Nat) (y q : Int32) : spk s' t' i j y q = spk s t i j y q := by
  unfold spk
  rw [e.2, e.1.a (k := 1215) rfl, e.1.a (k := 1218) rfl, e.1.a (k := 1206) rfl]
noncomputable def Fw (t : St) (e b : Nat) : Nat → Option Nat := Classical.epsilon (isW t e b)
theorem Fw_ok {N : Int} {s t : St} (h : RX N s t) {e b : Nat} (he : e = 0 ∨ e = 1) (hb : b < 120) : isW t e b (Fw t e b) := by
  obtain ⟨D, F, _, h2, _⟩ := M_far h he hb
  exact Classical.epsilon_spec ⟨F, h2⟩
theorem Fw_ss {t t' : St} (h : SS t t') (e b : Nat) : Fw t' e b = Fw t e b := by
  have : isW t' e b = isW t e b := by
    funext F
    unfold isW
    rw [h.a (k := 1201) rfl]
  unfold Fw
  rw [this]
theorem M_far2 {N : Int} {s t : St} (h : RX N s t) {e b : Nat} (he : e = 0 ∨ e = 1) (hb : b < 120) : ∃ D : Nat → Int32, F_X12_spread (nI b) (nI e) t = some (setA t 1203 D) ∧ ∀ c, c < 120 → D c = wN (Fw t e b) 1000000 c := by
  obtain ⟨D, F, h1, h2, h3⟩ := M_far h he hb
  refine ⟨D, h1, fun c hc => ?_⟩
  rw [h3 c hc]
  unfold wN
  rw [isF_one (weights h he).1 hb h2.1 (Fw_ok h he hb).1 hc]
/-- the way of a village to a school within its reach, or none -/
noncomputable def wayV (s t : St) (e : Nat) (y q : Int32) (i j : Nat) : Int32 :=
  if (100000000 : Int32) ≤ wN (Fw t e (t.2.1 1204 i).toInt.toNat) 100000000 (t.2.1 1214 j).toInt.toNat then -1
  else if lmt s t i y q < wN (Fw t e (t.2.1 1204 i).toInt.toNat) 100000000 (t.2.1 1214 j).toInt.toNat then -1
  else if spk s t i j y q = true then wN (Fw t e (t.2.1 1204 i).toInt.toNat) 100000000 (t.2.1 1214 j).toInt.toNat else -1
theorem wayV_bs {s t s' t' : St} (h : BS s t s' t') (e : Nat) (y q : Int32) (i j : Nat) : wayV s' t' e y q i j = wayV s t e y q i j := by
  unfold wayV
  rw [lmt_bs h, spk_bs h, Fw_ss h.1, h.1.a (k := 1204) rfl, h.1.a (k := 1214) rfl]
theorem M_tongue {N : Int} {s t : St} (h : RX N s t) {i j : Nat} (hi : i < 24) (hj : j < 20) (w q : Int32) : ∃ (l2 g : Nat → Int32) (p v : Int32), F_X12_isTongueRight (nI i) (nI j) w q t = some (bI (spk s t i j (w / 52) q), ML t l2 g p v) := by
  obtain ⟨z0, z1, z2, z3, z4, z5, z6, z7, z8, z9, z10, z11, z12, z13, z14, z15⟩ := h.sch
  obtain ⟨f0, f1, f2, f3, f4, f5, f6, f7⟩ := h.folk
  obtain ⟨s3, t3, l, f, l2, g, x, p, v, a1, a2, a3, a4, _, ⟨m0, m1, m2, m3, a6⟩, _⟩ := askS h (k := 6) (by omega) (shire := t.2.1 1215 j) (year := w / 52) (q := q) (a := 0) (b := 0) (c := 0) (d := 0) (z10 j).1
  have a4' : F_X12_worthOf (t.2.1 1215 j) (w / 52) q 102 t3 = some (wq s t 6 (t.2.1 1215 j) (w / 52) q 0 0 0 0, ML t l2 g p v) := a4
  refine ⟨l2, g, p, v, ?_⟩
  have k1 : rd t 1215 20 (nI j) = some (t.2.1 1215 j) := rd_nI hj (by omega)
  have k2 : rd t3 1215 20 (nI j) = some (t.2.1 1215 j) := by
    rw [rd_nI hj (by omega), a6]
    rfl
  have k3 : rd (ML t l2 g p v) 1218 20 (nI j) = some (t.2.1 1218 j) := rd_nI hj (by omega)
  obtain ⟨tg, e1, e2, _⟩ := i32_nat (f7 i).1
  have htg : tg ≤ 7 := by have := (f7 i).2; omega
  have k4 : rd (ML t l2 g p v) 1206 24 (nI i) = some (nI tg) := by
    rw [rd_nI hi (by omega), ← e1]
    rfl
  have e3 : (t.2.1 1206 i).toInt.toNat = tg := by omega
  unfold F_X12_isTongueRight spk
  rw [k1, bind_some, a2, bind_some, k2, bind_some, a4', bind_some, e3]
  dsimp only
  by_cases c : wq s t 6 (t.2.1 1215 j) (w / 52) q 0 0 0 0 = 0
  · rw [if_pos c, decide_eq_true c]
    rfl
  · rw [if_neg c, decide_eq_false c, k3, bind_some, k4, bind_some]
    by_cases d : bt (t.2.1 1218 j) tg = true
    · rw [if_pos ((bt_is _ (by omega)).mpr d), d]
      rfl
    · rw [if_neg (fun z => d ((bt_is _ (by omega)).mp z)), Bool.eq_false_iff.mpr d]
      rfl
/-- the first loops: places -/
theorem surv_one {N : Int} {s t : St} (h : RX N s t) (hN : N ≤ 4096) {w q nn : Nat} (hw : w ≤ 600) (hq : q ≤ 600) (en : t.1 1223 = nI nn) (hnn : nn ≤ 20) : ∃ s' t', lp (B_X6_survey_8 (nI w) (nI q) (nI w / 52)) FU (0, s) = some s' ∧ lp (B_X12_gather_2 (nI w) (nI q)) FU (0, t) = some t' ∧ SS s s' ∧ SS t t' ∧ (∀ k, k < nn → s'.2.1 607 k = t'.2.1 1246 k) ∧ ∀ k, k < nn → s'.2.1 608 k = bI (decide (¬ wq s t 6 (t.2.1 1215 k) (nI w / 52) (nI q) 0 0 0 0 = 0)) := by
  obtain ⟨z0, z1, _⟩ := h.sch
  obtain ⟨s', t', h1, h2, h3⟩ := lp_two (B := B_X6_survey_8 (nI w) (nI q) (nI w / 52)) (B2 := B_X12_gather_2 (nI w) (nI q))
    (fun m X Z => ∃ (n : Nat) (s' t' : St), X = (nI n, s') ∧ Z = (nI n, t') ∧ n + m = nn ∧ SS s s' ∧ SS t t' ∧ (∀ k, k < n → s'.2.1 607 k = t'.2.1 1246 k) ∧ ∀ k, k < n → s'.2.1 608 k = bI (decide (¬ wq s t 6 (t.2.1 1215 k) (nI w / 52) (nI q) 0 0 0 0 = 0)))
    (fun s' t' => SS s s' ∧ SS t t' ∧ (∀ k, k < nn → s'.2.1 607 k = t'.2.1 1246 k) ∧ ∀ k, k < nn → s'.2.1 608 k = bI (decide (¬ wq s t 6 (t.2.1 1215 k) (nI w / 52) (nI q) 0 0 0 0 = 0))) (by
      rintro m _ _ ⟨n, s', t', rfl, rfl, hn, hs, ht, hk, hk8⟩
      have i1 : s'.1 501 = nI nn := by rw [hs.i (k := 501) rfl, z0, en]
      have i2 : t'.1 1223 = nI nn := by rw [ht.i (k := 1223) rfl, en]
      by_cases c : n = nn
      · right
        subst c
        refine ⟨s', t', ?_, ?_, hs, ht, hk, hk8⟩
        · unfold B_X6_survey_8
          dsimp only
          rw [i1, if_pos (Int32.le_refl _)]
        · unfold B_X12_gather_2
          dsimp only
          rw [i2, if_pos (Int32.le_refl _)]
      · left
        have h9 : ¬ nI nn ≤ nI n := by
          rw [i32_le, nI_toInt (by omega), nI_toInt (by omega)]
          omega
        have hn20 : n < 20 := by omega
        have hx := h.ss hs ht
        have hj : (n : Int) < (t'.1 1223).toInt := by rw [i2, nI_toInt (by omega)]; omega
        obtain ⟨c', hd, l, f, l1, f1, l2, g, x, x1, p, v, g1, g2, g3⟩ := places_two hx hN hj hw hq
        have s3e : ∃ s3, s3 = sA (CL s' l1 f1 x1) 607 n (c' * hd) ∧ SS s' s3 ∧ s3.2.1 607 = upd (s'.2.1 607) n (c' * hd) ∧ s3.2.1 608 = s'.2.1 608 := ⟨_, rfl, (SS_CL _ _ _ _).trans (SS_sA _ _ _ rfl), sA_at _ _ _ _, rfl⟩
        obtain ⟨s3, q1, q2, q3, q4⟩ := s3e
        have w3 : wr (CL s' l1 f1 x1) 607 20 (nI n) (c' * hd) = some s3 := by rw [q1]; exact wr_nI hn20 (by omega)
        have hs3 : SS s s3 := hs.trans q2
        have hx3 := h.ss hs3 ht
        obtain ⟨s4, t4, l4, f4, l5, g5, x4, p4, v4, b1, b2, b3, b4, ⟨l0, f0, x0, b5⟩, _⟩ := askS hx3 (k := 6) (by omega) (shire := t.2.1 1215 n) (year := nI w / 52) (q := nI q) (a := 0) (b := 0) (c := 0) (d := 0) (h.sch.2.2.2.2.2.2.2.2.2.2.1 n).1
        rw [wq_ss h hs3 ht] at b3
        have b3' : F_X0_worthOf 6 (t.2.1 1215 n) (nI w / 52) (nI q) 0 s4 = some (wq s t 6 (t.2.1 1215 n) (nI w / 52) (nI q) 0 0 0 0, CL s3 l4 f4 x4) := b3
        have k1 : rd s4 503 20 (nI n) = some (t.2.1 1215 n) := by
          rw [rd_nI hn20 (by omega), b5]
          show some (s3.2.1 503 n) = _
          rw [hs3.a (k := 503) rfl, h.sch.2.2.2.1]
        have t3e : ∃ t3, wr (ML t' l2 g p v) 1246 20 (nI n) (c' * hd) = some t3 ∧ SS t' t3 ∧ t3.2.1 1246 = upd (t'.2.1 1246) n (c' * hd) := ⟨_, wr_nI hn20 (by omega), (SS_ML _ _ _ _ _).trans (SS_sA _ _ _ rfl), sA_at _ _ _ _⟩
        obtain ⟨t3, r1, r2, r3⟩ := t3e
        have ext : ∀ k, k < n + 1 → s3.2.1 607 k = t3.2.1 1246 k := by
          intro k hk2
          rw [q3, r3]
          by_cases e : k = n
          · rw [e, upd_at, upd_at]
          · rw [upd_ne _ _ e, upd_ne _ _ e]
            exact hk k (by omega)
        have hM : B_X12_gather_2 (nI w) (nI q) (nI n, t') = some (.inl (nI (n + 1), t3)) := by
          unfold B_X12_gather_2
          dsimp only
          rw [i2, if_neg h9, g3, bind_some, r1, bind_some, nI_1]
        have ext8 : ∀ b : Int32, b = bI (decide (¬ wq s t 6 (t.2.1 1215 n) (nI w / 52) (nI q) 0 0 0 0 = 0)) → ∀ k, k < n + 1 → (sA (CL s3 l4 f4 x4) 608 n b).2.1 608 k = bI (decide (¬ wq s t 6 (t.2.1 1215 k) (nI w / 52) (nI q) 0 0 0 0 = 0)) := by
          intro b hb k hk2
          have a8 : (sA (CL s3 l4 f4 x4) 608 n b).2.1 608 = upd (s3.2.1 608) n b := sA_at _ _ _ _
          rw [a8, q4]
          by_cases e : k = n
          · rw [e, upd_at, hb]
          · rw [upd_ne _ _ e]
            exact hk8 k (by omega)
        by_cases d : wq s t 6 (t.2.1 1215 n) (nI w / 52) (nI q) 0 0 0 0 = 0
        · refine ⟨(nI (n + 1), sA (CL s3 l4 f4 x4) 608 n 0), (nI (n + 1), t3), m - 1, ?_, hM, by omega, n + 1, _, _, rfl, rfl, by omega, hs3.trans ((SS_CL _ _ _ _).trans (SS_sA _ _ _ rfl)), ht.trans r2, ext, ext8 0 (by rw [decide_eq_false (fun z => z d)]; rfl)⟩
          unfold B_X6_survey_8
          dsimp only
          rw [i1, if_neg h9, g1, bind_some]
          dsimp only
          rw [g2, bind_some]
          dsimp only
          rw [w3, bind_some, b1, bind_some, k1, bind_some, b3', bind_some, if_pos d, wr_nI hn20 (by omega), bind_some, nI_1]
        · refine ⟨(nI (n + 1), sA (CL s3 l4 f4 x4) 608 n 1), (nI (n + 1), t3), m - 1, ?_, hM, by omega, n + 1, _, _, rfl, rfl, by omega, hs3.trans ((SS_CL _ _ _ _).trans (SS_sA _ _ _ rfl)), ht.trans r2, ext, ext8 1 (by rw [decide_eq_true d]; rfl)⟩
          unfold B_X6_survey_8
          dsimp only
          rw [i1, if_neg h9, g1, bind_some]
          dsimp only
          rw [g2, bind_some]
          dsimp only
          rw [w3, bind_some, b1, bind_some, k1, bind_some, b3', bind_some, if_neg d, wr_nI hn20 (by omega), bind_some, nI_1]) FU FU nn (0, s) (0, t) ⟨0, s, t, rfl, rfl, by omega, SS.refl s, SS.refl t, fun k hk => absurd hk (by omega), fun k hk => absurd hk (by omega)⟩ (FU_lt (by omega)) (FU_lt (by omega))
  exact ⟨s', t', h1, h2, h3⟩
/-- one village's ways: the class -/
theorem C_measure {N : Int} {s t s0 t0 : St} (h : RX N s t) (hB : BS s0 t0 s t) {e : Nat} (he : e = 0 ∨ e = 1) {y q : Int32} {nn i a : Nat} (en : t.1 1223 = nI nn) (hnn : nn ≤ 20) (hi : i < 24) {f : Nat → Int32} (hg : 89 ≤ a ∧ s.2.2.2[a - 89]? = some (120, f)) (hf : ∀ c, c < 120 → f c = wN (Fw t e (t.2.1 1204 i).toInt.toNat) 100000000 c) (h8 : ∀ k, k < nn → s.2.1 608 k = bI (decide (¬ wq s0 t0 6 (t0.2.1 1215 k) y q 0 0 0 0 = 0))) : ∃ V : Nat → Int32, F_X6_measure (nI i) (lmt s0 t0 i y q) a s = some (setA s 604 V) ∧ (∀ k, k < nn → V (20 * i + k) = wayV s0 t0 e y q i k) ∧ ∀ k, (k < 20 * i ∨ 20 * i + 20 ≤ k) → V k = s.2.1 604 k := by
  obtain ⟨z0, z1, z2, z3, z4, z5, z6, z7, z8, z9, z10, z11, z12, z13, z14, z15⟩ := h.sch
  obtain ⟨f0, f1, f2, f3, f4, f5, f6, f7⟩ := h.folk
  obtain ⟨tg, e1, e2, _⟩ := i32_nat (f7 i).1
  have htg : tg ≤ 7 := by have := (f7 i).2; omega
  obtain ⟨b, eb, eb2, _⟩ := i32_nat (f5 i).1
  have hb120 : b < 120 := by have := (f5 i).2; omega
  have eb3 : (t.2.1 1204 i).toInt.toNat = b := by omega
  have hF := Fw_ok h he hb120
  obtain ⟨S', h1, V, rfl, h2, h3⟩ := lp_inv (B := B_X6_measure_3 (nI i) (lmt s0 t0 i y q) a)
    (fun m X => ∃ (k : Nat) (V : Nat → Int32), X = (nI k, setA s 604 V) ∧ k + m = nn ∧ (∀ j, j < k → V (20 * i + j) = wayV s0 t0 e y q i j) ∧ ∀ j, (j < 20 * i ∨ 20 * i + 20 ≤ j) → V j = s.2.1 604 j)
    (fun S' => ∃ V : Nat → Int32, S' = setA s 604 V ∧ (∀ k, k < nn → V (20 * i + k) = wayV s0 t0 e y q i k) ∧ ∀ k, (k < 20 * i ∨ 20 * i + 20 ≤ k) → V k = s.2.1 604 k) (by
      rintro m _ ⟨k, V, rfl, hk, hV, hV2⟩
      have i1 : (setA s 604 V).1 501 = nI nn := by show s.1 501 = _; rw [z0, en]
      by_cases c : k = nn
      · right
        subst c
        refine ⟨setA s 604 V, ?_, V, rfl, hV, hV2⟩
        unfold B_X6_measure_3
        dsimp only
        rw [i1, if_pos (Int32.le_refl _)]
      · left
        have h9 : ¬ nI nn ≤ nI k := by
          rw [i32_le, nI_toInt (by omega), nI_toInt (by omega)]
          omega
        have hk20 : k < 20 := by omega
        obtain ⟨cc, ec, ec2, _⟩ := i32_nat (z9 k).1
        have hcc : cc < 120 := by have := (z9 k).2; omega
        have ec3 : (t.2.1 1214 k).toInt.toNat = cc := by omega
        have k1 : rd (setA s 604 V) 502 20 (nI k) = some (nI cc) := by
          rw [rd_nI hk20 (by omega), ← ec, ← z2]
          rfl
        have k2 : ra (setA s 604 V) a (nI cc) = some (wN (Fw t e b) 100000000 cc) := by
          have hd : dyn (setA s 604 V) a = some (120, f) := dyn_hi hg.1 hg.2
          rw [ra_dyn hd hcc (by omega), hf cc hcc, eb3]
        have k3 : rd (setA s 604 V) 608 20 (nI k) = some (bI (decide (¬ wq s0 t0 6 (t0.2.1 1215 k) y q 0 0 0 0 = 0))) := by
          rw [rd_nI hk20 (by omega), ← h8 k (by omega)]
          rfl
        have k4 : rd (setA s 604 V) 506 20 (nI k) = some (t.2.1 1218 k) := by
          rw [rd_nI hk20 (by omega), ← z6]
          rfl
        have k5 : rd (setA s 604 V) 104 24 (nI i) = some (nI tg) := by
          rw [rd_nI hi (by omega), ← e1, ← f4]
          rfl
        have ix : nI i * 20 + nI k = nI (20 * i + k) := idxN (k := 20) (by omega) (by omega) (by omega)
        have wr' : ∀ v, wr (setA s 604 V) 604 480 (nI (20 * i + k)) v = some (setA s 604 (upd V (20 * i + k) v)) := fun v => by rw [wr_nI (by omega) (by omega), sA_set]
        have hway : wayV s0 t0 e y q i k = if (100000000 : Int32) ≤ wN (Fw t e b) 100000000 cc then -1 else if lmt s0 t0 i y q < wN (Fw t e b) 100000000 cc then -1 else if spk s0 t0 i k y q = true then wN (Fw t e b) 100000000 cc else -1 := by
          rw [← wayV_bs hB]
          unfold wayV
          rw [lmt_bs hB, spk_bs hB, eb3, ec3]
        have hspk : spk s0 t0 i k y q = (decide (wq s0 t0 6 (t0.2.1 1215 k) y q 0 0 0 0 = 0) || bt (t.2.1 1218 k) tg) := by
          unfold spk
          rw [← hB.1.a (k := 1218) rfl, ← hB.1.a (k := 1206) rfl, show (t.2.1 1206 i).toInt.toNat = tg by omega]
        have fin : ∀ v, v = wayV s0 t0 e y q i k → ∃ x' j', some (Sum.inl (nI k + 1, setA s 604 (upd V (20 * i + k) v))) = (some (Sum.inl x') : Option ((Int32 × St) ⊕ St)) ∧ j' < m ∧ ∃ (k : Nat) (V : Nat → Int32), x' = (nI k, setA s 604 V) ∧ k + j' = nn ∧ (∀ j, j < k → V (20 * i + j) = wayV s0 t0 e y q i j) ∧ ∀ j, (j < 20 * i ∨ 20 * i + 20 ≤ j) → V j = s.2.1 604 j := by
          intro v hv
          refine ⟨_, m - 1, rfl, by omega, k + 1, _, by rw [nI_1], by omega, fun j hj => ?_, fun j hj => ?_⟩
          · by_cases e : j = k
            · rw [e, upd_at, hv]
            · rw [upd_ne _ _ (by omega)]
              exact hV j (by omega)
          · rw [upd_ne _ _ (by omega)]
            exact hV2 j hj
        have hBd : B_X6_measure_3 (nI i) (lmt s0 t0 i y q) a (nI k, setA s 604 V) = some (Sum.inl (nI k + 1, setA s 604 (upd V (20 * i + k) (wayV s0 t0 e y q i k)))) := by
          unfold B_X6_measure_3
          dsimp only
          rw [i1, if_neg h9, k1, bind_some, k2, bind_some, k3, bind_some, ix, hway, hspk]
          by_cases d : wq s0 t0 6 (t0.2.1 1215 k) y q 0 0 0 0 = 0
          · rw [decide_eq_false (fun z => z d), if_pos (show bI false = 0 from rfl), decide_eq_true d, Bool.true_or, if_pos rfl]
            by_cases u1 : (100000000 : Int32) ≤ wN (Fw t e b) 100000000 cc
            · rw [if_pos u1, if_pos u1, wr', bind_some]
            · rw [if_neg u1, if_neg u1]
              by_cases u2 : lmt s0 t0 i y q < wN (Fw t e b) 100000000 cc
              · rw [if_pos u2, if_pos u2, wr', bind_some]
              · rw [if_neg u2, if_neg u2, wr', bind_some]
          · rw [decide_eq_true d, if_neg (show ¬ bI true = 0 by decide), decide_eq_false d, Bool.false_or, k4, bind_some, k5, bind_some]
            by_cases u3 : bt (t.2.1 1218 k) tg = true
            · rw [if_pos ((bt_is _ (by omega)).mpr u3), if_pos u3]
              by_cases u1 : (100000000 : Int32) ≤ wN (Fw t e b) 100000000 cc
              · rw [if_pos u1, if_pos u1, wr', bind_some]
              · rw [if_neg u1, if_neg u1]
                by_cases u2 : lmt s0 t0 i y q < wN (Fw t e b) 100000000 cc
                · rw [if_pos u2, if_pos u2, wr', bind_some]
                · rw [if_neg u2, if_neg u2, wr', bind_some]
            · rw [if_neg (fun z => u3 ((bt_is _ (by omega)).mp z)), if_neg u3]
              by_cases u1 : (100000000 : Int32) ≤ wN (Fw t e b) 100000000 cc
              · rw [if_pos u1, if_pos u1, wr', bind_some]
              · rw [if_neg u1, if_neg u1]
                by_cases u2 : lmt s0 t0 i y q < wN (Fw t e b) 100000000 cc
                · rw [if_pos u2, if_pos u2, wr', bind_some]
                · rw [if_neg u2, if_neg u2, wr', bind_some]
        rw [hBd]
        exact fin _ rfl) FU nn (0, s) ⟨0, s.2.1 604, by rw [setA_self]; rfl, by omega, fun j hj => absurd hj (by omega), fun _ _ => rfl⟩ (FU_lt (by omega))
  refine ⟨V, ?_, h2, h3⟩
  unfold F_X6_measure F_X6_measure_3
  rw [h1]
  rfl
/-- one village's ways: the reference -/
theorem M_measure {N : Int} {s t s0 t0 : St} (h : RX N s t) (hB : BS s0 t0 s t) {e : Nat} (he : e = 0 ∨ e = 1) (w q : Int32) {nn i : Nat} (en : t.1 1223 = nI nn) (hnn : nn ≤ 20) (hi : i < 24) (hD : ∀ c, c < 120 → t.2.1 1203 c = wN (Fw t e (t.2.1 1204 i).toInt.toNat) 1000000 c) : ∃ t', lp (B_X12_gather_91 w q (nI i) (lmt s0 t0 i (w / 52) q)) FU (0, t) = some t' ∧ SS t t' ∧ t'.2.1 1246 = t.2.1 1246 ∧ t'.2.1 1247 = t.2.1 1247 ∧ (∀ k, k < nn → t'.2.1 1249 (20 * i + k) = bI (decide (¬ wayV s0 t0 e (w / 52) q i k = -1)) ∧ (¬ wayV s0 t0 e (w / 52) q i k = -1 → t'.2.1 1248 (20 * i + k) = wayV s0 t0 e (w / 52) q i k)) ∧ ∀ k, (k < 20 * i ∨ 20 * i + 20 ≤ k) → t'.2.1 1249 k = t.2.1 1249 k ∧ t'.2.1 1248 k = t.2.1 1248 k := by
  obtain ⟨z0, z1, z2, z3, z4, z5, z6, z7, z8, z9, z10, z11, z12, z13, z14, z15⟩ := h.sch
  obtain ⟨f0, f1, f2, f3, f4, f5, f6, f7⟩ := h.folk
  obtain ⟨b, eb, eb2, _⟩ := i32_nat (f5 i).1
  have hb120 : b < 120 := by have := (f5 i).2; omega
  have eb3 : (t.2.1 1204 i).toInt.toNat = b := by omega
  have hF := Fw_ok h he hb120
  refine lp_inv (B := B_X12_gather_91 w q (nI i) (lmt s0 t0 i (w / 52) q))
    (fun m X => ∃ (n : Nat) (t' : St), X = (nI n, t') ∧ n + m = nn ∧ SS t t' ∧ t'.2.1 1246 = t.2.1 1246 ∧ t'.2.1 1247 = t.2.1 1247 ∧ t'.2.1 1203 = t.2.1 1203 ∧ (∀ k, k < n → t'.2.1 1249 (20 * i + k) = bI (decide (¬ wayV s0 t0 e (w / 52) q i k = -1)) ∧ (¬ wayV s0 t0 e (w / 52) q i k = -1 → t'.2.1 1248 (20 * i + k) = wayV s0 t0 e (w / 52) q i k)) ∧ ∀ k, (k < 20 * i ∨ 20 * i + 20 ≤ k) → t'.2.1 1249 k = t.2.1 1249 k ∧ t'.2.1 1248 k = t.2.1 1248 k)
    (fun t' => SS t t' ∧ t'.2.1 1246 = t.2.1 1246 ∧ t'.2.1 1247 = t.2.1 1247 ∧ (∀ k, k < nn → t'.2.1 1249 (20 * i + k) = bI (decide (¬ wayV s0 t0 e (w / 52) q i k = -1)) ∧ (¬ wayV s0 t0 e (w / 52) q i k = -1 → t'.2.1 1248 (20 * i + k) = wayV s0 t0 e (w / 52) q i k)) ∧ ∀ k, (k < 20 * i ∨ 20 * i + 20 ≤ k) → t'.2.1 1249 k = t.2.1 1249 k ∧ t'.2.1 1248 k = t.2.1 1248 k) (by
      rintro m _ ⟨n, t', rfl, hn, hs, r6, r7, r3, hk, ho⟩
      have i2 : t'.1 1223 = nI nn := by rw [hs.i (k := 1223) rfl, en]
      by_cases c : n = nn
      · right
        subst c
        refine ⟨t', ?_, hs, r6, r7, hk, ho⟩
        unfold B_X12_gather_91
        dsimp only
        rw [i2, if_pos (Int32.le_refl _)]
      · left
        have h9 : ¬ nI nn ≤ nI n := by
          rw [i32_le, nI_toInt (by omega), nI_toInt (by omega)]
          omega
        have hn20 : n < 20 := by omega
        obtain ⟨cc, ec, ec2, _⟩ := i32_nat (z9 n).1
        have hcc : cc < 120 := by have := (z9 n).2; omega
        have ec3 : (t.2.1 1214 n).toInt.toNat = cc := by omega
        have ix : 20 * nI i + nI n = nI (20 * i + n) := idxN2 (k := 20) (by omega) (by omega) (by omega)
        have m1 : rd t' 1214 20 (nI n) = some (nI cc) := by rw [rd_nI hn20 (by omega), hs.a (k := 1214) rfl, ec]
        have hway : wayV s0 t0 e (w / 52) q i n = if (100000000 : Int32) ≤ wN (Fw t e b) 100000000 cc then -1 else if lmt s0 t0 i (w / 52) q < wN (Fw t e b) 100000000 cc then -1 else if spk s0 t0 i n (w / 52) q = true then wN (Fw t e b) 100000000 cc else -1 := by
          rw [← wayV_bs hB]
          unfold wayV
          rw [lmt_bs hB, spk_bs hB, eb3, ec3]
        generalize hr : (if wN (Fw t e b) 1000000 cc < 1000000 then wN (Fw t e b) 1000000 cc else (-1 : Int32)) = r
        have m2 : F_X12_walkedTo (nI cc) t' = some r := by rw [M_walked t' hcc, r3, hD cc hcc, eb3, hr]
        have w1 : wr t' 1248 480 (nI (20 * i + n)) r = some (sA t' 1248 (20 * i + n) r) := wr_nI (by omega) (by omega)
        have hs1 : SS t' (sA t' 1248 (20 * i + n) r) := SS_sA _ _ _ rfl
        have a48 : (sA t' 1248 (20 * i + n) r).2.1 1248 = upd (t'.2.1 1248) (20 * i + n) r := sA_at _ _ _ _
        have m3 : rd (sA t' 1248 (20 * i + n) r) 1248 480 (nI (20 * i + n)) = some r := by rw [rd_nI (by omega) (by omega), a48, upd_at]
        have a1 : (sA t' 1248 (20 * i + n) r).2.1 1249 = t'.2.1 1249 := rfl
        have a2 : (sA t' 1248 (20 * i + n) r).2.1 1246 = t.2.1 1246 := r6
        have a3 : (sA t' 1248 (20 * i + n) r).2.1 1247 = t.2.1 1247 := r7
        have a4 : (sA t' 1248 (20 * i + n) r).2.1 1203 = t.2.1 1203 := r3
        generalize sA t' 1248 (20 * i + n) r = t1 at *
        have fin2 : ∀ (t2 : St) (b2 : Bool), SS t1 t2 → t2.2.1 1246 = t1.2.1 1246 → t2.2.1 1247 = t1.2.1 1247 → t2.2.1 1203 = t1.2.1 1203 → t2.2.1 1248 = t1.2.1 1248 → t2.2.1 1249 = upd (t1.2.1 1249) (20 * i + n) (bI b2) → b2 = decide (¬ wayV s0 t0 e (w / 52) q i n = -1) → (b2 = true → r = wayV s0 t0 e (w / 52) q i n) → SS t t2 ∧ t2.2.1 1246 = t.2.1 1246 ∧ t2.2.1 1247 = t.2.1 1247 ∧ t2.2.1 1203 = t.2.1 1203 ∧ (∀ k, k < n + 1 → t2.2.1 1249 (20 * i + k) = bI (decide (¬ wayV s0 t0 e (w / 52) q i k = -1)) ∧ (¬ wayV s0 t0 e (w / 52) q i k = -1 → t2.2.1 1248 (20 * i + k) = wayV s0 t0 e (w / 52) q i k)) ∧ ∀ k, (k < 20 * i ∨ 20 * i + 20 ≤ k) → t2.2.1 1249 k = t.2.1 1249 k ∧ t2.2.1 1248 k = t.2.1 1248 k := by
          intro t2 b2 j1 j2 j3 j4 j5 j6 j7 j8
          refine ⟨hs.trans (hs1.trans j1), j2.trans a2, j3.trans a3, j4.trans a4, fun k hk2 => ?_, fun k hk2 => ?_⟩
          · rw [j6, j5, a48, a1]
            by_cases e2 : k = n
            · subst e2
              rw [upd_at, upd_at]
              exact ⟨by rw [j7], fun z => j8 (by rw [j7]; exact decide_eq_true z)⟩
            · rw [upd_ne _ _ (by omega), upd_ne _ _ (by omega)]
              exact hk k (by omega)
          · rw [j6, j5, a48, a1, upd_ne _ _ (by omega), upd_ne _ _ (by omega)]
            exact ho k hk2
        have wb : ∀ (t2 : St) (v : Int32), wr t2 1249 480 (nI (20 * i + n)) v = some (sA t2 1249 (20 * i + n) v) := fun t2 v => wr_nI (by omega) (by omega)
        have b9 : ∀ (t2 : St) (v : Int32), (sA t2 1249 (20 * i + n) v).2.1 1249 = upd (t2.2.1 1249) (20 * i + n) v := fun t2 v => sA_at _ _ _ _
        rcases near_cases (F := Fw t e b) (c := cc) (hF.2 cc hcc) with ⟨q1, q2⟩ | ⟨x, x1, q1, q2, q3, q4⟩
        · rw [hr] at q2
          rw [if_pos q1] at hway
          refine ⟨(nI (n + 1), sA t1 1249 (20 * i + n) 0), m - 1, ?_, by omega, n + 1, _, rfl, by omega, fin2 _ false (SS_sA _ _ _ rfl) rfl rfl rfl rfl (b9 _ _) (by rw [hway]; rfl) (fun z => by cases z)⟩
          unfold B_X12_gather_91
          dsimp only
          rw [i2, if_neg h9, m1, bind_some, m2, bind_some, ix, w1, bind_some, m3, bind_some, if_pos q2, wb, bind_some, nI_1]
        · rw [hr] at q3
          rw [q1, if_neg q2] at hway
          have nr : ¬ r = -1 := by rw [q3]; exact q4
          by_cases u : lmt s0 t0 i (w / 52) q < nI x
          · rw [if_pos u] at hway
            refine ⟨(nI (n + 1), sA t1 1249 (20 * i + n) 0), m - 1, ?_, by omega, n + 1, _, rfl, by omega, fin2 _ false (SS_sA _ _ _ rfl) rfl rfl rfl rfl (b9 _ _) (by rw [hway]; rfl) (fun z => by cases z)⟩
            unfold B_X12_gather_91
            dsimp only
            rw [i2, if_neg h9, m1, bind_some, m2, bind_some, ix, w1, bind_some, m3, bind_some, if_neg nr, bind_some, q3, if_pos u, wb, bind_some, nI_1]
          · rw [if_neg u] at hway
            have hx1 : RX N s t1 := h.ss (SS.refl s) (hs.trans hs1)
            obtain ⟨l2, g, p, v, g1⟩ := M_tongue hx1 hi hn20 w q
            have hsp : spk s t1 i n (w / 52) q = spk s0 t0 i n (w / 52) q := by
              rw [spk_bs (BS.ss h (SS.refl s) (hs.trans hs1)), spk_bs hB]
            rw [hsp] at g1
            cases hsb : spk s0 t0 i n (w / 52) q with
            | false =>
              rw [hsb] at g1 hway
              rw [if_neg (by decide)] at hway
              refine ⟨(nI (n + 1), sA (ML t1 l2 g p v) 1249 (20 * i + n) 0), m - 1, ?_, by omega, n + 1, _, rfl, by omega, fin2 _ false ((SS_ML _ _ _ _ _).trans (SS_sA _ _ _ rfl)) rfl rfl rfl rfl (b9 _ _) (by rw [hway]; rfl) (fun z => by cases z)⟩
              unfold B_X12_gather_91
              dsimp only
              rw [i2, if_neg h9, m1, bind_some, m2, bind_some, ix, w1, bind_some, m3, bind_some, if_neg nr, bind_some, q3, if_neg u, g1, bind_some, if_pos (show bI false = 0 from rfl), wb, bind_some, nI_1]
            | true =>
              rw [hsb] at g1 hway
              rw [if_pos rfl] at hway
              refine ⟨(nI (n + 1), sA (ML t1 l2 g p v) 1249 (20 * i + n) 1), m - 1, ?_, by omega, n + 1, _, rfl, by omega, fin2 _ true ((SS_ML _ _ _ _ _).trans (SS_sA _ _ _ rfl)) rfl rfl rfl rfl (b9 _ _) (by rw [hway, decide_eq_true q4]) (fun _ => by rw [hway, q3])⟩
              unfold B_X12_gather_91
              dsimp only
              rw [i2, if_neg h9, m1, bind_some, m2, bind_some, ix, w1, bind_some, m3, bind_some, if_neg nr, bind_some, q3, if_neg u, g1, bind_some, if_neg (show ¬ bI true = 0 by decide), wb, bind_some, nI_1]) FU nn (0, t) ⟨0, t, rfl, by omega, SS.refl t, rfl, rfl, rfl, fun k hk => absurd hk (by omega), fun _ _ => ⟨rfl, rfl⟩⟩ (FU_lt (by omega))
