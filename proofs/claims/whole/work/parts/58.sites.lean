/-! sites -/
theorem or_0 (x : Int32) : x ||| 0 = x := b_ext (fun i _ => by rw [b_or, b_0, Bool.or_false])
theorem wet_nat {N : Int} {s t : St} (h : RX N s t) (w : Nat) : ∃ e : Nat, (e = 0 ∨ e = 1) ∧ t.2.1 1202 w = nI e := by
  have := h.land.2.1 w
  obtain ⟨e, e1, e2, _⟩ := i32_nat this.1
  exact ⟨e, by have := this.2; omega, e1⟩
/-- how far the children of a village may walk -/
noncomputable def lmt (s t : St) (i : Nat) (y q : Int32) : Int32 := wq s t 0 (t.2.1 1205 i) y q (cgirls t (nI i) y q + cboys t (nI i) y q) (t.2.1 1206 i) 0 0
theorem limit_two {N : Int} {s t : St} (h : RX N s t) {i : Nat} (hi : i < 24) (w q : Int32) : ∃ (l f : Nat → Int32) (x : Int32) (l2 g : Nat → Int32) (p v : Int32), F_X1_walkLimit (nI i) (w / 52) q s = some (lmt s t i (w / 52) q, CL s l f x) ∧ F_X12_mayWalk (nI i) w q t = some (lmt s t i (w / 52) q, ML t l2 g p v) := by
  obtain ⟨z0, z1, z2, z3, z4, z5, z6, z7⟩ := h.folk
  obtain ⟨s3, t3, l, f, l2, g, x, p, v, a1, a2, a3, a4, ⟨l0, f0, x0, a5⟩, ⟨m0, m1, m2, m3, a6⟩, _⟩ := askS h (k := 0) (by omega) (shire := t.2.1 1205 i) (year := w / 52) (q := q) (a := cgirls t (nI i) (w / 52) q + cboys t (nI i) (w / 52) q) (b := t.2.1 1206 i) (c := 0) (d := 0) (z6 i).1
  have k1 : rd s 104 24 (nI i) = some (t.2.1 1206 i) := by rw [rd_nI hi (by omega), z4]
  have k2 : rd s3 103 24 (nI i) = some (t.2.1 1205 i) := by
    rw [rd_nI hi (by omega), a5]
    exact congrArg some (congrFun z3 i)
  have k3 : rd t 1205 24 (nI i) = some (t.2.1 1205 i) := rd_nI hi (by omega)
  have k4 : rd t 1206 24 (nI i) = some (t.2.1 1206 i) := rd_nI hi (by omega)
  have k5 : rd t3 1205 24 (nI i) = some (t.2.1 1205 i) := by
    rw [rd_nI hi (by omega), a6]
    rfl
  unfold lmt
  refine ⟨l, f, x, l2, g, p, v, ?_, ?_⟩
  · unfold F_X1_walkLimit
    rw [C_childrenOf h.cnt, bind_some, k1, bind_some, a1, bind_some, k2, bind_some]
    have a3' := a3
    rw [show nI 0 = (0 : Int32) from rfl] at a3'
    rw [a3', bind_some]
  · unfold F_X12_mayWalk
    have a4' : F_X12_worthOf (t.2.1 1205 i) (w / 52) q 119 t3 = _ := a4
    rw [k3, bind_some, M_children h.cnt.2.1, bind_some, k4, bind_some, a2, bind_some, k5, bind_some, a4', bind_some]
theorem M_walked (t : St) {c : Nat} (hc : c < 120) : F_X12_walkedTo (nI c) t = some (if t.2.1 1203 c < 1000000 then t.2.1 1203 c else -1) := by
  have := M_walkedTo t (t.2.1 1203) hc
  rw [setA_self] at this
  exact this
theorem near_cases {F : Nat → Option Nat} {c : Nat} (hF : ∀ x, F c = some x → x ≤ 11880) : ((100000000 : Int32) ≤ wN F 100000000 c ∧ (if wN F 1000000 c < 1000000 then wN F 1000000 c else (-1 : Int32)) = -1) ∨ ∃ x, x ≤ 11880 ∧ wN F 100000000 c = nI x ∧ ¬ (100000000 : Int32) ≤ nI x ∧ (if wN F 1000000 c < 1000000 then wN F 1000000 c else (-1 : Int32)) = nI x ∧ ¬ nI x = -1 := by
  have e1 : (100000000 : Int32).toInt = 100000000 := rfl
  have e2 : (1000000 : Int32).toInt = 1000000 := rfl
  unfold wN
  cases h : F c with
  | none =>
    dsimp only
    exact Or.inl ⟨Int32.le_refl _, if_neg (by decide)⟩
  | some x =>
    have := hF x h
    dsimp only
    refine Or.inr ⟨x, this, rfl, ?_, if_pos ?_, nI_neg1 (by omega)⟩
    · rw [i32_le, nI_toInt (by omega)]
      omega
    · rw [i32_lt, nI_toInt (by omega)]
      omega
/-- which sites are near: both loops -/
theorem near_two {N : Int} {s t t0 : St} (h : RX N s t) (h0 : SS t t0) {n a : Nat} (hn : n < 24) {f : Nat → Int32} {F : Nat → Option Nat} (hF : ∀ c, c < 120 → ∀ x, F c = some x → x ≤ 11880) (hd : dyn s a = some (120, f)) (hf : ∀ c, c < 120 → f c = wN F 100000000 c) (hD : ∀ c, c < 120 → t0.2.1 1203 c = wN F 1000000 c) (hz : t0.2.1 1255 n = 0) (v1 v2 L : Int32) : ∃ bits t', F_X7_nearBits a L s = some bits ∧ lp (B_X12_look__67 v1 v2 (nI n) L) FU (0, t0) = some t' ∧ SS t t' ∧ t'.2.1 1255 n = bits ∧ ∀ k, k ≠ n → t'.2.1 1255 k = t0.2.1 1255 k := by
  obtain ⟨z0, z1, z2, z3, _⟩ := h.site
  obtain ⟨S, eS, eS2, _⟩ := i32_nat z1.1
  have hS : S ≤ 9 := by have := z1.2; omega
  obtain ⟨y, t', h1, h2, h3⟩ := lp_two (B := B_X7_nearBits_5 a L s) (B2 := B_X12_look__67 v1 v2 (nI n) L)
    (fun m X Z => ∃ (k : Nat) (acc : Int32) (t' : St), X = (acc, nI k) ∧ Z = (nI k, t') ∧ k + m = S ∧ SS t t' ∧ t'.2.1 1255 n = acc ∧ (∀ k, k ≠ n → t'.2.1 1255 k = t0.2.1 1255 k) ∧ t'.2.1 1203 = t0.2.1 1203)
    (fun y t' => SS t t' ∧ t'.2.1 1255 n = y ∧ ∀ k, k ≠ n → t'.2.1 1255 k = t0.2.1 1255 k) (by
      rintro m _ _ ⟨k, acc, t', rfl, rfl, hk, hs, ha, ho, h3⟩
      have i1 : s.1 702 = nI S := by rw [z0, eS]
      have i2 : t'.1 1256 = nI S := by rw [hs.i (k := 1256) rfl, eS]
      by_cases c : k = S
      · right
        subst c
        refine ⟨acc, t', ?_, ?_, hs, ha, ho⟩
        · unfold B_X7_nearBits_5
          dsimp only
          rw [i1, if_pos (Int32.le_refl _)]
        · unfold B_X12_look__67
          dsimp only
          rw [i2, if_pos (Int32.le_refl _)]
      · left
        have h9 : ¬ nI S ≤ nI k := by
          rw [i32_le, nI_toInt (by omega), nI_toInt (by omega)]
          omega
        obtain ⟨c, ec, ec2, _⟩ := i32_nat (z3 k).1
        have hc : c < 120 := by have := (z3 k).2; omega
        have k1 : rd s 703 9 (nI k) = some (nI c) := by rw [rd_nI (by omega) (by omega), z2, ec]
        have k2 : ra s a (nI c) = some (wN F 100000000 c) := by rw [ra_dyn hd hc (by omega), hf c hc]
        have m1 : rd t' 1254 9 (nI k) = some (nI c) := by rw [rd_nI (by omega) (by omega), hs.a (k := 1254) rfl, ec]
        have m2 : F_X12_walkedTo (nI c) t' = some (if wN F 1000000 c < 1000000 then wN F 1000000 c else -1) := by rw [M_walked t' hc, h3, hD c hc]
        have m3 : rd t' 1255 24 (nI n) = some acc := by rw [rd_nI hn (by omega), ha]
        have wr' : ∀ v, wr t' 1255 24 (nI n) v = some (sA t' 1255 n v) := fun v => wr_nI hn (by omega)
        have b9 : ∀ v, (sA t' 1255 n v).2.1 1255 = upd (t'.2.1 1255) n v := fun v => sA_at _ _ _ _
        have fin : ∀ v, SS t (sA t' 1255 n v) ∧ (sA t' 1255 n v).2.1 1255 n = v ∧ (∀ k, k ≠ n → (sA t' 1255 n v).2.1 1255 k = t0.2.1 1255 k) ∧ (sA t' 1255 n v).2.1 1203 = t0.2.1 1203 := fun v => ⟨hs.trans (SS_sA _ _ _ rfl), by rw [b9, upd_at], fun k hk => by rw [b9, upd_ne _ _ hk]; exact ho k hk, h3⟩
        rcases near_cases (F := F) (c := c) (hF c hc) with ⟨q1, q2⟩ | ⟨x, x1, q1, q2, q3, q4⟩
        · refine ⟨(acc, nI (k + 1)), (nI (k + 1), sA t' 1255 n (acc ||| 0)), m - 1, ?_, ?_, by omega, k + 1, acc, _, rfl, rfl, by omega, (fin _).1, by rw [(fin _).2.1, or_0], (fin _).2.2.1, (fin _).2.2.2⟩
          · unfold B_X7_nearBits_5
            dsimp only
            rw [i1, if_neg h9, k1, bind_some, k2, bind_some, if_pos q1, nI_1]
          · unfold B_X12_look__67
            dsimp only
            rw [i2, if_neg h9, m1, bind_some, m2, bind_some, m3, bind_some, q2, if_pos rfl, wr', bind_some, nI_1]
        · by_cases q5 : L < nI x
          · refine ⟨(acc, nI (k + 1)), (nI (k + 1), sA t' 1255 n (acc ||| 0)), m - 1, ?_, ?_, by omega, k + 1, acc, _, rfl, rfl, by omega, (fin _).1, by rw [(fin _).2.1, or_0], (fin _).2.2.1, (fin _).2.2.2⟩
            · unfold B_X7_nearBits_5
              dsimp only
              rw [i1, if_neg h9, k1, bind_some, k2, bind_some, q1, if_neg q2, if_pos q5, nI_1]
            · unfold B_X12_look__67
              dsimp only
              rw [i2, if_neg h9, m1, bind_some, m2, bind_some, m3, bind_some, q3, if_neg q4, if_pos q5, wr', bind_some, nI_1]
          · refine ⟨(acc ||| (1 <<< (nI k &&& 31)), nI (k + 1)), (nI (k + 1), sA t' 1255 n (acc ||| (1 <<< (nI k &&& 31)))), m - 1, ?_, ?_, by omega, k + 1, _, _, rfl, rfl, by omega, (fin _).1, (fin _).2.1, (fin _).2.2.1, (fin _).2.2.2⟩
            · unfold B_X7_nearBits_5
              dsimp only
              rw [i1, if_neg h9, k1, bind_some, k2, bind_some, q1, if_neg q2, if_neg q5, nI_1]
            · unfold B_X12_look__67
              dsimp only
              rw [i2, if_neg h9, m1, bind_some, m2, bind_some, m3, bind_some, q3, if_neg q4, if_neg q5, wr', bind_some, nI_1]) FU FU S (0, 0) (0, t0) ⟨0, 0, t0, rfl, rfl, by omega, h0, hz, fun _ _ => rfl, rfl⟩ (FU_lt (by omega)) (FU_lt (by omega))
  refine ⟨y, t', ?_, h2, h3⟩
  unfold F_X7_nearBits F_X7_nearBits_5
  rw [h1]
  rfl
theorem look_two {N : Int} {s t : St} (h : RX N s t) (v1 : Int32) {w : Nat} (hw : w ≤ 600) {V : Nat} (eV : t.1 1212 = nI V) (hV : V ≤ 24) : ∃ s' t', F_X7_look v1 (nI w) (t.1 1200) s = some s' ∧ F_X12_look_ v1 (nI w) t = some t' ∧ RX N s' t' ∧ SS t t' ∧ ∀ k, k < V → s'.2.1 704 k = t'.2.1 1255 k := by
  obtain ⟨e, he, ew⟩ := wet_nat h w
  obtain ⟨s', t', h1, h2, h3⟩ := lp_two (B := B_X7_look_13 v1 (nI w) (t.1 1200) (nI e)) (B2 := B_X12_look__2 v1 (nI w))
    (fun m X Z => ∃ (n : Nat) (s' t' : St), X = (nI n, s') ∧ Z = (nI n, t') ∧ n + m = V ∧ RX N s' t' ∧ SS t t' ∧ ∀ k, k < n → s'.2.1 704 k = t'.2.1 1255 k)
    (fun s' t' => RX N s' t' ∧ SS t t' ∧ ∀ k, k < V → s'.2.1 704 k = t'.2.1 1255 k) (by
      rintro m _ _ ⟨n, s', t', rfl, rfl, hn, hR, hs, hk⟩
      have i2 : t'.1 1212 = nI V := by rw [hs.i (k := 1212) rfl, eV]
      have i1 : s'.1 101 = nI V := by rw [hR.folk.1, i2]
      by_cases c : n = V
      · right
        subst c
        refine ⟨s', t', ?_, ?_, hR, hs, hk⟩
        · unfold B_X7_look_13
          dsimp only
          rw [i1, if_pos (Int32.le_refl _)]
        · unfold B_X12_look__2
          dsimp only
          rw [i2, if_pos (Int32.le_refl _)]
      · left
        have h9 : ¬ nI V ≤ nI n := by
          rw [i32_le, nI_toInt (by omega), nI_toInt (by omega)]
          omega
        have hn24 : n < 24 := by omega
        have w1 : wr s' 704 24 (nI n) 0 = some (sA s' 704 n 0) := wr_nI hn24 (by omega)
        have w2 : wr t' 1255 24 (nI n) 0 = some (sA t' 1255 n 0) := wr_nI hn24 (by omega)
        have hs2 : SS t (sA t' 1255 n 0) := hs.trans (SS_sA _ _ _ rfl)
        have hR2 : RX N (sA s' 704 n 0) (sA t' 1255 n 0) := hR.ss (SS_sA _ _ _ rfl) (SS_sA _ _ _ rfl)
        have a7 : (sA s' 704 n 0).2.1 704 = upd (s'.2.1 704) n 0 := sA_at _ _ _ _
        have b7 : (sA t' 1255 n 0).2.1 1255 = upd (t'.2.1 1255) n 0 := sA_at _ _ _ _
        have p1 : ∀ k, k < n → (sA s' 704 n 0).2.1 704 k = (sA t' 1255 n 0).2.1 1255 k := fun k hk2 => by
          rw [a7, b7, upd_ne _ _ (by omega), upd_ne _ _ (by omega)]
          exact hk k hk2
        have p2 : (sA s' 704 n 0).2.1 704 n = 0 := by rw [a7, upd_at]
        have p3 : (sA t' 1255 n 0).2.1 1255 n = 0 := by rw [b7, upd_at]
        generalize sA s' 704 n 0 = s2 at *
        generalize sA t' 1255 n 0 = t2 at *
        cases hb : bt v1 n with
        | false =>
          have c0 : (v1 >>> (nI n &&& 31)) &&& 1 = 0 := (bt_is0 _ (by omega)).mpr hb
          have c1 : ¬ (v1 >>> (nI n &&& 31)) &&& 1 = 1 := fun z => by rw [(bt_is _ (by omega)).mp z] at hb; cases hb
          refine ⟨(nI (n + 1), s2), (nI (n + 1), t2), m - 1, ?_, ?_, by omega, n + 1, s2, t2, rfl, rfl, by omega, hR2, hs2, fun k hk2 => ?_⟩
          · unfold B_X7_look_13
            dsimp only
            rw [i1, if_neg h9, w1, bind_some, if_neg c1, nI_1]
          · unfold B_X12_look__2
            dsimp only
            rw [i2, if_neg h9, w2, bind_some, if_pos c0]
            unfold F_X12_look__125
            rw [nI_1]
          · by_cases e : k = n
            · rw [e, p2, p3]
            · exact p1 k (by omega)
        | true =>
          have c1 : (v1 >>> (nI n &&& 31)) &&& 1 = 1 := (bt_is _ (by omega)).mpr hb
          have c0 : ¬ (v1 >>> (nI n &&& 31)) &&& 1 = 0 := fun z => by rw [(bt_is0 _ (by omega)).mp z] at hb; cases hb
          obtain ⟨l, f, x, l2, g, p, v, g1, g2⟩ := limit_two hR2 hn24 (nI w) (t.1 1200)
          generalize lmt s2 t2 n (nI w / 52) (t.1 1200) = L at g1 g2
          have hR3 := hR2.scr l f x l2 g p v
          have hs3 : SS t (ML t2 l2 g p v) := hs2.trans (SS_ML _ _ _ _ _)
          have q1 : (CL s2 l f x).2.1 704 = s2.2.1 704 := rfl
          have q2 : (ML t2 l2 g p v).2.1 1255 = t2.2.1 1255 := rfl
          have j0 : t2.1 1200 = t.1 1200 := hs2.i (k := 1200) rfl
          generalize CL s2 l f x = s3 at *
          generalize ML t2 l2 g p v = t3 at *
          obtain ⟨f1, f2, f3, f4, f5, f6, f7, f8⟩ := hR3.folk
          obtain ⟨b, eb, eb2, _⟩ := i32_nat (f6 n).1
          have hb120 : b < 120 := by have := (f6 n).2; omega
          have k1 : rd s3 102 24 (nI n) = some (nI b) := by rw [rd_nI hn24 (by omega), f3, eb]
          have k2 : rd t3 1204 24 (nI n) = some (nI b) := by rw [rd_nI hn24 (by omega), eb]
          have k3 : rd t3 1202 601 (nI w) = some (nI e) := by rw [rd_nI (by omega) (by omega), hs3.a (k := 1202) rfl, ew]
          obtain ⟨D, F, m1, m2, m3⟩ := M_far hR3 he hb120
          obtain ⟨a, s5, fr, r1, r2, r3, r4, r5⟩ := C_rowFrom hR3 he hb120 m2
          have hs5 : SS t (setA t3 1203 D) := hs3.trans (SS_setA _ (k := 1203) D rfl)
          have hR5 : RX N s5 (setA t3 1203 D) := r2.ss (SS.refl _) (SS_setA _ (k := 1203) D rfl)
          obtain ⟨bits, t6, n1, n2, n3, n4, n5⟩ := near_two hR5 (SS.refl _) (n := n) hn24 (L := L) (v1 := v1) (v2 := nI w) m2.2 (dyn_hi r3.1 r3.2) r4 (fun c hc => by rw [setA_at]; exact m3 c hc) (show t3.2.1 1255 n = 0 by rw [q2, p3])
          have a9 : (sA s5 704 n bits).2.1 704 = upd (s5.2.1 704) n bits := sA_at _ _ _ _
          have hM : B_X12_look__2 v1 (nI w) (nI n, t') = some (.inl (nI (n + 1), t6)) := by
            unfold B_X12_look__2
            dsimp only
            rw [i2, if_neg h9, w2, bind_some, if_neg c0, j0, g2, bind_some]
            dsimp only
            rw [k2, bind_some, k3, bind_some]
            have fin : F_X12_look__67 v1 (nI w) (nI n) L 0 (setA t3 1203 D) = some (.inl (nI (n + 1), t6)) := by
              unfold F_X12_look__67
              rw [n2, bind_some]
              unfold F_X12_look__125
              rw [nI_1]
            rcases he with rfl | rfl
            · rw [if_pos (show nI 0 = 0 from rfl)]
              rw [show nI 0 = (0 : Int32) from rfl] at m1
              rw [m1, bind_some, fin]
            · rw [if_neg (show ¬ nI 1 = 0 by decide)]
              rw [show nI 1 = (1 : Int32) from rfl] at m1
              rw [m1, bind_some, fin]
          refine ⟨(nI (n + 1), sA s5 704 n bits), (nI (n + 1), t6), m - 1, ?_, hM, by omega, n + 1, _, _, rfl, rfl, by omega, hR5.ss (SS_sA _ _ _ rfl) n3, hs5.trans n3, fun k hk2 => ?_⟩
          · unfold B_X7_look_13
            dsimp only
            rw [i1, if_neg h9, w1, bind_some, if_pos c1, g1, bind_some]
            dsimp only
            rw [k1, bind_some, r1, bind_some]
            dsimp only
            rw [n1, bind_some, wr_nI hn24 (by omega), bind_some, nI_1]
          · rw [a9]
            by_cases e : k = n
            · rw [e, upd_at, n4]
            · rw [upd_ne _ _ e, n5 k e, r5.2.1 704 (by omega), q1]
              show _ = t3.2.1 1255 k
              rw [q2]
              exact p1 k (by omega)) 25 FU V (0, s) (0, t) ⟨0, s, t, rfl, rfl, by omega, h, SS.refl t, fun k hk => absurd hk (by omega)⟩ (by omega) (FU_lt (by omega))
  refine ⟨s', t', ?_, ?_, h3⟩
  · unfold F_X7_look
    rw [C_isWet h hw, bind_some, ew]
    unfold F_X7_look_13
    rw [h1]
    rfl
  · unfold F_X12_look_ F_X12_look__2
    rw [h2]
    rfl
/-- the lowest village without -/
theorem left_two {s t : St} {V : Nat} (hV : V ≤ 24) (i1 : s.1 101 = nI V) (i2 : t.1 1212 = nI V) (hk : ∀ k, k < V → s.2.1 704 k = t.2.1 1255 k) (set vs : Int32) : ∃ r, F_X7_lowestWithout set vs s = some r ∧ F_X12_firstLeft set vs t = some r := by
  obtain ⟨y, z, h1, h2, rfl⟩ := lp_two (B := B_X7_lowestWithout_2 set vs s) (B2 := B_X12_firstLeft_2 set vs t)
    (fun m X Z => ∃ n : Nat, X = nI n ∧ Z = nI n ∧ n + m = V) (fun y z => y = z) (by
      rintro m _ _ ⟨n, rfl, rfl, hn⟩
      by_cases c : n = V
      · right
        subst c
        refine ⟨.inl (), .inl (), ?_, ?_, rfl⟩
        · unfold B_X7_lowestWithout_2
          dsimp only
          rw [i1, if_pos (Int32.le_refl _)]
        · unfold B_X12_firstLeft_2
          dsimp only
          rw [i2, if_pos (Int32.le_refl _)]
      · have h9 : ¬ nI V ≤ nI n := by
          rw [i32_le, nI_toInt (by omega), nI_toInt (by omega)]
          omega
        have k1 : rd s 704 24 (nI n) = some (t.2.1 1255 n) := by rw [rd_nI (by omega) (by omega), hk n (by omega)]
        have k2 : rd t 1255 24 (nI n) = some (t.2.1 1255 n) := rd_nI (by omega) (by omega)
        by_cases c1 : (vs >>> (nI n &&& 31)) &&& 1 = 1
        · by_cases c2 : t.2.1 1255 n &&& set = 0
          · right
            refine ⟨.inr (nI n), .inr (nI n), ?_, ?_, rfl⟩
            · unfold B_X7_lowestWithout_2
              dsimp only
              rw [i1, if_neg h9, if_pos c1, k1, bind_some, if_pos c2]
            · unfold B_X12_firstLeft_2
              dsimp only
              rw [i2, if_neg h9, if_pos c1, k2, bind_some, if_pos c2]
          · left
            refine ⟨nI (n + 1), nI (n + 1), m - 1, ?_, ?_, by omega, n + 1, rfl, rfl, by omega⟩
            · unfold B_X7_lowestWithout_2
              dsimp only
              rw [i1, if_neg h9, if_pos c1, k1, bind_some, if_neg c2, nI_1]
            · unfold B_X12_firstLeft_2
              dsimp only
              rw [i2, if_neg h9, if_pos c1, k2, bind_some, if_neg c2, nI_1]
        · left
          refine ⟨nI (n + 1), nI (n + 1), m - 1, ?_, ?_, by omega, n + 1, rfl, rfl, by omega⟩
          · unfold B_X7_lowestWithout_2
            dsimp only
            rw [i1, if_neg h9, if_neg c1, nI_1]
          · unfold B_X12_firstLeft_2
            dsimp only
            rw [i2, if_neg h9, if_neg c1, nI_1]) FU FU V 0 0 ⟨0, rfl, rfl, by omega⟩ (FU_lt (by omega)) (FU_lt (by omega))
  refine ⟨Sum.elim (fun _ => -1) id y, ?_, ?_⟩
  · unfold F_X7_lowestWithout F_X7_lowestWithout_2
    rw [h1]
    cases y <;> rfl
  · unfold F_X12_firstLeft F_X12_firstLeft_2
    rw [h2]
    cases y <;> rfl
theorem pow_ok : ∀ n, n < 25 → (1 : Int32) <<< (nI n &&& 31) = nI (2 ^ n) := by decide +kernel
theorem bc_ok : ∀ n, n < 512 → ∃ r, r < 10 ∧ F_J6_bitCount_0f7a4 (nI n) = some (nI r) := by decide +kernel
theorem bc_m1 : F_J6_bitCount_0f7a4 (-1) = some 32 := by decide +kernel
/-- a set within another is not above it -/
theorem sub_le {a b : Nat} (ha : a < 2 ^ 31) (hb : b < 2 ^ 31) (h : nI a &&& (nI b ^^^ (-1)) = 0) : a ≤ b := by
  have h1 : nI a &&& nI b = nI a := by
    refine b_ext (fun i hi => ?_)
    have h2 : bt (nI a &&& (nI b ^^^ (-1))) i = bt 0 i := by rw [h]
    rw [b_and, bt_not _ hi, b_0] at h2
    rw [b_and]
    cases q1 : bt (nI a) i <;> cases q2 : bt (nI b) i <;> rw [q1, q2] at h2 <;> first | rfl | cases h2
  rw [nx_and] at h1
  have h2 : a &&& b < 2 ^ 31 := Nat.lt_of_le_of_lt Nat.and_le_left ha
  have h3 := (nI_eq h2 ha).mp h1
  rw [← h3]
  exact Nat.and_le_right
def bestI (v : Int32) : Prop := v = -1 ∨ ∃ k : Nat, k < 512 ∧ v = nI k
/-- sets above the allowed ones are passed over -/
theorem few_idle {t : St} {K o : Nat} (hK : K ≤ 512) (ho : o < K) (eK : (1 : Int32) <<< (t.1 1256 &&& 31) = nI K) (vs v : Int32) : ∀ (m n : Nat), n + m = K → o < n → ∀ F, m < F → lp (B_X12_fewest_5 (nI o) vs t) F (v, nI n) = some v
  | 0, n, e, _, F, hF => by
    obtain ⟨F, rfl⟩ : ∃ F', F = F' + 1 := ⟨F - 1, by omega⟩
    refine lp_r ?_
    unfold B_X12_fewest_5
    dsimp only
    have : n = K := by omega
    rw [eK, this, if_pos (Int32.le_refl _)]
  | m + 1, n, e, hn, F, hF => by
    obtain ⟨F, rfl⟩ : ∃ F', F = F' + 1 := ⟨F - 1, by omega⟩
    have h9 : ¬ nI K ≤ nI n := by
      rw [i32_le, nI_toInt (by omega), nI_toInt (by omega)]
      omega
    have hz : ¬ nI n &&& (nI o ^^^ (-1)) = 0 := fun z => absurd (sub_le (by omega) (by omega) z) (by omega)
    have hB : B_X12_fewest_5 (nI o) vs t (v, nI n) = some (.inl (v, nI (n + 1))) := by
      unfold B_X12_fewest_5
      dsimp only
      rw [eK, if_neg h9, if_neg hz, nI_1]
    rw [lp_l hB]
    exact few_idle hK ho eK vs v m (n + 1) (by omega) (by omega) F (by omega)
theorem few_rec {s t : St} {K o V : Nat} (hK : K ≤ 512) (ho : o < K) (eK : (1 : Int32) <<< (t.1 1256 &&& 31) = nI K) (hV : V ≤ 24) (i1 : s.1 101 = nI V) (i2 : t.1 1212 = nI V) (hk : ∀ k, k < V → s.2.1 704 k = t.2.1 1255 k) (vs : Int32) : ∀ (m n : Nat) (v : Int32), n + m = o + 1 → bestI v → ∀ F F2, m < F → K - n < F2 → ∃ r, lp (B_X7_fewest_5 (nI o) vs s) F (v, nI n) = some r ∧ lp (B_X12_fewest_5 (nI o) vs t) F2 (v, nI n) = some r ∧ bestI r
  | 0, n, v, e, hv, F, F2, hF, hF2 => by
    obtain ⟨F, rfl⟩ : ∃ F', F = F' + 1 := ⟨F - 1, by omega⟩
    refine ⟨v, lp_r ?_, few_idle hK ho eK vs v (K - n) n (by omega) (by omega) F2 hF2, hv⟩
    unfold B_X7_fewest_5
    dsimp only
    refine if_pos ?_
    rw [i32_lt, nI_toInt (by omega), nI_toInt (by omega)]
    omega
  | m + 1, n, v, e, hv, F, F2, hF, hF2 => by
    obtain ⟨F, rfl⟩ : ∃ F', F = F' + 1 := ⟨F - 1, by omega⟩
    obtain ⟨F2, rfl⟩ : ∃ F', F2 = F' + 1 := ⟨F2 - 1, by omega⟩
    have e0 : (0 : Int32).toInt = 0 := rfl
    have h9 : ¬ nI K ≤ nI n := by
      rw [i32_le, nI_toInt (by omega), nI_toInt (by omega)]
      omega
    have h8 : ¬ nI o < nI n := by
      rw [i32_lt, nI_toInt (by omega), nI_toInt (by omega)]
      omega
    have step : ∃ v', bestI v' ∧ B_X7_fewest_5 (nI o) vs s (v, nI n) = some (.inl (v', nI (n + 1))) ∧ B_X12_fewest_5 (nI o) vs t (v, nI n) = some (.inl (v', nI (n + 1))) := by
      have bn : bestI (nI n) := Or.inr ⟨n, by omega, rfl⟩
      by_cases hz : nI n &&& (nI o ^^^ (-1)) = 0
      · obtain ⟨r, l1, l2⟩ := left_two hV i1 i2 hk (nI n) vs
        by_cases hr : r = -1
        · obtain ⟨r2, r3, r4⟩ := bc_ok n (by omega)
          rcases hv with rfl | ⟨k, k1, rfl⟩
          · refine ⟨nI n, bn, ?_, ?_⟩
            · unfold B_X7_fewest_5
              dsimp only
              rw [if_neg h8, if_pos hz, l1, bind_some, if_pos hr, r4, bind_some, bc_m1, bind_some, if_pos rfl, nI_1]
            · unfold B_X12_fewest_5
              dsimp only
              rw [eK, if_neg h9, if_pos hz, l2, bind_some, if_pos hr, if_pos rfl, r4, bind_some, if_pos rfl, if_pos rfl, nI_1]
          · obtain ⟨q2, q3, q4⟩ := bc_ok k k1
            have nk : ¬ nI k = -1 := nI_neg1 (by omega)
            have bk : bestI (nI k) := Or.inr ⟨k, k1, rfl⟩
            have t1 : nI r2 - nI q2 < 0 ↔ nI r2 < nI q2 := by
              rw [i32_lt, i32_lt, i32_sub (by rw [nI_toInt (by omega), nI_toInt (by omega)]; omega) (by rw [nI_toInt (by omega), nI_toInt (by omega)]; omega), nI_toInt (by omega), nI_toInt (by omega)]
              omega
            have t2 : nI r2 - nI q2 = 0 ↔ nI r2 = nI q2 := by
              rw [i32_eq, i32_eq, i32_sub (by rw [nI_toInt (by omega), nI_toInt (by omega)]; omega) (by rw [nI_toInt (by omega), nI_toInt (by omega)]; omega), nI_toInt (by omega), nI_toInt (by omega)]
              omega
            have hC : B_X7_fewest_5 (nI o) vs s (nI k, nI n) = if nI r2 < nI q2 then some (.inl (nI n, nI n + 1)) else if nI r2 = nI q2 then if ((nI n &&& (nI n ^^^ nI k)) &&& (-(nI n ^^^ nI k))) = 0 then some (.inl (nI k, nI n + 1)) else some (.inl (nI n, nI n + 1)) else some (.inl (nI k, nI n + 1)) := by
              unfold B_X7_fewest_5
              dsimp only
              rw [if_neg h8, if_pos hz, l1, bind_some, if_pos hr, r4, bind_some, q4, bind_some, if_neg nk]
              by_cases u1 : nI r2 < nI q2
              · rw [if_pos u1, if_pos (t1.mpr u1)]
              · rw [if_neg u1, if_neg (fun z => u1 (t1.mp z))]
                by_cases u2 : nI r2 = nI q2
                · rw [if_pos u2, if_pos (t2.mpr u2)]
                · rw [if_neg u2, if_neg (fun z => u2 (t2.mp z))]
            have hM : B_X12_fewest_5 (nI o) vs t (nI k, nI n) = if nI r2 < nI q2 then some (.inl (nI n, nI n + 1)) else if nI r2 = nI q2 then if ((nI n &&& (nI n ^^^ nI k)) &&& (-(nI n ^^^ nI k))) = 0 then some (.inl (nI k, nI n + 1)) else some (.inl (nI n, nI n + 1)) else some (.inl (nI k, nI n + 1)) := by
              unfold B_X12_fewest_5
              dsimp only
              rw [eK, if_neg h9, if_pos hz, l2, bind_some, if_pos hr, if_neg nk, r4, bind_some, if_neg nk, q4, bind_some, if_neg nk]
            rw [hC, hM, nI_1]
            by_cases u1 : nI r2 < nI q2
            · exact ⟨nI n, bn, if_pos u1, if_pos u1⟩
            · rw [if_neg u1]
              by_cases u2 : nI r2 = nI q2
              · rw [if_pos u2]
                by_cases u3 : ((nI n &&& (nI n ^^^ nI k)) &&& (-(nI n ^^^ nI k))) = 0
                · exact ⟨nI k, bk, if_pos u3, if_pos u3⟩
                · exact ⟨nI n, bn, if_neg u3, if_neg u3⟩
              · exact ⟨nI k, bk, if_neg u2, if_neg u2⟩
        · refine ⟨v, hv, ?_, ?_⟩
          · unfold B_X7_fewest_5
            dsimp only
            rw [if_neg h8, if_pos hz, l1, bind_some, if_neg hr, nI_1]
          · unfold B_X12_fewest_5
            dsimp only
            rw [eK, if_neg h9, if_pos hz, l2, bind_some, if_neg hr, nI_1]
      · refine ⟨v, hv, ?_, ?_⟩
        · unfold B_X7_fewest_5
          dsimp only
          rw [if_neg h8, if_neg hz, nI_1]
        · unfold B_X12_fewest_5
          dsimp only
          rw [eK, if_neg h9, if_neg hz, nI_1]
    obtain ⟨v', b1, b2, b3⟩ := step
    rw [lp_l b2, lp_l b3]
    exact few_rec hK ho eK hV i1 i2 hk vs m (n + 1) v' (by omega) b1 F F2 (by omega) (by omega)
/-- which sets of villages, which of sites -/
theorem vill_two {N : Int} {s t : St} (h : RX N s t) (a b : Int32) : ∃ (V : Nat), V ≤ 24 ∧ t.1 1212 = nI V ∧ s.1 101 = nI V ∧ (F_X11_areVillages a s = some 0 ∧ F_X12_mayCover a b t = some 0 ∨ F_X11_areVillages a s = some 1 ∧ (inb b 0 600 = false ∧ F_X12_mayCover a b t = some 0 ∨ ¬ inb b 0 600 = false ∧ F_X12_mayCover a b t = some 1)) := by
  have e0 : (0 : Int32).toInt = 0 := rfl
  have e1 : (1 : Int32).toInt = 1 := rfl
  obtain ⟨f1, f2, _⟩ := h.folk
  obtain ⟨V, eV, eV2, _⟩ := i32_nat f2.1
  have hV : V ≤ 24 := by have := f2.2; omega
  have i1 : s.1 101 = nI V := by rw [f1, eV]
  have hp := pow_ok V (by omega)
  have hlt : 2 ^ V ≤ 2 ^ 24 := Nat.pow_le_pow_right (by omega) hV
  have hge : 1 ≤ 2 ^ V := Nat.one_le_two_pow
  have hP := nI_toInt (n := 2 ^ V) (by omega)
  refine ⟨V, hV, eV, i1, ?_⟩
  unfold F_X11_areVillages F_X12_mayCover
  rw [i1, eV, hp]
  have hsub : (nI (2 ^ V) - 1).toInt = (2 ^ V : Nat) - 1 := by rw [i32_sub (by omega) (by omega), hP, e1]
  by_cases c1 : a < 0
  · left
    rw [if_pos c1]
    rw [i32_lt, e0] at c1
    refine ⟨?_, rfl⟩
    have : inb a 0 (nI (2 ^ V) - 1) = false := by
      rw [inb_no]
      exact fun z => by have := z.1; omega
    rw [this]
    rfl
  · rw [if_neg c1]
    rw [i32_lt, e0] at c1
    by_cases c2 : nI (2 ^ V) ≤ a
    · left
      rw [if_pos c2]
      rw [i32_le, hP] at c2
      refine ⟨?_, rfl⟩
      have : inb a 0 (nI (2 ^ V) - 1) = false := by
        rw [inb_no]
        exact fun z => by have := z.2; omega
      rw [this]
      rfl
    · right
      rw [if_neg c2]
      rw [i32_le, hP] at c2
      have : inb a 0 (nI (2 ^ V) - 1) = true := by
        rw [inb_iff]
        exact ⟨by omega, by omega⟩
      rw [this]
      refine ⟨rfl, ?_⟩
      by_cases c3 : inb b 0 600 = false
      · exact Or.inl ⟨c3, by rw [if_pos c3]⟩
      · exact Or.inr ⟨c3, by rw [if_neg c3]⟩
theorem week_nat {b : Int32} (h : ¬ inb b 0 600 = false) : ∃ w : Nat, w ≤ 600 ∧ b = nI w := by
  have e0 : (0 : Int32).toInt = 0 := rfl
  have e6 : (600 : Int32).toInt = 600 := rfl
  obtain ⟨q1, q2⟩ := inb_R h
  obtain ⟨w, e1, e2, _⟩ := i32_nat (x := b) (by omega)
  exact ⟨w, by omega, e1⟩
theorem site_K {N : Int} {s t : St} (h : RX N s t) : ∃ K : Nat, 1 ≤ K ∧ K ≤ 512 ∧ (1 : Int32) <<< (t.1 1256 &&& 31) = nI K ∧ (1 : Int32) <<< (s.1 702 &&& 31) = nI K ∧ nI K - 1 = nI (K - 1) := by
  obtain ⟨f1, f2, _⟩ := h.site
  obtain ⟨S, eS, eS2, _⟩ := i32_nat f2.1
  have hS : S ≤ 9 := by have := f2.2; omega
  have hlt : 2 ^ S ≤ 2 ^ 9 := Nat.pow_le_pow_right (by omega) hS
  have hge : 1 ≤ 2 ^ S := Nat.one_le_two_pow
  refine ⟨2 ^ S, hge, hlt, by rw [eS, pow_ok S (by omega)], by rw [f1, eS, pow_ok S (by omega)], ?_⟩
  have : nI (2 ^ S) = nI (2 ^ S - 1) + 1 := by rw [nI_1]; congr 1; omega
  rw [this, Int32.add_sub_cancel]
theorem P_cover {N : Int} {s t : St} (h : RX N s t) (a b : Int32) : Two (RX (N + 1)) (F_X11_cover a b s) (F_X12_cover a b t) := by
  obtain ⟨V, hV, eV, i1, hc⟩ := vill_two h a b
  unfold F_X11_cover F_X12_cover
  rcases hc with ⟨c1, c2⟩ | ⟨c1, ⟨c2, c3⟩ | ⟨c2, c3⟩⟩
  · rw [c1, c2, bind_some, bind_some, if_pos rfl, if_pos rfl]
    exact Two_ret _ h.up
  · rw [c1, c3, bind_some, bind_some, if_neg (show ¬ (1 : Int32) = 0 by decide), if_pos c2, if_pos rfl]
    exact Two_ret _ h.up
  · obtain ⟨w, hw, rfl⟩ := week_nat c2
    rw [c1, c3, bind_some, bind_some, if_neg (show ¬ (1 : Int32) = 0 by decide), if_neg c2, if_neg (show ¬ (1 : Int32) = 0 by decide), h.now.1]
    obtain ⟨s', t', l1, l2, l3, l4, l5⟩ := look_two h a hw eV hV
    rw [l1, l2, bind_some, bind_some]
    obtain ⟨K, k1, k2, k3, k4, k5⟩ := site_K l3
    have j2 : t'.1 1212 = nI V := by rw [l4.i (k := 1212) rfl, eV]
    have j1 : s'.1 101 = nI V := by rw [l3.folk.1, j2]
    obtain ⟨r, r1, r2, r3⟩ := few_rec k2 (o := K - 1) (by omega) k3 hV j1 j2 l5 a K 0 (-1) (by omega) (Or.inl rfl) FU FU (FU_lt (by omega)) (FU_lt (by omega))
    unfold F_X7_all
    rw [k3, k4, k5, bind_some]
    unfold F_X7_fewest F_X7_fewest_5 F_X12_fewest F_X12_fewest_5
    have r1' : lp (B_X7_fewest_5 (nI (K - 1)) a s') FU (-1, 0) = some r := r1
    have r2' : lp (B_X12_fewest_5 (nI (K - 1)) a t') FU (-1, 0) = some r := r2
    rw [r1', r2']
    exact Two_ret r l3.up
theorem P_beyond {N : Int} {s t : St} (h : RX N s t) (a b : Int32) : Two (RX (N + 1)) (F_X11_beyond a b s) (F_X12_beyond a b t) := by
  obtain ⟨V, hV, eV, i1, hc⟩ := vill_two h a b
  unfold F_X11_beyond F_X12_beyond
  rcases hc with ⟨c1, c2⟩ | ⟨c1, ⟨c2, c3⟩ | ⟨c2, c3⟩⟩
  · rw [c1, c2, bind_some, bind_some, if_pos rfl, if_pos rfl]
    exact Two_ret _ h.up
  · rw [c1, c3, bind_some, bind_some, if_neg (show ¬ (1 : Int32) = 0 by decide), if_pos c2, if_pos rfl]
    exact Two_ret _ h.up
  · obtain ⟨w, hw, rfl⟩ := week_nat c2
    rw [c1, c3, bind_some, bind_some, if_neg (show ¬ (1 : Int32) = 0 by decide), if_neg c2, if_neg (show ¬ (1 : Int32) = 0 by decide), h.now.1]
    obtain ⟨s', t', l1, l2, l3, l4, l5⟩ := look_two h a hw eV hV
    rw [l1, l2, bind_some, bind_some]
    obtain ⟨K, k1, k2, k3, k4, k5⟩ := site_K l3
    have j2 : t'.1 1212 = nI V := by rw [l4.i (k := 1212) rfl, eV]
    have j1 : s'.1 101 = nI V := by rw [l3.folk.1, j2]
    obtain ⟨r, r1, r2⟩ := left_two hV j1 j2 l5 (nI (K - 1)) a
    unfold F_X7_all
    rw [k3, k4, k5, bind_some, r1, r2]
    exact Two_ret r l3.up
theorem sites_two {N : Int} {s t : St} (h : RX N s t) (a : Int32) : (F_X11_areSites a s = some 0 ∧ (a < 0 ∨ ¬ a < 0 ∧ (1 : Int32) <<< (t.1 1256 &&& 31) ≤ a)) ∨ (F_X11_areSites a s = some 1 ∧ ¬ a < 0 ∧ a < (1 : Int32) <<< (t.1 1256 &&& 31) ∧ ∃ o K : Nat, K ≤ 512 ∧ o < K ∧ a = nI o ∧ (1 : Int32) <<< (t.1 1256 &&& 31) = nI K) := by
  have e0 : (0 : Int32).toInt = 0 := rfl
  obtain ⟨K, k1, k2, k3, k4, k5⟩ := site_K h
  have hK := nI_toInt (n := K) (by omega)
  have hK1 := nI_toInt (n := K - 1) (by omega)
  unfold F_X11_areSites F_X7_all
  rw [k3, k4, k5, bind_some]
  by_cases c1 : a < 0
  · left
    refine ⟨?_, Or.inl c1⟩
    rw [i32_lt, e0] at c1
    have : inb a 0 (nI (K - 1)) = false := by
      rw [inb_no]
      exact fun z => by have := z.1; omega
    rw [this]
    rfl
  · by_cases c2 : nI K ≤ a
    · left
      refine ⟨?_, Or.inr ⟨c1, c2⟩⟩
      rw [i32_le, hK] at c2
      have : inb a 0 (nI (K - 1)) = false := by
        rw [inb_no]
        exact fun z => by have := z.2; omega
      rw [this]
      rfl
    · right
      have c1' := c1
      have c2' := c2
      rw [i32_lt, e0] at c1'
      rw [i32_le, hK] at c2'
      have : inb a 0 (nI (K - 1)) = true := by
        rw [inb_iff]
        exact ⟨by omega, by omega⟩
      rw [this]
      obtain ⟨o, o1, o2, _⟩ := i32_nat (x := a) (by omega)
      refine ⟨rfl, c1, ?_, o, K, k2, by omega, o1, rfl⟩
      rw [i32_lt, hK]
      omega
theorem P_judge {N : Int} {s t : St} (h : RX N s t) (a b c : Int32) : Two (RX (N + 1)) (F_X11_judge a b c s) (F_X12_judge a b c t) := by
  obtain ⟨V, hV, eV, i1, hc⟩ := vill_two h b c
  have hs := sites_two h a
  unfold F_X11_judge F_X12_judge
  rcases hs with ⟨d1, d2⟩ | ⟨d1, d2, d3, _⟩
  · rw [d1, bind_some, if_pos rfl]
    have hM : ((F_X12_mayCover b c t).bind fun r1 => if r1 = 0 then some ((-2 : Int32), t) else if a < 0 then some ((-2), t) else if a < (1 <<< ((t.1 1256) &&& 31)) then (F_X12_look_ b c t).bind fun s2 => (F_X12_firstLeft a b s2).bind fun r3 => some (r3, s2) else some ((-2), t)) = some ((-2), t) := by
      have hr : ∃ r, F_X12_mayCover b c t = some r := by
        rcases hc with ⟨_, c2⟩ | ⟨_, ⟨_, c3⟩ | ⟨_, c3⟩⟩ <;> exact ⟨_, by assumption⟩
      obtain ⟨r, hr⟩ := hr
      rw [hr, bind_some]
      by_cases u : r = 0
      · rw [if_pos u]
      · rw [if_neg u]
        rcases d2 with d2 | ⟨d2, d3⟩
        · rw [if_pos d2]
        · rw [if_neg d2, if_neg]
          rw [i32_lt]
          rw [i32_le] at d3
          omega
    rw [hM]
    exact Two_ret _ h.up
  · rw [d1, bind_some, if_neg (show ¬ (1 : Int32) = 0 by decide)]
    rcases hc with ⟨c1, c2⟩ | ⟨c1, ⟨c2, c3⟩ | ⟨c2, c3⟩⟩
    · rw [c1, c2, bind_some, bind_some, if_pos rfl, if_pos rfl]
      exact Two_ret _ h.up
    · rw [c1, c3, bind_some, bind_some, if_neg (show ¬ (1 : Int32) = 0 by decide), if_pos c2, if_pos rfl]
      exact Two_ret _ h.up
    · obtain ⟨w, hw, rfl⟩ := week_nat c2
      rw [c1, c3, bind_some, bind_some, if_neg (show ¬ (1 : Int32) = 0 by decide), if_neg c2, if_neg (show ¬ (1 : Int32) = 0 by decide), if_neg d2, if_pos d3, h.now.1]
      obtain ⟨s', t', l1, l2, l3, l4, l5⟩ := look_two h b hw eV hV
      rw [l1, l2, bind_some, bind_some]
      have j2 : t'.1 1212 = nI V := by rw [l4.i (k := 1212) rfl, eV]
      have j1 : s'.1 101 = nI V := by rw [l3.folk.1, j2]
      obtain ⟨r, r1, r2⟩ := left_two hV j1 j2 l5 a b
      rw [r1, r2]
      exact Two_ret r l3.up
/-- a row's year -/
theorem year_two {s t : St} (h : s.2.1 706 = t.2.1 1298) {n : Nat} (hn : n < 6) (r v4 v5 : Int32) {set : Int32} (hb : F_J6_bitCount_0f7a4 set = some r) : ∃ y, lp (B_X12_plan_75 set v5 (nI n) t) FU (0, 0) = some y ∧ ((y = 8 ∧ F_X7_yearOf (nI n) r s = some (-1)) ∨ (¬ y = 8 ∧ ¬ y = -1 ∧ F_X7_yearOf (nI n) r s = some y)) := by
  have e8 : (8 : Int32).toInt = 8 := rfl
  obtain ⟨Y, y, h1, h2, h3⟩ := lp_two (B := B_X7_yearOf_5 (nI n) r s) (B2 := B_X12_plan_75 set v5 (nI n) t)
    (fun m X Z => ∃ (k : Nat) (sum : Int32), X = (sum, nI k) ∧ Z = (sum, nI k) ∧ k + m = 8)
    (fun Y y => (Y = .inl () ∧ y = 8) ∨ ∃ k : Nat, k < 8 ∧ Y = .inr (nI k) ∧ y = nI k) (by
      rintro m _ _ ⟨k, sum, rfl, rfl, hk⟩
      by_cases c : k = 8
      · right
        subst c
        refine ⟨.inl (), nI 8, ?_, ?_, Or.inl ⟨rfl, rfl⟩⟩
        · unfold B_X7_yearOf_5
          dsimp only
          exact if_pos (by decide)
        · unfold B_X12_plan_75
          dsimp only
          exact if_pos (by decide)
      · have h9 : ¬ (8 : Int32) ≤ nI k := by
          rw [i32_le, nI_toInt (by omega)]
          omega
        have ix : nI n * 8 + nI k = nI (8 * n + k) := idxN (k := 8) (by omega) (by omega) (by omega)
        have ix2 : 8 * nI n + nI k = nI (8 * n + k) := idxN2 (k := 8) (by omega) (by omega) (by omega)
        have k1 : rd s 706 48 (nI (8 * n + k)) = some (t.2.1 1298 (8 * n + k)) := by rw [rd_nI (by omega) (by omega), h]
        have k2 : rd t 1298 48 (nI (8 * n + k)) = some (t.2.1 1298 (8 * n + k)) := rd_nI (by omega) (by omega)
        by_cases d : sum + t.2.1 1298 (8 * n + k) < r
        · left
          have d2 : ¬ r ≤ sum + t.2.1 1298 (8 * n + k) := by rw [i32_le]; rw [i32_lt] at d; omega
          refine ⟨(sum + t.2.1 1298 (8 * n + k), nI (k + 1)), (sum + t.2.1 1298 (8 * n + k), nI (k + 1)), m - 1, ?_, ?_, by omega, k + 1, _, rfl, rfl, by omega⟩
          · unfold B_X7_yearOf_5
            dsimp only
            rw [if_neg h9, ix, k1, bind_some, if_pos d, nI_1]
          · unfold B_X12_plan_75
            dsimp only
            rw [if_neg h9, ix2, k2, bind_some, hb, bind_some, if_neg d2, bind_some, nI_1]
        · right
          have d2 : r ≤ sum + t.2.1 1298 (8 * n + k) := by rw [i32_le]; rw [i32_lt] at d; omega
          refine ⟨.inr (nI k), nI k, ?_, ?_, Or.inr ⟨k, by omega, rfl, rfl⟩⟩
          · unfold B_X7_yearOf_5
            dsimp only
            rw [if_neg h9, ix, k1, bind_some, if_neg d]
          · unfold B_X12_plan_75
            dsimp only
            rw [if_neg h9, ix2, k2, bind_some, hb, bind_some, if_pos d2]) FU FU 8 (0, 0) (0, 0) ⟨0, 0, rfl, rfl, by omega⟩ (FU_lt (by omega)) (FU_lt (by omega))
  refine ⟨y, h2, ?_⟩
  unfold F_X7_yearOf F_X7_yearOf_5
  rw [h1]
  rcases h3 with ⟨rfl, rfl⟩ | ⟨k, k1, rfl, rfl⟩
  · exact Or.inl ⟨rfl, rfl⟩
  · refine Or.inr ⟨fun z => ?_, nI_neg1 (by omega), rfl⟩
    have := congrArg Int32.toInt z
    rw [nI_toInt (by omega), e8] at this
    omega
theorem P_plan {N : Int} {s t : St} (h : RX N s t) (a b c : Int32) : Two (RX (N + 1)) (F_X11_plan a b c s) (F_X12_plan a b c t) := by
  obtain ⟨V, hV, eV, i1, hc⟩ := vill_two h b c
  have hs := sites_two h a
  have e0 : (0 : Int32).toInt = 0 := rfl
  have n10 : ¬ (1 : Int32) = 0 := by decide
  unfold F_X11_plan F_X12_plan
  rcases hs with ⟨d1, d2⟩ | ⟨d1, d2, d3, o, K, hK, ho, rfl, eK⟩
  · rw [d1, bind_some, if_pos rfl]
    rcases hc with ⟨_, c3⟩ | ⟨_, ⟨_, c3⟩ | ⟨_, c3⟩⟩
    · rw [c3, bind_some, if_pos rfl]
      exact Two_ret _ h.up
    · rw [c3, bind_some, if_pos rfl]
      exact Two_ret _ h.up
    · rw [c3, bind_some, if_neg n10]
      rcases d2 with d2 | ⟨d2, d3⟩
      · rw [if_pos d2]
        exact Two_ret _ h.up
      · rw [if_neg d2, if_pos d3]
        exact Two_ret _ h.up
  · have d4 : ¬ (1 : Int32) <<< (t.1 1256 &&& 31) ≤ nI o := by rw [i32_le]; rw [i32_lt] at d3; omega
    rw [d1, bind_some, if_neg n10]
    rcases hc with ⟨c1, c2⟩ | ⟨c1, ⟨c2, c3⟩ | ⟨c2, c3⟩⟩
    · rw [c1, c2, bind_some, bind_some, if_pos rfl, if_pos rfl]
      exact Two_ret _ h.up
    · rw [c1, c3, bind_some, bind_some, if_neg n10, if_pos c2, if_pos rfl]
      exact Two_ret _ h.up
    · obtain ⟨w, hw, rfl⟩ := week_nat c2
      rw [c1, c3, bind_some, bind_some, if_neg n10, if_neg c2, if_neg n10, if_neg d2, if_neg d4, h.now.1]
      obtain ⟨s', t', l1, l2, l3, l4, l5⟩ := look_two h b hw eV hV
      have j2 : t'.1 1212 = nI V := by rw [l4.i (k := 1212) rfl, eV]
      have j1 : s'.1 101 = nI V := by rw [l3.folk.1, j2]
      have eK' : (1 : Int32) <<< (t'.1 1256 &&& 31) = nI K := by rw [l4.i (k := 1256) rfl, eK]
      obtain ⟨r, r1, r2, r3⟩ := few_rec hK ho eK' hV j1 j2 l5 b (o + 1) 0 (-1) (by omega) (Or.inl rfl) FU FU (FU_lt (by omega)) (FU_lt (by omega))
      have r1' : lp (B_X7_fewest_5 (nI o) b s') FU (-1, 0) = some r := r1
      have r2' : lp (B_X12_fewest_5 (nI o) b t') FU (-1, 0) = some r := r2
      have hCf : F_X7_fewest (nI o) b s' = some r := by
        unfold F_X7_fewest F_X7_fewest_5
        rw [r1']
        rfl
      have hMf : F_X12_fewest (nI o) b t' = some r := by
        unfold F_X12_fewest F_X12_fewest_5
        rw [r2']
        rfl
      obtain ⟨q0, q1, q2, q3, q4, q5, q6, q7⟩ := l3.site
      have e705 : s'.1 705 = t.1 1299 := by rw [q4, l4.i (k := 1299) rfl]
      rw [l1, bind_some, hCf, bind_some]
      unfold F_X7_worstYear
      by_cases c4 : t.1 1299 = 0
      · rw [if_pos c4, e705, if_pos c4]
        have : (if r = -1 then (some (-1) : Option Int32) else some (-1)) = some (-1) := by split <;> rfl
        rw [this, bind_some]
        exact Two_ret _ (l3.ss (SS.refl s') l4.symm).up
      · rw [if_neg c4, l2, bind_some, hMf, bind_some, e705, if_neg c4]
        by_cases c5 : r = -1
        · rw [if_pos c5, if_pos c5, bind_some]
          exact Two_ret _ l3.up
        · rw [if_neg c5, if_neg c5]
          obtain ⟨k, k1, rfl⟩ := r3.resolve_left c5
          obtain ⟨bc, b1, b2⟩ := bc_ok k k1
          obtain ⟨R, eR, eR2, _⟩ := i32_nat q5.1
          have hR : R ≤ 6 := by have := q5.2; omega
          unfold F_X7_worstYear_18 F_X12_plan_60
          obtain ⟨Y, Z, g1, g2, rfl⟩ := lp_two (B := B_X7_worstYear_18 (nI k) s') (B2 := B_X12_plan_60 (nI k) t')
            (fun m X Z => ∃ (n : Nat) (v : Int32), X = (v, nI n) ∧ Z = (v, nI n) ∧ n + m = R) (fun Y Z => Y = Z) (by
              rintro m _ _ ⟨n, v, rfl, rfl, hn⟩
              by_cases c : n = R
              · right
                subst c
                refine ⟨.inl v, .inl v, ?_, ?_, rfl⟩
                · unfold B_X7_worstYear_18
                  dsimp only
                  rw [q4, eR, if_pos (Int32.le_refl _)]
                · unfold B_X12_plan_60
                  dsimp only
                  rw [eR, if_pos (Int32.le_refl _)]
              · have h9 : ¬ nI R ≤ nI n := by
                  rw [i32_le, nI_toInt (by omega), nI_toInt (by omega)]
                  omega
                obtain ⟨y, y1, ⟨y2, y3⟩ | ⟨y2, y3, y4⟩⟩ := year_two q6 (n := n) (by omega) (nI bc) v v (set := nI k) b2
                · right
                  refine ⟨.inr (), .inr (), ?_, ?_, rfl⟩
                  · unfold B_X7_worstYear_18
                    dsimp only
                    rw [q4, eR, if_neg h9, b2, bind_some, y3, bind_some, if_pos rfl]
                  · unfold B_X12_plan_60
                    dsimp only
                    rw [eR, if_neg h9]
                    unfold F_X12_plan_75
                    rw [y1, bind_some]
                    unfold F_X12_plan_130
                    rw [if_pos y2]
                · left
                  refine ⟨(zmx v y, nI (n + 1)), (zmx v y, nI (n + 1)), m - 1, ?_, ?_, by omega, n + 1, _, rfl, rfl, by omega⟩
                  · unfold B_X7_worstYear_18
                    dsimp only
                    rw [q4, eR, if_neg h9, b2, bind_some, y4, bind_some, if_neg y3, nI_1]
                  · unfold B_X12_plan_60
                    dsimp only
                    rw [eR, if_neg h9]
                    unfold F_X12_plan_75
                    rw [y1, bind_some]
                    unfold F_X12_plan_130
                    rw [if_neg y2, nI_1]) FU FU R (0, 0) (0, 0) ⟨0, 0, rfl, rfl, by omega⟩ (FU_lt (by omega)) (FU_lt (by omega))
          rw [g1, g2]
          cases Y with
          | inl v => exact Two_ret v l3.up
          | inr _ => exact Two_ret (-1) l3.up
