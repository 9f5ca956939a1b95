/-! span -/
theorem i64_add {x y : Int64} (h1 : -9000000000000000000 ≤ x.toInt + y.toInt) (h2 : x.toInt + y.toInt < 9000000000000000000) : (x + y).toInt = x.toInt + y.toInt := by
  rw [Int64.toInt_add]
  exact Int.bmod_eq_of_le (by omega) (by omega)
theorem i64_mul {x y : Int64} (h1 : -9000000000000000000 ≤ x.toInt * y.toInt) (h2 : x.toInt * y.toInt < 9000000000000000000) : (x * y).toInt = x.toInt * y.toInt := by
  rw [Int64.toInt_mul]
  exact Int.bmod_eq_of_le (by omega) (by omega)
theorem i64_div {x y : Int64} (h1 : -9000000000000000000 ≤ x.toInt.tdiv y.toInt) (h2 : x.toInt.tdiv y.toInt < 9000000000000000000) : (x / y).toInt = x.toInt.tdiv y.toInt := by
  rw [Int64.toInt_div]
  exact Int.bmod_eq_of_le (by omega) (by omega)
theorem i32_div {x y : Int32} (h1 : -2147483648 ≤ x.toInt.tdiv y.toInt) (h2 : x.toInt.tdiv y.toInt < 2147483648) : (x / y).toInt = x.toInt.tdiv y.toInt := by
  rw [Int32.toInt_div]
  exact Int.bmod_eq_of_le (by omega) (by omega)
theorem mn64_int (a b : Int64) : (mn64 a b).toInt = min a.toInt b.toInt := by
  unfold mn64
  by_cases c : b < a
  · rw [if_pos c]
    rw [Int64.lt_iff_toInt_lt] at c
    omega
  · rw [if_neg c]
    rw [Int64.lt_iff_toInt_lt] at c
    omega
theorem mx64_int (a b : Int64) : (mx64 a b).toInt = max a.toInt b.toInt := by
  unfold mx64
  by_cases c : b < a
  · rw [if_pos c]
    rw [Int64.lt_iff_toInt_lt] at c
    omega
  · rw [if_neg c]
    rw [Int64.lt_iff_toInt_lt] at c
    omega
theorem zmn_int (a b : Int32) : (zmn a b).toInt = min a.toInt b.toInt := by
  unfold zmn
  by_cases c : b < a
  · rw [if_pos c]
    rw [i32_lt] at c
    omega
  · rw [if_neg c]
    rw [i32_lt] at c
    omega
theorem zmx_int (a b : Int32) : (zmx a b).toInt = max a.toInt b.toInt := by
  unfold zmx
  by_cases c : a < b
  · rw [if_pos c]
    rw [i32_lt] at c
    omega
  · rw [if_neg c]
    rw [i32_lt] at c
    omega
theorem rat_two {x A : Int32} (hx : inR x 0 1998) (hA : inR A 1 1998) : ((1000 * Int32.toInt64 x) / Int32.toInt64 A).toInt = (1000 * x / A).toInt ∧ inR (1000 * x / A) 0 2000000 := by
  obtain ⟨x1, x2⟩ := hx
  obtain ⟨a1, a2⟩ := hA
  have e1 : (1000 : Int32).toInt = 1000 := rfl
  have e2 : (1000 : Int64).toInt = 1000 := rfl
  have m1 : (1000 * x).toInt = 1000 * x.toInt := by
    rw [i32_mul (by rw [e1]; omega) (by rw [e1]; omega), e1]
  have m2 : (1000 * Int32.toInt64 x).toInt = 1000 * x.toInt := by
    rw [i64_mul (by rw [e2, Int32.toInt_toInt64]; omega) (by rw [e2, Int32.toInt_toInt64]; omega), e2, Int32.toInt_toInt64]
  have d0 : 0 ≤ (1000 * x.toInt).tdiv A.toInt := Int.tdiv_nonneg (by omega) (by omega)
  have d1 : (1000 * x.toInt).tdiv A.toInt ≤ 1000 * x.toInt := by
    rw [Int.tdiv_eq_ediv_of_nonneg (by omega)]
    exact Int.ediv_le_self _ (by omega)
  have k1 : (1000 * x / A).toInt = (1000 * x.toInt).tdiv A.toInt := by
    rw [i32_div (by rw [m1]; omega) (by rw [m1]; omega), m1]
  refine ⟨?_, ?_, ?_⟩
  · rw [i64_div (by rw [m2, Int32.toInt_toInt64]; omega) (by rw [m2, Int32.toInt_toInt64]; omega), m2, Int32.toInt_toInt64, k1]
  · rw [k1]; exact d0
  · rw [k1]; omega
theorem rec_ok {s : St} {n : Nat} (hs : s.1 113 = nI n) (hn : n ≤ 60) (v b c : Int32) : ∃ r, lp (B_X1_recountOf_6 v b c s) FU (-1, 0) = some r ∧ (r = -1 ∨ ∃ k, k < 60 ∧ r = nI k) := by
  refine lp_inv (B := B_X1_recountOf_6 v b c s) (fun m X => ∃ i : Nat, X.2 = nI i ∧ i + m = n ∧ (X.1 = -1 ∨ ∃ k, k < 60 ∧ X.1 = nI k)) (fun r => r = -1 ∨ ∃ k, k < 60 ∧ r = nI k) ?_ FU n (-1, 0) ⟨0, rfl, by omega, Or.inl rfl⟩ (FU_lt (by omega))
  rintro m ⟨x, z⟩ ⟨i, hz, hi, hx⟩
  dsimp only at hx hz
  subst hz
  by_cases e : i = n
  · right
    have h9 : s.1 113 ≤ nI i := by rw [hs, e]; exact Int32.le_refl _
    refine ⟨x, ?_, hx⟩
    unfold B_X1_recountOf_6
    dsimp only
    rw [if_pos h9]
  · left
    have h9 : ¬ s.1 113 ≤ nI i := by
      rw [hs, i32_le, nI_toInt (by omega), nI_toInt (by omega)]
      omega
    have r1 : rd s 114 60 (nI i) = some (s.2.1 114 i) := rd_nI (by omega) (by omega)
    have r2 : rd s 115 60 (nI i) = some (s.2.1 115 i) := rd_nI (by omega) (by omega)
    have r3 : rd s 116 60 (nI i) = some (s.2.1 116 i) := rd_nI (by omega) (by omega)
    by_cases q : s.2.1 114 i = v ∧ s.2.1 115 i = b ∧ ¬ c < s.2.1 116 i
    · refine ⟨(nI i, nI (i + 1)), m - 1, ?_, by omega, i + 1, rfl, by omega, Or.inr ⟨i, by omega, rfl⟩⟩
      unfold B_X1_recountOf_6
      dsimp only
      rw [if_neg h9, r1, bind_some, if_pos q.1, r2, bind_some, if_pos q.2.1, r3, bind_some, if_neg q.2.2, nI_1]
    · refine ⟨(x, nI (i + 1)), m - 1, ?_, by omega, i + 1, rfl, by omega, hx⟩
      unfold B_X1_recountOf_6
      dsimp only
      rw [if_neg h9, r1, bind_some]
      by_cases q1 : s.2.1 114 i = v
      · rw [if_pos q1, r2, bind_some]
        by_cases q2 : s.2.1 115 i = b
        · rw [if_pos q2, r3, bind_some, if_pos (show c < s.2.1 116 i from Classical.byContradiction (fun w => q ⟨q1, q2, w⟩)), nI_1]
        · rw [if_neg q2, nI_1]
      · rw [if_neg q1, nI_1]
theorem span_inner {s t : St} (h : RRec s t) (a b c d v5 v6 v7 v8 v9 : Int32) : B_X12_span_80 a b c d v5 v6 v7 v8 v9 t = B_X1_recountOf_6 v8 b c s := by
  obtain ⟨z0, z1, z2, z3, z4, z5, z6⟩ := h
  funext ⟨x, y⟩
  unfold B_X12_span_80 B_X1_recountOf_6
  dsimp only
  rw [z0, rd_same (n := 60) (i := y) z2, rd_same (n := 60) (i := y) z3, rd_same (n := 60) (i := y) z4]
theorem span_loop {N : Int} {s t : St} (h : RX N s t) (a b c d d2 : Int32) : ∃ (V5 V7 V9 : Int64) (v5 v6 v7 : Int32), lp (B_X1_spanned_16 a b c d s) FU (0, -1, -1, 0) = some (V5, V7, V9) ∧ lp (B_X12_span_34 a b c d2 t) FU (0, -1, -1, 0) = some (v5, v6, v7) ∧ V5.toInt = v5.toInt ∧ V7.toInt = v6.toInt ∧ V9.toInt = v7.toInt ∧ inR v5 0 50000 ∧ inR v6 (-1) 2000000 ∧ inR v7 (-1) 2000000 := by
  obtain ⟨z0, z1, z2, z3, z4, z5, z6, z7⟩ := h.folk
  obtain ⟨n, en, en2, _⟩ := i32_nat z1.1
  have hn : n ≤ 24 := by have := z1.2; omega
  obtain ⟨rn, ern, ern2, _⟩ := i32_nat h.rec.2.1.1
  have hrn : rn ≤ 60 := by have := h.rec.2.1.2; omega
  have e0 : (0 : Int32).toInt = 0 := rfl
  have e0' : (0 : Int64).toInt = 0 := rfl
  have em : (-1 : Int32).toInt = -1 := rfl
  obtain ⟨Y, W, h1, h2, V5, V7, V9, v5, v6, v7, h3, h4, h5⟩ := lp_two (B := B_X1_spanned_16 a b c d s) (B2 := B_X12_span_34 a b c d2 t)
    (fun m X Z => ∃ (i : Nat) (V5 V7 V9 : Int64) (v5 v6 v7 : Int32), X = (V5, V7, V9, nI i) ∧ Z = (v5, v6, v7, nI i) ∧ i + m = n ∧ V5.toInt = v5.toInt ∧ V7.toInt = v6.toInt ∧ V9.toInt = v7.toInt ∧ inR v5 0 (1998 * i) ∧ inR v6 (-1) 2000000 ∧ inR v7 (-1) 2000000)
    (fun y w => ∃ (V5 V7 V9 : Int64) (v5 v6 v7 : Int32), y = (V5, V7, V9) ∧ w = (v5, v6, v7) ∧ V5.toInt = v5.toInt ∧ V7.toInt = v6.toInt ∧ V9.toInt = v7.toInt ∧ inR v5 0 50000 ∧ inR v6 (-1) 2000000 ∧ inR v7 (-1) 2000000) (by
      rintro m _ _ ⟨i, V5, V7, V9, v5, v6, v7, rfl, rfl, hi, w1, w2, w3, w4, w5, w6⟩
      obtain ⟨w4a, w4b⟩ := w4
      by_cases hc : i = n
      · right
        have h9 : s.1 101 ≤ nI i := by rw [z0, en, hc]; exact Int32.le_refl _
        have h8 : t.1 1212 ≤ nI i := by rw [en, hc]; exact Int32.le_refl _
        exact ⟨_, _, if_pos h9, if_pos h8, V5, V7, V9, v5, v6, v7, rfl, rfl, w1, w2, w3, ⟨w4a, by omega⟩, w5, w6⟩
      · left
        have hM : ¬ t.1 1212 ≤ nI i := by
          rw [en, i32_le, nI_toInt (by omega), nI_toInt (by omega)]
          omega
        have hC : ¬ s.1 101 ≤ nI i := by rw [z0]; exact hM
        have k1 : rd s 103 24 (nI i) = some (t.2.1 1205 i) := by rw [rd_nI (by omega) (by omega), z3]
        have k2 : rd t 1205 24 (nI i) = some (t.2.1 1205 i) := rd_nI (by omega) (by omega)
        by_cases q1 : t.2.1 1205 i = a
        · have c1 := C_childrenOf h.cnt (nI i) b c
          have m1 := M_children h.cnt.2.1 (nI i) b c
          have gR := cgirls_R h.cnt (nI i) b c
          have bR := cboys_R h.cnt (nI i) b c
          have hAR : inR (cgirls t (nI i) b c + cboys t (nI i) b c) 0 1998 := by
            obtain ⟨x1, x2⟩ := gR
            obtain ⟨y1, y2⟩ := bR
            unfold inR
            rw [i32_add (by omega) (by omega)]
            omega
          generalize cgirls t (nI i) b c + cboys t (nI i) b c = A at c1 m1 hAR
          obtain ⟨A1, A2⟩ := hAR
          obtain ⟨r, hr, hr2⟩ := rec_ok (s := s) (by rw [h.rec.1]; exact ern) hrn (nI i) b c
          have cR : F_X1_recountOf (nI i) b c s = some r := by
            unfold F_X1_recountOf F_X1_recountOf_6
            rw [hr]
            rfl
          have s1 : (V5 + Int32.toInt64 A).toInt = (v5 + A).toInt := by
            rw [i64_add (by rw [Int32.toInt_toInt64]; omega) (by rw [Int32.toInt_toInt64]; omega), i32_add (by omega) (by omega), Int32.toInt_toInt64, w1]
          have s2 : inR (v5 + A) 0 (1998 * ((i + 1 : Nat) : Int)) := by
            unfold inR
            rw [i32_add (by omega) (by omega)]
            omega
          by_cases q2 : A ≤ 0 ∨ r = -1
          · refine ⟨(V5 + Int32.toInt64 A, V7, V9, nI (i + 1)), (v5 + A, v6, v7, nI (i + 1)), m - 1, ?_, ?_, by omega, i + 1, _, _, _, _, _, _, rfl, rfl, by omega, s1, w2, w3, s2, w5, w6⟩
            · unfold B_X1_spanned_16
              dsimp only
              rw [if_neg hC, k1, bind_some, if_pos q1, c1, bind_some, cR, bind_some]
              by_cases q3 : r = -1
              · rw [if_pos q3, nI_1]
              · rw [if_neg q3, if_pos (show A ≤ 0 from q2.resolve_right q3), nI_1]
            · unfold B_X12_span_34 F_X12_span_80
              dsimp only
              rw [if_neg hM, k2, bind_some, if_pos q1, m1, bind_some, span_inner h.rec, hr, bind_some]
              unfold F_X12_span_138
              by_cases q3 : A ≤ 0
              · rw [if_pos q3, nI_1]
              · rw [if_neg q3, if_pos (show r = -1 from q2.resolve_left q3), nI_1]
          · have q3 : ¬ A ≤ 0 := fun e => q2 (Or.inl e)
            have q4 : ¬ r = -1 := fun e => q2 (Or.inr e)
            obtain ⟨k, hk, rfl⟩ := hr2.resolve_left q4
            have k3 : rd s 117 60 (nI k) = some (t.2.1 1278 k) := by rw [rd_nI hk (by omega), h.rec.2.2.2.2.2.1]
            have k4 : rd t 1278 60 (nI k) = some (t.2.1 1278 k) := rd_nI hk (by omega)
            have hx := h.rec.2.2.2.2.2.2 k
            have hA0 : 1 ≤ A.toInt := by
              rw [i32_le] at q3
              omega
            have q5 : ¬ A = 0 := fun e => by
              rw [e] at hA0
              exact absurd hA0 (by decide)
            have q6 : ¬ Int32.toInt64 A = 0 := fun e => by
              have := congrArg Int64.toInt e
              rw [Int32.toInt_toInt64] at this
              rw [e0'] at this
              omega
            obtain ⟨p1, p2, p3⟩ := rat_two hx ⟨hA0, A2⟩
            generalize t.2.1 1278 k = x at k3 k4 p1 p2 p3
            by_cases q7 : v6 = -1
            · have q8 : ¬ 0 ≤ lg_cmp V7 0 := by
                rw [lgc_ge, e0', w2, q7]
                decide
              refine ⟨(V5 + Int32.toInt64 A, (1000 * Int32.toInt64 x) / Int32.toInt64 A, mx64 V9 ((1000 * Int32.toInt64 x) / Int32.toInt64 A), nI (i + 1)), (v5 + A, (1000 * x) / A, zmx v7 ((1000 * x) / A), nI (i + 1)), m - 1, ?_, ?_, by omega, i + 1, _, _, _, _, _, _, rfl, rfl, by omega, s1, p1, ?_, s2, ⟨by omega, p3⟩, ?_⟩
              · unfold B_X1_spanned_16
                dsimp only
                rw [if_neg hC, k1, bind_some, if_pos q1, c1, bind_some, cR, bind_some, if_neg q4, if_neg q3, k3, bind_some, nzl_ok q6, bind_some, if_neg q8, nI_1]
              · unfold B_X12_span_34 F_X12_span_80
                dsimp only
                rw [if_neg hM, k2, bind_some, if_pos q1, m1, bind_some, span_inner h.rec, hr, bind_some]
                unfold F_X12_span_138
                rw [if_neg q3, if_neg q4, k4, bind_some, nz_ok q5, bind_some, if_pos q7, nI_1]
              · rw [mx64_int, zmx_int, p1, w3]
              · unfold inR
                rw [zmx_int]
                have := w6.1
                have := w6.2
                omega
            · have q8 : 0 ≤ lg_cmp V7 0 := by
                rw [lgc_ge, e0', w2]
                have := w5.1
                rw [i32_eq, em] at q7
                omega
              refine ⟨(V5 + Int32.toInt64 A, mn64 V7 ((1000 * Int32.toInt64 x) / Int32.toInt64 A), mx64 V9 ((1000 * Int32.toInt64 x) / Int32.toInt64 A), nI (i + 1)), (v5 + A, zmn v6 ((1000 * x) / A), zmx v7 ((1000 * x) / A), nI (i + 1)), m - 1, ?_, ?_, by omega, i + 1, _, _, _, _, _, _, rfl, rfl, by omega, s1, ?_, ?_, s2, ?_, ?_⟩
              · unfold B_X1_spanned_16
                dsimp only
                rw [if_neg hC, k1, bind_some, if_pos q1, c1, bind_some, cR, bind_some, if_neg q4, if_neg q3, k3, bind_some, nzl_ok q6, bind_some, if_pos q8, nI_1]
              · unfold B_X12_span_34 F_X12_span_80
                dsimp only
                rw [if_neg hM, k2, bind_some, if_pos q1, m1, bind_some, span_inner h.rec, hr, bind_some]
                unfold F_X12_span_138
                rw [if_neg q3, if_neg q4, k4, bind_some, nz_ok q5, bind_some, if_neg q7, nI_1]
              · rw [mn64_int, zmn_int, p1, w2]
              · rw [mx64_int, zmx_int, p1, w3]
              · unfold inR
                rw [zmn_int]
                have := w5.1
                have := w5.2
                omega
              · unfold inR
                rw [zmx_int]
                have := w6.1
                have := w6.2
                omega
        · refine ⟨(V5, V7, V9, nI (i + 1)), (v5, v6, v7, nI (i + 1)), m - 1, ?_, ?_, by omega, i + 1, _, _, _, _, _, _, rfl, rfl, by omega, w1, w2, w3, ⟨w4a, by omega⟩, w5, w6⟩
          · unfold B_X1_spanned_16
            dsimp only
            rw [if_neg hC, k1, bind_some, if_neg q1, nI_1]
          · unfold B_X12_span_34
            dsimp only
            rw [if_neg hM, k2, bind_some, if_neg q1, nI_1]) FU FU n (0, -1, -1, 0) (0, -1, -1, 0) ⟨0, 0, -1, -1, 0, -1, -1, rfl, rfl, by omega, rfl, rfl, rfl, ⟨by rw [e0]; omega, by rw [e0]; omega⟩, ⟨by rw [em]; omega, by rw [em]; omega⟩, ⟨by rw [em]; omega, by rw [em]; omega⟩⟩ (FU_lt (by omega)) (FU_lt (by omega))
  subst h3 h4
  exact ⟨V5, V7, V9, v5, v6, v7, h1, h2, h5⟩
theorem P_span {N : Int} {s t : St} (h : RX N s t) (a b c d : Int32) : Two0 (F_X11_span a b c d s) (F_X12_span a b c d t) := by
  obtain ⟨n0, n1⟩ := h.now
  have e1 : (1 : Int32).toInt = 1 := rfl
  have e0 : (0 : Int32).toInt = 0 := rfl
  have em : (-1 : Int32).toInt = -1 := rfl
  have e0' : (0 : Int64).toInt = 0 := rfl
  have ek : (1000 : Int64).toInt = 1000 := rfl
  by_cases ask : inb a 0 3 = false ∨ inb b 0 11 = false ∨ inb c 0 (t.1 1200) = false
  · have hM : F_X12_span a b c d t = some (-1) := by
      unfold F_X12_span
      rw [asked_no ask, bind_some, if_pos rfl]
    refine ⟨-1, ?_, hM⟩
    unfold F_X11_span F_X11_isPast
    by_cases c1 : inb a 0 3 = false
    · rw [if_pos c1]
    · rw [if_neg c1]
      by_cases c2 : inb b 0 11 = false
      · rw [if_pos c2]
      · rw [if_neg c2, bind_some, n0, if_pos]
        rw [bI_eq0]
        rcases ask with w | w | w
        · exact absurd w c1
        · exact absurd w c2
        · exact w
  · have c1 : ¬ inb a 0 3 = false := fun e => ask (Or.inl e)
    have c2 : ¬ inb b 0 11 = false := fun e => ask (Or.inr (Or.inl e))
    have c3 : ¬ inb c 0 (t.1 1200) = false := fun e => ask (Or.inr (Or.inr e))
    have hM0 : F_X12_span a b c d t = if inb d 0 1 = false then some (-1) else F_X12_span_34 a b c d 0 (-1) (-1) 0 t := by
      unfold F_X12_span
      rw [asked_yes c1 c2 c3, bind_some, if_neg (show ¬ (1 : Int32) = 0 by decide)]
    have hC0 : F_X11_span a b c d s = if inb d 0 1 = false then some (-1) else if d = 1 then F_X1_spanned a b c 1 s else F_X1_spanned a b c 0 s := by
      unfold F_X11_span F_X11_isPast
      rw [if_neg c1, if_neg c2, bind_some, n0, if_neg (show ¬ bI (inb c 0 (t.1 1200)) = 0 by rw [bI_eq0]; exact c3)]
      have hb : ∀ o : Option Int32, (o.bind fun r => some r) = o := fun o => by cases o <;> rfl
      rw [hb, hb]
    rw [hM0, hC0]
    by_cases c4 : inb d 0 1 = false
    · rw [if_pos c4, if_pos c4]
      exact Two0_ret _
    · rw [if_neg c4, if_neg c4]
      have hd := inb_R c4
      obtain ⟨hd1, hd2⟩ := hd
      obtain ⟨V5, V7, V9, v5, v6, v7, h1, h2, h3, h4, h5, h6, h7, h8⟩ := span_loop h a b c d d
      have hM : F_X12_span_34 a b c d 0 (-1) (-1) 0 t = F_X12_span_200 d v5 v6 v7 t := by
        unfold F_X12_span_34
        rw [h2, bind_some]
      have hC : F_X1_spanned a b c d s = F_X1_spanned_132 d V5 V7 V9 s := by
        unfold F_X1_spanned F_X1_spanned_16
        rw [h1, bind_some]
      have hV5 : V5 = Int32.toInt64 v5 := Int64.toInt_inj.mp (by rw [Int32.toInt_toInt64]; exact h3)
      have hV7 : V7 = Int32.toInt64 v6 := Int64.toInt_inj.mp (by rw [Int32.toInt_toInt64]; exact h4)
      have hV9 : V9 = Int32.toInt64 v7 := Int64.toInt_inj.mp (by rw [Int32.toInt_toInt64]; exact h5)
      have hCC : F_X1_spanned_132 d V5 V7 V9 s = F_X12_span_200 d v5 v6 v7 t := by
        unfold F_X1_spanned_132 F_X12_span_200
        by_cases q : v6 = -1
        · have q8 : ¬ 0 ≤ lg_cmp V7 0 := by
            rw [lgc_ge, e0', h4, q]
            decide
          rw [if_pos q, if_neg q8, hV5, Int32.toInt32_toInt64]
        · have q8 : 0 ≤ lg_cmp V7 0 := by
            rw [lgc_ge, e0', h4]
            have := h7.1
            rw [i32_eq, em] at q
            omega
          rw [if_neg q, if_pos q8, hV5, hV7, hV9]
      have hsome : ∃ r, F_X12_span_200 d v5 v6 v7 t = some r := by
        unfold F_X12_span_200
        split
        · exact ⟨_, rfl⟩
        · split <;> exact ⟨_, rfl⟩
      obtain ⟨r, hr⟩ := hsome
      rw [hM, hr]
      by_cases c5 : d = 1
      · rw [if_pos c5]
        rw [c5] at hC hCC hr
        rw [hC, hCC, hr]
        exact Two0_ret _
      · rw [if_neg c5]
        have c6 : d = 0 := by
          rw [i32_eq, e1] at c5
          rw [i32_eq, e0]
          omega
        rw [c6] at hC hCC hr
        rw [hC, hCC, hr]
        exact Two0_ret _
