/-! stay -/
theorem cbest_set {t : St} {G : Nat → Int32} {v y q : Int32} : ∀ n : Nat, cbest (setA t 1292 G) v y q n = cbest t v y q n
  | 0 => rfl
  | n + 1 => by
    have e1 : (setA t 1292 G).2.1 1207 = t.2.1 1207 := rfl
    have e2 : (setA t 1292 G).2.1 1208 = t.2.1 1208 := rfl
    have e3 : (setA t 1292 G).2.1 1211 = t.2.1 1211 := rfl
    have ih := cbest_set (t := t) (G := G) (v := v) (y := y) (q := q) n
    unfold cbest cge
    rw [ih, e1, e2, e3]
theorem cg_set (t : St) (G : Nat → Int32) (v y q : Int32) : cgirls (setA t 1292 G) v y q = cgirls t v y q := by
  unfold cgirls
  rw [cbest_set]
  rfl
theorem cb_set (t : St) (G : Nat → Int32) (v y q : Int32) : cboys (setA t 1292 G) v y q = cboys t v y q := by
  unfold cboys
  rw [cbest_set]
  rfl
theorem C_thousand {s t : St} (h : RCnt s t) (v y q : Int32) (hz : ¬ cgirls t v y q + cboys t v y q = 0) : F_X1_girlsInThousand v y q s = some (1000 * cgirls t v y q / (cgirls t v y q + cboys t v y q)) := by
  unfold F_X1_girlsInThousand
  rw [C_childrenOf h, bind_some, if_neg hz, C_girlsOf h, bind_some, nz_ok hz, bind_some]
theorem stay_loop {N : Int} {s t : St} (h : RX N s t) (a b c : Int32) (G0 : Nat → Int32) {n : Nat} (en : t.1 1212 = nI n) (hn : n ≤ 24) : ∃ G : Nat → Int32, lp (B_X1_difference_15 a b c s) FU (G0 1, G0 0, G0 3, G0 2, 0) = some (G 1, G 0, G 3, G 2) ∧ lp (B_X12_stay_45 a b c) FU (0, setA t 1292 G0) = some (setA t 1292 G) := by
  obtain ⟨z0, z1, z2, z3, z4, z5, z6, z7⟩ := h.folk
  have w2G : ∀ (G : Nat → Int32) (v : Int32), wr (setA t 1292 G) 1292 4 2 v = some (setA t 1292 (upd G 2 v)) := fun G v => by
    rw [← sA_set]; exact wr_nI (s := setA t 1292 G) (k := 1292) (n := 4) (j := 2) (v := v) (by omega) (by omega)
  have w3G : ∀ (G : Nat → Int32) (v : Int32), wr (setA t 1292 G) 1292 4 3 v = some (setA t 1292 (upd G 3 v)) := fun G v => by
    rw [← sA_set]; exact wr_nI (s := setA t 1292 G) (k := 1292) (n := 4) (j := 3) (v := v) (by omega) (by omega)
  have w0G : ∀ (G : Nat → Int32) (v : Int32), wr (setA t 1292 G) 1292 4 0 v = some (setA t 1292 (upd G 0 v)) := fun G v => by
    rw [← sA_set]; exact wr_nI (s := setA t 1292 G) (k := 1292) (n := 4) (j := 0) (v := v) (by omega) (by omega)
  have w1G : ∀ (G : Nat → Int32) (v : Int32), wr (setA t 1292 G) 1292 4 1 v = some (setA t 1292 (upd G 1 v)) := fun G v => by
    rw [← sA_set]; exact wr_nI (s := setA t 1292 G) (k := 1292) (n := 4) (j := 1) (v := v) (by omega) (by omega)
  have r0G : ∀ G : Nat → Int32, rd (setA t 1292 G) 1292 4 0 = some (G 0) := fun G => rd_nI (s := setA t 1292 G) (k := 1292) (n := 4) (j := 0) (by omega) (by omega)
  have r1G : ∀ G : Nat → Int32, rd (setA t 1292 G) 1292 4 1 = some (G 1) := fun G => rd_nI (s := setA t 1292 G) (k := 1292) (n := 4) (j := 1) (by omega) (by omega)
  have r2G : ∀ G : Nat → Int32, rd (setA t 1292 G) 1292 4 2 = some (G 2) := fun G => rd_nI (s := setA t 1292 G) (k := 1292) (n := 4) (j := 2) (by omega) (by omega)
  have r3G : ∀ G : Nat → Int32, rd (setA t 1292 G) 1292 4 3 = some (G 3) := fun G => rd_nI (s := setA t 1292 G) (k := 1292) (n := 4) (j := 3) (by omega) (by omega)
  have mG : ∀ (G : Nat → Int32) (v y : Int32), F_X12_childOf v y c 0 (setA t 1292 G) = some (cgirls t v y c) := fun G v y => by
    rw [M_childOf (t := setA t 1292 G) h.cnt.2.1, if_pos rfl, cg_set]
  have cG : ∀ (G : Nat → Int32) (v y : Int32), F_X12_children v y c (setA t 1292 G) = some (cgirls t v y c + cboys t v y c) := fun G v y => by
    rw [M_children (t := setA t 1292 G) h.cnt.2.1, cg_set, cb_set]
  obtain ⟨Y, W, h1, h2, G, h3, h4⟩ := lp_two (B := B_X1_difference_15 a b c s) (B2 := B_X12_stay_45 a b c)
    (fun m X Z => ∃ (i : Nat) (G : Nat → Int32), X = (G 1, G 0, G 3, G 2, nI i) ∧ Z = (nI i, setA t 1292 G) ∧ i + m = n)
    (fun y w => ∃ G : Nat → Int32, y = (G 1, G 0, G 3, G 2) ∧ w = setA t 1292 G) (by
      rintro m _ _ ⟨i, G, rfl, rfl, hi⟩
      by_cases hc : i = n
      · right
        have h9 : s.1 101 ≤ nI i := by rw [z0, en, hc]; exact Int32.le_refl _
        have h8 : t.1 1212 ≤ nI i := by rw [en, hc]; exact Int32.le_refl _
        exact ⟨_, _, if_pos h9, if_pos h8, G, rfl, rfl⟩
      · left
        have hM : ¬ (setA t 1292 G).1 1212 ≤ nI i := by
          show ¬ t.1 1212 ≤ nI i
          rw [en, i32_le, nI_toInt (by omega), nI_toInt (by omega)]
          omega
        have hC : ¬ s.1 101 ≤ nI i := by rw [z0]; exact hM
        have k1 : rd s 103 24 (nI i) = some (t.2.1 1205 i) := by rw [rd_nI (by omega) (by omega), z3]
        have k2 : rd (setA t 1292 G) 1205 24 (nI i) = some (t.2.1 1205 i) := rd_nI (by omega) (by omega)
        have k3 : rd (setA t 1292 G) 1291 24 (nI i) = some (t.2.1 1291 i) := rd_nI (by omega) (by omega)
        have k4 : rd (setA t 1292 G) 1290 24 (nI i) = some (t.2.1 1290 i) := rd_nI (by omega) (by omega)
        have k5 : rd (setA t 1292 G) 1289 24 (nI i) = some (t.2.1 1289 i) := rd_nI (by omega) (by omega)
        have c1 := C_childrenOf h.cnt (nI i) b c
        have c2 := C_childrenOf h.cnt (nI i) (b - 1) c
        have g1 := C_thousand h.cnt (nI i) b c
        have g2 := C_thousand h.cnt (nI i) (b - 1) c
        have m1 := cG G (nI i) b
        have m2 := cG G (nI i) (b - 1)
        generalize cgirls t (nI i) b c + cboys t (nI i) b c = A at c1 g1 m1
        generalize cgirls t (nI i) (b - 1) c + cboys t (nI i) (b - 1) c = A2 at c2 g2 m2
        by_cases q1 : t.2.1 1205 i = a
        · by_cases q2 : A = 0
          · refine ⟨(G 1, G 0, G 3, G 2, nI (i + 1)), (nI (i + 1), setA t 1292 G), m - 1, ?_, ?_, by omega, i + 1, G, rfl, rfl, by omega⟩
            · unfold B_X1_difference_15
              dsimp only
              rw [if_neg hC, k1, bind_some, if_pos q1, c1, bind_some, if_pos q2, nI_1]
            · unfold B_X12_stay_45
              dsimp only
              rw [if_neg hM, m1, bind_some, m2, bind_some, k2, bind_some, if_pos q1, if_pos q2, nI_1]
          · by_cases q3 : A2 = 0
            · refine ⟨(G 1, G 0, G 3, G 2, nI (i + 1)), (nI (i + 1), setA t 1292 G), m - 1, ?_, ?_, by omega, i + 1, G, rfl, rfl, by omega⟩
              · unfold B_X1_difference_15
                dsimp only
                rw [if_neg hC, k1, bind_some, if_pos q1, c1, bind_some, if_neg q2, c2, bind_some, if_pos q3, nI_1]
              · unfold B_X12_stay_45
                dsimp only
                rw [if_neg hM, m1, bind_some, m2, bind_some, k2, bind_some, if_pos q1, if_neg q2, if_pos q3, nI_1]
            · have g1' := g1 q2
              have g2' := g2 q3
              by_cases q4 : t.2.1 1291 i = 1 ∧ ¬ c < t.2.1 1290 i ∧ ¬ b < t.2.1 1289 i
              · have hT : F_X1_isTreated (nI i) b c s = some 1 := by
                  unfold F_X1_isTreated
                  rw [rd_nI (by omega) (by omega), rd_nI (by omega) (by omega), bind_some, bind_some]
                  rcases h.trt i (by omega) with ⟨e1, _⟩ | ⟨_, e2, e3, e4⟩
                  · rw [e1] at q4
                    exact absurd q4.1 (by decide)
                  · rw [if_neg, e2, if_neg q4.2.2, bind_some, e4, if_neg q4.2.1]
                    rw [e2]
                    intro z
                    have := e3.1
                    rw [z] at this
                    exact absurd this (by decide)
                refine ⟨(G 1 + (1000 * cgirls t (nI i) b c / A - 1000 * cgirls t (nI i) (b - 1) c / A2), G 0 + 1, G 3, G 2, nI (i + 1)), (nI (i + 1), setA t 1292 (upd (upd G 0 (G 0 + 1)) 1 (G 1 + (1000 * cgirls t (nI i) b c / A - 1000 * cgirls t (nI i) (b - 1) c / A2)))), m - 1, ?_, ?_, by omega, i + 1, _, ?_, rfl, by omega⟩
                · unfold B_X1_difference_15
                  dsimp only
                  rw [if_neg hC, k1, bind_some, if_pos q1, c1, bind_some, if_neg q2, c2, bind_some, if_neg q3, g1', bind_some, g2', bind_some, hT, bind_some, if_neg (show ¬ (1 : Int32) = 0 by decide), nI_1]
                · unfold B_X12_stay_45
                  dsimp only
                  rw [if_neg hM, m1, bind_some, m2, bind_some, k2, bind_some, if_pos q1, if_neg q2, if_neg q3, k3, bind_some, if_neg (show ¬ t.2.1 1291 i = 0 by rw [q4.1]; decide), k4, bind_some, if_neg q4.2.1, k5, bind_some, if_neg q4.2.2, r0G, bind_some, w0G, bind_some, r1G, bind_some, mG, bind_some, nz_ok q2, bind_some, mG, bind_some, nz_ok q3, bind_some, w1G, bind_some, nI_1]
                  rfl
                · rfl
              · have hT : F_X1_isTreated (nI i) b c s = some 0 := by
                  unfold F_X1_isTreated
                  rw [rd_nI (by omega) (by omega), rd_nI (by omega) (by omega), bind_some, bind_some]
                  rcases h.trt i (by omega) with ⟨_, e1⟩ | ⟨e1, e2, e3, e4⟩
                  · rw [if_pos e1]
                  · by_cases w1 : s.2.1 105 i = -1
                    · rw [if_pos w1]
                    · rw [if_neg w1, e2]
                      by_cases w2 : b < t.2.1 1289 i
                      · rw [if_pos w2]
                      · rw [if_neg w2, bind_some, e4, if_pos]
                        exact Classical.byContradiction (fun w3 => q4 ⟨e1, w3, w2⟩)
                refine ⟨(G 1, G 0, G 3 + (1000 * cgirls t (nI i) b c / A - 1000 * cgirls t (nI i) (b - 1) c / A2), G 2 + 1, nI (i + 1)), (nI (i + 1), setA t 1292 (upd (upd G 2 (G 2 + 1)) 3 (G 3 + (1000 * cgirls t (nI i) b c / A - 1000 * cgirls t (nI i) (b - 1) c / A2)))), m - 1, ?_, ?_, by omega, i + 1, _, ?_, rfl, by omega⟩
                · unfold B_X1_difference_15
                  dsimp only
                  rw [if_neg hC, k1, bind_some, if_pos q1, c1, bind_some, if_neg q2, c2, bind_some, if_neg q3, g1', bind_some, g2', bind_some, hT, bind_some, if_pos rfl, nI_1]
                · unfold B_X12_stay_45
                  dsimp only
                  rw [if_neg hM, m1, bind_some, m2, bind_some, k2, bind_some, if_pos q1, if_neg q2, if_neg q3, k3, bind_some]
                  by_cases w1 : t.2.1 1291 i = 0
                  · rw [if_pos w1, r2G, bind_some, w2G, bind_some, r3G, bind_some, mG, bind_some, nz_ok q2, bind_some, mG, bind_some, nz_ok q3, bind_some, w3G, bind_some, nI_1]
                    rfl
                  · rw [if_neg w1, k4, bind_some]
                    have w0 : t.2.1 1291 i = 1 := by
                      rcases h.trt i (by omega) with ⟨e1, _⟩ | ⟨e1, _⟩
                      · exact absurd e1 w1
                      · exact e1
                    by_cases w2 : c < t.2.1 1290 i
                    · rw [if_pos w2, r2G, bind_some, w2G, bind_some, r3G, bind_some, mG, bind_some, nz_ok q2, bind_some, mG, bind_some, nz_ok q3, bind_some, w3G, bind_some, nI_1]
                      rfl
                    · rw [if_neg w2, k5, bind_some, if_pos (show b < t.2.1 1289 i from Classical.byContradiction (fun w3 => q4 ⟨w0, w2, w3⟩)), r2G, bind_some, w2G, bind_some, r3G, bind_some, mG, bind_some, nz_ok q2, bind_some, mG, bind_some, nz_ok q3, bind_some, w3G, bind_some, nI_1]
                      rfl
                · rfl
        · refine ⟨(G 1, G 0, G 3, G 2, nI (i + 1)), (nI (i + 1), setA t 1292 G), m - 1, ?_, ?_, by omega, i + 1, G, rfl, rfl, by omega⟩
          · unfold B_X1_difference_15
            dsimp only
            rw [if_neg hC, k1, bind_some, if_neg q1, nI_1]
          · unfold B_X12_stay_45
            dsimp only
            rw [if_neg hM, m1, bind_some, m2, bind_some, k2, bind_some, if_neg q1, nI_1]) FU FU n (G0 1, G0 0, G0 3, G0 2, 0) (0, setA t 1292 G0) ⟨0, G0, rfl, rfl, by omega⟩ (FU_lt (by omega)) (FU_lt (by omega))
  subst h3 h4
  exact ⟨G, h1, h2⟩
theorem stay_zero (t : St) (a b c : Int32) : ∃ G : Nat → Int32, lp (B_X12_stay_22 a b c) FU (0, t) = some (setA t 1292 G) ∧ G 0 = 0 ∧ G 1 = 0 ∧ G 2 = 0 ∧ G 3 = 0 := by
  refine ⟨fun j => if j < 4 then 0 else t.2.1 1292 j, ?_, rfl, rfl, rfl, rfl⟩
  refine lp_cnt (fun i => (nI i, setA t 1292 (fun j => if j < i then 0 else t.2.1 1292 j))) 4 ?_ ?_ ?_ (FU_lt (by omega))
  · have : (fun j => if j < 0 then 0 else t.2.1 1292 j) = t.2.1 1292 := by
      funext j
      rw [if_neg (by omega)]
    rw [this, setA_self]
    rfl
  · intro i hi
    have h4 : ¬ (4 : Int32) ≤ nI i := by
      have e4 : (4 : Int32).toInt = 4 := rfl
      rw [i32_le, nI_toInt (by omega)]
      omega
    unfold B_X12_stay_22
    dsimp only
    rw [if_neg h4, wr_nI hi (by omega), bind_some, sA_set, nI_1]
    refine congrArg (fun z => some (Sum.inl (nI (i + 1), setA t 1292 z))) ?_
    funext j
    unfold upd
    by_cases e : j = i
    · rw [if_pos e, if_pos (by omega)]
    · rw [if_neg e]
      dsimp only
      by_cases e2 : j < i
      · rw [if_pos e2, if_pos (by omega)]
      · rw [if_neg e2, if_neg (by omega)]
  · have h9 : (4 : Int32) ≤ nI 4 := by decide
    unfold B_X12_stay_22
    dsimp only
    rw [if_pos h9]
theorem P_stay {N : Int} {s t : St} (h : RX N s t) (a b c : Int32) : ∃ r t', F_X11_stay a b c s = some r ∧ F_X12_stay a b c t = some (r, t') ∧ RX (N + 1) s t' := by
  have e1 : (1 : Int32).toInt = 1 := rfl
  have e0 : (0 : Int32).toInt = 0 := rfl
  have e11 : (11 : Int32).toInt = 11 := rfl
  obtain ⟨n0, n1⟩ := h.now
  by_cases bad : inb a 0 3 = false ∨ inb b 1 11 = false ∨ inb c 0 (t.1 1200) = false
  · refine ⟨-2000000, t, ?_, ?_, h.up⟩
    · unfold F_X11_stay F_X11_isPast
      by_cases c1 : inb a 0 3 = false
      · rw [if_pos c1]
      · rw [if_neg c1]
        by_cases c2 : inb b 1 11 = false
        · rw [if_pos c2]
        · rw [if_neg c2, bind_some, n0, if_pos]
          rw [bI_eq0]
          rcases bad with w | w | w
          · exact absurd w c1
          · exact absurd w c2
          · exact w
    · unfold F_X12_stay
      by_cases ask : inb a 0 3 = false ∨ inb b 0 11 = false ∨ inb c 0 (t.1 1200) = false
      · rw [asked_no ask, bind_some, if_pos rfl]
      · have c1 : ¬ inb a 0 3 = false := fun e => ask (Or.inl e)
        have c2 : ¬ inb b 0 11 = false := fun e => ask (Or.inr (Or.inl e))
        have c3 : ¬ inb c 0 (t.1 1200) = false := fun e => ask (Or.inr (Or.inr e))
        rw [asked_yes c1 c2 c3, bind_some, if_neg (show ¬ (1 : Int32) = 0 by decide), if_neg]
        intro hb
        rcases bad with w | w | w
        · exact c1 w
        · rw [inb_no] at w
          have w2 := inb_R c2
          rw [i32_le] at hb
          exact w ⟨by omega, by have := w2.2; omega⟩
        · exact c3 w
  · have c1 : ¬ inb a 0 3 = false := fun e => bad (Or.inl e)
    have c2 : ¬ inb b 1 11 = false := fun e => bad (Or.inr (Or.inl e))
    have c3 : ¬ inb c 0 (t.1 1200) = false := fun e => bad (Or.inr (Or.inr e))
    have w2 := inb_R c2
    have hb : (1 : Int32) ≤ b := by rw [i32_le]; exact w2.1
    have c2' : ¬ inb b 0 11 = false := by
      rw [inb_no]
      intro w
      exact w ⟨by have := w2.1; omega, w2.2⟩
    obtain ⟨z0, z1, _⟩ := h.folk
    obtain ⟨n, en, en2, _⟩ := i32_nat z1.1
    have hn : n ≤ 24 := by have := z1.2; omega
    obtain ⟨G0, g1, g2, g3, g4, g5⟩ := stay_zero t a b c
    obtain ⟨G, l1, l2⟩ := stay_loop h a b c G0 en hn
    rw [g2, g3, g4, g5] at l1
    have r0G : rd (setA t 1292 G) 1292 4 0 = some (G 0) := rd_nI (s := setA t 1292 G) (k := 1292) (n := 4) (j := 0) (by omega) (by omega)
    have r1G : rd (setA t 1292 G) 1292 4 1 = some (G 1) := rd_nI (s := setA t 1292 G) (k := 1292) (n := 4) (j := 1) (by omega) (by omega)
    have r2G : rd (setA t 1292 G) 1292 4 2 = some (G 2) := rd_nI (s := setA t 1292 G) (k := 1292) (n := 4) (j := 2) (by omega) (by omega)
    have r3G : rd (setA t 1292 G) 1292 4 3 = some (G 3) := rd_nI (s := setA t 1292 G) (k := 1292) (n := 4) (j := 3) (by omega) (by omega)
    have hC : F_X11_stay a b c s = F_X1_difference_123 (G 1) (G 0) (G 3) (G 2) s := by
      unfold F_X11_stay F_X11_isPast F_X1_difference F_X1_difference_15
      rw [if_neg c1, if_neg c2, bind_some, n0, if_neg (show ¬ bI (inb c 0 (t.1 1200)) = 0 by rw [bI_eq0]; exact c3), l1, bind_some]
      cases F_X1_difference_123 (G 1) (G 0) (G 3) (G 2) s <;> rfl
    have hM : F_X12_stay a b c t = F_X12_stay_203 (setA t 1292 G) := by
      unfold F_X12_stay F_X12_stay_22 F_X12_stay_42 F_X12_stay_45
      rw [asked_yes c1 c2' c3, bind_some, if_neg (show ¬ (1 : Int32) = 0 by decide), if_pos hb, g1, bind_some, l2, bind_some]
    have hX : RX (N + 1) s (setA t 1292 G) := ⟨h.now, h.folk, h.cnt, h.rec, h.trt, h.sch, h.blt, ⟨⟨h.shut.1.1, Int.le_trans h.shut.1.2 (by omega)⟩, h.shut.2⟩, h.tape, h.yard, h.prom, h.given, h.staff, h.roof, h.site, h.purse, h.land, h.law, h.ref, h.row⟩
    rw [hC, hM]
    unfold F_X1_difference_123 F_X12_stay_203
    rw [r0G, r1G, r2G, r3G]
    simp only [bind_some]
    by_cases d1 : G 0 < 2
    · rw [if_pos d1, if_pos d1]
      exact ⟨_, _, rfl, rfl, hX⟩
    · rw [if_neg d1, if_neg d1]
      by_cases d2 : (2 : Int32) ≤ G 2
      · have d3 : ¬ G 0 = 0 := fun e => d1 (by rw [e]; decide)
        have d4 : ¬ G 2 = 0 := fun e => by rw [e] at d2; exact absurd d2 (by decide)
        rw [if_pos d2, if_pos d2, nz_ok d3, nz_ok d4]
        exact ⟨_, _, rfl, rfl, hX⟩
      · rw [if_neg d2, if_neg d2]
        exact ⟨_, _, rfl, rfl, hX⟩
