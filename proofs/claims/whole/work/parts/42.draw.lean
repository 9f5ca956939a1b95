/-! draw -/
def fil (f : Nat → Int32) (p q : Nat) (v : Int32) : Nat → Int32 := fun j => if p ≤ j ∧ j < q then v else f j
theorem fil_0 (f : Nat → Int32) (p : Nat) (v : Int32) : fil f p p v = f := by
  funext j
  unfold fil
  rw [if_neg (by omega)]
theorem fil_step (f : Nat → Int32) {p q : Nat} (h : p ≤ q) (v : Int32) : upd (fil f p q v) q v = fil f p (q + 1) v := by
  funext j
  unfold upd fil
  by_cases c : j = q
  · rw [if_pos c, if_pos (by omega)]
  · rw [if_neg c]
    by_cases d : p ≤ j ∧ j < q
    · rw [if_pos d, if_pos (by omega)]
    · rw [if_neg d, if_neg (by omega)]
def DL (s : St) (D W Z : Nat → Int32) : St := (s.1, va_up (va_up (va_up s.2.1 200 D) 201 W) 204 Z, s.2.2)
theorem DL_self (s : St) : DL s (s.2.1 200) (s.2.1 201) (s.2.1 204) = s := by
  unfold DL
  have : va_up (va_up (va_up s.2.1 200 (s.2.1 200)) 201 (s.2.1 201)) 204 (s.2.1 204) = s.2.1 := by
    funext j
    unfold va_up
    by_cases e : j = 204
    · subst e; rfl
    · by_cases e2 : j = 201
      · subst e2; rfl
      · by_cases e3 : j = 200
        · subst e3; rfl
        · simp [e, e2, e3]
  rw [this]
theorem DL_200 (s : St) (D W Z : Nat → Int32) {j : Nat} (v : Int32) (hj : j < 120) : wr (DL s D W Z) 200 120 (nI j) v = some (DL s (upd D j v) W Z) := by
  rw [wr_nI hj (by omega)]
  refine congrArg (fun A => some (s.1, A, s.2.2)) ?_
  funext i
  show va_up (va_up (va_up (va_up s.2.1 200 D) 201 W) 204 Z) 200 (upd D j v) i = _
  unfold va_up
  by_cases e : i = 204
  · subst e; rfl
  · by_cases e2 : i = 201
    · subst e2; rfl
    · by_cases e3 : i = 200
      · subst e3; rfl
      · simp [e, e2, e3]
theorem DL_201 (s : St) (D W Z : Nat → Int32) {j : Nat} (v : Int32) (hj : j < 120) : wr (DL s D W Z) 201 120 (nI j) v = some (DL s D (upd W j v) Z) := by
  rw [wr_nI hj (by omega)]
  refine congrArg (fun A => some (s.1, A, s.2.2)) ?_
  funext i
  show va_up (va_up (va_up (va_up s.2.1 200 D) 201 W) 204 Z) 201 (upd W j v) i = _
  unfold va_up
  by_cases e : i = 204
  · subst e; rfl
  · by_cases e2 : i = 201
    · subst e2; rfl
    · simp [e, e2]
theorem DL_204 (s : St) (D W Z : Nat → Int32) {j : Nat} (v : Int32) (hj : j < 240) : wr (DL s D W Z) 204 240 (nI j) v = some (DL s D W (upd Z j v)) := by
  rw [wr_nI hj (by omega)]
  refine congrArg (fun A => some (s.1, A, s.2.2)) ?_
  funext i
  show va_up (va_up (va_up (va_up s.2.1 200 D) 201 W) 204 Z) 204 (upd Z j v) i = _
  unfold va_up
  by_cases e : i = 204
  · subst e; rfl
  · simp [e]
theorem paint_ok (s : St) (D W Z : Nat → Int32) {p q : Nat} (hp : p ≤ q) (hq : q < 120) (v3 v4 : Int32) : ∃ Z', F_X2_paint (nI p) (nI q) v3 v4 (DL s D W Z) = some (DL s (fil D p (q + 1) v3) (fil W p (q + 1) v4) Z') ∧ ∀ n, n < 240 → Z' n = 0 := by
  have e120 : (120 : Int32).toInt = 120 := rfl
  have e240 : (240 : Int32).toInt = 240 := rfl
  have e0 : (0 : Int32).toInt = 0 := rfl
  have hz : zmx (nI p) 0 = nI p := by
    unfold zmx
    rw [if_neg]
    rw [i32_lt, nI_toInt (by omega), e0]
    omega
  have l1 : lp (B_X2_paint_7 (nI q) v3 v4) FU (nI p, DL s D W Z) = some (DL s (fil D p (q + 1) v3) (fil W p (q + 1) v4) Z) := by
    refine lp_cnt (fun k => (nI (p + k), DL s (fil D p (p + k) v3) (fil W p (p + k) v4) Z)) (q + 1 - p) ?_ ?_ ?_ (FU_lt (by omega))
    · show _ = (nI p, DL s (fil D p p v3) (fil W p p v4) Z)
      rw [fil_0, fil_0]
    · intro k hk
      have h1 : ¬ nI q < nI (p + k) := by
        rw [i32_lt, nI_toInt (by omega), nI_toInt (by omega)]
        omega
      have h2 : ¬ (120 : Int32) ≤ nI (p + k) := by
        rw [i32_le, nI_toInt (by omega)]
        omega
      unfold B_X2_paint_7
      dsimp only
      rw [if_neg h1, if_neg h2, DL_200 _ _ _ _ _ (by omega), bind_some, DL_201 _ _ _ _ _ (by omega), bind_some, nI_1, fil_step _ (by omega), fil_step _ (by omega)]
      rfl
    · have e : p + (q + 1 - p) = q + 1 := by omega
      have h1 : nI q < nI (q + 1) := by
        rw [i32_lt, nI_toInt (by omega), nI_toInt (by omega)]
        omega
      rw [e]
      unfold B_X2_paint_7
      dsimp only
      rw [if_pos h1]
  have l2 : ∀ D W : Nat → Int32, lp B_X2_paint_46 FU (0, DL s D W Z) = some (DL s D W (fil Z 0 240 0)) := fun D W => by
    refine lp_cnt (fun k => (nI k, DL s D W (fil Z 0 k 0))) 240 ?_ ?_ ?_ (FU_lt (by omega))
    · show _ = (nI 0, DL s D W (fil Z 0 0 0))
      rw [fil_0]
      rfl
    · intro k hk
      have h2 : ¬ (240 : Int32) ≤ nI k := by
        rw [i32_le, nI_toInt (by omega)]
        omega
      unfold B_X2_paint_46
      dsimp only
      rw [if_neg h2, DL_204 _ _ _ _ _ (by omega), bind_some, nI_1, fil_step _ (by omega)]
    · have h9 : (240 : Int32) ≤ nI 240 := by decide
      unfold B_X2_paint_46
      dsimp only
      rw [if_pos h9]
  refine ⟨fil Z 0 240 0, ?_, fun n hn => ?_⟩
  · unfold F_X2_paint F_X2_paint_7 F_X2_paint_43 F_X2_paint_46
    rw [hz, l1, bind_some, l2]
    rfl
  · unfold fil
    rw [if_pos (by omega)]
theorem row_ok (t : St) (E : Nat → Int32) {r x w : Nat} (hr : r < 10) (hx : x + w ≤ 12) (v2 v4 v5 v6 : Int32) : lp (B_X12_draw_84 (nI x) v2 (nI w) v4 v5 v6 (nI r)) FU (nI x, setA t 1201 E) = some (setA t 1201 (fil (fil E (12 * r + x) (12 * r + x + w) v5) (120 + (12 * r + x)) (120 + (12 * r + x) + w) v6)) := by
  refine lp_cnt (fun k => (nI (x + k), setA t 1201 (fil (fil E (12 * r + x) (12 * r + x + k) v5) (120 + (12 * r + x)) (120 + (12 * r + x) + k) v6))) w ?_ ?_ ?_ (FU_lt (by omega))
  · show _ = (nI x, setA t 1201 (fil (fil E (12 * r + x) (12 * r + x) v5) (120 + (12 * r + x)) (120 + (12 * r + x)) v6))
    rw [fil_0, fil_0]
  · intro k hk
    have h1 : ¬ nI x + nI w ≤ nI (x + k) := by
      rw [nI_add, i32_le, nI_toInt (by omega), nI_toInt (by omega)]
      omega
    have i1 : 12 * nI r + nI (x + k) = nI (12 * r + x + k) := by
      have := idxN2 (v := r) (j := x + k) (k := 12) (by omega) (by omega) (by omega)
      rw [show 12 * r + x + k = 12 * r + (x + k) by omega]
      exact this
    have i2 : 120 + 12 * nI r + nI (x + k) = nI (120 + (12 * r + x) + k) := by
      rw [Int32.add_assoc, i1, show 120 + (12 * r + x) + k = 120 + (12 * r + x + k) by omega]
      exact nI_add 120 _
    unfold B_X12_draw_84
    dsimp only
    rw [if_neg h1, i1, wr_nI (by omega) (by omega), bind_some, sA_set, i2, wr_nI (by omega) (by omega), bind_some, sA_set, nI_1]
    refine congrArg (fun z => some (Sum.inl (nI (x + k + 1), setA t 1201 z))) ?_
    funext j
    unfold upd fil
    by_cases c1 : j = 120 + (12 * r + x) + k
    · rw [if_pos c1, if_pos (by omega)]
    · rw [if_neg c1]
      by_cases c2 : j = 12 * r + x + k
      · rw [if_pos c2, if_neg (by omega), if_pos (by omega)]
      · rw [if_neg c2]
        by_cases c3 : 120 + (12 * r + x) ≤ j ∧ j < 120 + (12 * r + x) + k
        · rw [if_pos c3, if_pos (by omega)]
        · rw [if_neg c3, if_neg (show ¬ (120 + (12 * r + x) ≤ j ∧ j < 120 + (12 * r + x) + (k + 1)) by omega)]
          by_cases c4 : 12 * r + x ≤ j ∧ j < 12 * r + x + k
          · rw [if_pos c4, if_pos (by omega)]
          · rw [if_neg c4, if_neg (by omega)]
  · have h1 : nI x + nI w ≤ nI (x + w) := by
      rw [nI_add]
      exact Int32.le_refl _
    unfold B_X12_draw_84
    dsimp only
    rw [if_pos h1]
def JL (D W E : Nat → Int32) : Prop := ∀ j : Nat, j < 120 → D j = E j ∧ W j = E (120 + j) ∧ inR (E j) 1 99 ∧ inR (E (120 + j)) 0 99
theorem JL_fil {D W E : Nat → Int32} (h : JL D W E) {a w : Nat} (ha : a + w ≤ 120) {v5 v6 : Int32} (h5 : inR v5 1 99) (h6 : inR v6 0 99) : JL (fil D a (a + w) v5) (fil W a (a + w) v6) (fil (fil E a (a + w) v5) (120 + a) (120 + a + w) v6) := by
  intro j hj
  obtain ⟨h1, h2, h3, h4⟩ := h j hj
  unfold fil
  rw [if_neg (show ¬ (120 + a ≤ j ∧ j < 120 + a + w) by omega)]
  by_cases c : a ≤ j ∧ j < a + w
  · rw [if_pos c, if_pos c, if_pos c, if_pos (show 120 + a ≤ 120 + j ∧ 120 + j < 120 + a + w by omega)]
    exact ⟨rfl, rfl, h5, h6⟩
  · rw [if_neg c, if_neg c, if_neg c, if_neg (show ¬ (120 + a ≤ 120 + j ∧ 120 + j < 120 + a + w) by omega), if_neg (show ¬ (a ≤ 120 + j ∧ 120 + j < a + w) by omega)]
    exact ⟨h1, h2, h3, h4⟩
theorem P_draw {N : Int} {s t : St} (h : RX N s t) (v1 v2 v3 v4 v5 v6 : Int32) : Two (RX (N + 1)) (F_X11_draw v1 v2 v3 v4 v5 v6 s) (F_X12_draw v1 v2 v3 v4 v5 v6 t) := by
  have e1 : (1 : Int32).toInt = 1 := rfl
  have e0 : (0 : Int32).toInt = 0 := rfl
  have e9 : (9 : Int32).toInt = 9 := rfl
  have e10 : (10 : Int32).toInt = 10 := rfl
  have e11 : (11 : Int32).toInt = 11 := rfl
  have e12 : (12 : Int32).toInt = 12 := rfl
  have e99 : (99 : Int32).toInt = 99 := rfl
  unfold F_X11_draw F_X12_draw
  refine Two_ite (fun _ => Two_ret _ h.up) (fun c1 => ?_)
  refine Two_ite (fun _ => Two_ret _ h.up) (fun c2 => ?_)
  refine Two_ite (fun _ => Two_ret _ h.up) (fun c3 => ?_)
  refine Two_ite (fun _ => Two_ret _ h.up) (fun c4 => ?_)
  refine Two_ite (fun _ => Two_ret _ h.up) (fun c5 => ?_)
  refine Two_ite (fun _ => Two_ret _ h.up) (fun c6 => ?_)
  obtain ⟨a1, a2⟩ := inb_R c1
  obtain ⟨b1, b2⟩ := inb_R c2
  obtain ⟨d1, d2⟩ := inb_R c3
  obtain ⟨f1, f2⟩ := inb_R c4
  have h5 : inR v5 1 99 := inb_R c5
  have h6 : inR v6 0 99 := inb_R c6
  rw [i32_sub (by omega) (by omega), e12] at d2
  rw [i32_sub (by omega) (by omega), e10] at f2
  obtain ⟨x, rfl, ex, _⟩ := i32_nat (x := v1) (by omega)
  obtain ⟨y, rfl, ey, _⟩ := i32_nat (x := v2) (by omega)
  obtain ⟨w, rfl, ew, _⟩ := i32_nat (x := v3) (by omega)
  obtain ⟨g, rfl, eg, _⟩ := i32_nat (x := v4) (by omega)
  obtain ⟨Y, Q, l1, l2, D, W, Z, E, rfl, rfl, hJ, hRow⟩ := lp_two (B := B_X11_draw_84 (nI x) (nI y) (nI w) (nI g) v5 v6) (B2 := B_X12_draw_72 (nI x) (nI y) (nI w) (nI g) v5 v6)
    (fun m X K => ∃ (i : Nat) (D W Z E : Nat → Int32), X = (nI (y + i), DL s D W Z) ∧ K = (nI (y + i), setA t 1201 E) ∧ i + m = g ∧ JL D W E ∧ RRow (DL s D W Z) t)
    (fun Y Q => ∃ (D W Z E : Nat → Int32), Y = DL s D W Z ∧ Q = setA t 1201 E ∧ JL D W E ∧ RRow (DL s D W Z) t) (by
      rintro m _ _ ⟨i, D, W, Z, E, rfl, rfl, hi, hJ, hRow⟩
      by_cases hc : i = g
      · right
        have h9 : nI y + nI g ≤ nI (y + i) := by
          rw [nI_add, hc]
          exact Int32.le_refl _
        refine ⟨DL s D W Z, setA t 1201 E, ?_, ?_, D, W, Z, E, rfl, rfl, hJ, hRow⟩
        · unfold B_X11_draw_84
          dsimp only
          rw [if_pos h9]
        · unfold B_X12_draw_72
          dsimp only
          rw [if_pos h9]
      · left
        have h9 : ¬ nI y + nI g ≤ nI (y + i) := by
          rw [nI_add, i32_le, nI_toInt (by omega), nI_toInt (by omega)]
          omega
        have i1 : nI (y + i) * 12 + nI x = nI (12 * (y + i) + x) := idxN (v := y + i) (j := x) (k := 12) (by omega) (by omega) (by omega)
        have i2 : nI (12 * (y + i) + x) + nI w - 1 = nI (12 * (y + i) + x + w - 1) := by
          obtain ⟨w', rfl⟩ : ∃ w', w = w' + 1 := ⟨w - 1, by omega⟩
          rw [nI_add, show 12 * (y + i) + x + (w' + 1) = (12 * (y + i) + x + w') + 1 by omega]
          have : nI (12 * (y + i) + x + w' + 1) = nI (12 * (y + i) + x + w') + 1 := (nI_add _ 1).symm
          rw [this, Int32.add_sub_cancel]
          exact congrArg nI (by omega)
        obtain ⟨Z', p1, p2⟩ := paint_ok s D W Z (p := 12 * (y + i) + x) (q := 12 * (y + i) + x + w - 1) (by omega) (by omega) v5 v6
        rw [show 12 * (y + i) + x + w - 1 + 1 = 12 * (y + i) + x + w by omega] at p1
        refine ⟨(nI (y + (i + 1)), DL s (fil D (12 * (y + i) + x) (12 * (y + i) + x + w) v5) (fil W (12 * (y + i) + x) (12 * (y + i) + x + w) v6) Z'), (nI (y + (i + 1)), setA t 1201 (fil (fil E (12 * (y + i) + x) (12 * (y + i) + x + w) v5) (120 + (12 * (y + i) + x)) (120 + (12 * (y + i) + x) + w) v6)), m - 1, ?_, ?_, by omega, i + 1, _, _, _, _, rfl, rfl, by omega, JL_fil hJ (by omega) h5 h6, ?_⟩
        · unfold B_X11_draw_84
          dsimp only
          rw [if_neg h9, i1, i2, p1, bind_some, nI_1]
          rfl
        · unfold B_X12_draw_72
          dsimp only
          rw [if_neg h9]
          unfold F_X12_draw_84
          rw [row_ok t E (r := y + i) (x := x) (w := w) (by omega) (by omega), bind_some]
          unfold F_X12_draw_131
          rw [nI_1]
          rfl
        · intro n hn
          obtain ⟨r1, r2, r3⟩ := hRow n hn
          have hz : (DL s (fil D (12 * (y + i) + x) (12 * (y + i) + x + w) v5) (fil W (12 * (y + i) + x) (12 * (y + i) + x + w) v6) Z').2.1 204 n = 0 := p2 n hn
          refine ⟨?_, fun a ha => ?_, fun _ => hz⟩
          · rw [hz]
            exact ⟨by decide, by decide⟩
          · obtain ⟨f, k1, k2⟩ := r2 a ha
            exact ⟨f, k1, fun e => by rw [hz] at e; exact absurd e (by decide)⟩) FU FU g (nI y, s) (nI y, t) ⟨0, s.2.1 200, s.2.1 201, s.2.1 204, t.2.1 1201, by rw [DL_self]; rfl, by rw [setA_self]; rfl, by omega, h.land.2.2, by rw [DL_self]; exact h.row⟩ (FU_lt (by omega)) (FU_lt (by omega))
  unfold F_X11_draw_84 F_X12_draw_72
  rw [l1, l2]
  exact Two_ret 1 ⟨h.now, h.folk, h.cnt, h.rec, h.trt, h.sch, h.blt, ⟨⟨h.shut.1.1, Int.le_trans h.shut.1.2 (by omega)⟩, h.shut.2⟩, h.tape, h.yard, h.prom, h.given, h.staff, h.roof, h.site, h.purse, ⟨h.land.1, h.land.2.1, hJ⟩, h.law, h.ref, hRow⟩
