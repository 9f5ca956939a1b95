/-! shut, schooled, many, school -/
theorem shp_same {f g : Nat → Int32} {j w w2 : Int32} : ∀ {n : Nat}, (∀ k, k < n → g k ≤ w ∧ g k ≤ w2) → shp f g j w n = shp f g j w2 n
  | 0, _ => rfl
  | n + 1, h => by
    have ih := shp_same (f := f) (j := j) (n := n) (fun k hk => h k (by omega))
    have h1 := h n (by omega)
    simp only [shp, ih, h1.1, h1.2]
theorem shp_upd {f g : Nat → Int32} {j w x y : Int32} {m : Nat} : ∀ {n : Nat}, n ≤ m → shp (upd f m x) (upd g m y) j w n = shp f g j w n
  | 0, _ => rfl
  | n + 1, h => by
    have ih := shp_upd (f := f) (g := g) (j := j) (w := w) (x := x) (y := y) (m := m) (n := n) (by omega)
    have : ¬ n = m := by omega
    simp only [shp, ih, upd, this, if_false]
theorem C_isShut {N : Int} {s t : St} (h : RShut N s t) {j w : Nat} (hj : j < 20) (hw : w ≤ 600) : F_X5_isShut (nI j) (nI w) s = some (bI (shp (t.2.1 1224) (t.2.1 1225) (nI j) (nI w) (t.1 1226).toInt.toNat)) := by
  have h1 := (h.2.2 j hj).1 w hw
  unfold F_X5_isShut
  have hc : ¬ inb (nI w) 0 600 = false := by
    rw [inb_no]
    unfold inR
    rw [nI_toInt (by omega)]
    simp only [Int32.reduceToInt]
    omega
  rw [if_neg hc]
  simp (disch := omega) only [rd_nI, bind_some]
  rw [← h1]
  cases hb : bt (s.2.1 510 w) j with
  | true => rw [if_pos ((bt_is _ (by omega)).mpr hb)]; rfl
  | false => rw [if_neg (fun z => by rw [(bt_is _ (by omega)).mp z] at hb; cases hb)]; rfl
theorem bI_inj {a b : Bool} (h : bI a = bI b) : a = b := by
  cases a <;> cases b <;> first | rfl | exact absurd h (by decide)
theorem C_close (s : St) {j m : Nat} (v : Int32) (hj : j < 20) (hm : m ≤ 600) : ∃ F, F_X5_close (nI j) (nI m) v s = some (setA s 510 F) ∧ ∀ w i : Nat, i < 32 → w ≤ 600 → bt (F w) i = if m ≤ w ∧ i = j then !decide (v = 0) else bt (s.2.1 510 w) i := by
  let nw : Int32 → Int32 := fun x => if v = 0 then x &&& ((1 <<< (nI j &&& 31)) ^^^ (-1)) else x ||| (1 <<< (nI j &&& 31))
  let G : Nat → Nat → Int32 := fun k w => if m ≤ w ∧ w < m + k then nw (s.2.1 510 w) else s.2.1 510 w
  refine ⟨G (601 - m), ?_, ?_⟩
  · unfold F_X5_close F_X5_close_3
    have hl : lp (B_X5_close_3 (nI j) v) FU (nI m, s) = some (setA s 510 (G (601 - m))) := by
      refine lp_cnt (fun k => (nI (m + k), setA s 510 (G k))) (601 - m) ?_ ?_ ?_ (FU_lt (by omega))
      · have : G 0 = s.2.1 510 := by
          funext w
          show (if m ≤ w ∧ w < m + 0 then _ else _) = _
          rw [if_neg (by omega)]
        rw [this, setA_self]
        rfl
      · intro k hk
        have h1 : ¬ (601 : Int32) ≤ nI (m + k) := by rw [i32_le, nI_toInt (by omega)]; simp only [Int32.reduceToInt]; omega
        have hG : upd (G k) (m + k) (nw (G k (m + k))) = G (k + 1) := by
          funext w
          show (if w = m + k then nw (if m ≤ m + k ∧ m + k < m + k then _ else _) else if m ≤ w ∧ w < m + k then _ else _) = if m ≤ w ∧ w < m + (k + 1) then _ else _
          by_cases e : w = m + k
          · subst e
            rw [if_pos rfl, if_neg (by omega), if_pos (by omega)]
          · rw [if_neg e]
            by_cases e2 : m ≤ w ∧ w < m + k
            · rw [if_pos e2, if_pos (by omega)]
            · rw [if_neg e2, if_neg (by omega)]
        by_cases hv : v = 0
        · simp (disch := omega) only [B_X5_close_3, if_neg h1, if_pos hv, rd_nI, wr_nI, bind_some, setA_21, va_up_s, sA_set, nI_1]
          rw [← hG]
          simp only [nw, if_pos hv]
          rfl
        · simp (disch := omega) only [B_X5_close_3, if_neg h1, if_neg hv, rd_nI, wr_nI, bind_some, setA_21, va_up_s, sA_set, nI_1]
          rw [← hG]
          simp only [nw, if_neg hv]
          rfl
      · have h1 : (601 : Int32) ≤ nI (m + (601 - m)) := by rw [i32_le, nI_toInt (by omega)]; simp only [Int32.reduceToInt]; omega
        simp only [B_X5_close_3, if_pos h1]
    rw [hl]
    rfl
  · intro w i hi hw
    show bt (if m ≤ w ∧ w < m + (601 - m) then nw (s.2.1 510 w) else s.2.1 510 w) i = _
    by_cases e : m ≤ w
    · rw [if_pos (by omega)]
      show bt (if v = 0 then _ else _) i = _
      by_cases hv : v = 0
      · rw [if_pos hv, bt_off _ (by omega) hi]
        by_cases e2 : i = j
        · simp [e, e2, hv]
        · simp [e2]
      · rw [if_neg hv, bt_on _ (by omega) hi]
        by_cases e2 : i = j
        · simp [e, e2, hv]
        · simp [e2]
    · rw [if_neg (by omega), if_neg (fun z => e z.1)]
theorem P_shut {N : Int} {s t : St} (h : RX N s t) (hN : N ≤ 4000) (a b : Int32) (hb : b = 0 ∨ b = 1) : Two (RX (N + 1)) (F_X11_shut a b s) (F_X12_shut a b t) := by
  have hS := h.shut
  obtain ⟨⟨b0, b1⟩, hk, hjs⟩ := h.shut
  obtain ⟨n, en, en2, _⟩ := i32_nat b0
  have hnow := h.now
  obtain ⟨now0, now1, now2⟩ := hnow
  obtain ⟨m, em, em2, _⟩ := i32_nat now1
  unfold F_X11_shut F_X12_shut F_X11_isSchool F_X12_isSchool
  rw [h.sch.1]
  simp only [bind_some, bI_eq0]
  refine Two_ite (fun _ => Two_ret _ h.up) (fun c1 => ?_)
  obtain ⟨q1, q2⟩ := isN c1 h.sch.2.1
  have b2 := h.sch.2.1.2
  obtain ⟨j, ej, ej2, _⟩ := i32_nat q1
  have hj : j < 20 := by omega
  have enN : (t.1 1226).toInt.toNat = n := by omega
  have hsm : ∀ w : Nat, m ≤ w → w ≤ 600 → shp (t.2.1 1224) (t.2.1 1225) (nI j) (nI w) n = shp (t.2.1 1224) (t.2.1 1225) (nI j) 600 n := by
    intro w hw hw2
    refine shp_same (fun k hk2 => ?_)
    have h3 := (hk k (by omega)).2
    rw [i32_le, i32_le, nI_toInt (by omega)]
    simp only [Int32.reduceToInt]
    omega
  rw [now0, em, ej, C_isShut hS hj (by omega)]
  have hx := (hjs j hj).2
  rw [enN] at hx ⊢
  rw [hsm m (Nat.le_refl m) (by omega)]
  simp (disch := omega) only [bind_some, rd_nI]
  rw [hx]
  refine Two_ite (fun _ => Two_ret _ h.up) (fun c2 => ?_)
  obtain ⟨F, hF, hFb⟩ := C_close s (j := j) (m := m) b hj (by omega)
  rw [hF]
  have hd : decide (b = 0) = shp (t.2.1 1224) (t.2.1 1225) (nI j) 600 n := by
    rcases hb with e | e
    · rw [e] at c2 ⊢
      cases hs : shp (t.2.1 1224) (t.2.1 1225) (nI j) 600 n with
      | true => rfl
      | false => rw [hs] at c2; exact absurd rfl c2
    · rw [e] at c2 ⊢
      cases hs : shp (t.2.1 1224) (t.2.1 1225) (nI j) 600 n with
      | true => rw [hs] at c2; exact absurd rfl c2
      | false => rfl
  have hnar : vp_nar .boolean b = b := by rcases hb with e | e <;> rw [e] <;> rfl
  simp (disch := omega) only [wr_nI, wr_ok, bind_some, wI_ok, sA_1, pA_1, hnar]
  have e1 : (1 : Int32).toInt = 1 := rfl
  have en1 : (t.1 1226 + 1).toInt = n + 1 := by rw [i32_add (by omega) (by omega), e1]; omega
  have hnI : ∀ i : Nat, i < 20 → (nI i = nI j ↔ i = j) := fun i hi => nI_eq (by omega) (by omega)
  have hstep : ∀ (i : Nat) (w : Int32), i < 20 → shp (upd (t.2.1 1224) n (nI j)) (upd (t.2.1 1225) n (t.1 1200)) (nI i) w (n + 1) = if i = j ∧ t.1 1200 ≤ w then !(shp (t.2.1 1224) (t.2.1 1225) (nI i) w n) else shp (t.2.1 1224) (t.2.1 1225) (nI i) w n := by
    intro i w hi
    simp only [shp, shp_upd (Nat.le_refl n), upd, if_true]
    by_cases e2 : i = j
    · subst e2; simp
    · have e3 : ¬ nI j = nI i := fun z => e2 ((hnI i hi).mp z.symm)
      simp [e2, e3]
  refine Two_ret _ ⟨h.now, h.folk, h.cnt, h.rec, h.trt, h.sch, h.blt, ?_, h.tape, h.yard, h.prom, h.given, h.staff, h.roof, h.site, h.purse, h.land, h.law, h.ref, h.row⟩
  refine ⟨⟨?_, ?_⟩, ?_, ?_⟩
  · simp only [pI_1, pI_2, pA_1, pA_21, pA_22, pk_us, upd_n, va_up_s, va_up_n, Nat.reduceBEq, sA_1]; omega
  · simp only [pI_1, pI_2, pA_1, pA_21, pA_22, pk_us, upd_n, va_up_s, va_up_n, Nat.reduceBEq, sA_1]; omega
  · intro k hk2
    simp only [pI_1, pI_2, pA_1, pA_21, pA_22, pk_us, upd_n, va_up_s, va_up_n, Nat.reduceBEq, sA_1, sA_21, en1, en2, Int.toNat_natCast] at hk2 ⊢
    unfold upd
    by_cases e2 : k = n
    · rw [if_pos e2]; exact ⟨now1, Int.le_refl _⟩
    · rw [if_neg e2]; exact hk k (by omega)
  · intro i hi
    have e4 : (n + 1 : Int).toNat = n + 1 := by omega
    refine ⟨fun w hw => ?_, ?_⟩
    · simp only [pI_1, pI_2, pA_1, pA_21, pA_22, pk_us, upd_n, va_up_s, va_up_n, Nat.reduceBEq, setA_21, sA_1, sA_21, en1, e4, en2, Int.toNat_natCast]
      rw [hFb w i (by omega) hw, hstep i _ hi]
      have h5 := (hjs i hi).1 w hw
      rw [enN] at h5
      have h6 : t.1 1200 ≤ nI w ↔ m ≤ w := by rw [i32_le, nI_toInt (by omega)]; omega
      by_cases e5 : i = j
      · subst e5
        by_cases e6 : m ≤ w
        · rw [if_pos ⟨e6, rfl⟩, if_pos ⟨rfl, h6.mpr e6⟩, hd, hsm w e6 hw]
        · rw [if_neg (fun z => e6 z.1), if_neg (fun z => e6 (h6.mp z.2)), h5]
      · rw [if_neg (fun z => e5 z.2), if_neg (fun z => e5 z.1), h5]
    · simp only [pI_1, pI_2, pA_1, pA_21, pA_22, pk_us, upd_n, va_up_s, va_up_n, Nat.reduceBEq, sA_1, sA_21, en1, e4, en2, Int.toNat_natCast]
      rw [hstep i _ hi]
      have h5 := (hjs i hi).2
      rw [enN] at h5
      unfold upd
      by_cases e5 : i = j
      · subst e5
        have h7 : t.1 1200 ≤ 600 := by rw [i32_le]; exact now2
        rw [if_pos rfl, if_pos ⟨rfl, h7⟩, ← hd]
        rcases hb with e | e <;> rw [e] <;> rfl
      · rw [if_neg e5, if_neg (fun z => e5 z.1), h5]
