/-! public methods that set something, both sides -/
theorem isN {v x : Int32} {m : Int} (h : ¬ inb v 0 (x - 1) = false) (hx : inR x 0 m) : 0 ≤ v.toInt ∧ v.toInt < x.toInt := by
  have h1 := inb_R h
  obtain ⟨h2, h3⟩ := h1
  obtain ⟨x1, x2⟩ := hx
  have e : (1 : Int32).toInt = 1 := rfl
  have e0 : (0 : Int32).toInt = 0 := rfl
  have xl := Int32.toInt_lt x
  rw [i32_sub (by omega) (by omega), e] at h3
  rw [e0] at h2
  omega
theorem idx {v j : Int32} {k : Nat} (hv : 0 ≤ v.toInt) (hv2 : v.toInt ≤ 1000) (hj : 0 ≤ j.toInt) (hj2 : j.toInt ≤ 1000) {c : Int32} (hc : c.toInt = k) (hk : k ≤ 1000) : (v * c + j).toInt = v.toInt * k + j.toInt := by
  have h1 : v.toInt * (k : Int) ≤ 1000 * 1000 := by
    calc v.toInt * (k : Int) ≤ 1000 * (k : Int) := Int.mul_le_mul_of_nonneg_right hv2 (by omega)
      _ ≤ 1000 * 1000 := by omega
  have h0 : 0 ≤ v.toInt * (k : Int) := Int.mul_nonneg hv (by omega)
  have hm : (v * c).toInt = v.toInt * k := by rw [i32_mul (by rw [hc]; omega) (by rw [hc]; omega), hc]
  rw [i32_add (by omega) (by omega), hm]
theorem P_strength {N : Int} {s t : St} (h : RX N s t) (a b : Int32) : Two (RX (N + 1)) (F_X11_strength a b s) (F_X12_strength a b t) := by
  unfold F_X11_strength F_X12_strength
  refine Two_ite (fun _ => Two_ret _ h.up) (fun c1 => Two_ite (fun _ => Two_ret _ h.up) (fun c2 => ?_))
  have q := inb_R c1
  simp only [Int32.reduceToInt] at q
  obtain ⟨q1, q2⟩ := q
  simp (disch := omega) only [wr_ok, bind_some]
  exact Two_ret _ ⟨h.now, h.folk, h.cnt, h.rec, h.trt, h.sch, h.blt, ⟨⟨h.shut.1.1, Int.le_trans h.shut.1.2 (by omega)⟩, h.shut.2⟩, h.tape, h.yard, h.prom, h.given, h.staff, ⟨by simp only [pI_1, pI_2, pA_1, pA_21, pA_22, pk_us, upd_n, va_up_s, va_up_n, Nat.reduceBEq, h.roof.1], h.roof.2⟩, h.site, h.purse, h.land, h.law, h.ref, h.row⟩
theorem P_end {N : Int} {s t : St} (h : RX N s t) (a : Int32) : Two (RX (N + 1)) (F_X11_end a s) (F_X12_end a t) := by
  obtain ⟨z0, z1, z2, z3, z4⟩ := h.tape
  obtain ⟨y0, y1⟩ := z1
  unfold F_X11_end F_X12_end
  rw [z0]
  have e0 : (0 : Int32).toInt = 0 := rfl
  by_cases c : inb a 0 (t.1 1235) = false
  · rw [if_pos c]
    have c2 := inb_no.mp c
    unfold inR at c2
    by_cases h1 : a < 0
    · rw [if_pos h1]; exact Two_ret _ h.up
    · rw [if_neg h1]
      have h2 : ¬ a ≤ t.1 1235 := by rw [i32_le]; rw [i32_lt] at h1; omega
      rw [if_neg h2]; exact Two_ret _ h.up
  · rw [if_neg c]
    obtain ⟨q1, q2⟩ := inb_R c
    have h1 : ¬ a < 0 := by rw [i32_lt]; omega
    have h2 : a ≤ t.1 1235 := i32_le.mpr q2
    rw [if_neg h1, if_pos h2]
    simp only [wI_ok, bind_some]
    exact Two_ret _ ⟨h.now, h.folk, h.cnt, h.rec, h.trt, h.sch, h.blt, ⟨⟨h.shut.1.1, Int.le_trans h.shut.1.2 (by omega)⟩, h.shut.2⟩, ⟨rfl, ⟨by show 0 ≤ a.toInt; omega, by show a.toInt ≤ 160; omega⟩, z2, z3, fun j hj => z4 j (by have hj2 : (j : Int) < a.toInt := hj; omega)⟩, h.yard, h.prom, h.given, h.staff, h.roof, h.site, h.purse, h.land, h.law, h.ref, h.row⟩
theorem P_treat {N : Int} {s t : St} (h : RX N s t) (a b : Int32) : Two (RX (N + 1)) (F_X11_treat a b s) (F_X12_treat a b t) := by
  unfold F_X11_treat F_X12_treat F_X11_isVillage F_X12_isVillage
  rw [h.folk.1]
  simp only [bind_some, bI_eq0]
  refine Two_ite (fun _ => Two_ret _ h.up) (fun c1 => Two_ite (fun _ => Two_ret _ h.up) (fun c2 => ?_))
  have hb := h.folk.2.1
  obtain ⟨q1, q2⟩ := isN c1 hb
  obtain ⟨b0, b1⟩ := hb
  have q3 := inb_R c2
  have hT := h.trt a.toInt.toNat (by omega)
  have hn := h.now.1
  simp (disch := omega) only [rd_ok, bind_some]
  rcases hT with ⟨t1, t2⟩ | ⟨t1, t2, t3, t4⟩
  · rw [if_pos t2, if_pos t1]
    simp (disch := omega) only [wr_ok, bind_some, pI_1, pI_2, pA_1, pA_21, pA_22, pk_us, upd_n, va_up_s, va_up_n, Nat.reduceBEq, hn]
    refine Two_ret _ ⟨h.now, h.folk, h.cnt, h.rec, ?_, h.sch, h.blt, ⟨⟨h.shut.1.1, Int.le_trans h.shut.1.2 (by omega)⟩, h.shut.2⟩, h.tape, h.yard, h.prom, h.given, h.staff, h.roof, h.site, h.purse, h.land, h.law, h.ref, h.row⟩
    exact fun j hj => by
      simp only [pI_1, pI_2, pA_1, pA_21, pA_22, pk_us, upd_n, va_up_s, va_up_n, Nat.reduceBEq]
      unfold upd
      by_cases e : j = a.toInt.toNat
      · subst e
        simp only [if_true]
        exact Or.inr ⟨trivial, trivial, ⟨by simpa only [Int32.reduceToInt] using q3.1, by simpa only [Int32.reduceToInt] using q3.2⟩, trivial⟩
      · simp only [if_neg e]
        exact h.trt j hj
  · have e : ¬ s.2.1 105 a.toInt.toNat = -1 := by
      rw [t2]
      intro z
      rw [z] at t3
      exact absurd t3.1 (by decide)
    rw [if_neg e, if_neg (by rw [t1]; decide)]
    exact Two_ret _ h.up
theorem P_give {N : Int} {s t : St} (h : RX N s t) (a b c : Int32) : Two (RX (N + 1)) (F_X11_give a b c s) (F_X12_give a b c t) := by
  obtain ⟨z0, z1, z2⟩ := h.given
  obtain ⟨y0, y1⟩ := z1
  unfold F_X11_give F_X12_give F_X11_isVillage F_X12_isVillage F_X11_isSchool F_X12_isSchool
  rw [h.folk.1, h.sch.1]
  simp only [bind_some, bI_eq0]
  refine Two_ite (fun _ => Two_ret _ h.up) (fun c1 => Two_ite (fun _ => Two_ret _ h.up) (fun c2 => Two_ite (fun _ => Two_ret _ h.up) (fun c3 => ?_)))
  obtain ⟨q1, q2⟩ := isN c1 h.folk.2.1
  obtain ⟨q3, q4⟩ := isN c2 h.sch.2.1
  have b1 := h.folk.2.1.2
  have b2 := h.sch.2.1.2
  have hi := idx (v := a) (j := b) (c := 20) (k := 20) q1 (by omega) q3 (by omega) rfl (by decide)
  rw [Int32.mul_comm 20 a]
  unfold F_X10_take
  rw [z0]
  by_cases hc : t.1 1267 = 200
  · rw [if_pos hc, if_neg (by rw [hc]; decide)]
    simp only [bind_some, bz]
    exact Two_ret _ h.up
  · have hl : (t.1 1267).toInt < 200 := ne_lt (m := 200) y1 hc
    rw [if_neg hc, if_pos (i32_lt.mpr hl)]
    simp (disch := omega) only [wI_ok, bind_some, rd_ok, wr_ok, bz_ok, or_true, pI_1, pI_2, pA_1, pA_21, pA_22, pk_us, upd_n, va_up_s, va_up_n, Nat.reduceBEq]
    rw [z2]
    exact Two_ret _ ⟨h.now, h.folk, h.cnt, h.rec, h.trt, h.sch, h.blt, ⟨⟨h.shut.1.1, Int.le_trans h.shut.1.2 (by omega)⟩, h.shut.2⟩, h.tape, h.yard, h.prom, ⟨by simp only [pI_1, pI_2, pA_1, pA_21, pA_22, pk_us, upd_n, va_up_s, va_up_n, Nat.reduceBEq], by simp only [pI_1, pI_2, pA_1, pA_21, pA_22, pk_us, upd_n, va_up_s, va_up_n, Nat.reduceBEq]; exact inR_inc ⟨y0, y1⟩ hl (by decide), by simp only [pI_1, pI_2, pA_1, pA_21, pA_22, pk_us, upd_n, va_up_s, va_up_n, Nat.reduceBEq, z2]⟩, h.staff, h.roof, h.site, h.purse, h.land, h.law, h.ref, h.row⟩
theorem P_promise {N : Int} {s t : St} (h : RX N s t) (a b : Int32) : Two (RX (N + 1)) (F_X11_promise a b s) (F_X12_promise a b t) := by
  unfold F_X11_promise F_X12_promise F_X11_isVillage F_X12_isVillage F_X11_isSchool F_X12_isSchool
  rw [h.folk.1, h.sch.1]
  simp only [bind_some, bI_eq0]
  refine Two_ite (fun _ => Two_ret _ h.up) (fun c1 => Two_ite (fun _ => Two_ret _ h.up) (fun c2 => ?_))
  obtain ⟨q1, q2⟩ := isN c1 h.folk.2.1
  obtain ⟨q3, q4⟩ := isN c2 h.sch.2.1
  have b1 := h.folk.2.1.2
  have b2 := h.sch.2.1.2
  have hi := idx (v := a) (j := b) (c := 20) (k := 20) q1 (by omega) q3 (by omega) rfl (by decide)
  obtain ⟨v, rfl, ev, _⟩ := i32_nat q1
  obtain ⟨j, rfl, ej, _⟩ := i32_nat q3
  have en : (nI v * 20 + nI j).toInt.toNat = 20 * v + j := by omega
  have hp := h.prom v j (by omega) (by omega)
  simp (disch := omega) only [rd_ok, bind_some, wr_ok, en]
  have ej2 : (nI j).toInt.toNat = j := by omega
  rw [hp, ej2]
  simp only [bI_eq0]
  cases hb : bt (t.2.1 1265 j) v with
  | true =>
    rw [if_neg (by decide), if_pos ((bt_is _ (by omega)).mpr hb)]
    exact Two_ret _ h.up
  | false =>
    rw [if_pos rfl, if_neg (fun z => by rw [(bt_is _ (by omega)).mp z] at hb; cases hb)]
    refine Two_ret _ ⟨h.now, h.folk, h.cnt, h.rec, h.trt, h.sch, h.blt, ⟨⟨h.shut.1.1, Int.le_trans h.shut.1.2 (by omega)⟩, h.shut.2⟩, h.tape, h.yard, ?_, h.given, h.staff, h.roof, h.site, h.purse, h.land, h.law, h.ref, h.row⟩
    intro w i hw hi2
    have h3 := h.prom w i hw hi2
    simp only [pI_1, pI_2, pA_1, pA_21, pA_22, pk_us, upd_n, va_up_s, va_up_n, Nat.reduceBEq, en, ej2]
    unfold upd
    by_cases e1 : i = j
    · subst e1
      rw [if_pos rfl, bt_on _ (by omega) (by omega)]
      by_cases e2 : w = v
      · subst e2; simp [bI]
      · have : ¬ 20 * w + i = 20 * v + i := by omega
        rw [if_neg this, h3]
        simp [e2]
    · have : ¬ 20 * w + i = 20 * v + j := by omega
      rw [if_neg this, if_neg e1, h3]
theorem P_bill {N : Int} {s t : St} (h : RX N s t) (a b : Int32) : Two (RX (N + 1)) (F_X11_bill a b s) (F_X12_bill a b t) := by
  obtain ⟨z0, z1, z2, z3, z4, z5, z6, z7, z8⟩ := h.purse
  obtain ⟨y0, y1⟩ := z4
  unfold F_X11_bill F_X12_bill
  refine Two_ite (fun _ => Two_ret _ h.up) (fun c1 => Two_ite (fun _ => Two_ret _ h.up) (fun c2 => ?_))
  have q := inb_R c1
  simp only [Int32.reduceToInt] at q
  obtain ⟨q1, q2⟩ := q
  have r := inb_R c2
  simp only [Int32.reduceToInt] at r
  unfold F_X3_owe
  rw [z3]
  by_cases hc : t.1 1297 = 40
  · rw [if_pos hc, if_neg (by rw [hc]; decide)]
    simp only [bind_some, bz]
    exact Two_ret _ h.up
  · have hl : (t.1 1297).toInt < 40 := ne_lt (m := 40) y1 hc
    rw [if_neg hc, if_pos (i32_lt.mpr hl)]
    simp (disch := omega) only [wI_ok, bind_some, rd_ok, wr_ok, bz_ok, or_true, pI_1, pI_2, pA_1, pA_21, pA_22, pk_us, upd_n, va_up_s, va_up_n, Nat.reduceBEq]
    obtain ⟨n, en, en2, _⟩ := i32_nat y0
    obtain ⟨k, ek, ek2, _⟩ := i32_nat q1
    refine Two_ret _ ⟨h.now, h.folk, h.cnt, h.rec, h.trt, h.sch, h.blt, ⟨⟨h.shut.1.1, Int.le_trans h.shut.1.2 (by omega)⟩, h.shut.2⟩, h.tape, h.yard, h.prom, h.given, h.staff, h.roof, h.site, ⟨z0, z1, z2, by simp only [pI_1, pI_2, pA_1, pA_21, pA_22, pk_us, upd_n, va_up_s, va_up_n, Nat.reduceBEq], by simp only [pI_1, pI_2, pA_1, pA_21, pA_22, pk_us, upd_n, va_up_s, va_up_n, Nat.reduceBEq]; exact inR_inc ⟨y0, y1⟩ hl (by decide), by simp only [pI_1, pI_2, pA_1, pA_21, pA_22, pk_us, upd_n, va_up_s, va_up_n, Nat.reduceBEq]; exact inR_upd z5 ⟨q1, q2⟩, z6, by simp only [pI_1, pI_2, pA_1, pA_21, pA_22, pk_us, upd_n, va_up_s, va_up_n, Nat.reduceBEq]; exact inR_upd z7 ⟨by have := r.1; omega, r.2⟩, ?_⟩, h.land, h.law, h.ref, h.row⟩
    intro j hj
    have h8 := z8 j hj
    have hk8 := z8 k (by omega)
    have e3 : (t.1 1297 + 1).toInt.toNat = n + 1 := by
      have e1 : (1 : Int32).toInt = 1 := rfl
      rw [i32_add (by omega) (by omega), e1]; omega
    have e4 : (t.1 1297).toInt.toNat = n := by omega
    have e5 : a.toInt.toNat = k := by omega
    rw [e4] at h8 hk8
    simp only [pI_1, pI_2, pA_1, pA_21, pA_22, pk_us, upd_n, va_up_s, va_up_n, Nat.reduceBEq, e3, e4, e5]
    simp only [owd, upd, if_true]
    have hw : ∀ m, m ≤ n → owd (upd (t.2.1 1294) n a) (upd (t.2.1 1295) n b) (nI j) m = owd (t.2.1 1294) (t.2.1 1295) (nI j) m := by
      intro m
      induction m with
      | zero => intro _; rfl
      | succ m ih =>
        intro hm
        have : ¬ m = n := by omega
        simp only [owd, ih (by omega), upd, this, if_false]
    rw [hw n (Nat.le_refl n)]
    by_cases e6 : j = k
    · subst e6
      simp [h8, ek]
    · have e7 : ¬ a = nI j := by rw [ek]; intro z; exact e6 ((nI_eq (by omega) (by omega)).mp z).symm
      simp [e6, e7, h8]

