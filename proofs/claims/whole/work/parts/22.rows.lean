/-! public methods that tell a row more, both sides -/
theorem inR_inc {x : Int32} {m : Int} (h : inR x 0 m) (hl : x.toInt < m) (hm : m ≤ 100000) : inR (x + 1) 0 m := by
  obtain ⟨h1, h2⟩ := h
  have e : (1 : Int32).toInt = 1 := rfl
  unfold inR
  rw [i32_add (by omega) (by omega), e]
  omega
theorem ne_lt {x m : Int32} (h : x.toInt ≤ m.toInt) (hn : ¬ x = m) : x.toInt < m.toInt := by
  have : ¬ x.toInt = m.toInt := fun z => hn (Int32.toInt_inj.mp z)
  omega
set_option maxHeartbeats 1000000 in
theorem P_village {N : Int} {s t : St} (h : RX N s t) (a b c : Int32) : Two (RX (N + 1)) (F_X11_village a b c s) (F_X12_village a b c t) := by
  obtain ⟨z0, z1, z2, z3, z4, z5, z6, z7⟩ := h.folk
  obtain ⟨y0, y1⟩ := z1
  have ynow := h.now.1
  unfold F_X11_village F_X12_village
  refine Two_ite (fun _ => Two_ret _ h.up) (fun c1 => Two_ite (fun _ => Two_ret _ h.up) (fun c2 => Two_ite (fun _ => Two_ret _ h.up) (fun c3 => ?_)))
  unfold F_X1_settle
  rw [z0]
  by_cases hc : t.1 1212 = 24
  · rw [if_pos hc, if_neg (by rw [hc]; decide)]
    first | exact Two_ret _ h.up | (simp only [bind_some, bz]; exact Two_ret _ h.up)
  · have hl : (t.1 1212).toInt < 24 := ne_lt (m := 24) y1 hc
    rw [if_neg hc, if_pos (i32_lt.mpr hl)]
    simp (disch := omega) only [wr_ok, bind_some, wI_ok, pI_1, pI_2, pA_1, pA_21, pA_22, pk_us, upd_n, va_up_s, va_up_n, Nat.reduceBEq, z0, ynow, bz_ok, or_true]
    exact Two_ret _ ⟨h.now, ⟨by simp only [pI_1, pI_2, pA_1, pA_21, pA_22, pk_us, upd_n, va_up_s, va_up_n, Nat.reduceBEq], by simp only [pI_1, pI_2, pA_1, pA_21, pA_22, pk_us, upd_n, va_up_s, va_up_n, Nat.reduceBEq]; exact inR_inc ⟨y0, y1⟩ hl (by decide), by simp only [pI_1, pI_2, pA_1, pA_21, pA_22, pk_us, upd_n, va_up_s, va_up_n, Nat.reduceBEq, z2, z3, z4], by simp only [pI_1, pI_2, pA_1, pA_21, pA_22, pk_us, upd_n, va_up_s, va_up_n, Nat.reduceBEq, z2, z3, z4], by simp only [pI_1, pI_2, pA_1, pA_21, pA_22, pk_us, upd_n, va_up_s, va_up_n, Nat.reduceBEq, z2, z3, z4], by simp only [pI_1, pI_2, pA_1, pA_21, pA_22, pk_us, upd_n, va_up_s, va_up_n, Nat.reduceBEq]; exact inR_upd z5 (inb_R c1), by simp only [pI_1, pI_2, pA_1, pA_21, pA_22, pk_us, upd_n, va_up_s, va_up_n, Nat.reduceBEq]; exact inR_upd z6 (inb_R c2), by simp only [pI_1, pI_2, pA_1, pA_21, pA_22, pk_us, upd_n, va_up_s, va_up_n, Nat.reduceBEq]; exact inR_upd z7 (inb_R c3)⟩, h.cnt, h.rec, h.trt, h.sch, h.blt, ⟨⟨h.shut.1.1, Int.le_trans h.shut.1.2 (by omega)⟩, h.shut.2⟩, h.tape, h.yard, h.prom, h.given, h.staff, h.roof, h.site, h.purse, h.land, h.law, h.ref, h.row⟩
set_option maxHeartbeats 1000000 in
theorem P_count {N : Int} {s t : St} (h : RX N s t) (v y g b : Int32) : Two (RX (N + 1)) (F_X11_count v y g b s) (F_X12_count v y g b t) := by
  obtain ⟨z0, z1, z2, z3, z4, z5, z6, z7, z8, z9⟩ := h.cnt
  obtain ⟨y0, y1⟩ := z1
  have ynow := h.now.1
  unfold F_X11_count F_X12_count F_X11_isVillage F_X12_isVillage
  rw [h.folk.1]
  simp only [bind_some, bI_eq0]
  refine Two_ite (fun _ => Two_ret _ h.up) (fun c1 => Two_ite (fun _ => Two_ret _ h.up) (fun c2 => Two_ite (fun _ => Two_ret _ h.up) (fun c3 => Two_ite (fun _ => Two_ret _ h.up) (fun c4 => ?_))))
  unfold F_X1_tell
  rw [z0]
  by_cases hc : t.1 1213 = 200
  · rw [if_pos hc, if_neg (by rw [hc]; decide)]
    first | exact Two_ret _ h.up | (simp only [bind_some, bz]; exact Two_ret _ h.up)
  · have hl : (t.1 1213).toInt < 200 := ne_lt (m := 200) y1 hc
    rw [if_neg hc, if_pos (i32_lt.mpr hl)]
    simp (disch := omega) only [wr_ok, bind_some, wI_ok, pI_1, pI_2, pA_1, pA_21, pA_22, pk_us, upd_n, va_up_s, va_up_n, Nat.reduceBEq, z0, ynow, bz_ok, or_true]
    exact Two_ret _ ⟨h.now, h.folk, ⟨by simp only [pI_1, pI_2, pA_1, pA_21, pA_22, pk_us, upd_n, va_up_s, va_up_n, Nat.reduceBEq], by simp only [pI_1, pI_2, pA_1, pA_21, pA_22, pk_us, upd_n, va_up_s, va_up_n, Nat.reduceBEq]; exact inR_inc ⟨y0, y1⟩ hl (by decide), by simp only [pI_1, pI_2, pA_1, pA_21, pA_22, pk_us, upd_n, va_up_s, va_up_n, Nat.reduceBEq, z2, z3, z4, z5, z6], by simp only [pI_1, pI_2, pA_1, pA_21, pA_22, pk_us, upd_n, va_up_s, va_up_n, Nat.reduceBEq, z2, z3, z4, z5, z6], by simp only [pI_1, pI_2, pA_1, pA_21, pA_22, pk_us, upd_n, va_up_s, va_up_n, Nat.reduceBEq, z2, z3, z4, z5, z6], by simp only [pI_1, pI_2, pA_1, pA_21, pA_22, pk_us, upd_n, va_up_s, va_up_n, Nat.reduceBEq, z2, z3, z4, z5, z6], by simp only [pI_1, pI_2, pA_1, pA_21, pA_22, pk_us, upd_n, va_up_s, va_up_n, Nat.reduceBEq, z2, z3, z4, z5, z6], by simp only [pI_1, pI_2, pA_1, pA_21, pA_22, pk_us, upd_n, va_up_s, va_up_n, Nat.reduceBEq]; exact inR_upd z7 (inb_R c2), by simp only [pI_1, pI_2, pA_1, pA_21, pA_22, pk_us, upd_n, va_up_s, va_up_n, Nat.reduceBEq]; exact inR_upd z8 (inb_R c3), by simp only [pI_1, pI_2, pA_1, pA_21, pA_22, pk_us, upd_n, va_up_s, va_up_n, Nat.reduceBEq]; exact inR_upd z9 (inb_R c4)⟩, h.rec, h.trt, h.sch, h.blt, ⟨⟨h.shut.1.1, Int.le_trans h.shut.1.2 (by omega)⟩, h.shut.2⟩, h.tape, h.yard, h.prom, h.given, h.staff, h.roof, h.site, h.purse, h.land, h.law, h.ref, h.row⟩
set_option maxHeartbeats 1000000 in
theorem P_recount {N : Int} {s t : St} (h : RX N s t) (v y n : Int32) : Two (RX (N + 1)) (F_X11_recount v y n s) (F_X12_recount v y n t) := by
  obtain ⟨z0, z1, z2, z3, z4, z5, z6⟩ := h.rec
  obtain ⟨y0, y1⟩ := z1
  have ynow := h.now.1
  unfold F_X11_recount F_X12_recount F_X11_isVillage F_X12_isVillage
  rw [h.folk.1]
  simp only [bind_some, bI_eq0]
  refine Two_ite (fun _ => Two_ret _ h.up) (fun c1 => Two_ite (fun _ => Two_ret _ h.up) (fun c2 => Two_ite (fun _ => Two_ret _ h.up) (fun c3 => ?_)))
  unfold F_X1_tellAgain
  rw [z0]
  by_cases hc : t.1 1280 = 60
  · rw [if_pos hc, if_neg (by rw [hc]; decide)]
    first | exact Two_ret _ h.up | (simp only [bind_some, bz]; exact Two_ret _ h.up)
  · have hl : (t.1 1280).toInt < 60 := ne_lt (m := 60) y1 hc
    rw [if_neg hc, if_pos (i32_lt.mpr hl)]
    simp (disch := omega) only [wr_ok, bind_some, wI_ok, pI_1, pI_2, pA_1, pA_21, pA_22, pk_us, upd_n, va_up_s, va_up_n, Nat.reduceBEq, z0, ynow, bz_ok, or_true]
    exact Two_ret _ ⟨h.now, h.folk, h.cnt, ⟨by simp only [pI_1, pI_2, pA_1, pA_21, pA_22, pk_us, upd_n, va_up_s, va_up_n, Nat.reduceBEq], by simp only [pI_1, pI_2, pA_1, pA_21, pA_22, pk_us, upd_n, va_up_s, va_up_n, Nat.reduceBEq]; exact inR_inc ⟨y0, y1⟩ hl (by decide), by simp only [pI_1, pI_2, pA_1, pA_21, pA_22, pk_us, upd_n, va_up_s, va_up_n, Nat.reduceBEq, z2, z3, z4, z5], by simp only [pI_1, pI_2, pA_1, pA_21, pA_22, pk_us, upd_n, va_up_s, va_up_n, Nat.reduceBEq, z2, z3, z4, z5], by simp only [pI_1, pI_2, pA_1, pA_21, pA_22, pk_us, upd_n, va_up_s, va_up_n, Nat.reduceBEq, z2, z3, z4, z5], by simp only [pI_1, pI_2, pA_1, pA_21, pA_22, pk_us, upd_n, va_up_s, va_up_n, Nat.reduceBEq, z2, z3, z4, z5], by simp only [pI_1, pI_2, pA_1, pA_21, pA_22, pk_us, upd_n, va_up_s, va_up_n, Nat.reduceBEq]; exact inR_upd z6 (inb_R c3)⟩, h.trt, h.sch, h.blt, ⟨⟨h.shut.1.1, Int.le_trans h.shut.1.2 (by omega)⟩, h.shut.2⟩, h.tape, h.yard, h.prom, h.given, h.staff, h.roof, h.site, h.purse, h.land, h.law, h.ref, h.row⟩
set_option maxHeartbeats 1000000 in
theorem P_maker {N : Int} {s t : St} (h : RX N s t) (k n f u : Int32) : Two (RX (N + 1)) (F_X11_maker k n f u s) (F_X12_maker k n f u t) := by
  obtain ⟨z0, z1, z2, z3, z4, z5, z6, z7, z8, z9, z10, z11⟩ := h.yard
  obtain ⟨y0, y1⟩ := z1
  have ynow := h.now.1
  unfold F_X11_maker F_X12_maker
  refine Two_ite (fun _ => Two_ret _ h.up) (fun c1 => Two_ite (fun _ => Two_ret _ h.up) (fun c2 => Two_ite (fun _ => Two_ret _ h.up) (fun c3 => Two_ite (fun _ => Two_ret _ h.up) (fun c4 => ?_))))
  unfold F_X10_hire
  rw [z0]
  by_cases hc : t.1 1263 = 8
  · rw [if_pos hc, if_neg (by rw [hc]; decide)]
    first | exact Two_ret _ h.up | (simp only [bind_some, bz]; exact Two_ret _ h.up)
  · have hl : (t.1 1263).toInt < 8 := ne_lt (m := 8) y1 hc
    rw [if_neg hc, if_pos (i32_lt.mpr hl)]
    simp (disch := omega) only [wr_ok, bind_some, wI_ok, pI_1, pI_2, pA_1, pA_21, pA_22, pk_us, upd_n, va_up_s, va_up_n, Nat.reduceBEq, z0, ynow, bz_ok, or_true]
    exact Two_ret _ ⟨h.now, h.folk, h.cnt, h.rec, h.trt, h.sch, h.blt, ⟨⟨h.shut.1.1, Int.le_trans h.shut.1.2 (by omega)⟩, h.shut.2⟩, h.tape, ⟨by simp only [pI_1, pI_2, pA_1, pA_21, pA_22, pk_us, upd_n, va_up_s, va_up_n, Nat.reduceBEq], by simp only [pI_1, pI_2, pA_1, pA_21, pA_22, pk_us, upd_n, va_up_s, va_up_n, Nat.reduceBEq]; exact inR_inc ⟨y0, y1⟩ hl (by decide), by simp only [pI_1, pI_2, pA_1, pA_21, pA_22, pk_us, upd_n, va_up_s, va_up_n, Nat.reduceBEq, z2, z3, z4, z5], by simp only [pI_1, pI_2, pA_1, pA_21, pA_22, pk_us, upd_n, va_up_s, va_up_n, Nat.reduceBEq, z2, z3, z4, z5], by simp only [pI_1, pI_2, pA_1, pA_21, pA_22, pk_us, upd_n, va_up_s, va_up_n, Nat.reduceBEq, z2, z3, z4, z5], by simp only [pI_1, pI_2, pA_1, pA_21, pA_22, pk_us, upd_n, va_up_s, va_up_n, Nat.reduceBEq, z2, z3, z4, z5], by simp only [pI_1, pI_2, pA_1, pA_21, pA_22, pk_us, upd_n, va_up_s, va_up_n, Nat.reduceBEq]; exact inR_upd z6 (inb_R c1), z7, z8, z9, z10, z11⟩, h.prom, h.given, h.staff, h.roof, h.site, h.purse, h.land, h.law, h.ref, h.row⟩
set_option maxHeartbeats 1000000 in
theorem P_teacher {N : Int} {s t : St} (h : RX N s t) (y r b l : Int32) : Two (RX (N + 1)) (F_X11_teacher y r b l s) (F_X12_teacher y r b l t) := by
  obtain ⟨z0, z1, z2, z3, z4, z5, z6, z7, z8⟩ := h.staff
  obtain ⟨y0, y1⟩ := z1
  have ynow := h.now.1
  unfold F_X11_teacher F_X12_teacher
  refine Two_ite (fun _ => Two_ret _ h.up) (fun c1 => Two_ite (fun _ => Two_ret _ h.up) (fun c2 => Two_ite (fun _ => Two_ret _ h.up) (fun c3 => Two_ite (fun _ => Two_ret _ h.up) (fun c4 => ?_))))
  unfold F_X8_enrol
  rw [z0]
  by_cases hc : t.1 1275 = 40
  · rw [if_pos hc, if_neg (by rw [hc]; decide)]
    first | exact Two_ret _ h.up | (simp only [bind_some, bz]; exact Two_ret _ h.up)
  · have hl : (t.1 1275).toInt < 40 := ne_lt (m := 40) y1 hc
    rw [if_neg hc, if_pos (i32_lt.mpr hl)]
    simp (disch := omega) only [wr_ok, bind_some, wI_ok, pI_1, pI_2, pA_1, pA_21, pA_22, pk_us, upd_n, va_up_s, va_up_n, Nat.reduceBEq, z0, ynow, bz_ok, or_true]
    exact Two_ret _ ⟨h.now, h.folk, h.cnt, h.rec, h.trt, h.sch, h.blt, ⟨⟨h.shut.1.1, Int.le_trans h.shut.1.2 (by omega)⟩, h.shut.2⟩, h.tape, h.yard, h.prom, h.given, ⟨by simp only [pI_1, pI_2, pA_1, pA_21, pA_22, pk_us, upd_n, va_up_s, va_up_n, Nat.reduceBEq], by simp only [pI_1, pI_2, pA_1, pA_21, pA_22, pk_us, upd_n, va_up_s, va_up_n, Nat.reduceBEq]; exact inR_inc ⟨y0, y1⟩ hl (by decide), by simp only [pI_1, pI_2, pA_1, pA_21, pA_22, pk_us, upd_n, va_up_s, va_up_n, Nat.reduceBEq, z2, z3, z4, z5, z6], by simp only [pI_1, pI_2, pA_1, pA_21, pA_22, pk_us, upd_n, va_up_s, va_up_n, Nat.reduceBEq, z2, z3, z4, z5, z6], by simp only [pI_1, pI_2, pA_1, pA_21, pA_22, pk_us, upd_n, va_up_s, va_up_n, Nat.reduceBEq, z2, z3, z4, z5, z6], by simp only [pI_1, pI_2, pA_1, pA_21, pA_22, pk_us, upd_n, va_up_s, va_up_n, Nat.reduceBEq, z2, z3, z4, z5, z6], by simp only [pI_1, pI_2, pA_1, pA_21, pA_22, pk_us, upd_n, va_up_s, va_up_n, Nat.reduceBEq, z2, z3, z4, z5, z6], by simp only [pI_1, pI_2, pA_1, pA_21, pA_22, pk_us, upd_n, va_up_s, va_up_n, Nat.reduceBEq]; exact inR_upd z7 (inb_R c1), by simp only [pI_1, pI_2, pA_1, pA_21, pA_22, pk_us, upd_n, va_up_s, va_up_n, Nat.reduceBEq]; exact inR_upd z8 (⟨by have := (inb_R c3).1; simp only [Int32.reduceToInt] at this; omega, (inb_R c3).2⟩)⟩, h.roof, h.site, h.purse, h.land, h.law, h.ref, h.row⟩
set_option maxHeartbeats 1000000 in
theorem P_lorry {N : Int} {s t : St} (h : RX N s t) (n : Int32) : Two (RX (N + 1)) (F_X11_lorry n s) (F_X12_lorry n t) := by
  obtain ⟨z0, z1, z2, z3, z4, z5, z6, z7, z8, z9, z10, z11⟩ := h.yard
  obtain ⟨y0, y1⟩ := z8
  have ynow := h.now.1
  unfold F_X11_lorry F_X12_lorry
  refine Two_ite (fun _ => Two_ret _ h.up) (fun c1 => ?_)
  unfold F_X10_buy
  rw [z7]
  by_cases hc : t.1 1264 = 10
  · rw [if_pos hc, if_neg (by rw [hc]; decide)]
    first | exact Two_ret _ h.up | (simp only [bind_some, bz]; exact Two_ret _ h.up)
  · have hl : (t.1 1264).toInt < 10 := ne_lt (m := 10) y1 hc
    rw [if_neg hc, if_pos (i32_lt.mpr hl)]
    simp (disch := omega) only [wr_ok, bind_some, wI_ok, pI_1, pI_2, pA_1, pA_21, pA_22, pk_us, upd_n, va_up_s, va_up_n, Nat.reduceBEq, z7, ynow, bz_ok, or_true]
    exact Two_ret _ ⟨h.now, h.folk, h.cnt, h.rec, h.trt, h.sch, h.blt, ⟨⟨h.shut.1.1, Int.le_trans h.shut.1.2 (by omega)⟩, h.shut.2⟩, h.tape, ⟨z0, z1, z2, z3, z4, z5, z6, by simp only [pI_1, pI_2, pA_1, pA_21, pA_22, pk_us, upd_n, va_up_s, va_up_n, Nat.reduceBEq], by simp only [pI_1, pI_2, pA_1, pA_21, pA_22, pk_us, upd_n, va_up_s, va_up_n, Nat.reduceBEq]; exact inR_inc ⟨y0, y1⟩ hl (by decide), by simp only [pI_1, pI_2, pA_1, pA_21, pA_22, pk_us, upd_n, va_up_s, va_up_n, Nat.reduceBEq, z9], z10, z11⟩, h.prom, h.given, h.staff, h.roof, h.site, h.purse, h.land, h.law, h.ref, h.row⟩
set_option maxHeartbeats 1000000 in
theorem P_lender {N : Int} {s t : St} (h : RX N s t) (c : Int32) : Two (RX (N + 1)) (F_X11_lender c s) (F_X12_lender c t) := by
  obtain ⟨z0, z1, z2, z3, z4, z5, z6, z7, z8⟩ := h.purse
  obtain ⟨y0, y1⟩ := z1
  have ynow := h.now.1
  unfold F_X11_lender F_X12_lender
  refine Two_ite (fun _ => Two_ret _ h.up) (fun c1 => ?_)
  unfold F_X3_open
  rw [z0]
  by_cases hc : t.1 1296 = 4
  · rw [if_pos hc, if_neg (by rw [hc]; decide)]
    first | exact Two_ret _ h.up | (simp only [bind_some, bz]; exact Two_ret _ h.up)
  · have hl : (t.1 1296).toInt < 4 := ne_lt (m := 4) y1 hc
    rw [if_neg hc, if_pos (i32_lt.mpr hl)]
    simp (disch := omega) only [wr_ok, bind_some, wI_ok, pI_1, pI_2, pA_1, pA_21, pA_22, pk_us, upd_n, va_up_s, va_up_n, Nat.reduceBEq, z0, ynow, bz_ok, or_true]
    exact Two_ret _ ⟨h.now, h.folk, h.cnt, h.rec, h.trt, h.sch, h.blt, ⟨⟨h.shut.1.1, Int.le_trans h.shut.1.2 (by omega)⟩, h.shut.2⟩, h.tape, h.yard, h.prom, h.given, h.staff, h.roof, h.site, ⟨by simp only [pI_1, pI_2, pA_1, pA_21, pA_22, pk_us, upd_n, va_up_s, va_up_n, Nat.reduceBEq], by simp only [pI_1, pI_2, pA_1, pA_21, pA_22, pk_us, upd_n, va_up_s, va_up_n, Nat.reduceBEq]; exact inR_inc ⟨y0, y1⟩ hl (by decide), by simp only [pI_1, pI_2, pA_1, pA_21, pA_22, pk_us, upd_n, va_up_s, va_up_n, Nat.reduceBEq, z2], z3, z4, z5, by simp only [pI_1, pI_2, pA_1, pA_21, pA_22, pk_us, upd_n, va_up_s, va_up_n, Nat.reduceBEq]; exact inR_upd z6 (inb_R c1), z7, z8⟩, h.land, h.law, h.ref, h.row⟩
set_option maxHeartbeats 1000000 in
theorem P_site {N : Int} {s t : St} (h : RX N s t) (c : Int32) : Two (RX (N + 1)) (F_X11_site c s) (F_X12_site c t) := by
  obtain ⟨z0, z1, z2, z3, z4, z5, z6, z7⟩ := h.site
  obtain ⟨y0, y1⟩ := z1
  have ynow := h.now.1
  unfold F_X11_site F_X12_site
  refine Two_ite (fun _ => Two_ret _ h.up) (fun c1 => ?_)
  unfold F_X7_mark
  rw [z0]
  by_cases hc : t.1 1256 = 9
  · rw [if_pos hc, if_neg (by rw [hc]; decide)]
    first | exact Two_ret _ h.up | (simp only [bind_some, bz]; exact Two_ret _ h.up)
  · have hl : (t.1 1256).toInt < 9 := ne_lt (m := 9) y1 hc
    rw [if_neg hc, if_pos (i32_lt.mpr hl)]
    simp (disch := omega) only [wr_ok, bind_some, wI_ok, pI_1, pI_2, pA_1, pA_21, pA_22, pk_us, upd_n, va_up_s, va_up_n, Nat.reduceBEq, z0, ynow, bz_ok, or_true]
    exact Two_ret _ ⟨h.now, h.folk, h.cnt, h.rec, h.trt, h.sch, h.blt, ⟨⟨h.shut.1.1, Int.le_trans h.shut.1.2 (by omega)⟩, h.shut.2⟩, h.tape, h.yard, h.prom, h.given, h.staff, h.roof, ⟨by simp only [pI_1, pI_2, pA_1, pA_21, pA_22, pk_us, upd_n, va_up_s, va_up_n, Nat.reduceBEq], by simp only [pI_1, pI_2, pA_1, pA_21, pA_22, pk_us, upd_n, va_up_s, va_up_n, Nat.reduceBEq]; exact inR_inc ⟨y0, y1⟩ hl (by decide), by simp only [pI_1, pI_2, pA_1, pA_21, pA_22, pk_us, upd_n, va_up_s, va_up_n, Nat.reduceBEq, z2], by simp only [pI_1, pI_2, pA_1, pA_21, pA_22, pk_us, upd_n, va_up_s, va_up_n, Nat.reduceBEq]; exact inR_upd z3 (inb_R c1), z4, z5, z6, z7⟩, h.purse, h.land, h.law, h.ref, h.row⟩
