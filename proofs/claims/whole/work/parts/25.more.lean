/-! more public methods: parts, far, rain, row, schooled -/
/-- one array as a whole -/
def setA (s : St) (k : Nat) (f : Nat → Int32) : St := (s.1, va_up s.2.1 k f, s.2.2)
theorem setA_self (s : St) (k : Nat) : setA s k (s.2.1 k) = s := by
  unfold setA
  have : va_up s.2.1 k (s.2.1 k) = s.2.1 := by
    funext j; unfold va_up; split
    · next e => rw [e]
    · rfl
  rw [this]
theorem setA_1 (s : St) (k : Nat) (f : Nat → Int32) : (setA s k f).1 = s.1 := rfl
theorem setA_21 (s : St) (k : Nat) (f : Nat → Int32) : (setA s k f).2.1 = va_up s.2.1 k f := rfl
theorem setA_22 (s : St) (k : Nat) (f : Nat → Int32) : (setA s k f).2.2 = s.2.2 := rfl
theorem va_upup {α : Type} (f : Nat → α) (k : Nat) (u v : α) : va_up (va_up f k u) k v = va_up f k v := by
  funext j; unfold va_up; split <;> rfl
theorem sA_set (s : St) (k : Nat) (f : Nat → Int32) (j : Nat) (v : Int32) : sA (setA s k f) k j v = setA s k (upd f j v) := by
  unfold sA setA
  simp only [va_upup, va_up_s]
theorem pA_set (s : St) (k : Nat) (f : Nat → Int32) (i v : Int32) : pA (setA s k f) k i v = setA s k (upd f i.toInt.toNat v) := sA_set s k f i.toInt.toNat v
theorem nar_R (x : Int32) : inR (vp_nar .boolean x) 0 1 := by
  have h : vp_nar .boolean x = x &&& 1 := rfl
  rw [h]
  have h2 : x &&& 1 = 0 ∨ x &&& 1 = 1 := by
    cases hb : bt x 0 with
    | false =>
      left
      refine b_ext (fun i hi => ?_)
      rw [b_and, b_1, b_0]
      by_cases e : i = 0
      · subst e; simp [hb]
      · simp [e]
    | true =>
      right
      refine b_ext (fun i hi => ?_)
      rw [b_and, b_1]
      by_cases e : i = 0
      · subst e; simp [hb]
      · simp [e]
  rcases h2 with h2 | h2 <;> rw [h2] <;> exact ⟨by decide, by decide⟩
theorem inb_m1 {a x : Int32} (h : ¬ a = -1) : inb a (-1) x = inb a 0 x := by
  unfold inb
  congr 1
  have e : (-1 : Int32).toInt = -1 := rfl
  have e0 : (0 : Int32).toInt = 0 := rfl
  have h1 : ¬ a.toInt = -1 := fun z => h (Int32.toInt_inj.mp (z.trans e.symm))
  rw [decide_eq_decide, i32_le, i32_le]
  omega
theorem P_parts {N : Int} {s t : St} (h : RX N s t) (a b : Int32) : Two0 (F_X11_parts a b s) (F_X12_parts a b t) := by
  obtain ⟨z0, z1, z2, z3, z4, z5, z6, z7, z8, z9, z10, z11⟩ := h.yard
  unfold F_X11_parts F_X12_parts F_X11_isSchoolOrAll F_X12_isSchool
  rw [h.sch.1]
  simp only [bind_some, bI_eq0]
  have e1 : (1 : Int32).toInt = 1 := rfl
  have en : (-1 : Int32).toInt = -1 := rfl
  have hx := h.sch.2.1
  by_cases c2 : inb b 0 4 = false
  · rw [if_pos c2, if_pos c2]
    split <;> exact Two0_ret _
  · rw [if_neg c2, if_neg c2]
    have q := inb_R c2
    simp only [Int32.reduceToInt] at q
    obtain ⟨q1, q2⟩ := q
    by_cases c1 : a = -1
    · subst c1
      have hc : ¬ inb (-1) (-1) (t.1 1223 - 1) = false := by
        have h3 := hx.1
        have h4 := hx.2
        rw [inb_no]
        unfold inR
        rw [i32_sub (by omega) (by omega)]
        omega
      simp only [if_neg hc, if_true]
      simp (disch := omega) only [rd_ok, bind_some]
      rw [z10]
      exact Two0_ret _
    · simp only [if_neg c1]
      rw [inb_m1 c1]
      refine Two0_ite (fun _ => Two0_ret _) (fun c3 => ?_)
      obtain ⟨q3, q4⟩ := isN c3 hx
      have b2 := hx.2
      have hi := idx (v := a) (j := b) (c := 5) (k := 5) q3 (by omega) q1 (by omega) rfl (by decide)
      rw [Int32.mul_comm 5 a]
      simp (disch := omega) only [rd_ok, bind_some]
      rw [z11]
      exact Two0_ret _
theorem P_far {N : Int} {s t : St} (h : RX N s t) (a b : Int32) : Two (RX (N + 1)) (F_X11_far a b s) (F_X12_far a b t) := by
  obtain ⟨z0, z1, z2, z3, z4, z5, z6, z7, z8, z9, z10, z11, z12, z13, z14, z15⟩ := h.sch
  unfold F_X11_far F_X12_far F_X11_isSchool F_X12_isSchool
  rw [z0]
  simp only [bind_some, bI_eq0]
  refine Two_ite (fun _ => Two_ret _ h.up) (fun c1 => ?_)
  obtain ⟨q1, q2⟩ := isN c1 z1
  have b2 := z1.2
  simp (disch := omega) only [rd_ok, bind_some, wr_ok]
  rw [z8]
  refine Two_ite (fun _ => Two_ret _ h.up) (fun c2 => ?_)
  exact Two_ret _ ⟨h.now, h.folk, h.cnt, h.rec, h.trt, ⟨z0, z1, z2, z3, z4, z5, z6, z7, by simp only [pI_1, pI_2, pA_1, pA_21, pA_22, pk_us, upd_n, va_up_s, va_up_n, Nat.reduceBEq, z8], z9, z10, z11, z12, z13, by simp only [pI_1, pI_2, pA_1, pA_21, pA_22, pk_us, upd_n, va_up_s, va_up_n, Nat.reduceBEq]; exact inR_upd z14 (nar_R b), z15⟩, h.blt, ⟨⟨h.shut.1.1, Int.le_trans h.shut.1.2 (by omega)⟩, h.shut.2⟩, h.tape, h.yard, h.prom, h.given, h.staff, h.roof, h.site, h.purse, h.land, h.law, h.ref, h.row⟩
theorem P_rain {N : Int} {s t : St} (h : RX N s t) (a b c : Int32) : Two (RX (N + 1)) (F_X11_rain a b c s) (F_X12_rain a b c t) := by
  obtain ⟨z0, z1, z2⟩ := h.land
  unfold F_X11_rain F_X12_rain F_X2_soak F_X2_soak_3 F_X12_rain_27
  refine Two_ite (fun _ => Two_ret _ h.up) (fun c1 => Two_ite (fun _ => Two_ret _ h.up) (fun c2 => ?_))
  have q := inb_R c1
  have r := inb_R c2
  simp only [Int32.reduceToInt] at q r
  obtain ⟨q1, q2⟩ := q
  obtain ⟨r1, r2⟩ := r
  have e1 : (1 : Int32).toInt = 1 := rfl
  have e6 : (601 : Int32).toInt = 601 := rfl
  obtain ⟨y, w, h1, h2, f, h3, h4, h5⟩ := lp_two (B := B_X2_soak_3 b c) (B2 := B_X12_rain_27 b c)
    (fun m x z => x.1 = z.1 ∧ 0 ≤ x.1.toInt ∧ x.1.toInt ≤ b.toInt + 1 ∧ m = (b.toInt + 1 - x.1.toInt).toNat ∧ ∃ f, x.2 = setA s 202 f ∧ z.2 = setA t 1202 f ∧ ∀ j, inR (f j) 0 1)
    (fun y w => ∃ f, y = setA s 202 f ∧ w = setA t 1202 f ∧ ∀ j, inR (f j) 0 1) (by
      rintro m ⟨v, s'⟩ ⟨v', t'⟩ ⟨g1, g2, g3, g4, f, g5, g6, g7⟩
      dsimp only at g1 g2 g3 g4 g5 g6
      subst g1 g5 g6
      by_cases k : b < v
      · right
        exact ⟨_, _, by simp only [B_X2_soak_3, if_pos k], by simp only [B_X12_rain_27, if_pos k], f, rfl, rfl, g7⟩
      · left
        have k2 := k
        rw [i32_lt] at k2
        have k3 : ¬ (601 : Int32) ≤ v := by rw [i32_le]; omega
        refine ⟨(v + 1, setA s 202 (upd f v.toInt.toNat (vp_nar .boolean c))), (v + 1, setA t 1202 (upd f v.toInt.toNat (vp_nar .boolean c))), (b.toInt + 1 - (v + 1).toInt).toNat, ?_, ?_, ?_, rfl, ?_, ?_, rfl, _, rfl, rfl, inR_upd g7 (nar_R c)⟩
        · simp (disch := omega) only [B_X2_soak_3, if_neg k, if_neg k3, wr_ok, bind_some, pA_set]
        · simp (disch := omega) only [B_X12_rain_27, if_neg k, wr_ok, bind_some, pA_set]
        · rw [i32_add (by omega) (by omega), e1]; omega
        · dsimp only; rw [i32_add (by omega) (by omega), e1]; omega
        · dsimp only; rw [i32_add (by omega) (by omega), e1]; omega) FU FU (b.toInt + 1 - a.toInt).toNat (a, s) (a, t) ⟨rfl, q1, by dsimp only; omega, rfl, s.2.1 202, (setA_self s 202).symm, by dsimp only; rw [z0, setA_self], by rw [z0]; exact z1⟩ (FU_lt (by omega)) (FU_lt (by omega))
  rw [h1, h2]
  subst h3 h4
  simp only [bind_some, F_X2_soak_33, F_X12_rain_47]
  exact Two_ret _ ⟨h.now, h.folk, h.cnt, h.rec, h.trt, h.sch, h.blt, ⟨⟨h.shut.1.1, Int.le_trans h.shut.1.2 (by omega)⟩, h.shut.2⟩, h.tape, h.yard, h.prom, h.given, h.staff, h.roof, h.site, h.purse, ⟨by simp only [setA_21, va_up_s], by simp only [setA_21, va_up_s]; exact h5, z2⟩, h.law, h.ref, h.row⟩
theorem hand0 (y : Int32) : 0 ≤ (y &&& 255).toInt := by
  have h31 : bt (y &&& 255) 31 = false := by rw [b_and, b_255]; simp
  have h2 : (y &&& 255).toBitVec.msb = false := by
    rw [BitVec.msb_eq_getLsbD_last]
    exact h31
  rw [← Int32.toInt_toBitVec, BitVec.toInt_eq_msb_cond, h2]
  simp
theorem P_row {N : Int} {s t : St} (h : RX N s t) (a b : Int32) : Two (RX (N + 1)) (F_X11_row a b s) (F_X12_row a b t) := by
  obtain ⟨z0, z1, z2, z3, z4, z5, z6, z7⟩ := h.site
  obtain ⟨y0, y1⟩ := z5
  unfold F_X11_row F_X12_row F_X7_add
  rw [z4]
  by_cases hc : t.1 1299 = 6
  · rw [if_pos hc, if_neg (by rw [hc]; decide)]
    exact Two_ret _ h.up
  · have hl : (t.1 1299).toInt < 6 := ne_lt (m := 6) y1 hc
    rw [if_neg hc, if_pos (i32_lt.mpr hl)]
    unfold F_X7_add_13 F_X12_row_13
    have e1 : (1 : Int32).toInt = 1 := rfl
    have e8 : (8 : Int32).toInt = 8 := rfl
    have e9 : (9 : Int32).toInt = 9 := rfl
    have hbyte : ∀ x i : Int32, (x >>> (i &&& 31)) &&& 255 ≤ 9 → inR ((x >>> (i &&& 31)) &&& 255) 0 9 := by
      intro x i hx
      have h1 : ∀ y : Int32, 0 ≤ (y &&& 255).toInt := by
        intro y
        exact hand0 y
      exact ⟨h1 _, by rw [i32_le] at hx; omega⟩
    obtain ⟨y, w, h1, h2, f, h3⟩ := lp_two (B := B_X7_add_13 a b) (B2 := B_X12_row_13 a b)
      (fun m x z => x.1 = z.1 ∧ 0 ≤ x.1.toInt ∧ x.1.toInt ≤ 8 ∧ m = (8 - x.1.toInt).toNat ∧ ∃ f, x.2 = setA s 706 f ∧ z.2 = setA t 1298 f ∧ ∀ j, inR (f j) 0 9)
      (fun y w => ∃ f, ((y = .inl (setA s 706 f) ∧ w = .inl (setA t 1298 f)) ∨ (y = .inr (setA s 706 f) ∧ w = .inr (setA t 1298 f))) ∧ ∀ j, inR (f j) 0 9) (by
        rintro m ⟨v, s'⟩ ⟨v', t'⟩ ⟨g1, g2, g3, g4, f, g5, g6, g7⟩
        dsimp only at g1 g2 g3 g4 g5 g6
        subst g1 g5 g6
        have hm : ∀ x : Int32, (8 : Int32) * x = x * 8 := fun x => Int32.mul_comm 8 x
        by_cases k : 8 ≤ v
        · right
          exact ⟨_, _, by simp only [B_X7_add_13, if_pos k], by simp only [B_X12_row_13, if_pos k], f, Or.inl ⟨rfl, rfl⟩, g7⟩
        · have k2 := k
          rw [i32_le] at k2
          have hi := idx (v := t.1 1299) (j := v) (c := 8) (k := 8) y0 (by omega) g2 (by omega) rfl (by decide)
          have ev : (v + 1).toInt = v.toInt + 1 := by rw [i32_add (by omega) (by omega), e1]
          by_cases k4 : 4 ≤ v
          · by_cases k5 : (b >>> ((24 - ((v - v / 4 * 4) * 8)) &&& 31)) &&& 255 ≤ 9
            · left
              refine ⟨(v + 1, setA s 706 (upd f (t.1 1299 * 8 + v).toInt.toNat ((b >>> ((24 - ((v - v / 4 * 4) * 8)) &&& 31)) &&& 255))), (v + 1, setA t 1298 (upd f (t.1 1299 * 8 + v).toInt.toNat ((b >>> ((24 - ((v - v / 4 * 4) * 8)) &&& 31)) &&& 255))), (8 - (v + 1).toInt).toNat, ?_, ?_, ?_, rfl, ?_, ?_, rfl, _, rfl, rfl, inR_upd g7 (hbyte _ _ k5)⟩
              · simp (disch := omega) only [B_X7_add_13, if_neg k, if_pos k4, if_pos k5, setA_1, z4, wr_ok, bind_some, pA_set]
              · simp (disch := omega) only [B_X12_row_13, hm, if_neg k, if_pos k4, if_pos k5, setA_1, wr_ok, bind_some, pA_set]
              · omega
              · dsimp only; omega
              · dsimp only; omega
            · right
              exact ⟨_, _, by simp only [B_X7_add_13, if_neg k, if_pos k4, if_neg k5], by simp only [B_X12_row_13, hm, if_neg k, if_pos k4, if_neg k5], f, Or.inr ⟨rfl, rfl⟩, g7⟩
          · by_cases k5 : (a >>> ((24 - ((v - v / 4 * 4) * 8)) &&& 31)) &&& 255 ≤ 9
            · left
              refine ⟨(v + 1, setA s 706 (upd f (t.1 1299 * 8 + v).toInt.toNat ((a >>> ((24 - ((v - v / 4 * 4) * 8)) &&& 31)) &&& 255))), (v + 1, setA t 1298 (upd f (t.1 1299 * 8 + v).toInt.toNat ((a >>> ((24 - ((v - v / 4 * 4) * 8)) &&& 31)) &&& 255))), (8 - (v + 1).toInt).toNat, ?_, ?_, ?_, rfl, ?_, ?_, rfl, _, rfl, rfl, inR_upd g7 (hbyte _ _ k5)⟩
              · simp (disch := omega) only [B_X7_add_13, if_neg k, if_neg k4, if_pos k5, setA_1, z4, wr_ok, bind_some, pA_set]
              · simp (disch := omega) only [B_X12_row_13, hm, if_neg k, if_neg k4, if_pos k5, setA_1, wr_ok, bind_some, pA_set]
              · omega
              · dsimp only; omega
              · dsimp only; omega
            · right
              exact ⟨_, _, by simp only [B_X7_add_13, if_neg k, if_neg k4, if_neg k5], by simp only [B_X12_row_13, hm, if_neg k, if_neg k4, if_neg k5], f, Or.inr ⟨rfl, rfl⟩, g7⟩) FU FU 8 (0, s) (0, t) ⟨rfl, (show (0 : Int) ≤ (0 : Int32).toInt by decide), (show (0 : Int32).toInt ≤ 8 by decide), (show 8 = (8 - (0 : Int32).toInt).toNat by decide), s.2.1 706, (setA_self s 706).symm, by dsimp only; rw [z6, setA_self], by rw [z6]; exact z7⟩ (FU_lt (by omega)) (FU_lt (by omega))
    rw [h1, h2]
    obtain ⟨h3, hf⟩ := h3
    rcases h3 with ⟨h3, h4⟩ | ⟨h3, h4⟩
    · subst h3 h4
      simp only [bind_some, Sum.elim_inl, F_X7_add_76, F_X12_row_76, wI_ok, setA_1, z4, pI_1, pk_us]
      exact Two_ret _ ⟨h.now, h.folk, h.cnt, h.rec, h.trt, h.sch, h.blt, ⟨⟨h.shut.1.1, Int.le_trans h.shut.1.2 (by omega)⟩, h.shut.2⟩, h.tape, h.yard, h.prom, h.given, h.staff, h.roof, ⟨z0, z1, z2, z3, by simp only [pI_1, pk_us], by simp only [pI_1, pk_us]; exact inR_inc ⟨y0, y1⟩ hl (by decide), by simp only [pI_2, setA_21, va_up_s], by simp only [pI_2, setA_21, va_up_s]; exact hf⟩, h.purse, h.land, h.law, h.ref, h.row⟩
    · subst h3 h4
      simp only [bind_some, Sum.elim_inr, F_X7_add_52, F_X12_row_52]
      exact Two_ret _ ⟨h.now, h.folk, h.cnt, h.rec, h.trt, h.sch, h.blt, ⟨⟨h.shut.1.1, Int.le_trans h.shut.1.2 (by omega)⟩, h.shut.2⟩, h.tape, h.yard, h.prom, h.given, h.staff, h.roof, ⟨z0, z1, z2, z3, z4, ⟨y0, y1⟩, by simp only [setA_21, va_up_s], by simp only [setA_21, va_up_s]; exact hf⟩, h.purse, h.land, h.law, h.ref, h.row⟩
