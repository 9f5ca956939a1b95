/-! schooled, many, school, roof -/
theorem P_schooled {N : Int} {s t : St} (h : RX N s t) (a b : Int32) : Two0 (F_X11_schooled a b s) (F_X12_schooled a b t) := by
  obtain ⟨z0, z1, z2, z3, z4, z5, z6, z7, z8, z9⟩ := h.sch
  have hS := h.shut
  obtain ⟨⟨b0, b1⟩, hk, hjs⟩ := h.shut
  obtain ⟨now0, now1, now2⟩ := h.now
  obtain ⟨m, em, em2, _⟩ := i32_nat now1
  obtain ⟨r0, r1, r2, r3, r4, r5, r6, r9, r7, r8⟩ := h.roof
  unfold F_X11_schooled F_X12_schooled F_X11_isSchool F_X12_isSchool
  rw [z0]
  simp only [bind_some, bI_eq0]
  refine Two0_ite (fun _ => Two0_ret _) (fun c1 => ?_)
  obtain ⟨q1, q2⟩ := isN c1 z1
  have b2 := z1.2
  obtain ⟨j, ej, ej2, _⟩ := i32_nat q1
  have hj : j < 20 := by omega
  subst ej
  have hbl := (h.blt j hj).1 (by omega)
  have hro := r8 j hj (by omega)
  have hsh : F_X5_isShut (nI j) (s.1 1100) s = some (t.2.1 1227 j) := by
    rw [now0, em, C_isShut hS hj (by omega), (hjs j hj).2]
    refine congrArg (fun x => some (bI x)) (shp_same (fun k hk2 => ?_))
    have h3 := (hk k (by omega)).2
    rw [i32_le, i32_le, nI_toInt (by omega)]
    simp only [Int32.reduceToInt]
    omega
  rw [hsh]
  simp (disch := omega) only [rd_nI, bind_some]
  rw [hbl, z2, z3, z4, z5, z6]
  refine Two0_ite (fun _ => Two0_ret _) (fun _ => Two0_ite (fun _ => Two0_ite (fun _ => Two0_ret _) (fun _ => Two0_ret _)) (fun _ => Two0_ite (fun _ => Two0_ret _) (fun _ => Two0_ite (fun _ => Two0_ret _) (fun _ => Two0_ite (fun _ => Two0_ret _) (fun _ => Two0_ite (fun _ => Two0_ret _) (fun _ => Two0_ite (fun _ => Two0_ret _) (fun _ => Two0_ite (fun _ => ?_) (fun _ => Two0_ret _))))))))
  rcases hro with ⟨h1, h2⟩ | ⟨h1, r, h2, h3, _⟩
  · rw [h1, h2, if_pos rfl, if_pos rfl]; exact Two0_ret _
  · rw [h1, h3, if_neg (by decide), if_neg (nI_neg1 (by have := r2.2; omega))]; exact Two0_ret _
/-- how many of n were built; what lies in all -/
def bc (f : Nat → Int32) : Nat → Int32
  | 0 => 0
  | n + 1 => if f n = -1 then bc f n else bc f n + 1
def lyS (f : Nat → Int32) : Nat → Int32
  | 0 => 0
  | n + 1 => lyS f n + f n
theorem bc_eq {f g : Nat → Int32} : ∀ {n : Nat}, (∀ j, j < n → f j = g j) → bc f n = bc g n
  | 0, _ => rfl
  | n + 1, h => by
    have ih := bc_eq (n := n) (fun j hj => h j (by omega))
    simp only [bc, ih, h n (by omega)]
theorem P_many {N : Int} {s t : St} (h : RX N s t) (a : Int32) : Two0 (F_X11_many a s) (F_X12_many a t) := by
  obtain ⟨n, en, en2, _⟩ := i32_nat h.sch.2.1.1
  have hn := h.sch.2.1.2
  have z0 := h.sch.1
  obtain ⟨y0, y1, y2, y3, y4, y5, y6, y7, y8, y9, y10, y11⟩ := h.yard
  have hB : F_X5_builtInAll s = some (bc (s.2.1 508) n) := by
    unfold F_X5_builtInAll F_X5_builtInAll_4
    have hl : lp (B_X5_builtInAll_4 s) FU (0, 0) = some (bc (s.2.1 508) n) := by
      refine lp_cnt (fun j => (bc (s.2.1 508) j, nI j)) n rfl ?_ ?_ (FU_lt (by omega))
      · intro j hj
        simp (disch := omega) only [B_X5_builtInAll_4, z0, en, nI_leI, rd_nI, bind_some, nI_1, bc]
        rw [if_neg (by omega)]
        by_cases c : s.2.1 508 j = -1
        · simp only [c, if_true]
        · simp only [c, if_false]
      · simp (disch := omega) only [B_X5_builtInAll_4, z0, en, nI_leI]
        rw [if_pos (by omega)]
    rw [hl]; rfl
  have hL : F_X10_lyingInAll s = some (lyS (s.2.1 1011) 5) := by
    unfold F_X10_lyingInAll F_X10_lyingInAll_4
    have hl : lp (B_X10_lyingInAll_4 s) FU (0, 0) = some (lyS (s.2.1 1011) 5) := by
      refine lp_cnt (fun j => (lyS (s.2.1 1011) j, nI j)) 5 rfl ?_ ?_ (FU_lt (by omega))
      · intro j hj
        have h1 : ¬ (5 : Int32) ≤ nI j := by rw [i32_le, nI_toInt (by omega)]; simp only [Int32.reduceToInt]; omega
        simp (disch := omega) only [B_X10_lyingInAll_4, if_neg h1, rd_nI, bind_some, nI_1, lyS]
      · rfl
    rw [hl]; rfl
  have hM1 : lp (B_X12_many_7 a 0 t) FU (0, 0) = some (bc (t.2.1 1220) n) := by
    refine lp_cnt (fun j => (bc (t.2.1 1220) j, nI j)) n rfl ?_ ?_ (FU_lt (by omega))
    · intro j hj
      simp (disch := omega) only [B_X12_many_7, en, nI_leI, rd_nI, bind_some, nI_1, bc]
      rw [if_neg (by omega)]
      by_cases c : t.2.1 1220 j = -1
      · simp only [c, if_true, Int32.add_zero]
      · simp only [c, if_false]
    · simp (disch := omega) only [B_X12_many_7, en, nI_leI]
      rw [if_pos (by omega)]
  have hM2 : lp (B_X12_many_44 a (bc (t.2.1 1220) n) t) FU (0, 0) = some (lyS (t.2.1 1262) 5) := by
    refine lp_cnt (fun j => (lyS (t.2.1 1262) j, nI j)) 5 rfl ?_ ?_ (FU_lt (by omega))
    · intro j hj
      have h1 : ¬ (5 : Int32) ≤ nI j := by rw [i32_le, nI_toInt (by omega)]; simp only [Int32.reduceToInt]; omega
      simp (disch := omega) only [B_X12_many_44, if_neg h1, rd_nI, bind_some, nI_1, lyS]
    · rfl
  have hbc : bc (s.2.1 508) n = bc (t.2.1 1220) n := bc_eq (fun j hj => (h.blt j (by omega)).1 (by omega))
  unfold F_X11_many F_X12_many F_X12_many_7
  rw [hM1]
  simp only [bind_some, F_X12_many_41, F_X12_many_44]
  rw [hM2]
  simp only [bind_some, F_X12_many_66]
  rw [hB, hL, hbc, y10]
  simp only [bind_some]
  rw [h.now.1, h.folk.1, h.sch.1, h.law.1, h.cnt.1, h.site.1, y0, y7, h.staff.1, h.rec.1, h.roof.2.1, h.roof.2.2.2.1, h.purse.1, h.purse.2.2.2.1, h.site.2.2.2.2.1, h.tape.1]
  refine Two0_ite (fun _ => Two0_ret _) (fun _ => Two0_ite (fun _ => Two0_ret _) (fun _ => Two0_ite (fun _ => Two0_ret _) (fun _ => Two0_ite (fun _ => Two0_ret _) (fun _ => Two0_ite (fun _ => Two0_ret _) (fun _ => Two0_ite (fun _ => Two0_ret _) (fun _ => Two0_ite (fun _ => Two0_ret _) (fun _ => Two0_ite (fun _ => Two0_ret _) (fun _ => Two0_ite (fun _ => Two0_ret _) (fun _ => Two0_ite (fun _ => Two0_ret _) (fun _ => Two0_ite (fun _ => Two0_ret _) (fun _ => Two0_ite (fun _ => Two0_ret _) (fun _ => Two0_ite (fun _ => Two0_ret _) (fun _ => Two0_ite (fun _ => Two0_ret _) (fun _ => Two0_ite (fun _ => Two0_ret _) (fun _ => Two0_ite (fun _ => Two0_ret _) (fun _ => Two0_ite (fun _ => Two0_ret _) (fun _ => Two0_ite (fun _ => Two0_ret _) (fun _ => Two0_ret _))))))))))))))))))
theorem order_two (s t : St) (r : Int32) {n : Nat} (hn : n < 20) (ht : t.1 1223 = nI n) (hA : s.2.1 1012 = t.2.1 1222) : ∃ f, lp (B_X10_order_2 (nI n) r) FU (0, s) = some (setA s 1012 f) ∧ lp (B_X12_school_145 r) FU (0, t) = some (setA t 1222 f) := by
  obtain ⟨y, w, h1, h2, f, h3, h4⟩ := lp_two (B := B_X10_order_2 (nI n) r) (B2 := B_X12_school_145 r)
    (fun m x z => ∃ k : Nat, k ≤ 5 ∧ m = 5 - k ∧ x.1 = nI k ∧ z.1 = nI k ∧ ∃ f, x.2 = setA s 1012 f ∧ z.2 = setA t 1222 f)
    (fun y w => ∃ f, y = setA s 1012 f ∧ w = setA t 1222 f) (by
      rintro m ⟨v, s'⟩ ⟨v', t'⟩ ⟨k, g1, g2, g3, g4, f, g5, g6⟩
      dsimp only at g3 g4 g5 g6
      subst g3 g4 g5 g6
      by_cases hk : k = 5
      · right
        subst hk
        exact ⟨setA s 1012 f, setA t 1222 f, rfl, rfl, f, rfl, rfl⟩
      · left
        have hi := idx (v := nI n) (j := nI k) (c := 5) (k := 5) (by rw [nI_toInt (by omega)]; omega) (by rw [nI_toInt (by omega)]; omega) (by rw [nI_toInt (by omega)]; omega) (by rw [nI_toInt (by omega)]; omega) rfl (by decide)
        rw [nI_toInt (by omega), nI_toInt (by omega)] at hi
        have hc : k = 0 ∨ k = 1 ∨ k = 2 ∨ k = 3 ∨ k = 4 := by omega
        have hcm : (5 : Int32) * nI n = nI n * 5 := Int32.mul_comm _ _
        refine ⟨(nI (k + 1), setA s 1012 (upd f (nI n * 5 + nI k).toInt.toNat (r * stA 2 k))), (nI (k + 1), setA t 1222 (upd f (nI n * 5 + nI k).toInt.toNat (r * stA 2 k))), 5 - (k + 1), ?_, ?_, by omega, k + 1, by omega, rfl, rfl, rfl, _, rfl, rfl⟩
        · have h1 : ¬ (5 : Int32) ≤ nI k := by rw [i32_le, nI_toInt (by omega)]; simp only [Int32.reduceToInt]; omega
          simp (disch := omega) only [B_X10_order_2, if_neg h1, rs_nI, wr_ok, bind_some, pA_set, nI_1]
        · have h1 : ¬ (5 : Int32) ≤ nI k := by rw [i32_le, nI_toInt (by omega)]; simp only [Int32.reduceToInt]; omega
          have e1 : nI k = 1 ↔ k = 1 := nI_eq (a := k) (b := 1) (by omega) (by decide)
          have e2 : nI k = 2 ↔ k = 2 := nI_eq (a := k) (b := 2) (by omega) (by decide)
          have e4 : nI k = 4 ↔ k = 4 := nI_eq (a := k) (b := 4) (by omega) (by decide)
          simp (disch := omega) only [B_X12_school_145, if_neg h1, setA_1, ht, hcm, wr_ok, bind_some, pA_set, nI_1, e1, e2, e4]
          rcases hc with e | e | e | e | e <;> subst e <;> rfl) FU FU 5 (0, s) (0, t) ⟨0, by omega, rfl, rfl, rfl, s.2.1 1012, (setA_self s 1012).symm, by rw [hA, setA_self]⟩ (FU_lt (by omega)) (FU_lt (by omega))
  subst h3 h4
  exact ⟨f, h1, h2⟩
theorem P_school {N : Int} {s t : St} (h : RX N s t) (a b c d e : Int32) : Two (RX (N + 1)) (F_X11_school a b c d e s) (F_X12_school a b c d e t) := by
  obtain ⟨z0, z1, z2, z3, z4, z5, z6, z7, z8, z9, z10, z11, z12, z13, z14, z15⟩ := h.sch
  obtain ⟨y0, y1⟩ := z1
  have hnow := h.now.1
  unfold F_X11_school F_X12_school
  refine Two_ite (fun _ => Two_ret _ h.up) (fun c1 => Two_ite (fun _ => Two_ret _ h.up) (fun c2 => Two_ite (fun _ => Two_ret _ h.up) (fun c3 => Two_ite (fun _ => Two_ret _ h.up) (fun c4 => Two_ite (fun _ => Two_ret _ h.up) (fun c5 => ?_)))))
  unfold F_X5_found
  rw [z0]
  by_cases hc : t.1 1223 = 20
  · rw [if_pos hc, if_neg (by rw [hc]; decide)]
    simp only [bind_some, if_true]
    exact Two_ret _ h.up
  · have hl : (t.1 1223).toInt < 20 := ne_lt (m := 20) y1 hc
    obtain ⟨n, en, en2, _⟩ := i32_nat y0
    have hn : n < 20 := by omega
    rw [if_neg hc, if_pos (i32_lt.mpr hl)]
    simp (disch := omega) only [wr_ok, bind_some, wI_ok, pI_1, pI_2, pA_1, pA_21, pA_22, pk_us, upd_n, va_up_s, va_up_n, Nat.reduceBEq, z0, hnow]
    have e1 : t.1 1223 + 1 - 1 = t.1 1223 := Int32.add_sub_cancel _ _
    have e2 : ¬ t.1 1223 = -1 := by rw [en]; exact nI_neg1 (by omega)
    rw [e1, if_neg e2]
    unfold F_X10_order F_X10_order_2 F_X12_school_145
    obtain ⟨f, h1, h2⟩ := order_two (pI (pA (pA (pA (pA (pA (pA s 502 (t.1 1223) a) 503 (t.1 1223) b) 504 (t.1 1223) c) 505 (t.1 1223) d) 506 (t.1 1223) e) 507 (t.1 1223) (t.1 1200)) 501 (t.1 1223 + 1)) (pA (pA (pA (pA (pA (pA (pA (pA t 1214 (t.1 1223) a) 1215 (t.1 1223) b) 1216 (t.1 1223) c) 1217 (t.1 1223) d) 1218 (t.1 1223) e) 1219 (t.1 1223) (t.1 1200)) 1220 (t.1 1223) (-1)) 1286 (t.1 1223) (-1)) c hn (by simp only [pI_1, pI_2, pA_1, pA_21, pA_22, pk_us, upd_n, va_up_s, va_up_n, Nat.reduceBEq]; exact en) (by simp only [pI_1, pI_2, pA_1, pA_21, pA_22, pk_us, upd_n, va_up_s, va_up_n, Nat.reduceBEq]; exact h.yard.2.2.2.2.2.2.2.2.2.2.2)
    rw [en] at h1 ⊢
    simp only [en] at h1 h2
    rw [h1, h2]
    simp only [bind_some, F_X10_order_30, F_X12_school_204, wI_ok, setA_1, pI_1, pI_2, pA_1, pA_21, pA_22, pk_us, upd_n, va_up_s, va_up_n, Nat.reduceBEq, en]
    have e3 : nI n + 1 - 1 = nI n := Int32.add_sub_cancel _ _
    rw [e3]
    have en3 : (nI n).toInt.toNat = n := by rw [nI_toInt (by omega)]; omega
    have en4 : (nI n + 1).toInt = n + 1 := by rw [nI_1, nI_toInt (by omega)]; rfl
    have q4 := inb_R c4
    simp only [Int32.reduceToInt] at q4
    refine Two_ret _ ⟨h.now, h.folk, h.cnt, h.rec, h.trt, ⟨by simp only [pI_1, pI_2, pA_1, pA_21, pA_22, pk_us, upd_n, va_up_s, va_up_n, Nat.reduceBEq, setA_1], ⟨by simp only [pI_1, pI_2, pA_1, pA_21, pA_22, pk_us, upd_n, va_up_s, va_up_n, Nat.reduceBEq, setA_1, en4]; omega, by simp only [pI_1, pI_2, pA_1, pA_21, pA_22, pk_us, upd_n, va_up_s, va_up_n, Nat.reduceBEq, setA_1, en4]; omega⟩, by simp only [pI_1, pI_2, pA_1, pA_21, pA_22, pk_us, upd_n, va_up_s, va_up_n, Nat.reduceBEq, setA_21, setA_1, z2], by simp only [pI_1, pI_2, pA_1, pA_21, pA_22, pk_us, upd_n, va_up_s, va_up_n, Nat.reduceBEq, setA_21, setA_1, z3], by simp only [pI_1, pI_2, pA_1, pA_21, pA_22, pk_us, upd_n, va_up_s, va_up_n, Nat.reduceBEq, setA_21, setA_1, z4], by simp only [pI_1, pI_2, pA_1, pA_21, pA_22, pk_us, upd_n, va_up_s, va_up_n, Nat.reduceBEq, setA_21, setA_1, z5], by simp only [pI_1, pI_2, pA_1, pA_21, pA_22, pk_us, upd_n, va_up_s, va_up_n, Nat.reduceBEq, setA_21, setA_1, z6], by simp only [pI_1, pI_2, pA_1, pA_21, pA_22, pk_us, upd_n, va_up_s, va_up_n, Nat.reduceBEq, setA_21, setA_1, z7], z8, by simp only [pI_1, pI_2, pA_1, pA_21, pA_22, pk_us, upd_n, va_up_s, va_up_n, Nat.reduceBEq, setA_21, setA_1]; exact inR_upd z9 (inb_R c1), by simp only [pI_1, pI_2, pA_1, pA_21, pA_22, pk_us, upd_n, va_up_s, va_up_n, Nat.reduceBEq, setA_21, setA_1]; exact inR_upd z10 (inb_R c2), by simp only [pI_1, pI_2, pA_1, pA_21, pA_22, pk_us, upd_n, va_up_s, va_up_n, Nat.reduceBEq, setA_21, setA_1]; exact inR_upd z11 (⟨by have := (inb_R c3).1; simp only [Int32.reduceToInt] at this; omega, (inb_R c3).2⟩), by simp only [pI_1, pI_2, pA_1, pA_21, pA_22, pk_us, upd_n, va_up_s, va_up_n, Nat.reduceBEq, setA_21, setA_1]; exact inR_upd z12 (⟨by have := q4.1; omega, q4.2⟩), by simp only [pI_1, pI_2, pA_1, pA_21, pA_22, pk_us, upd_n, va_up_s, va_up_n, Nat.reduceBEq, setA_21, setA_1]; exact inR_upd z13 (⟨by have := (inb_R c5).1; simp only [Int32.reduceToInt] at this; omega, (inb_R c5).2⟩), z14, ?_⟩, ?_, ⟨⟨h.shut.1.1, Int.le_trans h.shut.1.2 (by omega)⟩, h.shut.2⟩, h.tape, ⟨h.yard.1, h.yard.2.1, h.yard.2.2.1, h.yard.2.2.2.1, h.yard.2.2.2.2.1, h.yard.2.2.2.2.2.1, h.yard.2.2.2.2.2.2.1, h.yard.2.2.2.2.2.2.2.1, h.yard.2.2.2.2.2.2.2.2.1, h.yard.2.2.2.2.2.2.2.2.2.1, h.yard.2.2.2.2.2.2.2.2.2.2.1, by simp only [pI_2, setA_21, va_up_s]⟩, h.prom, h.given, h.staff, ?_, h.site, h.purse, h.land, h.law, h.ref, h.row⟩
    · intro j hj
      have h15 := z15
      simp only [pI_1, pI_2, pA_1, pA_21, pA_22, pk_us, upd_n, va_up_s, va_up_n, Nat.reduceBEq, setA_1, setA_21, en4, en3] at hj ⊢
      unfold upd
      by_cases ej : j = n
      · rw [if_pos ej]; exact q4.1
      · rw [if_neg ej]; exact z15 j (by omega)
    · intro j hj
      obtain ⟨k1, k2, k3⟩ := h.blt j hj
      simp only [pI_1, pI_2, pA_1, pA_21, pA_22, pk_us, upd_n, va_up_s, va_up_n, Nat.reduceBEq, setA_1, setA_21, en4, en3]
      refine ⟨fun hlt => ?_, fun hge => k2 (by omega), k3⟩
      unfold upd
      by_cases ej : j = n
      · rw [if_pos ej]; exact k2 (by omega)
      · rw [if_neg ej]; exact k1 (by omega)
    · obtain ⟨r0, r1, r2, r3, r4, r5, r6, r9, r7, r8⟩ := h.roof
      refine ⟨r0, r1, r2, r3, r4, r5, ?_, r9, r7, ?_⟩
      · intro j hj hge
        simp only [pI_1, pI_2, pA_1, pA_21, pA_22, pk_us, upd_n, va_up_s, va_up_n, Nat.reduceBEq, setA_1, setA_21, en4, en3] at hge ⊢
        exact r6 j hj (by omega)
      · intro j hj hlt
        simp only [pI_1, pI_2, pA_1, pA_21, pA_22, pk_us, upd_n, va_up_s, va_up_n, Nat.reduceBEq, setA_1, setA_21, en4, en3] at hlt ⊢
        by_cases ej : j = n
        · left
          refine ⟨r6 j hj (by omega), ?_⟩
          unfold upd; rw [if_pos ej]
        · rcases r8 j hj (by omega) with ⟨k1, k2⟩ | ⟨k1, r, k2, k3, k4, k5, k6, k7, k8⟩
          · left
            refine ⟨k1, ?_⟩
            unfold upd; rw [if_neg ej]; exact k2
          · right
            refine ⟨k1, r, k2, ?_, k4, k5, k6, k7, ?_⟩
            · unfold upd; rw [if_neg ej]; exact k3
            · intro i hi hilt hu
              unfold upd at hu
              by_cases ei : i = n
              · rw [if_pos ei] at hu
                exact absurd hu.symm (nI_neg1 (by have := r2.2; omega))
              · rw [if_neg ei] at hu
                exact k8 i hi (by omega) hu
