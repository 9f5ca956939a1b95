/-! the weeks -/
theorem RX.tick {N : Int} {s t : St} (h : RX N s t) (hn : (t.1 1200).toInt < 600) : RX N (pI s 1100 (t.1 1200 + 1)) (pI t 1200 (t.1 1200 + 1)) := by
  have e1 : (1 : Int32).toInt = 1 := rfl
  have n1 := h.now.2
  have n2 := n1.1
  have e : (t.1 1200 + 1).toInt = (t.1 1200).toInt + 1 := by rw [i32_add (by omega) (by omega), e1]
  have hs2 : ∀ k : Nat, (k : Int) < ((pI t 1200 (t.1 1200 + 1)).1 1226).toInt → inR ((pI t 1200 (t.1 1200 + 1)).2.1 1225 k) 0 ((pI t 1200 (t.1 1200 + 1)).1 1200).toInt := by
    intro k hk
    have := h.shut.2.1 k hk
    refine ⟨this.1, ?_⟩
    show _ ≤ (t.1 1200 + 1).toInt
    rw [e]
    have := this.2
    show (t.2.1 1225 k).toInt ≤ _
    omega
  exact ⟨⟨rfl, show inR (t.1 1200 + 1) 0 600 from ⟨by omega, by omega⟩⟩, h.folk, h.cnt, h.rec, h.trt, h.sch, h.blt, ⟨h.shut.1, hs2, h.shut.2.2⟩, h.tape, h.yard, h.prom, h.given, h.staff, h.roof, h.site, h.purse, h.land, h.law, h.ref, h.row⟩
theorem RX.lie {N : Int} {s t : St} (h : RX N s t) (f : Nat → Int32) : RX N (setA s 1011 f) (setA t 1262 f) := by
  obtain ⟨y0, y1, y2, y3, y4, y5, y6, y7, y8, y9, y10, y11⟩ := h.yard
  exact ⟨h.now, h.folk, h.cnt, h.rec, h.trt, h.sch, h.blt, h.shut, h.tape, ⟨y0, y1, y2, y3, y4, y5, y6, y7, y8, y9, rfl, y11⟩, h.prom, h.given, h.staff, h.roof, h.site, h.purse, h.land, h.law, h.ref, h.row⟩
theorem RX.need {N : Int} {s t : St} (h : RX N s t) (f : Nat → Int32) : RX N (setA s 1012 f) (setA t 1222 f) := by
  obtain ⟨y0, y1, y2, y3, y4, y5, y6, y7, y8, y9, y10, y11⟩ := h.yard
  exact ⟨h.now, h.folk, h.cnt, h.rec, h.trt, h.sch, h.blt, h.shut, h.tape, ⟨y0, y1, y2, y3, y4, y5, y6, y7, y8, y9, y10, rfl⟩, h.prom, h.given, h.staff, h.roof, h.site, h.purse, h.land, h.law, h.ref, h.row⟩
theorem setA_swap (t : St) {k m : Nat} (hkm : ¬ k = m) (f g : Nat → Int32) : setA (setA t k f) m g = setA (setA t m g) k f := by
  refine congrArg (fun A => ((t.1, A, t.2.2) : St)) ?_
  funext j
  unfold va_up
  show (if j = m then g else if j = k then f else t.2.1 j) = if j = k then f else if j = m then g else t.2.1 j
  by_cases e : j = m
  · rw [if_pos e, if_neg (fun d => hkm (d.symm.trans e)), if_pos e]
  · rw [if_neg e, if_neg e]
theorem RX.unload {N : Int} {s t : St} (h : RX N s t) (f g : Nat → Int32) : RX N (setA (setA s 1011 f) 1012 g) (setA (setA t 1222 g) 1262 f) := by
  rw [setA_swap t (k := 1222) (m := 1262) (by omega)]
  exact (h.lie f).need g
theorem RX.raised {N : Int} {s t : St} (h : RX N s t) {j : Nat} (hj : (j : Int) < (t.1 1223).toInt) : RX N (sA s 508 j (t.1 1200)) (sA t 1220 j (t.1 1200)) := by
  have a1 : (sA s 508 j (t.1 1200)).2.1 508 = upd (s.2.1 508) j (t.1 1200) := sA_at _ _ _ _
  have a2 : (sA t 1220 j (t.1 1200)).2.1 1220 = upd (t.2.1 1220) j (t.1 1200) := sA_at _ _ _ _
  have hb : RBlt (sA s 508 j (t.1 1200)) (sA t 1220 j (t.1 1200)) := by
    intro i hi
    obtain ⟨b1, b2, b3⟩ := h.blt i hi
    rw [a1, a2]
    by_cases e : i = j
    · subst e
      rw [upd_at, upd_at]
      refine ⟨fun _ => rfl, fun w => absurd w (by show ¬ (t.1 1223).toInt ≤ _; omega), ⟨?_, h.now.2.2⟩⟩
      have := h.now.2.1
      omega
    · rw [upd_ne _ _ e, upd_ne _ _ e]
      exact ⟨b1, b2, b3⟩
  exact ⟨h.now, h.folk, h.cnt, h.rec, h.trt, h.sch, hb, h.shut, h.tape, h.yard, h.prom, h.given, h.staff, h.roof, h.site, h.purse, h.land, h.law, h.ref, h.row⟩
theorem zmn_comm (a b : Int32) : zmn a b = zmn b a := by
  refine Int32.toInt_inj.mp ?_
  rw [zmn_int, zmn_int]
  omega
/-- the makers bring -/
theorem bring_two {N : Int} {s t : St} (h : RX N s t) (v1 v2 : Int32) : ∃ s' t', F_X10_bring (t.1 1200) s = some s' ∧ lp (B_X12_weeks_43 v1 v2) FU (0, t) = some t' ∧ RX N s' t' ∧ t'.1 = t.1 ∧ s'.1 = s.1 := by
  obtain ⟨y0, y1, _⟩ := h.yard
  obtain ⟨n, en, en2, _⟩ := i32_nat y1.1
  have hn : n ≤ 8 := by have := y1.2; omega
  obtain ⟨s', t', h1, h2, h3⟩ := lp_two (B := B_X10_bring_2 (t.1 1200)) (B2 := B_X12_weeks_43 v1 v2)
    (fun m X Z => ∃ (i : Nat) (s' t' : St), X = (nI i, s') ∧ Z = (nI i, t') ∧ i + m = n ∧ RX N s' t' ∧ t'.1 = t.1 ∧ s'.1 = s.1)
    (fun s' t' => RX N s' t' ∧ t'.1 = t.1 ∧ s'.1 = s.1) (by
      rintro m _ _ ⟨i, s', t', rfl, rfl, hi, hR, e1, e2⟩
      have i1 : s'.1 1004 = nI n := by rw [e2, y0, en]
      have i2 : t'.1 1263 = nI n := by rw [e1, en]
      by_cases c : i = n
      · right
        subst c
        refine ⟨s', t', ?_, ?_, hR, e1, e2⟩
        · unfold B_X10_bring_2
          dsimp only
          rw [i1, if_pos (Int32.le_refl _)]
        · unfold B_X12_weeks_43
          dsimp only
          rw [i2, if_pos (Int32.le_refl _)]
      · left
        have h9 : ¬ nI n ≤ nI i := by
          rw [i32_le, nI_toInt (by omega), nI_toInt (by omega)]
          omega
        obtain ⟨x0, x1, x2, x3, x4, x5, x6, x7, x8, x9, x10, x11⟩ := hR.yard
        obtain ⟨j, ej, ej2, _⟩ := i32_nat (x6 i).1
        have hj : j < 5 := by have := (x6 i).2; omega
        have k1 : rd s' 1007 8 (nI i) = some (t'.2.1 1259 i) := by rw [rd_nI (by omega) (by omega), x4]
        have k2 : rd s' 1008 8 (nI i) = some (t'.2.1 1260 i) := by rw [rd_nI (by omega) (by omega), x5]
        have k3 : rd s' 1005 8 (nI i) = some (nI j) := by rw [rd_nI (by omega) (by omega), x2, ej]
        have k4 : rd s' 1011 5 (nI j) = some (t'.2.1 1262 j) := by rw [rd_nI (by omega) (by omega), x10]
        have k5 : rd s' 1006 8 (nI i) = some (t'.2.1 1258 i) := by rw [rd_nI (by omega) (by omega), x3]
        have m1 : rd t' 1257 8 (nI i) = some (nI j) := by rw [rd_nI (by omega) (by omega), ej]
        have m2 : rd t' 1262 5 (nI j) = some (t'.2.1 1262 j) := rd_nI hj (by omega)
        have m3 : rd t' 1259 8 (nI i) = some (t'.2.1 1259 i) := rd_nI (by omega) (by omega)
        have m4 : rd t' 1260 8 (nI i) = some (t'.2.1 1260 i) := rd_nI (by omega) (by omega)
        have m5 : rd t' 1258 8 (nI i) = some (t'.2.1 1258 i) := rd_nI (by omega) (by omega)
        have e3 : t'.1 1200 = t.1 1200 := by rw [e1]
        by_cases c2 : inb (t.1 1200) (t'.2.1 1259 i) (t'.2.1 1260 i) = false
        · refine ⟨(nI (i + 1), s'), (nI (i + 1), sA t' 1262 j (t'.2.1 1262 j + 0)), m - 1, ?_, ?_, by omega, i + 1, s', _, rfl, rfl, by omega, ?_, e1, e2⟩
          · unfold B_X10_bring_2
            dsimp only
            rw [i1, if_neg h9, k1, bind_some, k2, bind_some, if_pos c2, nI_1]
          · unfold B_X12_weeks_43
            dsimp only
            rw [i2, if_neg h9, m1, bind_some, m2, bind_some, m3, bind_some, m4, bind_some, e3, if_pos c2, wr_nI hj (by omega), bind_some, nI_1]
          · rw [Int32.add_zero, sA_setA, upd_eq rfl, setA_self]
            exact hR
        · refine ⟨(nI (i + 1), sA s' 1011 j (t'.2.1 1262 j + t'.2.1 1258 i)), (nI (i + 1), sA t' 1262 j (t'.2.1 1262 j + t'.2.1 1258 i)), m - 1, ?_, ?_, by omega, i + 1, _, _, rfl, rfl, by omega, ?_, e1, e2⟩
          · unfold B_X10_bring_2
            dsimp only
            rw [i1, if_neg h9, k1, bind_some, k2, bind_some, if_neg c2, k3, bind_some, k4, bind_some, k5, bind_some, wr_nI hj (by omega), bind_some, nI_1]
          · unfold B_X12_weeks_43
            dsimp only
            rw [i2, if_neg h9, m1, bind_some, m2, bind_some, m3, bind_some, m4, bind_some, e3, if_neg c2, m5, bind_some, wr_nI hj (by omega), bind_some, nI_1]
          · rw [sA_setA, sA_setA, x10]
            exact hR.lie _) FU FU n (0, s) (0, t) ⟨0, s, t, rfl, rfl, by omega, h, rfl, rfl⟩ (FU_lt (by omega)) (FU_lt (by omega))
  refine ⟨s', t', ?_, h2, h3⟩
  unfold F_X10_bring F_X10_bring_2
  rw [h1]
  rfl
/-- may a school be served -/
theorem serve_ok {s t : St} (h : s.2.1 1012 = t.2.1 1222) (h2 : s.2.1 1011 = t.2.1 1262) {j : Nat} (hj : j < 20) : ∃ b, F_X10_canBeServed (nI j) s = some (bI b) ∧ F_X12_wants_42 (nI j) 0 t = some (bI b) := by
  have hB : B_X10_canBeServed_2 (nI j) s = B_X12_wants_42 (nI j) t := by
    funext x
    unfold B_X10_canBeServed_2 B_X12_wants_42
    dsimp only
    rw [Int32.mul_comm (nI j) 5, rd_same h, rd_same h2]
  obtain ⟨y, h1, _⟩ := lp_inv (B := B_X12_wants_42 (nI j) t) (fun m x => ∃ i : Nat, x = nI i ∧ i + m = 5) (fun _ => True) (by
    rintro m x ⟨i, rfl, hi⟩
    by_cases c : i = 5
    · right
      subst c
      refine ⟨.inl (), ?_, trivial⟩
      unfold B_X12_wants_42
      exact if_pos (by decide)
    · have e5 : (5 : Int32).toInt = 5 := rfl
      have h5 : ¬ (5 : Int32) ≤ nI i := by
        rw [i32_le, nI_toInt (by omega)]
        omega
      have hr : rd t 1222 100 (5 * nI j + nI i) = some (t.2.1 1222 (5 * j + i)) := by
        rw [show (5 : Int32) * nI j + nI i = nI (5 * j + i) from idxN2 (k := 5) (by omega) (by omega) (by omega)]
        exact rd_nI (by omega) (by omega)
      have hr2 : rd t 1262 5 (nI i) = some (t.2.1 1262 i) := rd_nI (by omega) (by omega)
      by_cases d : t.2.1 1222 (5 * j + i) ≤ 0
      · left
        refine ⟨nI (i + 1), m - 1, ?_, by omega, i + 1, rfl, by omega⟩
        unfold B_X12_wants_42
        rw [if_neg h5, hr, bind_some, if_pos d, nI_1]
      · by_cases d2 : t.2.1 1262 i ≤ 0
        · left
          refine ⟨nI (i + 1), m - 1, ?_, by omega, i + 1, rfl, by omega⟩
          unfold B_X12_wants_42
          rw [if_neg h5, hr, bind_some, if_neg d, hr2, bind_some, if_pos d2, nI_1]
        · right
          refine ⟨.inr (), ?_, trivial⟩
          unfold B_X12_wants_42
          rw [if_neg h5, hr, bind_some, if_neg d, hr2, bind_some, if_neg d2]) FU 5 0 ⟨0, rfl, rfl⟩ (FU_lt (by omega))
  refine ⟨Sum.elim (fun _ => false) (fun _ => true) y, ?_, ?_⟩
  · unfold F_X10_canBeServed F_X10_canBeServed_2
    rw [hB, h1]
    cases y <;> rfl
  · unfold F_X12_wants_42
    rw [h1]
    cases y <;> rfl
theorem C_isWet {N : Int} {s t : St} (h : RX N s t) {w : Nat} (hw : w ≤ 600) : F_X2_isWet (nI w) s = some (t.2.1 1202 w) := by
  have e0 : (0 : Int32).toInt = 0 := rfl
  have e6 : (600 : Int32).toInt = 600 := rfl
  have e1 : (1 : Int32).toInt = 1 := rfl
  obtain ⟨l0, l1, l2⟩ := h.land
  have hin : ¬ inb (nI w) 0 600 = false := by
    rw [inb_no]
    exact fun e => e ⟨by rw [nI_toInt (by omega)]; omega, by rw [nI_toInt (by omega)]; omega⟩
  unfold F_X2_isWet
  rw [if_neg hin, rd_nI (by omega) (by omega), bind_some, l0]
  obtain ⟨q1, q2⟩ := l1 w
  by_cases c : t.2.1 1202 w = 0
  · rw [if_pos c, c]
  · rw [if_neg c]
    refine congrArg some (Int32.toInt_inj.mp ?_)
    have : ¬ (t.2.1 1202 w).toInt = 0 := fun e => c (Int32.toInt_inj.mp (e.trans e0.symm))
    omega
/-- whether a school is served: both sides -/
theorem want_two {N : Int} {s t : St} (h : RX N s t) {w : Nat} (ew : t.1 1200 = nI w) (hw : w ≤ 600) {j nn : Nat} (en : t.1 1223 = nI nn) (hnn : nn ≤ 20) (hj : j < nn) : ∃ b : Bool, F_X12_wants (nI j) t = some (bI b) ∧ B_X10_lowestToServe_2 (t.2.1 1202 w) s (nI j) = if b = true then some (.inr (.inr (nI j))) else some (.inl (nI (j + 1))) := by
  obtain ⟨z0, z1, z2, z3, z4, z5, z6, z7, z8, z9, z10, z11, z12, z13, z14, z15⟩ := h.sch
  obtain ⟨x0, x1, x2, x3, x4, x5, x6, x7, x8, x9, x10, x11⟩ := h.yard
  obtain ⟨l0, l1, l2⟩ := h.land
  obtain ⟨b, g1, g2⟩ := serve_ok (s := s) (t := t) x11 x10 (j := j) (by omega)
  have h9 : ¬ nI nn ≤ nI j := by
    rw [i32_le, nI_toInt (by omega), nI_toInt (by omega)]
    omega
  have i1 : s.1 501 = nI nn := by rw [z0, en]
  have k1 : rd s 509 20 (nI j) = some (t.2.1 1221 j) := by rw [rd_nI (by omega) (by omega), z8]
  obtain ⟨c, ec, ec2, _⟩ := i32_nat (z9 j).1
  have hc : c < 120 := by have := (z9 j).2; omega
  have k2 : rd s 502 20 (nI j) = some (nI c) := by rw [rd_nI (by omega) (by omega), z2, ec]
  have m1 : rd t 1202 601 (nI w) = some (t.2.1 1202 w) := rd_nI (by omega) (by omega)
  have m2 : rd t 1221 20 (nI j) = some (t.2.1 1221 j) := rd_nI (by omega) (by omega)
  have m3 : rd t 1214 20 (nI j) = some (nI c) := by rw [rd_nI (by omega) (by omega), ec]
  have e120 : (120 : Int32) + nI c = nI (120 + c) := nI_add 120 c
  have m4 : rd t 1201 240 (120 + nI c) = some (t.2.1 1201 (120 + c)) := by rw [e120, rd_nI (by omega) (by omega)]
  have k4 : F_X2_isShutWet (nI c) s = if t.2.1 1201 (120 + c) = 0 then some 1 else some 0 := by
    have e0 : (0 : Int32).toInt = 0 := rfl
    have e119 : (119 : Int32).toInt = 119 := rfl
    have hin : ¬ inb (nI c) 0 119 = false := by
      rw [inb_no]
      exact fun e => e ⟨by rw [nI_toInt (by omega)]; omega, by rw [nI_toInt (by omega)]; omega⟩
    unfold F_X2_isShutWet
    rw [if_neg hin, rd_nI (by omega) (by omega), bind_some, (l2 c hc).2.1]
  have fin : ∀ b : Bool, ((some (bI b)).bind fun r5 => if r5 = 0 then (some (.inl (nI j + 1)) : Option (Int32 ⊕ (Unit ⊕ Int32))) else some (.inr (.inr (nI j)))) = if b = true then some (.inr (.inr (nI j))) else some (.inl (nI (j + 1))) := by
    intro b
    rw [bind_some, nI_1]
    cases b
    · rw [if_pos (show bI false = 0 from rfl)]
      rfl
    · rw [if_neg (show ¬ bI true = 0 by decide)]
      rfl
  by_cases c1 : t.2.1 1202 w = 0
  · refine ⟨b, ?_, ?_⟩
    · unfold F_X12_wants
      rw [ew, m1, bind_some, if_pos c1, g2]
    · unfold B_X10_lowestToServe_2
      dsimp only
      rw [i1, if_neg h9, if_pos c1, g1]
      exact fin b
  · by_cases c2 : t.2.1 1221 j = 0
    · by_cases c3 : t.2.1 1201 (120 + c) = 0
      · refine ⟨false, ?_, ?_⟩
        · unfold F_X12_wants
          rw [ew, m1, bind_some, if_neg c1, m2, bind_some, if_pos c2, m3, bind_some, m4, bind_some, if_pos c3]
          rfl
        · unfold B_X10_lowestToServe_2
          dsimp only
          rw [i1, if_neg h9, if_neg c1, k1, bind_some, if_pos c2, k2, bind_some, k4, if_pos c3, bind_some, if_neg (show ¬ (1 : Int32) = 0 by decide), nI_1]
          rfl
      · refine ⟨b, ?_, ?_⟩
        · unfold F_X12_wants
          rw [ew, m1, bind_some, if_neg c1, m2, bind_some, if_pos c2, m3, bind_some, m4, bind_some, if_neg c3, g2]
        · unfold B_X10_lowestToServe_2
          dsimp only
          rw [i1, if_neg h9, if_neg c1, k1, bind_some, if_pos c2, k2, bind_some, k4, if_neg c3, bind_some, if_pos rfl, g1]
          exact fin b
    · refine ⟨false, ?_, ?_⟩
      · unfold F_X12_wants
        rw [ew, m1, bind_some, if_neg c1, m2, bind_some, if_neg c2]
        rfl
      · unfold B_X10_lowestToServe_2
        dsimp only
        rw [i1, if_neg h9, if_neg c1, k1, bind_some, if_neg c2, nI_1]
        rfl
/-- the lowest school to serve -/
theorem serve_two {N : Int} {s t : St} (h : RX N s t) {w : Nat} (ew : t.1 1200 = nI w) (hw : w ≤ 600) {nn : Nat} (en : t.1 1223 = nI nn) (hnn : nn ≤ 20) : ∃ r, F_X10_lowestToServe (t.2.1 1202 w) s = some r ∧ (∀ l, lp (B_X12_drive_9 l t) FU (-1, t.1 1223 - 1) = some r) ∧ (r = -1 ∨ ∃ j, j < nn ∧ r = nI j) := by
  have e0 : (0 : Int32).toInt = 0 := rfl
  let P : Nat → Prop := fun j => F_X12_wants (nI j) t = some (bI true)
  have hP : ∀ j, j < nn → (P j ∧ B_X10_lowestToServe_2 (t.2.1 1202 w) s (nI j) = some (.inr (.inr (nI j)))) ∨ (¬ P j ∧ F_X12_wants (nI j) t = some (bI false) ∧ B_X10_lowestToServe_2 (t.2.1 1202 w) s (nI j) = some (.inl (nI (j + 1)))) := by
    intro j hj
    obtain ⟨b, g1, g2⟩ := want_two h ew hw en hnn hj
    cases b
    · refine Or.inr ⟨fun e => ?_, g1, g2⟩
      have e2 : F_X12_wants (nI j) t = some (bI true) := e
      rw [g1] at e2
      exact absurd (Option.some.inj e2) (by decide)
    · exact Or.inl ⟨g1, g2⟩
  obtain ⟨y, h1, h2⟩ := lp_inv (B := B_X10_lowestToServe_2 (t.2.1 1202 w) s)
    (fun m X => ∃ n : Nat, X = nI n ∧ n + m = nn ∧ ∀ k, k < n → ¬ P k)
    (fun Y => (Y = .inl () ∧ ∀ k, k < nn → ¬ P k) ∨ ∃ j, j < nn ∧ Y = .inr (nI j) ∧ P j ∧ ∀ k, k < j → ¬ P k) (by
      rintro m _ ⟨n, rfl, hn, hk⟩
      by_cases c : n = nn
      · right
        subst c
        refine ⟨.inl (), ?_, Or.inl ⟨rfl, hk⟩⟩
        unfold B_X10_lowestToServe_2
        dsimp only
        rw [h.sch.1, en, if_pos (Int32.le_refl _)]
      · rcases hP n (by omega) with ⟨p1, p2⟩ | ⟨p1, _, p2⟩
        · right
          exact ⟨_, p2, Or.inr ⟨n, by omega, rfl, p1, hk⟩⟩
        · left
          refine ⟨_, m - 1, p2, by omega, n + 1, rfl, by omega, fun k hk2 => ?_⟩
          by_cases e : k = n
          · rw [e]; exact p1
          · exact hk k (by omega)) FU nn 0 ⟨0, rfl, by omega, fun k hk => absurd hk (by omega)⟩ (FU_lt (by omega))
  have down : ∀ l, ∃ v, lp (B_X12_drive_9 l t) FU (-1, t.1 1223 - 1) = some v ∧ ((v = -1 ∧ ∀ k, k < nn → ¬ P k) ∨ ∃ j, j < nn ∧ v = nI j ∧ P j ∧ ∀ k, k < j → ¬ P k) := by
    intro l
    refine lp_inv (B := B_X12_drive_9 l t)
      (fun m X => ∃ v, X = (v, nI m - 1) ∧ m ≤ nn ∧ ((v = -1 ∧ ∀ k, m ≤ k → k < nn → ¬ P k) ∨ ∃ j, m ≤ j ∧ j < nn ∧ v = nI j ∧ P j ∧ ∀ k, m ≤ k → k < j → ¬ P k))
      (fun v => (v = -1 ∧ ∀ k, k < nn → ¬ P k) ∨ ∃ j, j < nn ∧ v = nI j ∧ P j ∧ ∀ k, k < j → ¬ P k) (by
        rintro m _ ⟨v, rfl, hm, hk⟩
        cases m with
        | zero =>
          right
          have h9 : nI 0 - 1 < 0 := by decide
          refine ⟨v, ?_, ?_⟩
          · unfold B_X12_drive_9
            dsimp only
            rw [if_pos h9]
          · rcases hk with ⟨a1, a2⟩ | ⟨j, a1, a2, a3, a4, a5⟩
            · exact Or.inl ⟨a1, fun k hk => a2 k (by omega) hk⟩
            · exact Or.inr ⟨j, a2, a3, a4, fun k hk => a5 k (by omega) hk⟩
        | succ m =>
          left
          have en : nI (m + 1) - 1 = nI m := by
            have : nI (m + 1) = nI m + 1 := (nI_add m 1).symm
            rw [this, Int32.add_sub_cancel]
          have en2 : nI m + (-1) = nI m - 1 := (Int32.sub_eq_add_neg (nI m) 1).symm
          have h9 : ¬ nI m < 0 := by
            rw [i32_lt, nI_toInt (by omega), e0]
            omega
          rcases hP m (by omega) with ⟨p1, _⟩ | ⟨p1, p2, _⟩
          · refine ⟨(nI m, nI m - 1), m, ?_, by omega, nI m, rfl, by omega, Or.inr ⟨m, by omega, by omega, rfl, p1, fun k b1 b2 => absurd b2 (by omega)⟩⟩
            unfold B_X12_drive_9
            dsimp only
            have p1' : F_X12_wants (nI m) t = some (bI true) := p1
            rw [en, if_neg h9, p1', bind_some, if_neg (show ¬ bI true = 0 by decide), en2]
          · refine ⟨(v, nI m - 1), m, ?_, by omega, v, rfl, by omega, ?_⟩
            · unfold B_X12_drive_9
              dsimp only
              rw [en, if_neg h9, p2, bind_some, if_pos (show bI false = 0 from rfl), en2]
            · rcases hk with ⟨a1, a2⟩ | ⟨j, a1, a2, a3, a4, a5⟩
              · refine Or.inl ⟨a1, fun k b1 b2 => ?_⟩
                by_cases e : k = m
                · rw [e]; exact p1
                · exact a2 k (by omega) b2
              · refine Or.inr ⟨j, by omega, a2, a3, a4, fun k b1 b2 => ?_⟩
                by_cases e : k = m
                · rw [e]; exact p1
                · exact a5 k (by omega) b2) FU nn (-1, t.1 1223 - 1) ⟨-1, by rw [en], by omega, Or.inl ⟨rfl, fun k b1 b2 => absurd b2 (by omega)⟩⟩ (FU_lt (by omega))
  refine ⟨Sum.elim (fun _ => -1) id y, ?_, fun l => ?_, ?_⟩
  · unfold F_X10_lowestToServe F_X10_lowestToServe_2
    rw [show (0 : Int32) = nI 0 from rfl] at h1 ⊢
    rw [h1]
    cases y <;> rfl
  · obtain ⟨v, d1, d2⟩ := down l
    rw [d1]
    have h2' : (Sum.elim (fun _ => (-1 : Int32)) id y = -1 ∧ ∀ k, k < nn → ¬ P k) ∨ ∃ j, j < nn ∧ Sum.elim (fun _ => (-1 : Int32)) id y = nI j ∧ P j ∧ ∀ k, k < j → ¬ P k := by
      rcases h2 with ⟨rfl, a2⟩ | ⟨j, a1, rfl, a3, a4⟩
      · exact Or.inl ⟨rfl, a2⟩
      · exact Or.inr ⟨j, a1, rfl, a3, a4⟩
    rw [(least_one (fun k _ => Iff.rfl) h2' d2).1]
  · rcases h2 with ⟨rfl, a2⟩ | ⟨j, a1, rfl, a3, a4⟩
    · exact Or.inl rfl
    · exact Or.inr ⟨j, a1, rfl⟩
/-- a lorry's load -/
theorem load_two {N : Int} {s t : St} (h : RX N s t) {j : Nat} (hj : j < 20) (r : Int32) : ∃ s' t', lp (B_X10_unload_5 (nI j)) FU (r, 0, s) = some s' ∧ lp (B_X12_drive_43 (nI j)) FU (r, 0, t) = some t' ∧ RX N s' t' ∧ s'.1 = s.1 ∧ t'.1 = t.1 ∧ t'.2.1 1202 = t.2.1 1202 := by
  have e5 : (5 : Int32).toInt = 5 := rfl
  refine lp_two (B := B_X10_unload_5 (nI j)) (B2 := B_X12_drive_43 (nI j))
    (fun m X Z => ∃ (i : Nat) (r : Int32) (s' t' : St), X = (r, nI i, s') ∧ Z = (r, nI i, t') ∧ i + m = 5 ∧ RX N s' t' ∧ s'.1 = s.1 ∧ t'.1 = t.1 ∧ t'.2.1 1202 = t.2.1 1202)
    (fun s' t' => RX N s' t' ∧ s'.1 = s.1 ∧ t'.1 = t.1 ∧ t'.2.1 1202 = t.2.1 1202) (by
      rintro m _ _ ⟨i, r, s', t', rfl, rfl, hi, hR, f1, f2, f3⟩
      by_cases c : i = 5
      · right
        subst c
        refine ⟨s', t', ?_, ?_, hR, f1, f2, f3⟩
        · unfold B_X10_unload_5
          dsimp only
          exact if_pos (by decide)
        · unfold B_X12_drive_43
          dsimp only
          exact if_pos (by decide)
      · left
        have h5 : ¬ (5 : Int32) ≤ nI i := by
          rw [i32_le, nI_toInt (by omega)]
          omega
        have hn1 : ¬ nI j = -1 := nI_neg1 (by omega)
        obtain ⟨x0, x1, x2, x3, x4, x5, x6, x7, x8, x9, x10, x11⟩ := hR.yard
        have ix : nI j * 5 + nI i = nI (5 * j + i) := idxN (k := 5) (by omega) (by omega) (by omega)
        have ix2 : 5 * nI j + nI i = nI (5 * j + i) := idxN2 (k := 5) (by omega) (by omega) (by omega)
        have k1 : rd s' 1011 5 (nI i) = some (t'.2.1 1262 i) := by rw [rd_nI (by omega) (by omega), x10]
        have k2 : rd s' 1012 100 (nI (5 * j + i)) = some (t'.2.1 1222 (5 * j + i)) := by rw [rd_nI (by omega) (by omega), x11]
        have m1 : rd t' 1222 100 (nI (5 * j + i)) = some (t'.2.1 1222 (5 * j + i)) := rd_nI (by omega) (by omega)
        have m2 : rd t' 1262 5 (nI i) = some (t'.2.1 1262 i) := rd_nI (by omega) (by omega)
        generalize hp : zmn r (zmn (t'.2.1 1262 i) (t'.2.1 1222 (5 * j + i))) = p
        have hp2 : zmn r (zmn (t'.2.1 1222 (5 * j + i)) (t'.2.1 1262 i)) = p := by rw [zmn_comm (t'.2.1 1222 (5 * j + i)), hp]
        have k3 : rd (sA s' 1011 i (t'.2.1 1262 i - p)) 1012 100 (nI (5 * j + i)) = some (t'.2.1 1222 (5 * j + i)) := k2
        have m3 : rd (sA t' 1222 (5 * j + i) (t'.2.1 1222 (5 * j + i) - p)) 1262 5 (nI i) = some (t'.2.1 1262 i) := m2
        refine ⟨(r - p, nI (i + 1), sA (sA s' 1011 i (t'.2.1 1262 i - p)) 1012 (5 * j + i) (t'.2.1 1222 (5 * j + i) - p)), (r - p, nI (i + 1), sA (sA t' 1222 (5 * j + i) (t'.2.1 1222 (5 * j + i) - p)) 1262 i (t'.2.1 1262 i - p)), m - 1, ?_, ?_, by omega, i + 1, _, _, _, rfl, rfl, by omega, ?_, f1, f2, f3⟩
        · unfold B_X10_unload_5
          dsimp only
          rw [if_neg h5, k1, bind_some, ix, k2, bind_some, bind_some, hp, wr_nI (by omega) (by omega), bind_some, k3, bind_some, wr_nI (by omega) (by omega), bind_some, nI_1]
        · unfold B_X12_drive_43
          dsimp only
          rw [if_neg h5, if_neg hn1, ix2, m1, bind_some, m2, bind_some, bind_some, hp2, wr_nI (by omega) (by omega), bind_some, m3, bind_some, wr_nI (by omega) (by omega), bind_some, nI_1]
        · have q := hR.unload (upd (s'.2.1 1011) i (t'.2.1 1262 i - p)) (upd (s'.2.1 1012) (5 * j + i) (t'.2.1 1222 (5 * j + i) - p))
          rw [x10, x11] at q
          have q1 : sA (sA s' 1011 i (t'.2.1 1262 i - p)) 1012 (5 * j + i) (t'.2.1 1222 (5 * j + i) - p) = setA (setA s' 1011 (upd (t'.2.1 1262) i (t'.2.1 1262 i - p))) 1012 (upd (t'.2.1 1222) (5 * j + i) (t'.2.1 1222 (5 * j + i) - p)) := by
            rw [← x10, ← x11]
            rfl
          rw [q1]
          exact q) FU FU 5 (r, 0, s) (r, 0, t) ⟨0, r, s, t, rfl, rfl, by omega, h, rfl, rfl, rfl⟩ (FU_lt (by omega)) (FU_lt (by omega))
/-- no school is served: the reference's lorries stay -/
theorem drive_idle {t : St} {L nn w : Nat} (hL : L ≤ 10) (eL : t.1 1264 = nI L) (hs : ∀ l, lp (B_X12_drive_9 l t) FU (-1, t.1 1223 - 1) = some (-1)) (v1 v2 : Int32) : ∀ (m n : Nat), n + m = L → ∀ F, m < F → lp (B_X12_weeks_105 v1 v2) F (nI n, t) = some t
  | 0, n, e, F, hF => by
    obtain ⟨F, rfl⟩ : ∃ F', F = F' + 1 := ⟨F - 1, by omega⟩
    refine lp_r ?_
    unfold B_X12_weeks_105
    dsimp only
    have : n = L := by omega
    rw [eL, this, if_pos (Int32.le_refl _)]
  | m + 1, n, e, F, hF => by
    obtain ⟨F, rfl⟩ : ∃ F', F = F' + 1 := ⟨F - 1, by omega⟩
    have h9 : ¬ nI L ≤ nI n := by
      rw [i32_le, nI_toInt (by omega), nI_toInt (by omega)]
      omega
    have hd : F_X12_drive (nI n) t = some t := by
      unfold F_X12_drive F_X12_drive_9
      rw [hs, bind_some]
      unfold F_X12_drive_33
      rw [rd_nI (by omega) (by omega), bind_some]
      unfold F_X12_drive_43
      have hB : B_X12_drive_43 (-1) (t.2.1 1261 n, 0, t) = some (.inr t) := by
        unfold B_X12_drive_43
        dsimp only
        rw [if_neg (show ¬ (5 : Int32) ≤ 0 by decide), if_pos rfl]
      have hF : lp (B_X12_drive_43 (-1)) (999999999999 + 1) (t.2.1 1261 n, 0, t) = some t := lp_r hB
      rw [show FU = 999999999999 + 1 from rfl, hF]
      rfl
    have hB : B_X12_weeks_105 v1 v2 (nI n, t) = some (.inl (nI (n + 1), t)) := by
      unfold B_X12_weeks_105
      dsimp only
      rw [eL, if_neg h9, hd, bind_some, nI_1]
    rw [lp_l hB]
    exact drive_idle (nn := nn) (w := w) hL eL hs v1 v2 m (n + 1) (by omega) F (by omega)
theorem drive_rec {N : Int} {L nn w : Nat} (hL : L ≤ 10) (hnn : nn ≤ 20) (hw : w ≤ 600) (v1 v2 wet : Int32) : ∀ (m n : Nat) (s t : St), n + m = L → RX N s t → t.1 1264 = nI L → t.1 1223 = nI nn → t.1 1200 = nI w → t.2.1 1202 w = wet → ∀ F F2, m < F → m < F2 → ∃ y t', lp (B_X10_drive_11 wet) F (nI n, s) = some y ∧ lp (B_X12_weeks_105 v1 v2) F2 (nI n, t) = some t' ∧ RX N (Sum.elim id id y) t' ∧ (Sum.elim id id y).1 = s.1 ∧ t'.1 = t.1
  | 0, n, s, t, e, hR, eL, en, ew, et, F, F2, hF, hF2 => by
    obtain ⟨F, rfl⟩ : ∃ F', F = F' + 1 := ⟨F - 1, by omega⟩
    obtain ⟨F2, rfl⟩ : ∃ F', F2 = F' + 1 := ⟨F2 - 1, by omega⟩
    have : n = L := by omega
    refine ⟨.inl s, t, lp_r ?_, lp_r ?_, hR, rfl, rfl⟩
    · unfold B_X10_drive_11
      dsimp only
      rw [hR.yard.2.2.2.2.2.2.2.1, eL, this, if_pos (Int32.le_refl _)]
    · unfold B_X12_weeks_105
      dsimp only
      rw [eL, this, if_pos (Int32.le_refl _)]
  | m + 1, n, s, t, e, hR, eL, en, ew, et, F, F2, hF, hF2 => by
    obtain ⟨F, rfl⟩ : ∃ F', F = F' + 1 := ⟨F - 1, by omega⟩
    obtain ⟨F2, rfl⟩ : ∃ F', F2 = F' + 1 := ⟨F2 - 1, by omega⟩
    have h9 : ¬ nI L ≤ nI n := by
      rw [i32_le, nI_toInt (by omega), nI_toInt (by omega)]
      omega
    have i1 : s.1 1009 = nI L := by rw [hR.yard.2.2.2.2.2.2.2.1, eL]
    obtain ⟨r, g1, g2, g3⟩ := serve_two hR ew hw en hnn
    rw [et] at g1
    rcases g3 with g3 | ⟨j, hj, g3⟩
    · have hC : B_X10_drive_11 wet (nI n, s) = some (.inr (.inr s)) := by
        unfold B_X10_drive_11
        dsimp only
        rw [i1, if_neg h9, g1, bind_some, if_pos g3]
      rw [g3] at g2
      refine ⟨.inr s, t, lp_r hC, drive_idle (nn := nn) (w := w) hL eL g2 v1 v2 (m + 1) n e (F2 + 1) hF2, hR, rfl, rfl⟩
    · have hj20 : j < 20 := by omega
      obtain ⟨s2, t2, k1, k2, k3, k4, k5, k6⟩ := load_two hR hj20 (t.2.1 1261 n)
      have nr : ¬ r = -1 := by rw [g3]; exact nI_neg1 (by omega)
      have c1 : rd s 1010 10 (nI n) = some (t.2.1 1261 n) := by rw [rd_nI (by omega) (by omega), hR.yard.2.2.2.2.2.2.2.2.2.1]
      have c2 : rd t 1261 10 (nI n) = some (t.2.1 1261 n) := rd_nI (by omega) (by omega)
      have hC : B_X10_drive_11 wet (nI n, s) = some (.inl (nI (n + 1), s2)) := by
        unfold B_X10_drive_11
        dsimp only
        rw [i1, if_neg h9, g1, bind_some, if_neg nr, c1, bind_some, g3]
        unfold F_X10_unload F_X10_unload_5
        rw [k1]
        show some (Sum.inl (nI n + 1, s2)) = _
        rw [nI_1]
      have hM : B_X12_weeks_105 v1 v2 (nI n, t) = some (.inl (nI (n + 1), t2)) := by
        unfold B_X12_weeks_105
        dsimp only
        rw [eL, if_neg h9]
        unfold F_X12_drive F_X12_drive_9
        rw [g2, bind_some]
        unfold F_X12_drive_33
        rw [c2, bind_some, g3]
        unfold F_X12_drive_43
        rw [k2]
        show some (Sum.inl (nI n + 1, t2)) = _
        rw [nI_1]
      rw [lp_l hC, lp_l hM]
      obtain ⟨y, t', f1, f2, f3, f4, f5⟩ := drive_rec hL hnn hw v1 v2 wet m (n + 1) s2 t2 (by omega) k3 (by rw [k5, eL]) (by rw [k5, en]) (by rw [k5, ew]) (by rw [k6, et]) F F2 (by omega) (by omega)
      exact ⟨y, t', f1, f2, f3, f4.trans k4, f5.trans k5⟩
/-- schools are raised -/
theorem raise_two {N : Int} {s t : St} (h : RX N s t) {nn : Nat} (en : t.1 1223 = nI nn) (hnn : nn ≤ 20) (v1 v2 : Int32) : ∃ s' t', F_X10_raise (t.1 1200) s = some s' ∧ lp (B_X12_weeks_126 v1 v2) FU (0, t) = some t' ∧ RX N s' t' ∧ t'.1 1200 = t.1 1200 := by
  obtain ⟨s', t', h1, h2, h3, h4⟩ := lp_two (B := B_X10_raise_2 (t.1 1200)) (B2 := B_X12_weeks_126 v1 v2)
    (fun m X Z => ∃ (i : Nat) (s' t' : St), X = (nI i, s') ∧ Z = (nI i, t') ∧ i + m = nn ∧ RX N s' t' ∧ t'.1 1200 = t.1 1200 ∧ t'.1 1223 = nI nn)
    (fun s' t' => RX N s' t' ∧ t'.1 1200 = t.1 1200) (by
      rintro m _ _ ⟨i, s', t', rfl, rfl, hi, hR, e1, e2⟩
      have i1 : s'.1 501 = nI nn := by rw [hR.sch.1, e2]
      by_cases c : i = nn
      · right
        subst c
        refine ⟨s', t', ?_, ?_, hR, e1⟩
        · unfold B_X10_raise_2
          dsimp only
          rw [i1, if_pos (Int32.le_refl _)]
        · unfold B_X12_weeks_126
          dsimp only
          rw [e2, if_pos (Int32.le_refl _)]
      · left
        have h9 : ¬ nI nn ≤ nI i := by
          rw [i32_le, nI_toInt (by omega), nI_toInt (by omega)]
          omega
        have hi2 : (i : Int) < (t'.1 1223).toInt := by rw [e2, nI_toInt (by omega)]; omega
        have b1 : s'.2.1 508 i = t'.2.1 1220 i := (hR.blt i (by omega)).1 hi2
        have k1 : rd s' 508 20 (nI i) = some (t'.2.1 1220 i) := by rw [rd_nI (by omega) (by omega), b1]
        have m1 : rd t' 1220 20 (nI i) = some (t'.2.1 1220 i) := rd_nI (by omega) (by omega)
        by_cases c1 : t'.2.1 1220 i = -1
        · obtain ⟨r, n1, n2⟩ := need_ok hR.yard.2.2.2.2.2.2.2.2.2.2.2 (j := i) (by omega)
          by_cases c2 : r = -1
          · obtain ⟨r2, l, f, l2, g, x, p, v, g1, g2⟩ := gave_two hR (j := i) (by omega)
            rw [hR.now.1, e1] at g1
            have hR2 := hR.scr l f x l2 g p v
            by_cases c3 : r2 = 0
            · refine ⟨(nI (i + 1), CL s' l f x), (nI (i + 1), ML t' l2 g p v), m - 1, ?_, ?_, by omega, i + 1, _, _, rfl, rfl, by omega, hR2, e1, e2⟩
              · unfold B_X10_raise_2
                dsimp only
                rw [i1, if_neg h9, k1, bind_some, if_pos c1, n1, bind_some, if_pos c2, g1, bind_some, if_pos c3, nI_1]
              · unfold B_X12_weeks_126
                dsimp only
                rw [e2, if_neg h9, m1, bind_some, if_pos c1, n2, bind_some, if_pos c2, g2, bind_some, if_pos c3, nI_1]
            · have hR3 := hR2.raised (j := i) hi2
              have q0 : (ML t' l2 g p v).1 1200 = t.1 1200 := e1
              rw [q0] at hR3
              refine ⟨(nI (i + 1), sA (CL s' l f x) 508 i (t.1 1200)), (nI (i + 1), sA (ML t' l2 g p v) 1220 i (t.1 1200)), m - 1, ?_, ?_, by omega, i + 1, _, _, rfl, rfl, by omega, hR3, e1, e2⟩
              · unfold B_X10_raise_2
                dsimp only
                rw [i1, if_neg h9, k1, bind_some, if_pos c1, n1, bind_some, if_pos c2, g1, bind_some, if_neg c3, wr_nI (by omega) (by omega), bind_some, nI_1]
              · unfold B_X12_weeks_126
                dsimp only
                rw [e2, if_neg h9, m1, bind_some, if_pos c1, n2, bind_some, if_pos c2, g2, bind_some, if_neg c3, q0, wr_nI (by omega) (by omega), bind_some, nI_1]
          · refine ⟨(nI (i + 1), s'), (nI (i + 1), t'), m - 1, ?_, ?_, by omega, i + 1, _, _, rfl, rfl, by omega, hR, e1, e2⟩
            · unfold B_X10_raise_2
              dsimp only
              rw [i1, if_neg h9, k1, bind_some, if_pos c1, n1, bind_some, if_neg c2, nI_1]
            · unfold B_X12_weeks_126
              dsimp only
              rw [e2, if_neg h9, m1, bind_some, if_pos c1, n2, bind_some, if_neg c2, nI_1]
        · refine ⟨(nI (i + 1), s'), (nI (i + 1), t'), m - 1, ?_, ?_, by omega, i + 1, _, _, rfl, rfl, by omega, hR, e1, e2⟩
          · unfold B_X10_raise_2
            dsimp only
            rw [i1, if_neg h9, k1, bind_some, if_neg c1, nI_1]
          · unfold B_X12_weeks_126
            dsimp only
            rw [e2, if_neg h9, m1, bind_some, if_neg c1, nI_1]) FU FU nn (0, s) (0, t) ⟨0, s, t, rfl, rfl, by omega, h, rfl, en⟩ (FU_lt (by omega)) (FU_lt (by omega))
  refine ⟨s', t', ?_, h2, h3, h4⟩
  unfold F_X10_raise F_X10_raise_2
  rw [h1]
  rfl
/-- one week -/
theorem week_two {N : Int} {s t : St} (h : RX N s t) (hn : (t.1 1200).toInt < 600) {v1 v2 : Int32} (hv : ¬ v1 ≤ v2) : ∃ s' t', B_X11_weeks_26 v1 (v2, s) = some (.inl (v2 + 1, s')) ∧ B_X12_weeks_26 v1 (v2, t) = some (.inl (v2 + 1, t')) ∧ RX N s' t' ∧ (t'.1 1200).toInt = (t.1 1200).toInt + 1 := by
  have e1 : (1 : Int32).toInt = 1 := rfl
  have n1 := h.now.2.1
  have e : (t.1 1200 + 1).toInt = (t.1 1200).toInt + 1 := by rw [i32_add (by omega) (by omega), e1]
  have h1 := h.tick hn
  obtain ⟨w, ew, ew2, _⟩ := i32_nat (x := t.1 1200 + 1) (by omega)
  have hw : w ≤ 600 := by omega
  obtain ⟨nn, en, en2, _⟩ := i32_nat h.sch.2.1.1
  have hnn : nn ≤ 20 := by have := h.sch.2.1.2; omega
  obtain ⟨L, eL, eL2, _⟩ := i32_nat h.yard.2.2.2.2.2.2.2.2.1.1
  have hL : L ≤ 10 := by have := h.yard.2.2.2.2.2.2.2.2.1.2; omega
  have q0 : (pI t 1200 (t.1 1200 + 1)).1 1200 = nI w := ew
  have q1 : (pI t 1200 (t.1 1200 + 1)).1 1223 = nI nn := en
  have q2 : (pI t 1200 (t.1 1200 + 1)).1 1264 = nI L := eL
  have q3 : (pI s 1100 (t.1 1200 + 1)).1 1100 = nI w := ew
  have c0 : B_X11_weeks_26 v1 (v2, s) = ((some (pI s 1100 (t.1 1200 + 1))).bind fun s1 => (F_X10_bring (s1.1 1100) s1).bind fun s2 => (F_X10_drive (s2.1 1100) s2).bind fun s3 => (F_X10_raise (s3.1 1100) s3).bind fun s4 => some (.inl ((v2 + 1), s4))) := by
    unfold B_X11_weeks_26
    dsimp only
    rw [if_neg hv, h.now.1]
    rfl
  have d0 : B_X12_weeks_26 v1 (v2, t) = ((some (pI t 1200 (t.1 1200 + 1))).bind fun s1 => F_X12_weeks_43 v1 v2 0 s1) := by
    unfold B_X12_weeks_26
    dsimp only
    rw [if_neg hv]
    rfl
  rw [bind_some] at c0 d0
  generalize pI s 1100 (t.1 1200 + 1) = s1 at *
  generalize pI t 1200 (t.1 1200 + 1) = t1 at *
  obtain ⟨s2, t2, a1, a2, a3, a4, a5⟩ := bring_two h1 v1 v2
  have w2 := C_isWet a3 hw
  have f0 : t2.1 1200 = nI w := by rw [a4, q0]
  obtain ⟨y, t3, b1, b2, b3, b4, b5⟩ := drive_rec hL hnn hw v1 v2 (t2.2.1 1202 w) L 0 s2 t2 (by omega) a3 (by rw [a4, q2]) (by rw [a4, q1]) f0 rfl FU FU (FU_lt (by omega)) (FU_lt (by omega))
  have f1 : t3.1 1200 = nI w := by rw [b5, f0]
  obtain ⟨s4, t4, d1, d2, d3, d4⟩ := raise_two b3 (nn := nn) (by rw [b5, a4, q1]) hnn v1 v2
  refine ⟨s4, t4, ?_, ?_, d3, by rw [d4, f1, ← ew, e]⟩
  · rw [c0, q3, ← q0, a1, bind_some, a5, q3]
    unfold F_X10_drive
    rw [w2, bind_some]
    unfold F_X10_drive_11
    have b1' : lp (B_X10_drive_11 (t2.2.1 1202 w)) FU (0, s2) = some y := b1
    rw [b1', bind_some]
    have hy : Sum.elim (fun y => F_X10_drive_51 y) (fun y => F_X10_drive_32 y) y = some (Sum.elim id id y) := by cases y <;> rfl
    rw [hy, bind_some, b4, a5, q3, ← f1, d1, bind_some]
  · rw [d0]
    unfold F_X12_weeks_43
    rw [a2, bind_some]
    unfold F_X12_weeks_103 F_X12_weeks_105
    have b2' : lp (B_X12_weeks_105 v1 v2) FU (0, t2) = some t3 := b2
    rw [b2', bind_some]
    unfold F_X12_weeks_124 F_X12_weeks_126
    rw [d2, bind_some]
    rfl
theorem P_weeks {N : Int} {s t : St} (h : RX N s t) (a : Int32) : Two (RX (N + 1)) (F_X11_weeks a s) (F_X12_weeks a t) := by
  have e0 : (0 : Int32).toInt = 0 := rfl
  have e1 : (104 : Int32).toInt = 104 := rfl
  have e6 : (600 : Int32).toInt = 600 := rfl
  obtain ⟨n0, n1, n2⟩ := h.now
  unfold F_X11_weeks F_X12_weeks
  refine Two_ite (fun _ => Two_ret _ h.up) (fun c1 => ?_)
  obtain ⟨q1, q2⟩ := inb_R c1
  obtain ⟨n, en, en2, _⟩ := i32_nat (x := a) (by omega)
  have hc : a ≤ 600 - s.1 1100 ↔ t.1 1200 + a ≤ 600 := by
    rw [n0, i32_le, i32_le, i32_sub (by omega) (by omega), i32_add (by omega) (by omega)]
    omega
  by_cases c2 : t.1 1200 + a ≤ 600
  · rw [if_pos c2, if_pos (hc.mpr c2)]
    rw [i32_le, i32_add (by omega) (by omega)] at c2
    unfold F_X11_weeks_26 F_X12_weeks_26
    obtain ⟨s', t', h1, h2, h3⟩ := lp_two (B := B_X11_weeks_26 a) (B2 := B_X12_weeks_26 a)
      (fun m X Z => ∃ (i : Nat) (s' t' : St), X = (nI i, s') ∧ Z = (nI i, t') ∧ i + m = n ∧ RX N s' t' ∧ (t'.1 1200).toInt = (t.1 1200).toInt + i)
      (fun s' t' => RX N s' t') (by
        rintro m _ _ ⟨i, s', t', rfl, rfl, hi, hR, e⟩
        by_cases c : i = n
        · right
          subst c
          refine ⟨s', t', ?_, ?_, hR⟩
          · unfold B_X11_weeks_26
            dsimp only
            rw [en, if_pos (Int32.le_refl _)]
          · unfold B_X12_weeks_26
            dsimp only
            rw [en, if_pos (Int32.le_refl _)]
        · left
          have h9 : ¬ a ≤ nI i := by
            rw [i32_le, nI_toInt (by omega)]
            omega
          obtain ⟨s2, t2, g1, g2, g3, g4⟩ := week_two hR (by omega) h9
          rw [nI_1] at g1 g2
          exact ⟨_, _, m - 1, g1, g2, by omega, i + 1, s2, t2, rfl, rfl, by omega, g3, by rw [g4, e]; omega⟩) FU FU n (0, s) (0, t) ⟨0, s, t, rfl, rfl, by omega, h, by omega⟩ (FU_lt (by omega)) (FU_lt (by omega))
    rw [h1, h2, bind_some, bind_some]
    unfold F_X11_weeks_80 F_X12_weeks_183
    rw [h3.now.1]
    exact Two_ret _ h3.up
  · rw [if_neg c2, if_neg (fun e => c2 (hc.mp e))]
    exact Two_ret _ h.up
