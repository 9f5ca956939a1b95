/-! places -/
theorem RX.scrC {N : Int} {s t : St} (h : RX N s t) (l f : Nat → Int32) (x : Int32) : RX N (CL s l f x) t := by
  have := h.scr l f x (t.2.1 1241) (t.2.1 1242) (t.1 1243) (t.1 1244)
  rw [ML_self] at this
  exact this
theorem RX.scrM {N : Int} {s t : St} (h : RX N s t) (l g : Nat → Int32) (p v : Int32) : RX N s (ML t l g p v) := by
  have := h.scr (s.2.1 7) (s.2.1 8) (s.1 9) l g p v
  rw [CL_self] at this
  exact this
theorem zmn_le {a w k : Int32} : a ≤ zmn w k ↔ ¬ w < a ∧ ¬ k < a := by
  unfold zmn
  by_cases c : k < w
  · rw [if_pos c]
    rw [i32_lt] at c
    rw [i32_le, i32_lt, i32_lt]
    omega
  · rw [if_neg c]
    rw [i32_lt] at c
    rw [i32_le, i32_lt, i32_lt]
    omega
theorem zmn_nI {w q : Nat} (hw : w < 2 ^ 31) (hq : q < 2 ^ 31) : zmn (nI w) (nI q) = nI (min w q) := by
  unfold zmn
  by_cases c : nI q < nI w
  · rw [if_pos c]
    rw [i32_lt, nI_toInt hw, nI_toInt hq] at c
    rw [Nat.min_eq_right (by omega)]
  · rw [if_neg c]
    rw [i32_lt, nI_toInt hw, nI_toInt hq] at c
    rw [Nat.min_eq_left (by omega)]
theorem M_wasShut {N : Int} {s t : St} (h : RShut N s t) (hN : N ≤ 4096) (j w k : Int32) : F_X12_wasShut j w k t = some (bI (shp (t.2.1 1224) (t.2.1 1225) j (zmn w k) (t.1 1226).toInt.toNat)) := by
  obtain ⟨n, en, en2, _⟩ := i32_nat h.1.1
  have hn : n ≤ 4096 := by have := h.1.2; omega
  have en3 : (t.1 1226).toInt.toNat = n := by omega
  unfold F_X12_wasShut F_X12_wasShut_6
  suffices hl : lp (B_X12_wasShut_6 j w k t) FU (0, 0) = some (bI (shp (t.2.1 1224) (t.2.1 1225) j (zmn w k) n)) by
    rw [en3, hl, bind_some]
    unfold F_X12_wasShut_66
    rw [bz_ok]
    · rfl
    · cases shp (t.2.1 1224) (t.2.1 1225) j (zmn w k) n
      · exact Or.inl rfl
      · exact Or.inr rfl
  refine lp_cnt (fun m => (bI (shp (t.2.1 1224) (t.2.1 1225) j (zmn w k) m), nI m)) n rfl ?_ ?_ (FU_lt (by omega))
  · intro m hm
    have h1 : ¬ t.1 1226 ≤ nI m := by rw [i32_le, nI_toInt (by omega), en2]; omega
    have hz : t.2.1 1225 m ≤ zmn w k ↔ ¬ w < t.2.1 1225 m ∧ ¬ k < t.2.1 1225 m := zmn_le
    unfold B_X12_wasShut_6
    simp (disch := omega) only [if_neg h1, rd_nI, bind_some, nI_1]
    by_cases c1 : t.2.1 1224 m = j
    · rw [if_pos c1]
      by_cases c2 : w < t.2.1 1225 m
      · have e : shp (t.2.1 1224) (t.2.1 1225) j (zmn w k) (m + 1) = shp (t.2.1 1224) (t.2.1 1225) j (zmn w k) m := by
          simp only [shp]
          rw [if_neg (fun e => (hz.mp e.2).1 c2)]
        rw [if_pos c2, e]
      · rw [if_neg c2]
        by_cases c3 : k < t.2.1 1225 m
        · have e : shp (t.2.1 1224) (t.2.1 1225) j (zmn w k) (m + 1) = shp (t.2.1 1224) (t.2.1 1225) j (zmn w k) m := by
            simp only [shp]
            rw [if_neg (fun e => (hz.mp e.2).2 c3)]
          rw [if_pos c3, e]
        · have e : shp (t.2.1 1224) (t.2.1 1225) j (zmn w k) (m + 1) = !shp (t.2.1 1224) (t.2.1 1225) j (zmn w k) m := by
            simp only [shp]
            rw [if_pos ⟨c1, hz.mpr ⟨c2, c3⟩⟩]
          rw [if_neg c3, e]
          cases shp (t.2.1 1224) (t.2.1 1225) j (zmn w k) m
          · rw [if_pos (show bI false = 0 from rfl)]
            rfl
          · rw [if_neg (show ¬ bI true = 0 by decide)]
            rfl
    · have e : shp (t.2.1 1224) (t.2.1 1225) j (zmn w k) (m + 1) = shp (t.2.1 1224) (t.2.1 1225) j (zmn w k) m := by
        simp only [shp]
        rw [if_neg (fun e => c1 e.1)]
      rw [if_neg c1, e]
  · unfold B_X12_wasShut_6
    have h9 : t.1 1226 ≤ nI n := by rw [en]; exact Int32.le_refl _
    exact if_pos h9
theorem zmx_zmn {a b : Int32} (h : (1 : Int) ≤ a.toInt) : zmx 1 (zmn a b) = zmn a (zmx 1 b) := by
  have e1 : (1 : Int32).toInt = 1 := rfl
  unfold zmx zmn
  by_cases c1 : b < a
  · rw [if_pos c1]
    by_cases c2 : (1 : Int32) < b
    · rw [if_pos c2, if_pos c1]
    · rw [if_neg c2]
      by_cases c3 : (1 : Int32) < a
      · rw [if_pos c3]
      · rw [if_neg c3]
        rw [i32_lt] at c1 c2 c3
        rw [i32_eq]
        omega
  · rw [if_neg c1]
    by_cases c2 : (1 : Int32) < b
    · rw [if_pos c2, if_neg c1]
      by_cases c3 : (1 : Int32) < a
      · rw [if_pos c3]
      · rw [if_neg c3]
        rw [i32_lt] at c1 c2 c3
        rw [i32_eq]
        omega
    · rw [if_neg c2]
      rw [i32_lt] at c1 c2
      rw [if_neg (by rw [i32_lt]; omega), if_neg (by rw [i32_lt]; omega)]
      rw [i32_eq]
      omega
theorem mul64 (a b : Int32) : Int64.toInt32 (Int32.toInt64 a * Int32.toInt64 b) = a * b := by
  rw [Int64.toInt32_mul, Int32.toInt32_toInt64, Int32.toInt32_toInt64]
/-- classes and heads against places -/
theorem places_two {N : Int} {s t : St} (h : RX N s t) (hN : N ≤ 4096) {j w q : Nat} (hj : (j : Int) < (t.1 1223).toInt) (hw : w ≤ 600) (hq : q ≤ 600) : ∃ (c hd : Int32) (l f l1 f1 l2 g : Nat → Int32) (x x1 p v : Int32), F_X5_classesOf (nI j) (nI w) (nI q) s = some (c, CL s l f x) ∧ F_X5_headsOf (nI j) (nI w) (nI q) (CL s l f x) = some (hd, CL s l1 f1 x1) ∧ F_X12_placesOf (nI j) (nI w) (nI q) t = some (c * hd, ML t l2 g p v) := by
  obtain ⟨z0, z1, z2, z3, z4, z5, z6, z7, z8, z9, z10, z11, z12, z13, z14, z15⟩ := h.sch
  have hj20 : j < 20 := by have := z1.2; omega
  have b1 : s.2.1 508 j = t.2.1 1220 j := (h.blt j hj20).1 hj
  have hS := M_wasShut h.shut hN (nI j) (nI w) (nI q)
  have hC := C_isShut h.shut hj20 (w := min w q) (by omega)
  rw [← zmn_nI (by omega) (by omega)] at hC
  have hsh : 0 ≤ (s.2.1 503 j).toInt := by rw [z3]; exact (z10 j).1
  generalize hB : shp (t.2.1 1224) (t.2.1 1225) (nI j) (zmn (nI w) (nI q)) (t.1 1226).toInt.toNat = B at hS hC
  have hX : ∀ s2 t2 : St, RX N s2 t2 → s2.2.1 503 = s.2.1 503 → ∃ hd l1 f1 x1, F_X5_headsOf (nI j) (nI w) (nI q) s2 = some (zmx 0 hd, CL s2 l1 f1 x1) ∧ ∃ l2 g p v t3, F_X12_tell (nI w / 52) (s.2.1 503 j) 0 0 0 0 t2 = some t3 ∧ F_X12_worthOf (s.2.1 503 j) (nI w / 52) (nI q) 104 t3 = some (hd, ML t2 l2 g p v) := by
    intro s2 t2 h2 e2
    obtain ⟨s3, t3, r, l, f, l2, g, x, p, v, a1, a2, a3, a4, ⟨l0, f0, x0, a5⟩, _⟩ := ask h2 (k := 1) (by omega) (shire := s.2.1 503 j) (year := nI w / 52) (q := nI q) (a := 0) (b := 0) (c := 0) (d := 0) hsh
    refine ⟨r, l, f, x, ?_, l2, g, p, v, t3, a2, a4⟩
    unfold F_X5_headsOf
    have e3 : s3.2.1 503 = s.2.1 503 := by rw [a5]; exact e2
    rw [a1, bind_some, rd_nI hj20 (by omega), bind_some, e3]
    show (F_X0_worthOf (nI 1) _ _ _ _ _).bind _ = _
    rw [a3]
    rfl
  by_cases c : nI q < t.2.1 1219 j ∨ t.2.1 1220 j = -1 ∨ nI w < t.2.1 1220 j ∨ B = true
  · have hO : F_X12_isOpen (nI j) (nI w) (nI q) t = some 0 := by
      unfold F_X12_isOpen
      simp (disch := omega) only [rd_nI, bind_some]
      by_cases c1 : nI q < t.2.1 1219 j
      · rw [if_pos c1]
      · rw [if_neg c1]
        by_cases c2 : t.2.1 1220 j = -1
        · rw [if_pos c2]
        · rw [if_neg c2]
          by_cases c3 : nI w < t.2.1 1220 j
          · rw [if_pos c3]
          · rw [if_neg c3, hS, bind_some]
            rcases c with c | c | c | c
            · exact absurd c c1
            · exact absurd c c2
            · exact absurd c c3
            · rw [c, if_neg (show ¬ bI true = 0 by decide)]
    have hCc : F_X5_classesOf (nI j) (nI w) (nI q) s = some (0, s) := by
      unfold F_X5_classesOf
      simp (disch := omega) only [rd_nI, bind_some, b1, z7]
      by_cases c2 : t.2.1 1220 j = -1
      · rw [if_pos c2]
      · rw [if_neg c2]
        by_cases c3 : nI w < t.2.1 1220 j
        · rw [if_pos c3]
        · rw [if_neg c3]
          by_cases c1 : nI q < t.2.1 1219 j
          · rw [if_pos c1]
          · rw [if_neg c1, hC, bind_some]
            rcases c with c | c | c | c
            · exact absurd c c1
            · exact absurd c c2
            · exact absurd c c3
            · rw [c, if_neg (show ¬ bI true = 0 by decide)]
    obtain ⟨hd, l1, f1, x1, g1, _⟩ := hX s t h rfl
    refine ⟨0, zmx 0 hd, s.2.1 7, s.2.1 8, l1, f1, t.2.1 1241, t.2.1 1242, s.1 9, x1, t.1 1243, t.1 1244, ?_, ?_, ?_⟩
    · rw [CL_self]; exact hCc
    · rw [CL_self]; exact g1
    · rw [ML_self]
      unfold F_X12_placesOf
      rw [hO, bind_some, if_pos rfl, Int32.zero_mul]
  · have c1 : ¬ nI q < t.2.1 1219 j := fun e => c (Or.inl e)
    have c2 : ¬ t.2.1 1220 j = -1 := fun e => c (Or.inr (Or.inl e))
    have c3 : ¬ nI w < t.2.1 1220 j := fun e => c (Or.inr (Or.inr (Or.inl e)))
    have c4 : B = false := Bool.eq_false_iff.mpr (fun e => c (Or.inr (Or.inr (Or.inr e))))
    obtain ⟨s3, t3, r, l, f, l2, g, x, p, v, a1, a2, a3, a4, ⟨l0, f0, x0, a5⟩, ⟨m0, m1, m2, m3, a6⟩, a7, a8⟩ := ask h (k := 2) (by omega) (shire := s.2.1 503 j) (year := nI w / 52) (q := nI q) (a := 0) (b := 0) (c := 0) (d := 0) hsh
    have hO : F_X12_isOpen (nI j) (nI w) (nI q) t = some 1 := by
      unfold F_X12_isOpen
      simp (disch := omega) only [rd_nI, bind_some]
      rw [if_neg c1, if_neg c2, if_neg c3, hS, bind_some, c4, if_pos (show bI false = 0 from rfl)]
    have e3 : s3.2.1 503 = s.2.1 503 := by rw [a5]; rfl
    have e4 : t3.2.1 1215 = t.2.1 1215 := by rw [a6]; rfl
    have e5 : t3.2.1 1216 = t.2.1 1216 := by rw [a6]; rfl
    have e6 : t3.2.1 1217 = t.2.1 1217 := by rw [a6]; rfl
    have hCc : F_X5_classesOf (nI j) (nI w) (nI q) s = some (t.2.1 1216 j * zmx 1 (zmn (t.2.1 1217 j) r), CL s l f x) := by
      unfold F_X5_classesOf
      simp (disch := omega) only [rd_nI, bind_some, b1, z7]
      rw [if_neg c2, if_neg c3, if_neg c1, hC, bind_some, c4, if_pos (show bI false = 0 from rfl), a1, bind_some, e3]
      show (F_X0_worthOf (nI 2) _ _ _ _ _).bind _ = _
      rw [a3, bind_some, ← z4, ← z5]
      rfl
    have hMc : F_X12_classesOf (nI j) (nI w) (nI q) t = some (t.2.1 1216 j * zmn (t.2.1 1217 j) (zmx 1 r), ML t l2 g p v) := by
      unfold F_X12_classesOf
      rw [rd_nI hj20 (by omega), bind_some, ← z3, a2, bind_some]
      simp (disch := omega) only [rd_nI, bind_some, e4, e5, e6]
      rw [← z3]
      have a4' : F_X12_worthOf (s.2.1 503 j) (nI w / 52) (nI q) 115 t3 = some (r, ML t l2 g p v) := a4
      rw [a4']
      rfl
    obtain ⟨hd, l1, f1, x1, g1, l3, g3, p3, v3, t4, g4, g5⟩ := hX (CL s l f x) (ML t l2 g p v) (h.scr l f x l2 g p v) rfl
    have g6 : F_X12_tell (nI w / 52) (s.2.1 503 j) 0 0 0 0 (ML t l2 g p v) = some (ML t l2 g p v) := tell_same (t := ML t l2 g p v) a8
    rw [g6] at g4
    cases g4
    rw [CL_CL] at g1
    rw [ML_ML] at g5
    refine ⟨_, zmx 0 hd, l, f, l1, f1, l3, g3, x, x1, p3, v3, hCc, g1, ?_⟩
    unfold F_X12_placesOf
    have e7 : (ML t l2 g p v).2.1 1215 = s.2.1 503 := z3.symm
    rw [hO, bind_some, if_neg (show ¬ (1 : Int32) = 0 by decide), hMc, bind_some]
    show (rd (ML t l2 g p v) 1215 20 (nI j)).bind _ = _
    rw [rd_nI hj20 (by omega), bind_some, e7, g5, bind_some, zmx_zmn (z15 j hj)]
    exact congrArg (fun z => some (z, ML t l3 g3 p3 v3)) (mul64 _ _)
theorem P_places {N : Int} {s t : St} (h : RX N s t) (hN : N ≤ 4096) (a b c : Int32) : Two (RX (N + 1)) (F_X11_places a b c s) (F_X12_places a b c t) := by
  obtain ⟨z0, z1, _⟩ := h.sch
  obtain ⟨n0, n1⟩ := h.now
  unfold F_X11_places F_X12_places F_X11_isSchool F_X12_isSchool F_X11_isPast F_X12_isWeek F_X12_isKnowing
  rw [z0, n0]
  simp only [bind_some, bI_eq0]
  refine Two_ite (fun _ => Two_ret _ h.up) (fun c1 => ?_)
  refine Two_ite (fun _ => Two_ret _ h.up) (fun c2 => ?_)
  refine Two_ite (fun _ => Two_ret _ h.up) (fun c3 => ?_)
  obtain ⟨q1, q2⟩ := isN c1 z1
  have r2 := inb_R c2
  have r3 := inb_R c3
  have e0 : (0 : Int32).toInt = 0 := rfl
  obtain ⟨r2a, r2b⟩ := r2
  obtain ⟨r3a, r3b⟩ := r3
  have n2 := n1.2
  obtain ⟨j, ej, ej2, _⟩ := i32_nat q1
  obtain ⟨w, ew, ew2, _⟩ := i32_nat (x := b) (by omega)
  obtain ⟨k, ek, ek2, _⟩ := i32_nat (x := c) (by omega)
  subst ej ew ek
  obtain ⟨v, hd, l, f, l1, f1, l2, g, x, x1, p, y, a1, a2, a3⟩ := places_two h hN (j := j) (w := w) (q := k) (by omega) (by omega) (by omega)
  rw [a1, bind_some]
  show Two _ ((F_X5_headsOf (nI j) (nI w) (nI k) (CL s l f x)).bind _) _
  rw [a2, a3]
  exact Two_ret _ (h.scr l1 f1 x1 l2 g p y).up
