/-! classes: the class's against the reference's -/
theorem classes_two {N : Int} {s t : St} (h : RX N s t) (hN : N ≤ 4096) {j w q : Nat} (hj : (j : Int) < (t.1 1223).toInt) (hw : w ≤ 600) (hq : q ≤ 600) : ∃ (c : Int32) (l f : Nat → Int32) (x : Int32), F_X5_classesOf (nI j) (nI w) (nI q) s = some (c, CL s l f x) ∧ ((F_X12_isOpen (nI j) (nI w) (nI q) t = some 0 ∧ c = 0) ∨ (F_X12_isOpen (nI j) (nI w) (nI q) t = some 1 ∧ ∃ (l2 g : Nat → Int32) (p v : Int32), F_X12_classesOf (nI j) (nI w) (nI q) t = some (c, ML t l2 g p v))) := by
  obtain ⟨z0, z1, z2, z3, z4, z5, z6, z7, z8, z9, z10, z11, z12, z13, z14, z15⟩ := h.sch
  have hj20 : j < 20 := by have := z1.2; omega
  have b1 : s.2.1 508 j = t.2.1 1220 j := (h.blt j hj20).1 hj
  have hS := M_wasShut h.shut hN (nI j) (nI w) (nI q)
  have hC := C_isShut h.shut hj20 (w := min w q) (by omega)
  rw [← zmn_nI (by omega) (by omega)] at hC
  have hsh : 0 ≤ (s.2.1 503 j).toInt := by rw [z3]; exact (z10 j).1
  generalize hB : shp (t.2.1 1224) (t.2.1 1225) (nI j) (zmn (nI w) (nI q)) (t.1 1226).toInt.toNat = B at hS hC
  by_cases c : nI q < t.2.1 1219 j ∨ t.2.1 1220 j = -1 ∨ nI w < t.2.1 1220 j ∨ B = true
  · have hO : F_X12_isOpen (nI j) (nI w) (nI q) t = some 0 := by
      unfold F_X12_isOpen
      simp (disch := omega) only [rd_nI, bind_some]
      by_cases c1 : nI q < t.2.1 1219 j
      · rw [if_pos c1]
      · rw [if_neg c1]
        by_cases c2 : t.2.1 1220 j = -1
        · rw [if_pos c2]
        · rw [if_neg c2]
          by_cases c3 : nI w < t.2.1 1220 j
          · rw [if_pos c3]
          · rw [if_neg c3, hS, bind_some]
            rcases c with c | c | c | c
            · exact absurd c c1
            · exact absurd c c2
            · exact absurd c c3
            · rw [c, if_neg (show ¬ bI true = 0 by decide)]
    have hCc : F_X5_classesOf (nI j) (nI w) (nI q) s = some (0, s) := by
      unfold F_X5_classesOf
      simp (disch := omega) only [rd_nI, bind_some, b1, z7]
      by_cases c2 : t.2.1 1220 j = -1
      · rw [if_pos c2]
      · rw [if_neg c2]
        by_cases c3 : nI w < t.2.1 1220 j
        · rw [if_pos c3]
        · rw [if_neg c3]
          by_cases c1 : nI q < t.2.1 1219 j
          · rw [if_pos c1]
          · rw [if_neg c1, hC, bind_some]
            rcases c with c | c | c | c
            · exact absurd c c1
            · exact absurd c c2
            · exact absurd c c3
            · rw [c, if_neg (show ¬ bI true = 0 by decide)]
    exact ⟨0, s.2.1 7, s.2.1 8, s.1 9, by rw [CL_self]; exact hCc, Or.inl ⟨hO, rfl⟩⟩
  · have c1 : ¬ nI q < t.2.1 1219 j := fun e => c (Or.inl e)
    have c2 : ¬ t.2.1 1220 j = -1 := fun e => c (Or.inr (Or.inl e))
    have c3 : ¬ nI w < t.2.1 1220 j := fun e => c (Or.inr (Or.inr (Or.inl e)))
    have c4 : B = false := Bool.eq_false_iff.mpr (fun e => c (Or.inr (Or.inr (Or.inr e))))
    obtain ⟨s3, t3, r, l, f, l2, g, x, p, v, a1, a2, a3, a4, ⟨l0, f0, x0, a5⟩, ⟨m0, m1, m2, m3, a6⟩, a7, a8⟩ := ask h (k := 2) (by omega) (shire := s.2.1 503 j) (year := nI w / 52) (q := nI q) (a := 0) (b := 0) (c := 0) (d := 0) hsh
    have hO : F_X12_isOpen (nI j) (nI w) (nI q) t = some 1 := by
      unfold F_X12_isOpen
      simp (disch := omega) only [rd_nI, bind_some]
      rw [if_neg c1, if_neg c2, if_neg c3, hS, bind_some, c4, if_pos (show bI false = 0 from rfl)]
    have e3 : s3.2.1 503 = s.2.1 503 := by rw [a5]; rfl
    have e4 : t3.2.1 1215 = t.2.1 1215 := by rw [a6]; rfl
    have e5 : t3.2.1 1216 = t.2.1 1216 := by rw [a6]; rfl
    have e6 : t3.2.1 1217 = t.2.1 1217 := by rw [a6]; rfl
    have hCc : F_X5_classesOf (nI j) (nI w) (nI q) s = some (t.2.1 1216 j * zmx 1 (zmn (t.2.1 1217 j) r), CL s l f x) := by
      unfold F_X5_classesOf
      simp (disch := omega) only [rd_nI, bind_some, b1, z7]
      rw [if_neg c2, if_neg c3, if_neg c1, hC, bind_some, c4, if_pos (show bI false = 0 from rfl), a1, bind_some, e3]
      show (F_X0_worthOf (nI 2) _ _ _ _ _).bind _ = _
      rw [a3, bind_some, ← z4, ← z5]
      rfl
    have hMc : F_X12_classesOf (nI j) (nI w) (nI q) t = some (t.2.1 1216 j * zmn (t.2.1 1217 j) (zmx 1 r), ML t l2 g p v) := by
      unfold F_X12_classesOf
      rw [rd_nI hj20 (by omega), bind_some, ← z3, a2, bind_some]
      simp (disch := omega) only [rd_nI, bind_some, e4, e5, e6]
      rw [← z3]
      have a4' : F_X12_worthOf (s.2.1 503 j) (nI w / 52) (nI q) 115 t3 = some (r, ML t l2 g p v) := a4
      rw [a4']
      rfl
    rw [← zmx_zmn (z15 j hj)] at hMc
    exact ⟨_, l, f, x, hCc, Or.inr ⟨hO, l2, g, p, v, hMc⟩⟩
