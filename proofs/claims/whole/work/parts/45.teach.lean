/-! may a teacher teach at a school -/
theorem bit_one {n j : Nat} (hn : n < 32) (hj : j < 32) : bt ((1 : Int32) <<< (nI n &&& 31)) j = decide (j = n) := by
  rw [b_shl n hn 1 hj, b_1]
  by_cases e : j = n
  · subst e
    simp
  · rw [decide_eq_false e]
    by_cases e2 : n ≤ j
    · rw [decide_eq_false (show ¬ j - n = 0 by omega), Bool.and_false]
    · rw [decide_eq_false e2, Bool.false_and]
theorem and_bit0 (x : Int32) {n : Nat} (hn : n < 32) : x &&& ((1 : Int32) <<< (nI n &&& 31)) = 0 ↔ bt x n = false := by
  constructor
  · intro h
    have h1 : bt (x &&& ((1 : Int32) <<< (nI n &&& 31))) n = bt 0 n := by rw [h]
    rw [b_and, bit_one hn hn, b_0, decide_eq_true rfl, Bool.and_true] at h1
    exact h1
  · intro h
    refine b_ext (fun j hj => ?_)
    rw [b_and, bit_one hn hj, b_0]
    by_cases e : j = n
    · subst e
      rw [h, Bool.false_and]
    · rw [decide_eq_false e, Bool.and_false]
theorem M_mayTeach {N : Int} {s t : St} (h : RX N s t) {i j : Nat} (hi : i < 40) (hj : j < 20) (w q : Int32) (l2 g : Nat → Int32) (p v : Int32) : ∃ (r : Bool) (l' g' : Nat → Int32) (p' v' : Int32), F_X12_mayTeach (nI i) (nI j) w q (ML t l2 g p v) = some (bI r, ML t l' g' p' v') ∧ (r = true ↔ ∃ m, m < 8 ∧ bt (t.2.1 1218 j) m = true ∧ mayT s t i (t.2.1 1215 j) (w / 52) q m = true) := by
  have e8 : (8 : Int32).toInt = 8 := rfl
  have hsh : 0 ≤ (t.2.1 1215 j).toInt := (h.sch.2.2.2.2.2.2.2.2.2.2.1 j).1
  generalize hy : w / 52 = y
  obtain ⟨Y, h1, h2⟩ := lp_inv (B := B_X12_mayTeach_9 (nI i) (nI j) q y)
    (fun m X => ∃ (n : Nat) (l2 g : Nat → Int32) (p v : Int32), X = (nI n, ML t l2 g p v) ∧ n + m = 8 ∧ ∀ k, k < n → ¬ (bt (t.2.1 1218 j) k = true ∧ mayT s t i (t.2.1 1215 j) y q k = true))
    (fun Y => ∃ (l2 g : Nat → Int32) (p v : Int32), (Y = .inl (ML t l2 g p v) ∧ ∀ k, k < 8 → ¬ (bt (t.2.1 1218 j) k = true ∧ mayT s t i (t.2.1 1215 j) y q k = true)) ∨ (Y = .inr (ML t l2 g p v) ∧ ∃ m, m < 8 ∧ bt (t.2.1 1218 j) m = true ∧ mayT s t i (t.2.1 1215 j) y q m = true)) (by
      rintro m _ ⟨n, l2, g, p, v, rfl, hn, hk⟩
      by_cases c : n = 8
      · right
        subst c
        have h9 : (8 : Int32) ≤ nI 8 := by decide
        refine ⟨.inl (ML t l2 g p v), ?_, l2, g, p, v, Or.inl ⟨rfl, hk⟩⟩
        unfold B_X12_mayTeach_9
        dsimp only
        rw [if_pos h9]
      · have h9 : ¬ (8 : Int32) ≤ nI n := by
          rw [i32_le, nI_toInt (by omega)]
          omega
        have k1 : rd (ML t l2 g p v) 1270 40 (nI i) = some (t.2.1 1270 i) := rd_nI hi (by omega)
        have k2 : rd (ML t l2 g p v) 1218 20 (nI j) = some (t.2.1 1218 j) := rd_nI hj (by omega)
        have k3 : rd (ML t l2 g p v) 1215 20 (nI j) = some (t.2.1 1215 j) := rd_nI hj (by omega)
        have k4 : rd (ML t l2 g p v) 1268 40 (nI i) = some (t.2.1 1268 i) := rd_nI hi (by omega)
        have k5 : rd (ML t l2 g p v) 1269 40 (nI i) = some (t.2.1 1269 i) := rd_nI hi (by omega)
        have ext : ¬ (bt (t.2.1 1218 j) n = true ∧ mayT s t i (t.2.1 1215 j) y q n = true) → ∀ k, k < n + 1 → ¬ (bt (t.2.1 1218 j) k = true ∧ mayT s t i (t.2.1 1215 j) y q k = true) := by
          intro h0 k hk2
          by_cases e : k = n
          · rw [e]; exact h0
          · exact hk k (by omega)
        by_cases hb : bt (t.2.1 1270 i &&& t.2.1 1218 j) n = false
        · left
          refine ⟨(nI (n + 1), ML t l2 g p v), m - 1, ?_, by omega, n + 1, l2, g, p, v, rfl, by omega, ext ?_⟩
          · unfold B_X12_mayTeach_9
            dsimp only
            rw [if_neg h9, k1, bind_some, k2, bind_some, if_pos ((and_bit0 _ (by omega)).mpr hb), nI_1]
          · rintro ⟨a1, a2⟩
            unfold mayT at a2
            rw [b_and, a1, Bool.and_true] at hb
            rw [hb, Bool.false_and] at a2
            cases a2
        · have hb2 := hb
          rw [Bool.not_eq_false, b_and, Bool.and_eq_true] at hb2
          obtain ⟨s3, t3, l', f', l2', g', x', p', v', a1, a2, a3, a4, _, ⟨m0, m1, m2, m3, a6⟩, _⟩ := ask_det h (k := 3) (by omega) (shire := t.2.1 1215 j) (year := y) (q := q) (a := 0) (b := nI n) (c := y - t.2.1 1268 i) (d := t.2.1 1269 i) hsh (s.2.1 7) (s.2.1 8) (s.1 9) l2 g p v
          have k6 : rd t3 1215 20 (nI j) = some (t.2.1 1215 j) := by
            rw [rd_nI hj (by omega), a6]
            rfl
          have a4' : F_X12_worthOf (t.2.1 1215 j) y q 116 t3 = some (wq s t 3 (t.2.1 1215 j) y q 0 (nI n) (y - t.2.1 1268 i) (t.2.1 1269 i), ML t l2' g' p' v') := a4
          by_cases d : wq s t 3 (t.2.1 1215 j) y q 0 (nI n) (y - t.2.1 1268 i) (t.2.1 1269 i) = 0
          · left
            refine ⟨(nI (n + 1), ML t l2' g' p' v'), m - 1, ?_, by omega, n + 1, l2', g', p', v', rfl, by omega, ext ?_⟩
            · unfold B_X12_mayTeach_9
              dsimp only
              rw [if_neg h9, k1, bind_some, k2, bind_some, if_neg (fun e => hb ((and_bit0 _ (by omega)).mp e)), k3, bind_some, k4, bind_some, k5, bind_some, a2, bind_some, k6, bind_some, a4', bind_some, if_pos d, nI_1]
            · rintro ⟨_, b2⟩
              unfold mayT at b2
              rw [decide_eq_false (fun e => e d), Bool.and_false] at b2
              cases b2
          · right
            refine ⟨.inr (ML t l2' g' p' v'), ?_, l2', g', p', v', Or.inr ⟨rfl, n, by omega, hb2.2, ?_⟩⟩
            · unfold B_X12_mayTeach_9
              dsimp only
              rw [if_neg h9, k1, bind_some, k2, bind_some, if_neg (fun e => hb ((and_bit0 _ (by omega)).mp e)), k3, bind_some, k4, bind_some, k5, bind_some, a2, bind_some, k6, bind_some, a4', bind_some, if_neg d]
            · unfold mayT
              rw [hb2.1, decide_eq_true d]
              rfl) FU 8 (0, ML t l2 g p v) ⟨0, l2, g, p, v, rfl, by omega, fun k hk => absurd hk (by omega)⟩ (FU_lt (by omega))
  obtain ⟨l', g', p', v', ⟨rfl, h3⟩ | ⟨rfl, h3⟩⟩ := h2
  · refine ⟨false, l', g', p', v', ?_, ⟨fun e => (by cases e), fun ⟨m, m1, m2, m3⟩ => absurd ⟨m2, m3⟩ (h3 m m1)⟩⟩
    unfold F_X12_mayTeach F_X12_mayTeach_9
    rw [hy, h1]
    rfl
  · refine ⟨true, l', g', p', v', ?_, ⟨fun _ => h3, fun _ => rfl⟩⟩
    unfold F_X12_mayTeach F_X12_mayTeach_9
    rw [hy, h1]
    rfl
