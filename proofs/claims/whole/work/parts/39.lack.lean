/-! lack -/
theorem idxN {v j k : Nat} (hv : v ≤ 1000) (hj : j ≤ 1000) (hk : k ≤ 1000) : nI v * nI k + nI j = nI (k * v + j) := by
  apply i32_of
  have e1 := nI_toInt (n := v) (by omega)
  have e2 := nI_toInt (n := j) (by omega)
  have e3 := nI_toInt (n := k) (by omega)
  rw [idx (k := k) (by omega) (by omega) (by omega) (by omega) e3 hk, e1, e2]
  have : ((k * v + j : Nat) : Int) = (k : Int) * v + j := by rw [Int.natCast_add, Int.natCast_mul]
  rw [this, Int.mul_comm]
theorem idxN2 {v j k : Nat} (hv : v ≤ 1000) (hj : j ≤ 1000) (hk : k ≤ 1000) : nI k * nI v + nI j = nI (k * v + j) := by
  rw [Int32.mul_comm, idxN hv hj hk]
theorem rd_same {s t : St} {k k2 n : Nat} {i : Int32} (h : s.2.1 k = t.2.1 k2) : rd s k n i = rd t k2 n i := by
  unfold rd
  rw [h]
theorem need_ok {s t : St} (h : s.2.1 1012 = t.2.1 1222) {j : Nat} (hj : j < 20) : ∃ r, F_X10_lowestNeed (nI j) s = some r ∧ F_X12_lacksKind (nI j) t = some r := by
  have hB : B_X10_lowestNeed_2 (nI j) s = B_X12_lacksKind_2 (nI j) t := by
    funext x
    unfold B_X10_lowestNeed_2 B_X12_lacksKind_2
    dsimp only
    rw [Int32.mul_comm (nI j) 5, rd_same h]
  obtain ⟨y, h1, _⟩ := lp_inv (B := B_X12_lacksKind_2 (nI j) t) (fun m x => ∃ i : Nat, x = nI i ∧ i + m = 5) (fun _ => True) (by
    rintro m x ⟨i, rfl, hi⟩
    by_cases c : i = 5
    · right
      subst c
      refine ⟨.inl (), ?_, trivial⟩
      unfold B_X12_lacksKind_2
      exact if_pos (by decide)
    · have e5 : (5 : Int32).toInt = 5 := rfl
      have h5 : ¬ (5 : Int32) ≤ nI i := by
        rw [i32_le, nI_toInt (by omega)]
        omega
      have hr : rd t 1222 100 (5 * nI j + nI i) = some (t.2.1 1222 (5 * j + i)) := by
        rw [show (5 : Int32) * nI j + nI i = nI (5 * j + i) from idxN2 (k := 5) (by omega) (by omega) (by omega)]
        exact rd_nI (by omega) (by omega)
      by_cases d : t.2.1 1222 (5 * j + i) ≤ 0
      · left
        refine ⟨nI (i + 1), m - 1, ?_, by omega, i + 1, rfl, by omega⟩
        unfold B_X12_lacksKind_2
        rw [if_neg h5, hr, bind_some, if_pos d, nI_1]
      · right
        refine ⟨.inr (nI i), ?_, trivial⟩
        unfold B_X12_lacksKind_2
        rw [if_neg h5, hr, bind_some, if_neg d]) FU 5 0 ⟨0, rfl, rfl⟩ (FU_lt (by omega))
  refine ⟨Sum.elim (fun _ => -1) id y, ?_, ?_⟩
  · unfold F_X10_lowestNeed F_X10_lowestNeed_2
    rw [hB, h1]
    cases y <;> rfl
  · unfold F_X12_lacksKind F_X12_lacksKind_2
    rw [h1]
    cases y <;> rfl
theorem gave_two {N : Int} {s t : St} (h : RX N s t) {j : Nat} (hj : j < 20) : ∃ (r : Int32) (l f l2 g : Nat → Int32) (x p v : Int32), F_X10_gaveEnough (nI j) (s.1 1100) s = some (r, CL s l f x) ∧ F_X12_isGiven (nI j) t = some (r, ML t l2 g p v) := by
  obtain ⟨z0, z1, z2, z3, z4, z5, z6, z7⟩ := h.folk
  obtain ⟨n, en, en2, _⟩ := i32_nat z1.1
  have hn : n ≤ 24 := by have := z1.2; omega
  rw [h.now.1]
  generalize hq : t.1 1200 = q
  generalize hy : q / 52 = y
  obtain ⟨a, b, h1, h2, l, f, x, l2, g, p, v, h3⟩ := lp_two (B := B_X10_gaveEnough_8 (nI j) q y) (B2 := B_X12_isGiven_10 (nI j) y)
    (fun m X Z => ∃ (i : Nat) (l f : Nat → Int32) (x : Int32) (l2 g : Nat → Int32) (p v : Int32), X = (nI i, CL s l f x) ∧ Z = (nI i, ML t l2 g p v) ∧ i + m = n)
    (fun X Z => ∃ (l f : Nat → Int32) (x : Int32) (l2 g : Nat → Int32) (p v : Int32), (X = .inl (CL s l f x) ∧ Z = .inl (ML t l2 g p v)) ∨ (X = .inr (CL s l f x) ∧ Z = .inr (ML t l2 g p v))) (by
      rintro m _ _ ⟨i, l, f, x, l2, g, p, v, rfl, rfl, hi⟩
      have hR := h.scr l f x l2 g p v
      by_cases c : i = n
      · right
        have h9 : s.1 101 ≤ nI i := by rw [z0, en, c]; exact Int32.le_refl _
        have h8 : t.1 1212 ≤ nI i := by rw [en, c]; exact Int32.le_refl _
        exact ⟨_, _, if_pos h9, if_pos h8, l, f, x, l2, g, p, v, Or.inl ⟨rfl, rfl⟩⟩
      · have hM : ¬ t.1 1212 ≤ nI i := by
          rw [i32_le, nI_toInt (by omega), en2]
          omega
        have hC : ¬ s.1 101 ≤ nI i := by rw [z0]; exact hM
        have hC2 : ¬ (CL s l f x).1 101 ≤ nI i := hC
        have hM2 : ¬ (ML t l2 g p v).1 1212 ≤ nI i := hM
        have hix : nI i * 20 + nI j = nI (20 * i + j) := idxN (k := 20) (by omega) (by omega) (by omega)
        have hix2 : 20 * nI i + nI j = nI (20 * i + j) := idxN2 (k := 20) (by omega) (by omega) (by omega)
        have r1 : rd (CL s l f x) 1014 480 (nI (20 * i + j)) = some (bI (bt (t.2.1 1265 j) i)) := by
          rw [rd_nI (by omega) (by omega)]
          exact congrArg some (h.prom i j (by omega) hj)
        have m1 : rd (ML t l2 g p v) 1265 20 (nI j) = some (t.2.1 1265 j) := rd_nI hj (by omega)
        cases hb : bt (t.2.1 1265 j) i with
        | false =>
          left
          refine ⟨(nI (i + 1), CL s l f x), (nI (i + 1), ML t l2 g p v), m - 1, ?_, ?_, by omega, i + 1, l, f, x, l2, g, p, v, rfl, rfl, by omega⟩
          · unfold B_X10_gaveEnough_8
            dsimp only
            rw [if_neg hC2, hix, r1, bind_some, hb, if_pos (show bI false = 0 from rfl), nI_1]
          · unfold B_X12_isGiven_10
            dsimp only
            rw [if_neg hM2, m1, bind_some, if_pos ((bt_is0 _ (by omega)).mpr hb), nI_1]
        | true =>
          have hb0 : ¬ ((t.2.1 1265 j) >>> (nI i &&& 31)) &&& 1 = 0 := fun e => by
            rw [(bt_is0 _ (by omega)).mp e] at hb
            cases hb
          have hsh : 0 ≤ (t.2.1 1205 i).toInt := (z6 i).1
          have cC := C_childrenOf hR.cnt (nI i) y q
          have cM := M_children (t := ML t l2 g p v) hR.cnt.2.1 (nI i) y q
          obtain ⟨s3, t3, r, l', f', l2', g', x', p', v', a1, a2, a3, a4, ⟨l0, f0, x0, a5⟩, ⟨m0, m1', m2, m3, a6⟩, _⟩ := ask hR (k := 4) (by omega) (shire := t.2.1 1205 i) (year := y) (q := q) (a := cgirls (ML t l2 g p v) (nI i) y q + cboys (ML t l2 g p v) (nI i) y q) (b := t.2.1 1206 i) (c := 0) (d := 0) hsh
          rw [CL_CL] at a3
          rw [ML_ML] at a4
          have e3 : s3.2.1 103 = t.2.1 1205 := by rw [a5]; exact z3
          have e4 : t3.2.1 1266 = t.2.1 1266 := by rw [a6]; rfl
          have e5 : t3.2.1 1205 = t.2.1 1205 := by rw [a6]; rfl
          have e6 : t3.1 1200 = q := by rw [a6]; exact hq
          have k1 : rd (CL s l f x) 104 24 (nI i) = some (t.2.1 1206 i) := by
            rw [rd_nI (by omega) (by omega), ← z4]
            rfl
          have k2 : rd s3 103 24 (nI i) = some (t.2.1 1205 i) := by rw [rd_nI (by omega) (by omega), e3]
          have k3 : rd (CL s l' f' x') 1015 480 (nI (20 * i + j)) = some (t.2.1 1266 (20 * i + j)) := by
            rw [rd_nI (by omega) (by omega), ← h.given.2.2]
            rfl
          have k4 : rd (ML t l2 g p v) 1205 24 (nI i) = some (t.2.1 1205 i) := rd_nI (by omega) (by omega)
          have k5 : rd (ML t l2 g p v) 1206 24 (nI i) = some (t.2.1 1206 i) := rd_nI (by omega) (by omega)
          have k6 : rd t3 1266 480 (nI (20 * i + j)) = some (t.2.1 1266 (20 * i + j)) := by rw [rd_nI (by omega) (by omega), e4]
          have k7 : rd t3 1205 24 (nI i) = some (t.2.1 1205 i) := by rw [rd_nI (by omega) (by omega), e5]
          have k8 : (ML t l2 g p v).1 1200 = q := hq
          have a3' : F_X0_worthOf 4 (t.2.1 1205 i) y q 0 s3 = some (r, CL s l' f' x') := a3
          have a4' : F_X12_worthOf (t.2.1 1205 i) y q 118 t3 = some (r, ML t l2' g' p' v') := a4
          by_cases d : r ≤ t.2.1 1266 (20 * i + j)
          · left
            refine ⟨(nI (i + 1), CL s l' f' x'), (nI (i + 1), ML t l2' g' p' v'), m - 1, ?_, ?_, by omega, i + 1, l', f', x', l2', g', p', v', rfl, rfl, by omega⟩
            · unfold B_X10_gaveEnough_8
              dsimp only
              rw [if_neg hC2, hix, r1, bind_some, hb, if_neg (show ¬ bI true = 0 by decide), cC, bind_some, k1, bind_some, a1, bind_some, k2, bind_some, a3', bind_some]
              dsimp only
              rw [k3, bind_some, if_pos d, nI_1]
            · unfold B_X12_isGiven_10
              dsimp only
              rw [if_neg hM2, m1, bind_some, if_neg hb0, k4, bind_some, k8, cM, bind_some, k5, bind_some, a2, bind_some, hix2, k6, bind_some, k7, bind_some, e6, a4', bind_some]
              dsimp only
              rw [if_pos d, nI_1]
          · right
            refine ⟨.inr (CL s l' f' x'), .inr (ML t l2' g' p' v'), ?_, ?_, l', f', x', l2', g', p', v', Or.inr ⟨rfl, rfl⟩⟩
            · unfold B_X10_gaveEnough_8
              dsimp only
              rw [if_neg hC2, hix, r1, bind_some, hb, if_neg (show ¬ bI true = 0 by decide), cC, bind_some, k1, bind_some, a1, bind_some, k2, bind_some, a3', bind_some]
              dsimp only
              rw [k3, bind_some, if_neg d]
            · unfold B_X12_isGiven_10
              dsimp only
              rw [if_neg hM2, m1, bind_some, if_neg hb0, k4, bind_some, k8, cM, bind_some, k5, bind_some, a2, bind_some, hix2, k6, bind_some, k7, bind_some, e6, a4', bind_some]
              dsimp only
              rw [if_neg d]) FU FU n (0, s) (0, t) ⟨0, s.2.1 7, s.2.1 8, s.1 9, t.2.1 1241, t.2.1 1242, t.1 1243, t.1 1244, by rw [CL_self]; rfl, by rw [ML_self]; rfl, by omega⟩ (FU_lt (by omega)) (FU_lt (by omega))
  unfold F_X10_gaveEnough F_X10_gaveEnough_8 F_X12_isGiven F_X12_isGiven_10
  rw [hq, hy, h1, h2]
  rcases h3 with ⟨rfl, rfl⟩ | ⟨rfl, rfl⟩
  · exact ⟨1, l, f, l2, g, x, p, v, rfl, rfl⟩
  · exact ⟨0, l, f, l2, g, x, p, v, rfl, rfl⟩
theorem P_lack {N : Int} {s t : St} (h : RX N s t) (a : Int32) : Two (RX (N + 1)) (F_X11_lack a s) (F_X12_lack a t) := by
  obtain ⟨z0, z1, _⟩ := h.sch
  unfold F_X11_lack F_X12_lack F_X11_isSchool F_X12_isSchool F_X10_lacking
  rw [z0]
  simp only [bind_some, bI_eq0]
  refine Two_ite (fun _ => Two_ret _ h.up) (fun c1 => ?_)
  obtain ⟨q1, q2⟩ := isN c1 z1
  obtain ⟨j, rfl, ej, _⟩ := i32_nat q1
  have hj : j < 20 := by have := z1.2; omega
  have b1 : s.2.1 508 j = t.2.1 1220 j := (h.blt j hj).1 (by omega)
  rw [rd_nI hj (by omega), rd_nI hj (by omega), b1, bind_some, bind_some]
  by_cases c2 : t.2.1 1220 j = -1
  · rw [if_pos c2, if_pos c2]
    obtain ⟨r, n1, n2⟩ := need_ok h.yard.2.2.2.2.2.2.2.2.2.2.2 hj
    rw [n1, n2, bind_some, bind_some]
    by_cases c3 : r = -1
    · rw [if_pos c3, if_pos c3]
      obtain ⟨r, l, f, l2, g, x, p, v, g1, g2⟩ := gave_two h hj
      rw [g1, g2, bind_some, bind_some]
      by_cases c4 : r = 0
      · rw [if_pos c4, if_pos c4, bind_some]
        exact Two_ret _ (h.scr l f x l2 g p v).up
      · rw [if_neg c4, if_neg c4, bind_some]
        exact Two_ret _ (h.scr l f x l2 g p v).up
    · rw [if_neg c3, if_neg c3, bind_some]
      exact Two_ret _ h.up
  · rw [if_neg c2, if_neg c2, bind_some]
    exact Two_ret _ h.up
