/-! the least school for a teacher -/
def okT (s t : St) (i : Nat) (y q : Int32) (U : Nat → Int32) (j : Nat) : Prop := 0 < (U j).toInt ∧ ∃ m, m < 8 ∧ bt (t.2.1 1218 j) m = true ∧ mayT s t i (t.2.1 1215 j) y q m = true
theorem and_0 (x y : Int32) : x &&& y = 0 ↔ ∀ m, m < 32 → ¬ (bt x m = true ∧ bt y m = true) := by
  constructor
  · rintro h m hm ⟨h1, h2⟩
    have h3 : bt (x &&& y) m = bt 0 m := by rw [h]
    rw [b_and, h1, h2, b_0] at h3
    cases h3
  · intro h
    refine b_ext (fun m hm => ?_)
    rw [b_and, b_0]
    have := h m hm
    cases h1 : bt x m
    · rfl
    · cases h2 : bt y m
      · rfl
      · exact absurd ⟨h1, h2⟩ this
theorem CL_810 (s : St) (V l f : Nat → Int32) (x : Int32) {c : Nat} (v : Int32) (hc : c < 4) : wr (CL (setA s 810 V) l f x) 810 4 (nI c) v = some (CL (setA s 810 (upd V c v)) l f x) := by
  rw [wr_nI hc (by omega)]
  refine congrArg (fun A => some (upd s.1 9 x, A, s.2.2)) ?_
  funext i
  show va_up (va_up (va_up (va_up s.2.1 810 V) 7 l) 8 f) 810 (upd V c v) i = _
  show _ = va_up (va_up (va_up s.2.1 810 (upd V c v)) 7 l) 8 f i
  unfold va_up
  by_cases e : i = 810
  · subst e; rfl
  · simp [e]
theorem RX.set810 {N : Int} {s t : St} (h : RX N s t) (V : Nat → Int32) : RX N (setA s 810 V) t := ⟨h.now, h.folk, h.cnt, h.rec, h.trt, h.sch, h.blt, h.shut, h.tape, h.yard, h.prom, h.given, h.staff, h.roof, h.site, h.purse, h.land, h.law, h.ref, h.row⟩
theorem C_lowestFor {N : Int} {s t : St} (h : RX N s t) {i : Nat} (hi : i < 40) (y q : Int32) {nn : Nat} (en : t.1 1223 = nI nn) (hnn : nn ≤ 20) {V0 : Nat → Int32} (hV0 : ∀ c, c < 4 → V0 c = -1) : ∃ (V l f : Nat → Int32) (x r : Int32), F_X8_lowestFor_11 (nI i) y q 0 (setA s 810 V0) = some (r, CL (setA s 810 V) l f x) ∧ ((r = -1 ∧ ∀ k, k < nn → ¬ okT s t i y q (s.2.1 809) k) ∨ ∃ j, j < nn ∧ r = nI j ∧ okT s t i y q (s.2.1 809) j ∧ ∀ k, k < j → ¬ okT s t i y q (s.2.1 809) k) := by
  obtain ⟨z0, z1, z2, z3, z4, z5, z6, z7, z8, z9, z10, z11, z12, z13, z14, z15⟩ := h.sch
  have e0 : (0 : Int32).toInt = 0 := rfl
  have e3 : (3 : Int32).toInt = 3 := rfl
  let G : (Nat → Int32) → Prop := fun V => ∀ c, c < 4 → V c = -1 ∨ ∀ m, m < 32 → bt (V c) m = (decide (m < 8) && mayT s t i (nI c) y q m)
  obtain ⟨Y, h1, h2⟩ := lp_inv (B := B_X8_lowestFor_11 (nI i) y q)
    (fun m X => ∃ (n : Nat) (V l f : Nat → Int32) (x : Int32), X = (nI n, CL (setA s 810 V) l f x) ∧ n + m = nn ∧ G V ∧ ∀ k, k < n → ¬ okT s t i y q (s.2.1 809) k)
    (fun Y => ∃ (V l f : Nat → Int32) (x : Int32), (Y = .inl (CL (setA s 810 V) l f x) ∧ ∀ k, k < nn → ¬ okT s t i y q (s.2.1 809) k) ∨ ∃ j, j < nn ∧ Y = .inr (nI j, CL (setA s 810 V) l f x) ∧ okT s t i y q (s.2.1 809) j ∧ ∀ k, k < j → ¬ okT s t i y q (s.2.1 809) k) (by
      rintro m _ ⟨n, V, l, f, x, rfl, hn, hG, hk⟩
      by_cases c : n = nn
      · right
        subst c
        have h9 : s.1 501 ≤ nI n := by rw [z0, en]; exact Int32.le_refl _
        exact ⟨_, if_pos h9, V, l, f, x, Or.inl ⟨rfl, hk⟩⟩
      · have h9 : ¬ (CL (setA s 810 V) l f x).1 501 ≤ nI n := by
          show ¬ s.1 501 ≤ nI n
          rw [z0, en, i32_le, nI_toInt (by omega), nI_toInt (by omega)]
          omega
        have ext : ¬ okT s t i y q (s.2.1 809) n → ∀ k, k < n + 1 → ¬ okT s t i y q (s.2.1 809) k := by
          intro h0 k hk2
          by_cases e : k = n
          · rw [e]; exact h0
          · exact hk k (by omega)
        have k1 : rd (CL (setA s 810 V) l f x) 503 20 (nI n) = some (t.2.1 1215 n) := by
          rw [rd_nI (by omega) (by omega), ← z3]
          rfl
        have k2 : rd (CL (setA s 810 V) l f x) 809 20 (nI n) = some (s.2.1 809 n) := rd_nI (by omega) (by omega)
        by_cases hU : s.2.1 809 n ≤ 0
        · left
          refine ⟨(nI (n + 1), CL (setA s 810 V) l f x), m - 1, ?_, by omega, n + 1, V, l, f, x, rfl, by omega, hG, ext (fun e => ?_)⟩
          · unfold B_X8_lowestFor_11
            dsimp only
            rw [if_neg h9, k1, bind_some, k2, bind_some, if_pos hU, nI_1]
          · rw [i32_le, e0] at hU
            have := e.1
            omega
        · have hU2 : 0 < (s.2.1 809 n).toInt := by
            rw [i32_le, e0] at hU
            omega
          obtain ⟨sh1, sh2⟩ := z10 n
          obtain ⟨c, ec, ec2, _⟩ := i32_nat sh1
          have hc : c < 4 := by omega
          have hin : ¬ inb (t.2.1 1215 n) 0 3 = false := by
            rw [inb_no]
            exact fun w => w ⟨by omega, by omega⟩
          have hin2 : ¬ inb (nI c) 0 3 = false := by rw [← ec]; exact hin
          have k3 : ∀ (V l f : Nat → Int32) (x : Int32), rd (CL (setA s 810 V) l f x) 810 4 (nI c) = some (V c) := fun V l f x => rd_nI hc (by omega)
          have k4 : ∀ (V l f : Nat → Int32) (x : Int32), rd (CL (setA s 810 V) l f x) 506 20 (nI n) = some (t.2.1 1218 n) := fun V l f x => by
            rw [rd_nI (by omega) (by omega), ← z6]
            rfl
          have test : ∀ r : Int32, (∀ m, m < 32 → bt r m = (decide (m < 8) && mayT s t i (nI c) y q m)) → (r &&& t.2.1 1218 n = 0 ↔ ¬ okT s t i y q (s.2.1 809) n) := by
            intro r hr
            rw [and_0]
            unfold okT
            rw [ec]
            constructor
            · rintro hh ⟨_, m, m1, m2, m3⟩
              exact hh m (by omega) ⟨by rw [hr m (by omega), m3, decide_eq_true m1]; rfl, m2⟩
            · rintro hh m hm ⟨m1, m2⟩
              rw [hr m hm, Bool.and_eq_true] at m1
              exact hh ⟨hU2, m, of_decide_eq_true m1.1, m2, m1.2⟩
          by_cases hV : V c = -1
          · obtain ⟨r, l', f', x', g1, g2⟩ := C_tongues (h.set810 V) hi (shire := nI c) (y := y) (q := q) (by rw [← ec]; exact sh1) l f x
            have g2' : ∀ m, m < 32 → bt r m = (decide (m < 8) && mayT s t i (nI c) y q m) := g2
            have hG2 : G (upd V c r) := by
              intro c2 hc2
              by_cases e : c2 = c
              · right
                intro m hm
                rw [e]
                show bt (if c = c then r else V c) m = _
                rw [if_pos rfl]
                exact g2' m hm
              · have : upd V c r c2 = V c2 := if_neg e
                rw [this]
                exact hG c2 hc2
            have hB : B_X8_lowestFor_11 (nI i) y q (nI n, CL (setA s 810 V) l f x) = if r &&& t.2.1 1218 n = 0 then some (.inl (nI (n + 1), CL (setA s 810 (upd V c r)) l' f' x')) else some (.inr (.inr (nI n, CL (setA s 810 (upd V c r)) l' f' x'))) := by
              unfold B_X8_lowestFor_11
              dsimp only
              rw [if_neg h9, k1, bind_some, k2, bind_some, if_neg hU, if_neg hin, ec, k3, bind_some, if_pos hV, g1, bind_some]
              dsimp only
              rw [CL_810 s V l' f' x' r hc, bind_some, k3, bind_some, k4, bind_some, nI_1]
              have : upd V c r c = r := if_pos rfl
              rw [this]
            by_cases d : r &&& t.2.1 1218 n = 0
            · left
              exact ⟨_, m - 1, by rw [hB, if_pos d], by omega, n + 1, _, l', f', x', rfl, by omega, hG2, ext ((test r g2').mp d)⟩
            · right
              exact ⟨_, by rw [hB, if_neg d], _, l', f', x', Or.inr ⟨n, by omega, rfl, Classical.byContradiction (fun w => d ((test r g2').mpr w)), hk⟩⟩
          · have g2' := (hG c hc).resolve_left hV
            have hB : B_X8_lowestFor_11 (nI i) y q (nI n, CL (setA s 810 V) l f x) = if V c &&& t.2.1 1218 n = 0 then some (.inl (nI (n + 1), CL (setA s 810 V) l f x)) else some (.inr (.inr (nI n, CL (setA s 810 V) l f x))) := by
              unfold B_X8_lowestFor_11
              dsimp only
              rw [if_neg h9, k1, bind_some, k2, bind_some, if_neg hU, if_neg hin, ec, k3, bind_some, if_neg hV, bind_some, k4, bind_some, nI_1]
            by_cases d : V c &&& t.2.1 1218 n = 0
            · left
              exact ⟨_, m - 1, by rw [hB, if_pos d], by omega, n + 1, _, l, f, x, rfl, by omega, hG, ext ((test _ g2').mp d)⟩
            · right
              exact ⟨_, by rw [hB, if_neg d], _, l, f, x, Or.inr ⟨n, by omega, rfl, Classical.byContradiction (fun w => d ((test _ g2').mpr w)), hk⟩⟩) FU nn (0, setA s 810 V0) ⟨0, V0, (setA s 810 V0).2.1 7, (setA s 810 V0).2.1 8, (setA s 810 V0).1 9, by rw [CL_self]; rfl, by omega, fun c hc => Or.inl (hV0 c hc), fun k hk => absurd hk (by omega)⟩ (FU_lt (by omega))
  unfold F_X8_lowestFor_11
  rw [h1]
  obtain ⟨V, l, f, x, ⟨rfl, h3⟩ | ⟨j, hj, rfl, h4, h5⟩⟩ := h2
  · exact ⟨V, l, f, x, -1, rfl, Or.inl ⟨rfl, h3⟩⟩
  · exact ⟨V, l, f, x, nI j, rfl, Or.inr ⟨j, hj, rfl, h4, h5⟩⟩
