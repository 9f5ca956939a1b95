/-! who sits where -/
def rsum (f : Nat → Int) : Nat → Int
  | 0 => 0
  | n + 1 => rsum f n + f n
theorem rsum_cong {f g : Nat → Int} : ∀ {n : Nat}, (∀ j, j < n → f j = g j) → rsum f n = rsum g n
  | 0, _ => rfl
  | n + 1, h => by
    unfold rsum
    rw [rsum_cong (fun j hj => h j (by omega)), h n (by omega)]
theorem rsum_upd {f g : Nat → Int} {k : Nat} {d : Int} : ∀ {n : Nat}, (∀ j, j < n → g j = f j + if j = k then d else 0) → rsum g n = rsum f n + if k < n then d else 0
  | 0, _ => rfl
  | n + 1, h => by
    have ih := rsum_upd (f := f) (g := g) (k := k) (d := d) (n := n) (fun j hj => h j (by omega))
    have hn := h n (by omega)
    unfold rsum
    rw [ih, hn]
    by_cases c : k < n
    · rw [if_pos c, if_neg (show ¬ n = k by omega), if_pos (show k < n + 1 by omega)]
      omega
    · rw [if_neg c]
      by_cases e : n = k
      · rw [if_pos e, if_pos (show k < n + 1 by omega)]
        omega
      · rw [if_neg e, if_neg (show ¬ k < n + 1 by omega)]
        omega
theorem rsum_ge {f : Nat → Int} : ∀ {n : Nat}, (∀ j, j < n → 0 ≤ f j) → 0 ≤ rsum f n
  | 0, _ => Int.le_refl _
  | n + 1, h => by
    have ih := rsum_ge (f := f) (n := n) (fun j hj => h j (by omega))
    have := h n (by omega)
    unfold rsum
    omega
theorem rsum_one {f : Nat → Int} {k : Nat} : ∀ {n : Nat}, (∀ j, j < n → 0 ≤ f j) → k < n → f k ≤ rsum f n
  | 0, _, hk => absurd hk (by omega)
  | n + 1, h, hk => by
    have h0 := rsum_ge (f := f) (n := n) (fun j hj => h j (by omega))
    have hn := h n (by omega)
    unfold rsum
    by_cases e : k = n
    · rw [e]
      omega
    · have ih := rsum_one (f := f) (k := k) (n := n) (fun j hj => h j (by omega)) (by omega)
      omega
/-- a way to seat that is right: rows, columns -/
def FI (nn V : Nat) (ok : Nat → Nat → Prop) (S O Lf : Nat → Int32) (O0 C0 : Nat → Int) : Prop := (∀ i, i < V → ∀ k, k < nn → 0 ≤ (S (20 * i + k)).toInt ∧ (¬ (S (20 * i + k)).toInt = 0 → ok i k)) ∧ (∀ i, i < V → 0 ≤ (O i).toInt ∧ rsum (fun k => (S (20 * i + k)).toInt) nn + (O i).toInt = O0 i) ∧ ∀ k, k < nn → rsum (fun i => (S (20 * i + k)).toInt) V + max 0 (Lf k).toInt = C0 k
theorem FI_cell {nn V : Nat} {ok : Nat → Nat → Prop} {S O Lf : Nat → Int32} {O0 C0 : Nat → Int} (h : FI nn V ok S O Lf O0 C0) {i k : Nat} (hi : i < V) (hk : k < nn) : (S (20 * i + k)).toInt + (O i).toInt ≤ O0 i := by
  have h1 := rsum_one (f := fun k => (S (20 * i + k)).toInt) (k := k) (n := nn) (fun j hj => (h.1 i hi j hj).1) hk
  have h2 := (h.2.1 i hi).2
  have h3 : (fun k => (S (20 * i + k)).toInt) k = (S (20 * i + k)).toInt := rfl
  omega
theorem FI_move {nn V : Nat} {ok : Nat → Nat → Prop} {S O Lf : Nat → Int32} {O0 C0 : Nat → Int} (h : FI nn V ok S O Lf O0 C0) (hnn : nn ≤ 20) (hO : ∀ i, i < V → O0 i ≤ 100000) {i k : Nat} (hi : i < V) (hk : k < nn) (hok : ok i k) {m : Int32} (m0 : 0 ≤ m.toInt) (m1 : m.toInt ≤ (O i).toInt) (m2 : m.toInt ≤ (Lf k).toInt) (m3 : 0 < (Lf k).toInt) : FI nn V ok (upd S (20 * i + k) (S (20 * i + k) + m)) (upd O i (O i - m)) (upd Lf k (Lf k - m)) O0 C0 := by
  have hc := FI_cell h hi hk
  have hO0 := hO i hi
  have s0 := (h.1 i hi k hk).1
  have lim := Int32.toInt_lt (Lf k)
  have eS : (S (20 * i + k) + m).toInt = (S (20 * i + k)).toInt + m.toInt := i32_add (by omega) (by omega)
  have eO : (O i - m).toInt = (O i).toInt - m.toInt := i32_sub (by omega) (by omega)
  have eL : (Lf k - m).toInt = (Lf k).toInt - m.toInt := i32_sub (by omega) (by omega)
  refine ⟨fun i' hi' k' hk' => ?_, fun i' hi' => ?_, fun k' hk' => ?_⟩
  · by_cases e : 20 * i' + k' = 20 * i + k
    · have e1 : i' = i := by omega
      have e2 : k' = k := by omega
      subst e1 e2
      rw [upd_at, eS]
      exact ⟨by omega, fun _ => hok⟩
    · rw [upd_ne _ _ e]
      exact h.1 i' hi' k' hk'
  · obtain ⟨a1, a2⟩ := h.2.1 i' hi'
    by_cases e : i' = i
    · subst e
      have := rsum_upd (f := fun k => (S (20 * i' + k)).toInt) (g := fun j => (upd S (20 * i' + k) (S (20 * i' + k) + m) (20 * i' + j)).toInt) (k := k) (d := m.toInt) (n := nn) (fun j hj => by
        by_cases e2 : j = k
        · subst e2
          show (upd S (20 * i' + j) (S (20 * i' + j) + m) (20 * i' + j)).toInt = (S (20 * i' + j)).toInt + _
          rw [if_pos rfl, upd_at, eS]
        · show (upd S (20 * i' + k) (S (20 * i' + k) + m) (20 * i' + j)).toInt = (S (20 * i' + j)).toInt + _
          rw [if_neg e2, upd_ne _ _ (by omega), Int.add_zero])
      rw [if_pos hk] at this
      rw [this, upd_at, eO]
      exact ⟨by omega, by omega⟩
    · rw [upd_ne _ _ e]
      refine ⟨a1, ?_⟩
      rw [← a2]
      congr 1
      exact rsum_cong (fun j hj => by rw [upd_ne _ _ (by omega)])
  · have a2 := h.2.2 k' hk'
    by_cases e : k' = k
    · subst e
      have := rsum_upd (f := fun i => (S (20 * i + k')).toInt) (g := fun j => (upd S (20 * i + k') (S (20 * i + k') + m) (20 * j + k')).toInt) (k := i) (d := m.toInt) (n := V) (fun j hj => by
        by_cases e2 : j = i
        · subst e2
          show (upd S (20 * j + k') (S (20 * j + k') + m) (20 * j + k')).toInt = (S (20 * j + k')).toInt + _
          rw [if_pos rfl, upd_at, eS]
        · show (upd S (20 * i + k') (S (20 * i + k') + m) (20 * j + k')).toInt = (S (20 * j + k')).toInt + _
          rw [if_neg e2, upd_ne _ _ (by omega), Int.add_zero])
      rw [if_pos hi] at this
      rw [this, upd_at, eL]
      omega
    · rw [upd_ne _ _ e, ← a2]
      congr 1
      exact rsum_cong (fun j hj => by rw [upd_ne _ _ (by omega)])
/-- a way is none or small -/
theorem wayV_cases {N : Int} {s t : St} (h : RX N s t) {e : Nat} (he : e = 0 ∨ e = 1) (y q : Int32) (i k : Nat) : wayV s t e y q i k = -1 ∨ ∃ x : Nat, x ≤ 11880 ∧ wayV s t e y q i k = nI x := by
  obtain ⟨z0, z1, z2, z3, z4, z5, z6, z7, z8, z9, _⟩ := h.sch
  obtain ⟨f0, f1, f2, f3, f4, f5, f6, f7⟩ := h.folk
  have hb := f5 i
  have hc := z9 k
  obtain ⟨b1, b2⟩ := hb
  obtain ⟨c1, c2⟩ := hc
  have hF := Fw_ok h he (b := (t.2.1 1204 i).toInt.toNat) (by omega)
  unfold wayV
  rcases near_cases (F := Fw t e (t.2.1 1204 i).toInt.toNat) (c := (t.2.1 1214 k).toInt.toNat) (hF.2 _ (by omega)) with ⟨q1, q2⟩ | ⟨x, x1, q1, q2, q3, q4⟩
  · exact Or.inl (if_pos q1)
  · rw [q1, if_neg q2]
    split
    · exact Or.inl rfl
    · split
      · exact Or.inr ⟨x, x1, rfl⟩
      · exact Or.inl rfl
/-- what both hold after the survey, and while they seat (base s1, t1; W: ways) -/
def SR (W : Nat → Nat → Int32) (nn V : Nat) (s1 t1 : St) (O0 C0 : Nat → Int) (i : Nat) (s t : St) : Prop := SS s1 s ∧ SS t1 t ∧ s.2.1 604 = s1.2.1 604 ∧ t.2.1 1248 = t1.2.1 1248 ∧ t.2.1 1249 = t1.2.1 1249 ∧ (∀ k, k < nn → s.2.1 607 k = t.2.1 1246 k) ∧ (∀ j, j < V → s.2.1 606 j = t.2.1 1247 j) ∧ (∀ j, j < i → j < V → ∀ k, k < nn → s.2.1 605 (20 * j + k) = t.2.1 1245 (20 * j + k)) ∧ (∀ j, i ≤ j → j < V → ∀ k, k < nn → s.2.1 605 (20 * j + k) = 0) ∧ FI nn V (fun i k => ¬ W i k = -1) (s.2.1 605) (s.2.1 606) (s.2.1 607) O0 C0
/-- the ways as both hold them -/
def WF (W : Nat → Nat → Int32) (nn V : Nat) (s1 t1 : St) : Prop := s1.1 501 = nI nn ∧ t1.1 1223 = nI nn ∧ s1.1 101 = nI V ∧ t1.1 1212 = nI V ∧ nn ≤ 20 ∧ V ≤ 24 ∧ (∀ i k, W i k = -1 ∨ ∃ x : Nat, x ≤ 11880 ∧ W i k = nI x) ∧ ∀ i, i < V → ∀ k, k < nn → s1.2.1 604 (20 * i + k) = W i k ∧ t1.2.1 1249 (20 * i + k) = bI (decide (¬ W i k = -1)) ∧ (¬ W i k = -1 → t1.2.1 1248 (20 * i + k) = W i k)
theorem near_seat {W : Nat → Nat → Int32} {nn V : Nat} {s1 t1 s t : St} (hW : WF W nn V s1 t1) (hs : SS s1 s) (ht : SS t1 t) (e4 : s.2.1 604 = s1.2.1 604) (e8 : t.2.1 1248 = t1.2.1 1248) (e9 : t.2.1 1249 = t1.2.1 1249) (e7 : ∀ k, k < nn → s.2.1 607 k = t.2.1 1246 k) {i : Nat} (hi : i < V) : ∃ r, F_X6_nearest (nI i) s = some r ∧ lp (B_X12_seatAll_73 (nI i) t) FU (-1, 0, 0) = some r ∧ ((r = -1 ∧ ∀ k, k < nn → ¬ (0 < (t.2.1 1246 k).toInt ∧ ¬ W i k = -1)) ∨ ∃ k, k < nn ∧ r = nI k ∧ 0 < (t.2.1 1246 k).toInt ∧ ¬ W i k = -1) := by
  obtain ⟨w1, w2, w3, w4, hnn, hV, wc, wk⟩ := hW
  have e0 : (0 : Int32).toInt = 0 := rfl
  have eB : (100000000 : Int32).toInt = 100000000 := rfl
  obtain ⟨y, z, h1, h2, rfl, h3⟩ := lp_two (B := B_X6_nearest_8 (nI i) s) (B2 := B_X12_seatAll_73 (nI i) t)
    (fun m X Z => ∃ (n : Nat) (r lc lm : Int32), X = (r, lc, nI n) ∧ Z = (r, lm, nI n) ∧ n + m = nn ∧ ((r = -1 ∧ lc = 100000000 ∧ ∀ k, k < n → ¬ (0 < (t.2.1 1246 k).toInt ∧ ¬ W i k = -1)) ∨ (lc = lm ∧ ∃ k, k < nn ∧ r = nI k ∧ 0 < (t.2.1 1246 k).toInt ∧ ¬ W i k = -1)))
    (fun y z => y = z ∧ ((y = -1 ∧ ∀ k, k < nn → ¬ (0 < (t.2.1 1246 k).toInt ∧ ¬ W i k = -1)) ∨ ∃ k, k < nn ∧ y = nI k ∧ 0 < (t.2.1 1246 k).toInt ∧ ¬ W i k = -1)) (by
      rintro m _ _ ⟨n, r, lc, lm, rfl, rfl, hn, hI⟩
      have i1 : s.1 501 = nI nn := by rw [hs.i (k := 501) rfl, w1]
      have i2 : t.1 1223 = nI nn := by rw [ht.i (k := 1223) rfl, w2]
      by_cases c : n = nn
      · right
        subst c
        refine ⟨r, r, ?_, ?_, rfl, ?_⟩
        · unfold B_X6_nearest_8
          dsimp only
          rw [i1, if_pos (Int32.le_refl _)]
        · unfold B_X12_seatAll_73
          dsimp only
          rw [i2, if_pos (Int32.le_refl _)]
        · rcases hI with ⟨a1, _, a2⟩ | ⟨_, a2⟩
          · exact Or.inl ⟨a1, a2⟩
          · exact Or.inr a2
      · left
        have h9 : ¬ nI nn ≤ nI n := by
          rw [i32_le, nI_toInt (by omega), nI_toInt (by omega)]
          omega
        obtain ⟨p1, p2, p3⟩ := wk i hi n (by omega)
        have ix : nI i * 20 + nI n = nI (20 * i + n) := idxN (k := 20) (by omega) (by omega) (by omega)
        have ix2 : 20 * nI i + nI n = nI (20 * i + n) := idxN2 (k := 20) (by omega) (by omega) (by omega)
        have k1 : rd s 604 480 (nI (20 * i + n)) = some (W i n) := by rw [rd_nI (by omega) (by omega), e4, p1]
        have k2 : rd s 607 20 (nI n) = some (t.2.1 1246 n) := by rw [rd_nI (by omega) (by omega), e7 n (by omega)]
        have m1 : rd t 1248 480 (nI (20 * i + n)) = some (t1.2.1 1248 (20 * i + n)) := by rw [rd_nI (by omega) (by omega), e8]
        have m2 : rd t 1246 20 (nI n) = some (t.2.1 1246 n) := rd_nI (by omega) (by omega)
        have m3 : rd t 1249 480 (nI (20 * i + n)) = some (bI (decide (¬ W i n = -1))) := by rw [rd_nI (by omega) (by omega), e9, p2]
        have stay : ¬ (0 < (t.2.1 1246 n).toInt ∧ ¬ W i n = -1) → ((r = -1 ∧ lc = 100000000 ∧ ∀ k, k < n + 1 → ¬ (0 < (t.2.1 1246 k).toInt ∧ ¬ W i k = -1)) ∨ (lc = lm ∧ ∃ k, k < nn ∧ r = nI k ∧ 0 < (t.2.1 1246 k).toInt ∧ ¬ W i k = -1)) := by
          intro hno
          rcases hI with ⟨a1, a0, a2⟩ | a2
          · refine Or.inl ⟨a1, a0, fun k hk => ?_⟩
            by_cases e : k = n
            · rw [e]; exact hno
            · exact a2 k (by omega)
          · exact Or.inr a2
        by_cases u1 : t.2.1 1246 n ≤ 0
        · have hno : ¬ (0 < (t.2.1 1246 n).toInt ∧ ¬ W i n = -1) := by
            rw [i32_le, e0] at u1
            exact fun z => by have := z.1; omega
          refine ⟨(r, lc, nI (n + 1)), (r, lm, nI (n + 1)), m - 1, ?_, ?_, by omega, n + 1, r, lc, lm, rfl, rfl, by omega, stay hno⟩
          · unfold B_X6_nearest_8
            dsimp only
            rw [i1, if_neg h9, ix, k1, bind_some]
            by_cases u2 : W i n = -1
            · rw [if_pos u2, nI_1]
            · rw [if_neg u2, k2, bind_some, if_pos u1, nI_1]
          · unfold B_X12_seatAll_73
            dsimp only
            rw [i2, if_neg h9, ix2, m1, bind_some, m2, bind_some, if_pos u1, nI_1]
        · have u1' := u1
          rw [i32_le, e0] at u1'
          by_cases u2 : W i n = -1
          · have hno : ¬ (0 < (t.2.1 1246 n).toInt ∧ ¬ W i n = -1) := fun z => z.2 u2
            refine ⟨(r, lc, nI (n + 1)), (r, lm, nI (n + 1)), m - 1, ?_, ?_, by omega, n + 1, r, lc, lm, rfl, rfl, by omega, stay hno⟩
            · unfold B_X6_nearest_8
              dsimp only
              rw [i1, if_neg h9, ix, k1, bind_some, if_pos u2, nI_1]
            · unfold B_X12_seatAll_73
              dsimp only
              rw [i2, if_neg h9, ix2, m1, bind_some, m2, bind_some, if_neg u1, m3, bind_some, decide_eq_false (fun z => z u2), if_pos (show bI false = 0 from rfl), nI_1]
          · have q8 := p3 u2
            rw [q8] at m1
            have q9 : bI (decide (¬ W i n = -1)) = 1 := by rw [decide_eq_true u2]; rfl
            rw [q9] at m3
            have take : ∃ k, k < nn ∧ nI n = nI k ∧ 0 < (t.2.1 1246 k).toInt ∧ ¬ W i k = -1 := ⟨n, by omega, rfl, by omega, u2⟩
            rcases hI with ⟨a1, a0, a2⟩ | ⟨a1, a2⟩
            · have u3 : ¬ lc ≤ W i n := by
                obtain ⟨x, x1, x2⟩ := (wc i n).resolve_left u2
                rw [a0, x2, i32_le, nI_toInt (by omega), eB]
                omega
              refine ⟨(nI n, W i n, nI (n + 1)), (nI n, W i n, nI (n + 1)), m - 1, ?_, ?_, by omega, n + 1, _, _, _, rfl, rfl, by omega, Or.inr ⟨rfl, take⟩⟩
              · unfold B_X6_nearest_8
                dsimp only
                rw [i1, if_neg h9, ix, k1, bind_some, if_neg u2, k2, bind_some, if_neg u1, if_neg u3, nI_1]
              · unfold B_X12_seatAll_73
                dsimp only
                rw [i2, if_neg h9, ix2, m1, bind_some, m2, bind_some, if_neg u1, m3, bind_some, if_neg (show ¬ (1 : Int32) = 0 by decide), if_pos a1, nI_1]
            · subst a1
              obtain ⟨k, k3, k4, k5, k6⟩ := a2
              have nr : ¬ r = -1 := by rw [k4]; exact nI_neg1 (by omega)
              by_cases u3 : lc ≤ W i n
              · refine ⟨(r, lc, nI (n + 1)), (r, lc, nI (n + 1)), m - 1, ?_, ?_, by omega, n + 1, _, _, _, rfl, rfl, by omega, Or.inr ⟨rfl, k, k3, k4, k5, k6⟩⟩
                · unfold B_X6_nearest_8
                  dsimp only
                  rw [i1, if_neg h9, ix, k1, bind_some, if_neg u2, k2, bind_some, if_neg u1, if_pos u3, nI_1]
                · unfold B_X12_seatAll_73
                  dsimp only
                  rw [i2, if_neg h9, ix2, m1, bind_some, m2, bind_some, if_neg u1, m3, bind_some, if_neg (show ¬ (1 : Int32) = 0 by decide), if_neg nr, if_pos u3, nI_1]
              · refine ⟨(nI n, W i n, nI (n + 1)), (nI n, W i n, nI (n + 1)), m - 1, ?_, ?_, by omega, n + 1, _, _, _, rfl, rfl, by omega, Or.inr ⟨rfl, take⟩⟩
                · unfold B_X6_nearest_8
                  dsimp only
                  rw [i1, if_neg h9, ix, k1, bind_some, if_neg u2, k2, bind_some, if_neg u1, if_neg u3, nI_1]
                · unfold B_X12_seatAll_73
                  dsimp only
                  rw [i2, if_neg h9, ix2, m1, bind_some, m2, bind_some, if_neg u1, m3, bind_some, if_neg (show ¬ (1 : Int32) = 0 by decide), if_neg nr, if_neg u3, nI_1]) FU FU nn (-1, 100000000, 0) (-1, 0, 0) ⟨0, -1, 100000000, 0, rfl, rfl, by omega, Or.inl ⟨rfl, rfl, fun k hk => absurd hk (by omega)⟩⟩ (FU_lt (by omega)) (FU_lt (by omega))
  refine ⟨y, ?_, h2, h3⟩
  unfold F_X6_nearest F_X6_nearest_8
  rw [h1]
  rfl
/-- one village: seat by seat -/
theorem seat_rec {W : Nat → Nat → Int32} {nn V : Nat} {s1 t1 : St} {O0 C0 : Nat → Int} (hW : WF W nn V s1 t1) (hO : ∀ i, i < V → O0 i ≤ 100000) {i : Nat} (hi : i < V) : ∀ (m n : Nat) (s t : St), n + m = nn → SR W nn V s1 t1 O0 C0 (i + 1) s t → (cn (fun k => decide (0 < (t.2.1 1246 k).toInt)) nn ≤ m ∨ (t.2.1 1247 i).toInt ≤ 0) → ∀ F F2, m + 1 < F → m + 2 < F2 → ∃ y t', lp (B_X6_seatAll_23 (nI i)) F (nI n, s) = some y ∧ lp (B_X12_seatAll_50 (nI i)) F2 (1, t) = some t' ∧ SR W nn V s1 t1 O0 C0 (i + 1) (Sum.elim id id y) t' := by
  have e0 : (0 : Int32).toInt = 0 := rfl
  obtain ⟨w1, w2, w3, w4, hnn, hV, wc, wk⟩ := hW
  have hi24 : i < 24 := by omega
  -- the reference ends when nobody is left, or nothing is free
  have endM : ∀ (s t : St) (F2 : Nat), SR W nn V s1 t1 O0 C0 (i + 1) s t → (t.2.1 1247 i).toInt ≤ 0 → 0 < F2 → lp (B_X12_seatAll_50 (nI i)) F2 (1, t) = some t := by
    intro s t F2 hR h0 hF2
    obtain ⟨F2, rfl⟩ : ∃ F', F2 = F' + 1 := ⟨F2 - 1, by omega⟩
    refine lp_r ?_
    unfold B_X12_seatAll_50
    dsimp only
    rw [if_neg (show ¬ (1 : Int32) = 0 by decide), rd_nI hi24 (by omega), bind_some, if_pos (by rw [i32_le, e0]; exact h0)]
  have idleM : ∀ (s t : St) (F2 : Nat), SR W nn V s1 t1 O0 C0 (i + 1) s t → ¬ t.2.1 1247 i ≤ 0 → lp (B_X12_seatAll_73 (nI i) t) FU (-1, 0, 0) = some (-1) → 1 < F2 → lp (B_X12_seatAll_50 (nI i)) F2 (1, t) = some t := by
    intro s t F2 hR h0 hl hF2
    obtain ⟨F2, rfl⟩ : ∃ F', F2 = F' + 2 := ⟨F2 - 2, by omega⟩
    have hB : B_X12_seatAll_50 (nI i) (1, t) = some (.inl (0, t)) := by
      unfold B_X12_seatAll_50
      dsimp only
      rw [if_neg (show ¬ (1 : Int32) = 0 by decide), rd_nI hi24 (by omega), bind_some, if_neg h0]
      unfold F_X12_seatAll_73
      rw [hl, bind_some]
      unfold F_X12_seatAll_148
      rw [if_pos rfl]
    rw [lp_l hB]
    refine lp_r ?_
    unfold B_X12_seatAll_50
    dsimp only
    rw [if_pos rfl]
  intro m
  induction m with
  | zero =>
    intro n s t e hR hc F F2 hF hF2
    obtain ⟨F, rfl⟩ : ∃ F', F = F' + 1 := ⟨F - 1, by omega⟩
    obtain ⟨r1, r2, r3, r4, r5, r6, r7, r8, r9, r10⟩ := hR
    have hR' : SR W nn V s1 t1 O0 C0 (i + 1) s t := ⟨r1, r2, r3, r4, r5, r6, r7, r8, r9, r10⟩
    have i1 : s.1 501 = nI nn := by rw [r1.i (k := 501) rfl, w1]
    refine ⟨.inl s, t, lp_r ?_, ?_, hR'⟩
    · unfold B_X6_seatAll_23
      dsimp only
      have : n = nn := by omega
      rw [i1, this, if_pos (Int32.le_refl _)]
    · by_cases h0 : (t.2.1 1247 i).toInt ≤ 0
      · exact endM s t F2 hR' h0 (by omega)
      · obtain ⟨r, _, n2, n3⟩ := near_seat ⟨w1, w2, w3, w4, hnn, hV, wc, wk⟩ r1 r2 r3 r4 r5 r6 hi
        have hz : cn (fun k => decide (0 < (t.2.1 1246 k).toInt)) nn = 0 := by omega
        rcases n3 with ⟨rfl, _⟩ | ⟨k, k1, _, k3, _⟩
        · exact idleM s t F2 hR' (by rw [i32_le, e0]; exact h0) n2 (by omega)
        · have := cn_0 hz k k1
          exact absurd k3 (of_decide_eq_false this)
  | succ m ih =>
    intro n s t e hR hc F F2 hF hF2
    obtain ⟨F, rfl⟩ : ∃ F', F = F' + 1 := ⟨F - 1, by omega⟩
    obtain ⟨r1, r2, r3, r4, r5, r6, r7, r8, r9, r10⟩ := hR
    have hR' : SR W nn V s1 t1 O0 C0 (i + 1) s t := ⟨r1, r2, r3, r4, r5, r6, r7, r8, r9, r10⟩
    have i1 : s.1 501 = nI nn := by rw [r1.i (k := 501) rfl, w1]
    have h9 : ¬ nI nn ≤ nI n := by
      rw [i32_le, nI_toInt (by omega), nI_toInt (by omega)]
      omega
    have k0 : rd s 606 24 (nI i) = some (t.2.1 1247 i) := by rw [rd_nI hi24 (by omega), r7 i hi]
    by_cases h0 : t.2.1 1247 i ≤ 0
    · refine ⟨.inl s, t, lp_r ?_, endM s t F2 hR' (by rw [i32_le, e0] at h0; exact h0) (by omega), hR'⟩
      unfold B_X6_seatAll_23
      dsimp only
      rw [i1, if_neg h9, k0, bind_some, if_pos h0]
    · obtain ⟨r, n1, n2, n3⟩ := near_seat ⟨w1, w2, w3, w4, hnn, hV, wc, wk⟩ r1 r2 r3 r4 r5 r6 hi
      rcases n3 with ⟨rfl, _⟩ | ⟨k, kk1, rfl, kk3, kk4⟩
      · refine ⟨.inr s, t, lp_r ?_, idleM s t F2 hR' h0 n2 (by omega), hR'⟩
        unfold B_X6_seatAll_23
        dsimp only
        rw [i1, if_neg h9, k0, bind_some, if_neg h0, n1, bind_some, if_pos rfl]
      · have nk : ¬ nI k = -1 := nI_neg1 (by omega)
        have h0' := h0
        rw [i32_le, e0] at h0'
        have ix : nI i * 20 + nI k = nI (20 * i + k) := idxN (k := 20) (by omega) (by omega) (by omega)
        have ix2 : 20 * nI i + nI k = nI (20 * i + k) := idxN2 (k := 20) (by omega) (by omega) (by omega)
        have k1 : rd s 607 20 (nI k) = some (t.2.1 1246 k) := by rw [rd_nI (by omega) (by omega), r6 k kk1]
        have hseat := r8 i (by omega) hi k kk1
        have k2 : rd s 605 480 (nI (20 * i + k)) = some (t.2.1 1245 (20 * i + k)) := by rw [rd_nI (by omega) (by omega), hseat]
        have m1 : rd t 1246 20 (nI k) = some (t.2.1 1246 k) := rd_nI (by omega) (by omega)
        have m2 : rd t 1247 24 (nI i) = some (t.2.1 1247 i) := rd_nI hi24 (by omega)
        have m3 : rd t 1245 480 (nI (20 * i + k)) = some (t.2.1 1245 (20 * i + k)) := rd_nI (by omega) (by omega)
        generalize hp : zmn (t.2.1 1247 i) (t.2.1 1246 k) = p
        have hp2 : zmn (t.2.1 1246 k) (t.2.1 1247 i) = p := by rw [zmn_comm, hp]
        have pi : p.toInt = min (t.2.1 1247 i).toInt (t.2.1 1246 k).toInt := by rw [← hp, zmn_int]
        -- the class's new state
        have s2e : ∃ s2, wr s 605 480 (nI (20 * i + k)) (t.2.1 1245 (20 * i + k) + p) = some s2 ∧ s2 = sA s 605 (20 * i + k) (t.2.1 1245 (20 * i + k) + p) := ⟨_, wr_nI (by omega) (by omega), rfl⟩
        obtain ⟨s2, c1, c2⟩ := s2e
        have s3e : ∃ s3, wr s2 607 20 (nI k) (t.2.1 1246 k - p) = some s3 ∧ s3 = sA s2 607 k (t.2.1 1246 k - p) := ⟨_, wr_nI (by omega) (by omega), rfl⟩
        obtain ⟨s3, c3, c4⟩ := s3e
        have s4e : ∃ s4, wr s3 606 24 (nI i) (t.2.1 1247 i - p) = some s4 ∧ s4 = sA s3 606 i (t.2.1 1247 i - p) := ⟨_, wr_nI hi24 (by omega), rfl⟩
        obtain ⟨s4, c5, c6⟩ := s4e
        have k3 : rd s2 607 20 (nI k) = some (t.2.1 1246 k) := by rw [c2]; exact k1
        have k4 : rd s3 606 24 (nI i) = some (t.2.1 1247 i) := by rw [c4, c2]; exact k0
        have t2e : ∃ t2, wr t 1245 480 (nI (20 * i + k)) (t.2.1 1245 (20 * i + k) + p) = some t2 ∧ t2 = sA t 1245 (20 * i + k) (t.2.1 1245 (20 * i + k) + p) := ⟨_, wr_nI (by omega) (by omega), rfl⟩
        obtain ⟨t2, d1, d2⟩ := t2e
        have t3e : ∃ t3, wr t2 1246 20 (nI k) (t.2.1 1246 k - p) = some t3 ∧ t3 = sA t2 1246 k (t.2.1 1246 k - p) := ⟨_, wr_nI (by omega) (by omega), rfl⟩
        obtain ⟨t3, d3, d4⟩ := t3e
        have t4e : ∃ t4, wr t3 1247 24 (nI i) (t.2.1 1247 i - p) = some t4 ∧ t4 = sA t3 1247 i (t.2.1 1247 i - p) := ⟨_, wr_nI hi24 (by omega), rfl⟩
        obtain ⟨t4, d5, d6⟩ := t4e
        have m4 : rd t2 1246 20 (nI k) = some (t.2.1 1246 k) := by rw [d2]; exact m1
        have m5 : rd t3 1247 24 (nI i) = some (t.2.1 1247 i) := by rw [d4, d2]; exact m2
        have hC : B_X6_seatAll_23 (nI i) (nI n, s) = some (.inl (nI (n + 1), s4)) := by
          unfold B_X6_seatAll_23
          dsimp only
          rw [i1, if_neg h9, k0, bind_some, if_neg h0, n1, bind_some, if_neg nk, bind_some, k1, bind_some, ix, k2, bind_some, hp, c1, bind_some, k3, bind_some, c3, bind_some, k4, bind_some, c5, bind_some, nI_1]
        have hM : B_X12_seatAll_50 (nI i) (1, t) = some (.inl (1, t4)) := by
          unfold B_X12_seatAll_50
          dsimp only
          rw [if_neg (show ¬ (1 : Int32) = 0 by decide), m2, bind_some, if_neg h0]
          unfold F_X12_seatAll_73
          rw [n2, bind_some]
          unfold F_X12_seatAll_148
          rw [if_neg nk, m1, bind_some, m2, bind_some, ix2, m3, bind_some, hp2, d1, bind_some, m4, bind_some, d3, bind_some, m5, bind_some, d5, bind_some]
        have a605 : s4.2.1 605 = upd (s.2.1 605) (20 * i + k) (t.2.1 1245 (20 * i + k) + p) := by rw [c6, c4, c2]; rfl
        have a607 : s4.2.1 607 = upd (s.2.1 607) k (t.2.1 1246 k - p) := by rw [c6, c4, c2]; rfl
        have a606 : s4.2.1 606 = upd (s.2.1 606) i (t.2.1 1247 i - p) := by rw [c6, c4, c2]; rfl
        have a604 : s4.2.1 604 = s.2.1 604 := by rw [c6, c4, c2]; rfl
        have b45 : t4.2.1 1245 = upd (t.2.1 1245) (20 * i + k) (t.2.1 1245 (20 * i + k) + p) := by rw [d6, d4, d2]; rfl
        have b46 : t4.2.1 1246 = upd (t.2.1 1246) k (t.2.1 1246 k - p) := by rw [d6, d4, d2]; rfl
        have b47 : t4.2.1 1247 = upd (t.2.1 1247) i (t.2.1 1247 i - p) := by rw [d6, d4, d2]; rfl
        have b48 : t4.2.1 1248 = t.2.1 1248 := by rw [d6, d4, d2]; rfl
        have b49 : t4.2.1 1249 = t.2.1 1249 := by rw [d6, d4, d2]; rfl
        have ss4 : SS s s4 := by rw [c6, c4, c2]; exact (SS_sA _ _ _ rfl).trans ((SS_sA _ _ _ rfl).trans (SS_sA _ _ _ rfl))
        have tt4 : SS t t4 := by rw [d6, d4, d2]; exact (SS_sA _ _ _ rfl).trans ((SS_sA _ _ _ rfl).trans (SS_sA _ _ _ rfl))
        have hF4 : FI nn V (fun i k => ¬ W i k = -1) (s4.2.1 605) (s4.2.1 606) (s4.2.1 607) O0 C0 := by
          have hs7 := r6 k kk1
          have hs6 := r7 i hi
          have := FI_move r10 hnn hO hi kk1 kk4 (m := p) (by omega) (by rw [hs6]; omega) (by rw [hs7]; omega) (by rw [hs7]; omega)
          rw [hs7, hs6, hseat] at this
          rw [a605, a606, a607]
          exact this
        have eL : (t.2.1 1246 k - p).toInt = (t.2.1 1246 k).toInt - p.toInt := by
          have := Int32.toInt_lt (t.2.1 1246 k)
          exact i32_sub (by omega) (by omega)
        have eOv : (t.2.1 1247 i - p).toInt = (t.2.1 1247 i).toInt - p.toInt := by
          have := Int32.toInt_lt (t.2.1 1247 i)
          exact i32_sub (by omega) (by omega)
        have hc4 : cn (fun k => decide (0 < (t4.2.1 1246 k).toInt)) nn ≤ m ∨ (t4.2.1 1247 i).toInt ≤ 0 := by
          rw [b46, b47, upd_at, eOv]
          by_cases u : (t.2.1 1247 i).toInt ≤ (t.2.1 1246 k).toInt
          · right
            omega
          · left
            have hlt : cn (fun j => decide (0 < (upd (t.2.1 1246) k (t.2.1 1246 k - p) j).toInt)) nn < cn (fun j => decide (0 < (t.2.1 1246 j).toInt)) nn := by
              refine cn_lt (fun j hj hd => ?_) ⟨k, kk1, decide_eq_true kk3, decide_eq_false ?_⟩
              · by_cases e2 : j = k
                · rw [e2]
                  exact decide_eq_true kk3
                · rw [upd_ne _ _ e2] at hd
                  exact hd
              · rw [upd_at, eL]
                omega
            omega
        have hR4 : SR W nn V s1 t1 O0 C0 (i + 1) s4 t4 := by
          refine ⟨r1.trans ss4, r2.trans tt4, a604.trans r3, b48.trans r4, b49.trans r5, fun j hj => ?_, fun j hj => ?_, fun j hj hj2 k' hk' => ?_, fun j hj hj2 k' hk' => ?_, hF4⟩
          · rw [a607, b46]
            by_cases e2 : j = k
            · rw [e2, upd_at, upd_at]
            · rw [upd_ne _ _ e2, upd_ne _ _ e2]
              exact r6 j hj
          · rw [a606, b47]
            by_cases e2 : j = i
            · rw [e2, upd_at, upd_at]
            · rw [upd_ne _ _ e2, upd_ne _ _ e2]
              exact r7 j hj
          · rw [a605, b45]
            by_cases e2 : 20 * j + k' = 20 * i + k
            · rw [e2, upd_at, upd_at]
            · rw [upd_ne _ _ e2, upd_ne _ _ e2]
              exact r8 j hj hj2 k' hk'
          · rw [a605, upd_ne _ _ (by omega)]
            exact r9 j hj hj2 k' hk'
        obtain ⟨F2, rfl⟩ : ∃ F', F2 = F' + 1 := ⟨F2 - 1, by omega⟩
        rw [lp_l hC, lp_l hM]
        exact ih (n + 1) s4 t4 (by omega) hR4 hc4 F F2 (by omega) (by omega)
/-- all villages -/
theorem seat_all {W : Nat → Nat → Int32} {nn V : Nat} {s1 t1 : St} {O0 C0 : Nat → Int} (hW : WF W nn V s1 t1) (hO : ∀ i, i < V → O0 i ≤ 100000) (h7 : ∀ k, k < nn → s1.2.1 607 k = t1.2.1 1246 k) (h6 : ∀ j, j < V → s1.2.1 606 j = t1.2.1 1247 j) (hO0 : ∀ i, i < V → 0 ≤ (s1.2.1 606 i).toInt ∧ O0 i = (s1.2.1 606 i).toInt) (hC0 : ∀ k, k < nn → C0 k = max 0 (s1.2.1 607 k).toInt) : ∃ s t, F_X6_seatAll s1 = some s ∧ F_X12_seatAll_8 0 t1 = some t ∧ SR W nn V s1 t1 O0 C0 V s t := by
  have hW' := hW
  obtain ⟨w1, w2, w3, w4, hnn, hV, wc, wk⟩ := hW
  have a5 : (pF s1 605 480 0).2.1 605 = flf (s1.2.1 605) 480 0 := by rw [pF_setA, setA_at]
  have z0 : ∀ i, i < V → ∀ k, k < nn → (pF s1 605 480 0).2.1 605 (20 * i + k) = 0 := fun i hi k hk => by rw [a5, flf_lt (by omega)]
  have e0 : (0 : Int32).toInt = 0 := rfl
  have hF0 : FI nn V (fun i k => ¬ W i k = -1) ((pF s1 605 480 0).2.1 605) ((pF s1 605 480 0).2.1 606) ((pF s1 605 480 0).2.1 607) O0 C0 := by
    refine ⟨fun i hi k hk => ?_, fun i hi => ?_, fun k hk => ?_⟩
    · rw [z0 i hi k hk, e0]
      exact ⟨by omega, fun z => absurd rfl z⟩
    · have : rsum (fun k => ((pF s1 605 480 0).2.1 605 (20 * i + k)).toInt) nn = rsum (fun _ => 0) nn := rsum_cong (fun k hk => by rw [z0 i hi k hk, e0])
      have h0 : ∀ n, rsum (fun _ => (0 : Int)) n = 0 := by
        intro n
        induction n with
        | zero => rfl
        | succ n ih => unfold rsum; rw [ih]; rfl
      rw [this, h0]
      obtain ⟨q1, q2⟩ := hO0 i hi
      exact ⟨q1, by rw [q2, Int.zero_add]; rfl⟩
    · have : rsum (fun i => ((pF s1 605 480 0).2.1 605 (20 * i + k)).toInt) V = rsum (fun _ => 0) V := rsum_cong (fun i hi => by rw [z0 i hi k hk, e0])
      have h0 : ∀ n, rsum (fun _ => (0 : Int)) n = 0 := by
        intro n
        induction n with
        | zero => rfl
        | succ n ih => unfold rsum; rw [ih]; rfl
      rw [this, h0, hC0 k hk, Int.zero_add]
      rfl
  obtain ⟨s, t, h1, h2, h3⟩ := lp_two (B := B_X6_seatAll_10) (B2 := B_X12_seatAll_8)
    (fun m X Z => ∃ (n : Nat) (s t : St), X = (nI n, s) ∧ Z = (nI n, t) ∧ n + m = V ∧ SR W nn V s1 t1 O0 C0 n s t)
    (fun s t => SR W nn V s1 t1 O0 C0 V s t) (by
      rintro m _ _ ⟨n, s, t, rfl, rfl, hn, hR⟩
      have hR0 := hR
      obtain ⟨r1, r2, r3, r4, r5, r6, r7, r8, r9, r10⟩ := hR
      have i1 : s.1 101 = nI V := by rw [r1.i (k := 101) rfl, w3]
      have i2 : t.1 1212 = nI V := by rw [r2.i (k := 1212) rfl, w4]
      by_cases c : n = V
      · right
        subst c
        refine ⟨s, t, ?_, ?_, hR0⟩
        · unfold B_X6_seatAll_10
          dsimp only
          rw [i1, if_pos (Int32.le_refl _)]
        · unfold B_X12_seatAll_8
          dsimp only
          rw [i2, if_pos (Int32.le_refl _)]
      · left
        have h9 : ¬ nI V ≤ nI n := by
          rw [i32_le, nI_toInt (by omega), nI_toInt (by omega)]
          omega
        -- the reference clears the village's seats
        obtain ⟨t2, q1, q2, q3, q4, q5⟩ := lp_inv (B := B_X12_seatAll_19 (nI n))
          (fun j X => ∃ (k : Nat) (t2 : St), X = (nI k, t2) ∧ k + j = nn ∧ SS t t2 ∧ (∀ a, ¬ a = 1245 → t2.2.1 a = t.2.1 a) ∧ (∀ a, a < 20 * n → t2.2.1 1245 a = t.2.1 1245 a) ∧ ∀ a, a < k → t2.2.1 1245 (20 * n + a) = 0)
          (fun t2 => SS t t2 ∧ (∀ a, ¬ a = 1245 → t2.2.1 a = t.2.1 a) ∧ (∀ a, a < 20 * n → t2.2.1 1245 a = t.2.1 1245 a) ∧ ∀ a, a < nn → t2.2.1 1245 (20 * n + a) = 0) (by
            rintro j _ ⟨k, t2, rfl, hk, g1, g2, g3, g4⟩
            have i3 : t2.1 1223 = nI nn := by rw [g1.i (k := 1223) rfl, r2.i (k := 1223) rfl, w2]
            by_cases c2 : k = nn
            · right
              subst c2
              refine ⟨t2, ?_, g1, g2, g3, g4⟩
              unfold B_X12_seatAll_19
              dsimp only
              rw [i3, if_pos (Int32.le_refl _)]
            · left
              have h8 : ¬ nI nn ≤ nI k := by
                rw [i32_le, nI_toInt (by omega), nI_toInt (by omega)]
                omega
              have ix2 : 20 * nI n + nI k = nI (20 * n + k) := idxN2 (k := 20) (by omega) (by omega) (by omega)
              have a9 : (sA t2 1245 (20 * n + k) 0).2.1 1245 = upd (t2.2.1 1245) (20 * n + k) 0 := sA_at _ _ _ _
              refine ⟨(nI (k + 1), sA t2 1245 (20 * n + k) 0), j - 1, ?_, by omega, k + 1, _, rfl, by omega, g1.trans (SS_sA _ _ _ rfl), fun a ha => ?_, fun a ha => ?_, fun a ha => ?_⟩
              · unfold B_X12_seatAll_19
                dsimp only
                rw [i3, if_neg h8, ix2, wr_nI (by omega) (by omega), bind_some, nI_1]
              · rw [← g2 a ha]
                exact if_neg ha
              · rw [a9, upd_ne _ _ (by omega)]
                exact g3 a ha
              · rw [a9]
                by_cases e2 : a = k
                · rw [e2, upd_at]
                · rw [upd_ne _ _ (by omega)]
                  exact g4 a (by omega)) FU nn (0, t) ⟨0, t, rfl, by omega, SS.refl t, fun _ _ => rfl, fun _ _ => rfl, fun a ha => absurd ha (by omega)⟩ (FU_lt (by omega))
        have hR2 : SR W nn V s1 t1 O0 C0 (n + 1) s t2 := by
          refine ⟨r1, r2.trans q2, r3, by rw [q3 1248 (by omega)]; exact r4, by rw [q3 1249 (by omega)]; exact r5, by rw [q3 1246 (by omega)]; exact r6, by rw [q3 1247 (by omega)]; exact r7, fun j hj hj2 k hk => ?_, fun j hj hj2 k hk => r9 j (by omega) hj2 k hk, r10⟩
          by_cases e2 : j = n
          · rw [e2, q5 k hk]
            exact r9 n (by omega) (by omega) k hk
          · rw [q4 _ (by omega)]
            exact r8 j (by omega) hj2 k hk
        obtain ⟨y, t3, f1, f2, f3⟩ := seat_rec hW' hO (i := n) (by omega) nn 0 s t2 (by omega) hR2 (Or.inl (cn_max _ _)) FU FU (FU_lt (by omega)) (FU_lt (by omega))
        refine ⟨(nI (n + 1), Sum.elim id id y), (nI (n + 1), t3), m - 1, ?_, ?_, by omega, n + 1, _, _, rfl, rfl, by omega, f3⟩
        · unfold B_X6_seatAll_10
          dsimp only
          rw [i1, if_neg h9]
          unfold F_X6_seatAll_23
          have f1' : lp (B_X6_seatAll_23 (nI n)) FU (0, s) = some y := f1
          rw [f1', bind_some]
          cases y with
          | inl y => unfold F_X6_seatAll_118; rw [Sum.elim_inl, nI_1]; rfl
          | inr y => unfold F_X6_seatAll_54 F_X6_seatAll_118; rw [Sum.elim_inr, nI_1]; rfl
        · unfold B_X12_seatAll_8
          dsimp only
          rw [i2, if_neg h9]
          unfold F_X12_seatAll_19
          rw [q1, bind_some]
          unfold F_X12_seatAll_47 F_X12_seatAll_50
          rw [f2, bind_some]
          unfold F_X12_seatAll_227
          rw [nI_1]) FU FU V (0, pF s1 605 480 0) (0, t1) ⟨0, _, t1, rfl, rfl, by omega, SS_pF s1 480 0 rfl, SS.refl t1, rfl, rfl, rfl, h7, h6, fun j hj => absurd hj (by omega), fun j _ hj k hk => z0 j hj k hk, hF0⟩ (FU_lt (by omega)) (FU_lt (by omega))
  refine ⟨s, t, ?_, ?_, h3⟩
  · unfold F_X6_seatAll
    rw [wF_ok, bind_some]
    unfold F_X6_seatAll_10
    rw [h1]
    rfl
  · unfold F_X12_seatAll_8
    rw [h2]
    rfl
