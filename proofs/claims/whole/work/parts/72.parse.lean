/-! the reading of a text: the class's reader, the reference's -/
theorem tkH_app : ∀ (k l : List Int32) (h : Nat), tkH (k ++ l) h = (tkH k h).bind (tkH l)
  | [], l, h => rfl
  | x :: k, l, h => by
    rw [List.cons_append]
    unfold tkH
    by_cases c1 : (0 ≤ x.toInt ∧ x.toInt ≤ 9999) ∨ (10000 ≤ x.toInt ∧ x.toInt ≤ 10005)
    · rw [if_pos c1, if_pos c1]
      by_cases c2 : h < 64
      · rw [if_pos c2, if_pos c2]
        exact tkH_app k l (h + 1)
      · rw [if_neg c2, if_neg c2]
        rfl
    · rw [if_neg c1, if_neg c1]
      by_cases c3 : x = 20033
      · rw [if_pos c3, if_pos c3]
        by_cases c4 : 0 < h
        · rw [if_pos c4, if_pos c4]
          exact tkH_app k l h
        · rw [if_neg c4, if_neg c4]
          rfl
      · rw [if_neg c3, if_neg c3]
        by_cases c5 : x = 20043 ∨ x = 20045 ∨ x = 20042 ∨ x = 20047 ∨ x = 20061 ∨ x = 20060 ∨ x = 20062 ∨ x = 20038 ∨ x = 20124
        · rw [if_pos c5, if_pos c5]
          by_cases c6 : 1 < h
          · rw [if_pos c6, if_pos c6]
            exact tkH_app k l (h - 1)
          · rw [if_neg c6, if_neg c6]
            rfl
        · rw [if_neg c5, if_neg c5]
          rfl
theorem pI_at (s : St) (k : Nat) (v : Int32) : (pI s k v).1 k = v := by
  show upd s.1 k v k = v
  rw [upd_at]
/-- what the tape holds -/
def TB (s0 t0 : St) (T : Nat → Int32) (L : Nat) : Prop := s0.1 901 = nI L ∧ t0.1 1235 = nI L ∧ L ≤ 160 ∧ s0.2.1 900 = T ∧ t0.2.1 1228 = T ∧ ∀ j, j < L → 1 ≤ (T j).toInt ∧ (T j).toInt ≤ 255
/-- no fault yet -/
def NP (s0 t0 : St) (L A d z m : Nat) (s t : St) : Prop := SS s0 s ∧ SS t0 t ∧ s.1 903 = -1 ∧ t.1 1237 = -1 ∧ s.1 902 = nI A ∧ t.1 1236 = nI A ∧ s.1 904 = nI d ∧ t.1 1238 = nI d ∧ s.1 906 = nI z ∧ t.1 1239 = nI m ∧ A ≤ L ∧ d ≤ 6 ∧ z ≤ A ∧ m ≤ 2 * A + 1
def KC (s s' : St) : Prop := s'.1 908 = s.1 908 ∧ s'.1 909 = s.1 909 ∧ s'.2.1 907 = s.2.1 907
theorem KC.refl (s : St) : KC s s := ⟨rfl, rfl, rfl⟩
theorem KC.trans {s s' s'' : St} (h : KC s s') (h2 : KC s' s'') : KC s s'' := ⟨h2.1.trans h.1, h2.2.1.trans h.2.1, h2.2.2.trans h.2.2⟩
/-- what is written -/
def WR (k : List Int32) (z m : Nat) (s t s' t' : St) : Prop := (∀ j, j < z → s'.2.1 905 j = s.2.1 905 j) ∧ (∀ i, i < k.length → s'.2.1 905 (z + i) = k.getD i 0) ∧ (∀ j, j < m → t'.2.1 1229 j = t.2.1 1229 j) ∧ ∀ i, i < (k.flatMap tkM).length → t'.2.1 1229 (m + i) = (k.flatMap tkM).getD i 0
theorem WR_nil {z m : Nat} {s t s' t' : St} (h1 : s'.2.1 905 = s.2.1 905) (h2 : t'.2.1 1229 = t.2.1 1229) : WR [] z m s t s' t' := ⟨fun j _ => by rw [h1], fun i hi => absurd hi (by simp), fun j _ => by rw [h2], fun i hi => absurd hi (by simp)⟩
theorem getD_app_l {l1 l2 : List Int32} {i : Nat} (h : i < l1.length) : (l1 ++ l2).getD i 0 = l1.getD i 0 := by
  rw [List.getD_eq_getElem?_getD, List.getD_eq_getElem?_getD, List.getElem?_append_left h]
theorem getD_app_r {l1 l2 : List Int32} {i : Nat} (h : l1.length ≤ i) : (l1 ++ l2).getD i 0 = l2.getD (i - l1.length) 0 := by
  rw [List.getD_eq_getElem?_getD, List.getD_eq_getElem?_getD, List.getElem?_append_right h]
theorem WR_app {k1 k2 : List Int32} {z m : Nat} {s t s1 t1 s2 t2 : St} (h1 : WR k1 z m s t s1 t1) (h2 : WR k2 (z + k1.length) (m + (k1.flatMap tkM).length) s1 t1 s2 t2) : WR (k1 ++ k2) z m s t s2 t2 := by
  obtain ⟨a1, a2, a3, a4⟩ := h1
  obtain ⟨b1, b2, b3, b4⟩ := h2
  refine ⟨fun j hj => (b1 j (by omega)).trans (a1 j hj), fun i hi => ?_, fun j hj => (b3 j (by omega)).trans (a3 j hj), fun i hi => ?_⟩
  · rw [List.length_append] at hi
    by_cases c : i < k1.length
    · rw [getD_app_l c, b1 _ (by omega)]
      exact a2 i c
    · rw [getD_app_r (by omega)]
      have := b2 (i - k1.length) (by omega)
      rw [← this, show z + k1.length + (i - k1.length) = z + i by omega]
  · rw [List.flatMap_append] at hi ⊢
    rw [List.length_append] at hi
    by_cases c : i < (k1.flatMap tkM).length
    · rw [getD_app_l c, b3 _ (by omega)]
      exact a4 i c
    · rw [getD_app_r (by omega)]
      have := b4 (i - (k1.flatMap tkM).length) (by omega)
      rw [← this, show m + (k1.flatMap tkM).length + (i - (k1.flatMap tkM).length) = m + i by omega]
theorem WR_z {k : List Int32} {z m : Nat} {s t s1 t1 s2 t2 : St} (h1 : s1.2.1 905 = s.2.1 905) (h2 : t1.2.1 1229 = t.2.1 1229) (h : WR k z m s1 t1 s2 t2) : WR k z m s t s2 t2 := by
  obtain ⟨b1, b2, b3, b4⟩ := h
  exact ⟨fun j hj => by rw [← h1]; exact b1 j hj, b2, fun j hj => by rw [← h2]; exact b3 j hj, b4⟩
/-- at fault -/
def FC (s0 : St) (f : Nat) (s : St) : Prop := SS s0 s ∧ s.1 903 = nI f ∧ ∃ z, z ≤ 160 ∧ s.1 906 = nI z
def FM (t0 : St) (f A d m : Nat) (t : St) : Prop := SS t0 t ∧ t.1 1237 = nI f ∧ t.1 1236 = nI A ∧ t.1 1238 = nI d ∧ t.1 1239 = nI m
def BAD (s0 t0 : St) (L A d m : Nat) (s s' t' : St) : Prop := ∃ f A' m', f ≤ 160 ∧ FC s0 f s' ∧ KC s s' ∧ FM t0 f A' d m' t' ∧ A ≤ A' ∧ A' + d ≤ L + 6 ∧ m' + 2 * A ≤ m + 2 * A'
/-- read well: e more on the stack ahead, H high -/
def GOOD (s0 t0 : St) (L A d z m e H : Nat) (s t s' t' : St) : Prop := ∃ A' k, A < A' ∧ NP s0 t0 L A' d (z + k.length) (m + (k.flatMap tkM).length) s' t' ∧ k.length + A ≤ A' ∧ (k.flatMap tkM).length + 2 * A ≤ 2 * A' ∧ WR k z m s t s' t' ∧ KC s s' ∧ ∀ h, h + H ≤ 64 → tkH k (h + e) = some (h + 1)
/-- both read alike -/
def SIM (s0 t0 : St) (L A d z m e H : Nat) (s t : St) (F G : St → Option St) : Prop := ∃ s' t', F s = some s' ∧ G t = some t' ∧ (GOOD s0 t0 L A d z m e H s t s' t' ∨ BAD s0 t0 L A d m s s' t')
/-! the small steps, no fault -/
theorem nI_f {f : Nat} (h : f ≤ 160) : ¬ nI f = -1 := nI_neg1 (by omega)
theorem C_peekF {s0 s : St} {f : Nat} (h : FC s0 f s) (hf : f ≤ 160) : F_X9_peek s = some (0, s) := by
  unfold F_X9_peek
  rw [h.2.1, if_neg (nI_f hf)]
theorem C_failF {s0 s : St} {f : Nat} (h : FC s0 f s) (hf : f ≤ 160) : F_X9_fail s = some s := by
  unfold F_X9_fail
  rw [h.2.1, if_neg (nI_f hf)]
theorem C_emitF {s0 s : St} {f : Nat} (h : FC s0 f s) (v : Int32) : ∃ s', F_X9_emit v s = some s' ∧ FC s0 f s' ∧ KC s s' := by
  obtain ⟨h1, h2, z, h3, h4⟩ := h
  have e160 : (160 : Int32).toInt = 160 := rfl
  unfold F_X9_emit
  rw [h4]
  by_cases c : (160 : Int32) ≤ nI z
  · rw [if_pos c]
    exact ⟨s, rfl, ⟨h1, h2, z, h3, h4⟩, KC.refl s⟩
  · rw [if_neg c]
    rw [i32_le, nI_toInt (by omega)] at c
    have e : (sA s 905 z v).1 906 = nI z := h4
    rw [wr_nI (by omega) (by omega), bind_some, e, wI_ok, bind_some, nI_1]
    refine ⟨_, rfl, ⟨h1.trans ((SS_sA _ _ _ rfl).trans (SS_pI _ _ rfl)), h2, z + 1, by omega, pI_at _ _ _⟩, rfl, rfl, rfl⟩
/-- skip blanks: both -/
theorem look_np {s0 t0 : St} {T : Nat → Int32} {L : Nat} (hT : TB s0 t0 T L) {A d z m : Nat} {s t : St} (h : NP s0 t0 L A d z m s t) : ∃ A' cb' mb s' t', F_X9_peek s = some (cb', s') ∧ F_X12_look t = some (mb, t') ∧ A ≤ A' ∧ NP s0 t0 L A' d z m s' t' ∧ s'.2 = s.2 ∧ t'.2 = t.2 ∧ KC s s' ∧ ((A' = L ∧ cb' = 0 ∧ mb = -1) ∨ (A' < L ∧ cb' = T A' ∧ mb = T A')) ∧ (A' < L → ¬ T A' = 32) ∧ ∀ j, A ≤ j → j < A' → T j = 32 := by
  obtain ⟨b1, b2, b3, b4, b5, b6⟩ := hT
  obtain ⟨Y, Z, h1, h2, A', q1, q2, q3, q4, q5, q6, q7⟩ := lp_two (B := B_X9_peek_10) (B2 := B_X12_look_0)
    (fun j X Z => ∃ A', A' + j = L ∧ A ≤ A' ∧ NP s0 t0 L A' d z m X Z ∧ X.2 = s.2 ∧ Z.2 = t.2 ∧ KC s X ∧ ∀ j, A ≤ j → j < A' → T j = 32)
    (fun Y Z => ∃ A', A ≤ A' ∧ NP s0 t0 L A' d z m Y Z ∧ Y.2 = s.2 ∧ Z.2 = t.2 ∧ KC s Y ∧ (A' < L → ¬ T A' = 32) ∧ ∀ j, A ≤ j → j < A' → T j = 32) (by
      rintro j s' t' ⟨A', hA, hAA, hN, e1, e2, hk, hb32⟩
      have hN0 := hN
      obtain ⟨n1, n2, n3, n4, n5, n6, n7, n8, n9, n10, n11, n12, n13, n14⟩ := hN
      have i1 : s'.1 901 = nI L := by rw [n1.i (k := 901) rfl, b1]
      have i2 : t'.1 1235 = nI L := by rw [n2.i (k := 1235) rfl, b2]
      by_cases c : A' = L
      · right
        have c1 : nI L ≤ nI A' := by rw [c]; exact Int32.le_refl _
        refine ⟨s', t', ?_, ?_, A', hAA, hN0, e1, e2, hk, fun z => absurd z (by omega), hb32⟩
        · unfold B_X9_peek_10
          dsimp only
          rw [i1, n5, if_pos c1]
        · unfold B_X12_look_0
          dsimp only
          rw [i2, n6, if_pos c1]
      · have c1 : ¬ nI L ≤ nI A' := by
          rw [i32_le, nI_toInt (by omega), nI_toInt (by omega)]
          omega
        have k1 : rd s' 900 160 (nI A') = some (T A') := by rw [rd_nI (by omega) (by omega), n1.a (k := 900) rfl, b4]
        have k2 : rd t' 1228 160 (nI A') = some (T A') := by rw [rd_nI (by omega) (by omega), n2.a (k := 1228) rfl, b5]
        by_cases c2 : T A' = 32
        · left
          refine ⟨pI s' 902 (nI (A' + 1)), pI t' 1236 (nI (A' + 1)), j - 1, ?_, ?_, by omega, A' + 1, by omega, by omega, ⟨n1.trans (SS_pI _ _ rfl), n2.trans (SS_pI _ _ rfl), n3, n4, pI_at _ _ _, pI_at _ _ _, n7, n8, n9, n10, by omega, n12, by omega, by omega⟩, e1, e2, hk, fun i hi hi2 => by
            by_cases e3 : i = A'
            · rw [e3]; exact c2
            · exact hb32 i hi (by omega)⟩
          · unfold B_X9_peek_10
            dsimp only
            rw [i1, n5, if_neg c1, k1, bind_some, if_pos c2, wI_ok, bind_some, nI_1]
          · unfold B_X12_look_0
            dsimp only
            rw [i2, n6, if_neg c1, k2, bind_some, if_pos c2, wI_ok, bind_some, nI_1]
        · right
          refine ⟨s', t', ?_, ?_, A', hAA, hN0, e1, e2, hk, fun _ => c2, hb32⟩
          · unfold B_X9_peek_10
            dsimp only
            rw [i1, n5, if_neg c1, k1, bind_some, if_neg c2]
          · unfold B_X12_look_0
            dsimp only
            rw [i2, n6, if_neg c1, k2, bind_some, if_neg c2]) FU FU (L - A) s t ⟨A, by have := h.2.2.2.2.2.2.2.2.2.2.1; omega, Nat.le_refl _, h, rfl, rfl, KC.refl s, fun i hi hi2 => absurd hi (by omega)⟩ (FU_lt (by omega)) (FU_lt (by omega))
  obtain ⟨n1, n2, n3, n4, n5, n6, n7, n8, n9, n10, n11, n12, n13, n14⟩ := q2
  have i1 : Y.1 901 = nI L := by rw [n1.i (k := 901) rfl, b1]
  have i2 : Z.1 1235 = nI L := by rw [n2.i (k := 1235) rfl, b2]
  -- the reference looks once ahead of its loop
  have hlook : F_X12_look t = F_X12_look_38 Z := by
    have e : F_X12_look t = F_X12_look_0 t := by
      obtain ⟨F, hF⟩ : ∃ F, FU = F + 1 := ⟨999999999999, rfl⟩
      unfold F_X12_look
      by_cases c : t.1 1235 ≤ t.1 1236
      · rw [if_pos c]
        have hb : B_X12_look_0 t = some (.inr t) := by
          unfold B_X12_look_0
          dsimp only
          rw [if_pos c]
        unfold F_X12_look_0
        rw [hF, lp_r hb, bind_some]
      · rw [if_neg c]
        obtain ⟨m1, m2, m3, m4, m5, m6, m7, m8, m9, m10, m11, m12, m13, m14⟩ := h
        have i3 : t.1 1235 = nI L := by rw [m2.i (k := 1235) rfl, b2]
        rw [i3, m6, i32_le, nI_toInt (by omega), nI_toInt (by omega)] at c
        have k2 : rd t 1228 160 (t.1 1236) = some (T A) := by rw [m6, rd_nI (by omega) (by omega), m2.a (k := 1228) rfl, b5]
        have c' : ¬ t.1 1235 ≤ t.1 1236 := by
          rw [i3, m6, i32_le, nI_toInt (by omega), nI_toInt (by omega)]
          exact c
        rw [k2, bind_some]
        by_cases c2 : T A = 32
        · rw [if_pos c2]
          have hb : B_X12_look_0 t = some (.inl (pI t 1236 (t.1 1236 + 1))) := by
            unfold B_X12_look_0
            dsimp only
            rw [if_neg c', k2, bind_some, if_pos c2, wI_ok, bind_some]
          rw [wI_ok, bind_some]
          -- one round of the loop was made ahead
          unfold F_X12_look_0
          have h3 : lp B_X12_look_0 FU t = some Z := h2
          rw [h3]
          have h4 : lp B_X12_look_0 FU (pI t 1236 (t.1 1236 + 1)) = some Z := by
            obtain ⟨Y', Z', g1, g2, A2, r1, r2, r3, r4, r5, r6⟩ := lp_two (B := B_X12_look_0) (B2 := B_X12_look_0)
              (fun j X Z => X = Z ∧ ∃ A', A' + j = L ∧ X.1 1236 = nI A' ∧ SS t0 X) (fun Y Z => Y = Z ∧ True ∧ True ∧ True ∧ True ∧ True ∧ True) (by
                rintro j X _ ⟨rfl, A', hA, e1, e2⟩
                have i4 : X.1 1235 = nI L := by rw [e2.i (k := 1235) rfl, b2]
                by_cases c : A' = L
                · right
                  have c1 : nI L ≤ nI A' := by rw [c]; exact Int32.le_refl _
                  have hb : B_X12_look_0 X = some (.inr X) := by
                    unfold B_X12_look_0
                    dsimp only
                    rw [i4, e1, if_pos c1]
                  exact ⟨X, X, hb, hb, rfl, trivial, trivial, trivial, trivial, trivial, trivial⟩
                · have c1 : ¬ nI L ≤ nI A' := by
                    rw [i32_le, nI_toInt (by omega), nI_toInt (by omega)]
                    omega
                  have k2 : rd X 1228 160 (nI A') = some (T A') := by rw [rd_nI (by omega) (by omega), e2.a (k := 1228) rfl, b5]
                  by_cases c2 : T A' = 32
                  · left
                    have hb : B_X12_look_0 X = some (.inl (pI X 1236 (nI (A' + 1)))) := by
                      unfold B_X12_look_0
                      dsimp only
                      rw [i4, e1, if_neg c1, k2, bind_some, if_pos c2, wI_ok, bind_some, nI_1]
                    exact ⟨_, _, j - 1, hb, hb, by omega, rfl, A' + 1, by omega, pI_at _ _ _, e2.trans (SS_pI _ _ rfl)⟩
                  · right
                    have hb : B_X12_look_0 X = some (.inr X) := by
                      unfold B_X12_look_0
                      dsimp only
                      rw [i4, e1, if_neg c1, k2, bind_some, if_neg c2]
                    exact ⟨X, X, hb, hb, rfl, trivial, trivial, trivial, trivial, trivial, trivial⟩) FU 999999999999 (L - (A + 1)) (pI t 1236 (t.1 1236 + 1)) (pI t 1236 (t.1 1236 + 1)) ⟨rfl, A + 1, by omega, by
              show upd t.1 1236 (t.1 1236 + 1) 1236 = _
              rw [upd_at, m6, nI_1], m2.trans (SS_pI _ _ rfl)⟩ (FU_lt (by omega)) (by omega)
            have h5 : lp B_X12_look_0 FU t = lp B_X12_look_0 999999999999 (pI t 1236 (t.1 1236 + 1)) := lp_l hb
            rw [h5] at h3
            rw [g1]
            rw [g2] at h3
            have : Y' = Z' := A2
            rw [this]
            exact h3
          rw [h4]
        · rw [if_neg c2]
          have hb : B_X12_look_0 t = some (.inr t) := by
            unfold B_X12_look_0
            dsimp only
            rw [if_neg c', k2, bind_some, if_neg c2]
          unfold F_X12_look_0
          rw [hF, lp_r hb, bind_some]
    rw [e]
    unfold F_X12_look_0
    rw [h2, bind_some]
  have hpeek : F_X9_peek s = F_X9_peek_48 Y := by
    unfold F_X9_peek
    rw [h.2.2.1, if_pos rfl]
    unfold F_X9_peek_10
    rw [h1, bind_some]
  rw [hpeek, hlook]
  unfold F_X9_peek_48 F_X12_look_38
  rw [i1, n5, i2, n6]
  by_cases c : A' = L
  · have c1 : nI L ≤ nI A' := by rw [c]; exact Int32.le_refl _
    rw [if_pos c1, if_pos c1]
    exact ⟨A', 0, -1, Y, Z, rfl, rfl, q1, ⟨n1, n2, n3, n4, n5, n6, n7, n8, n9, n10, n11, n12, n13, n14⟩, q3, q4, q5, Or.inl ⟨c, rfl, rfl⟩, q6, q7⟩
  · have c1 : ¬ nI L ≤ nI A' := by
      rw [i32_le, nI_toInt (by omega), nI_toInt (by omega)]
      omega
    have k1 : rd Y 900 160 (nI A') = some (T A') := by rw [rd_nI (by omega) (by omega), n1.a (k := 900) rfl, b4]
    have k2 : rd Z 1228 160 (nI A') = some (T A') := by rw [rd_nI (by omega) (by omega), n2.a (k := 1228) rfl, b5]
    rw [if_neg c1, if_neg c1, k1, k2]
    exact ⟨A', T A', T A', Y, Z, rfl, rfl, q1, ⟨n1, n2, n3, n4, n5, n6, n7, n8, n9, n10, n11, n12, n13, n14⟩, q3, q4, q5, Or.inr ⟨by omega, rfl, rfl⟩, q6, q7⟩
/-- a fault is told by both -/
theorem fail_np {s0 t0 : St} {L A d z m : Nat} {s t : St} (hL : L ≤ 160) (h : NP s0 t0 L A d z m s t) : ∃ s' t', F_X9_fail s = some s' ∧ F_X12_bad t = some t' ∧ FC s0 A s' ∧ KC s s' ∧ FM t0 A A d m t' ∧ A ≤ 160 := by
  obtain ⟨n1, n2, n3, n4, n5, n6, n7, n8, n9, n10, n11, n12, n13, n14⟩ := h
  refine ⟨pI s 903 (nI A), pI t 1237 (nI A), ?_, ?_, ⟨n1.trans (SS_pI _ _ rfl), pI_at _ _ _, z, by omega, n9⟩, ⟨rfl, rfl, rfl⟩, ⟨n2.trans (SS_pI _ _ rfl), pI_at _ _ _, n6, n8, n10⟩, by omega⟩
  · unfold F_X9_fail
    rw [n3, if_pos rfl, n5, wI_ok, bind_some]
  · unfold F_X12_bad
    rw [n4, if_pos rfl, n6, wI_ok, bind_some]
/-- one byte is gone over -/
theorem step_np {s0 t0 : St} {L A d z m : Nat} {s t : St} (h : NP s0 t0 L A d z m s t) (hA : A < L) : NP s0 t0 L (A + 1) d z m (pI s 902 (s.1 902 + 1)) (pI t 1236 (t.1 1236 + 1)) ∧ KC s (pI s 902 (s.1 902 + 1)) := by
  obtain ⟨n1, n2, n3, n4, n5, n6, n7, n8, n9, n10, n11, n12, n13, n14⟩ := h
  refine ⟨⟨n1.trans (SS_pI _ _ rfl), n2.trans (SS_pI _ _ rfl), n3, n4, ?_, ?_, n7, n8, n9, n10, by omega, n12, by omega, by omega⟩, rfl, rfl, rfl⟩
  · show upd s.1 902 (s.1 902 + 1) 902 = _
    rw [upd_at, n5, nI_1]
  · show upd t.1 1236 (t.1 1236 + 1) 1236 = _
    rw [upd_at, n6, nI_1]
/-- the class writes a step -/
theorem C_emit {s : St} {z : Nat} (hz : s.1 906 = nI z) (hz2 : z < 160) (v : Int32) : F_X9_emit v s = some (pI (sA s 905 z v) 906 (nI (z + 1))) := by
  have e160 : (160 : Int32).toInt = 160 := rfl
  have c : ¬ (160 : Int32) ≤ nI z := by
    rw [i32_le, nI_toInt (by omega)]
    omega
  have e : (sA s 905 z v).1 906 = nI z := hz
  unfold F_X9_emit
  rw [hz, if_neg c, wr_nI hz2 (by omega), bind_some, e, wI_ok, bind_some, nI_1]
theorem M_say {t : St} {m : Nat} (hm : t.1 1239 = nI m) (hm2 : m < 420) (v : Int32) : F_X12_say v t = some (pI (sA t 1229 m v) 1239 (nI (m + 1))) := by
  have e : (sA t 1229 m v).1 1239 = nI m := hm
  unfold F_X12_say
  rw [hm, wr_nI hm2 (by omega), bind_some, e, wI_ok, bind_some, nI_1]
theorem M_sayF {t0 t : St} {f A d m : Nat} (h : FM t0 f A d m t) (hm : m < 420) (v : Int32) : ∃ t', F_X12_say v t = some t' ∧ FM t0 f A d (m + 1) t' := by
  obtain ⟨h1, h2, h3, h4, h5⟩ := h
  exact ⟨_, M_say h5 hm v, h1.trans ((SS_sA _ _ _ rfl).trans (SS_pI _ _ rfl)), h2, h3, h4, pI_at _ _ _⟩
