/-! a whole text, read alike -/
theorem seg_congr {P P' : Nat → Int32} {x y : Nat} (h : ∀ j, j < y → P' j = P j) : seg P' x y = seg P x y := by
  unfold seg
  refine List.map_congr_left fun i hi => ?_
  have := List.mem_range.mp hi
  exact h _ (by omega)
theorem seg_is {P : Nat → Int32} {k : List Int32} {a b : Nat} (hb : b = a + k.length) (h : ∀ i, i < k.length → P (a + i) = k.getD i 0) : seg P a b = k := by
  subst hb
  unfold seg
  refine List.ext_getElem ?_ fun i h1 h2 => ?_
  · rw [List.length_map, List.length_range]
    omega
  · rw [List.getElem_map, List.getElem_range, h i h2, List.getD_eq_getElem?_getD, List.getElem?_eq_getElem h2]
    rfl
theorem caM_is (c : Cla) : caM c = [stA 0 c.1] ++ boM c.2.1 c.2.2 := by
  unfold caM boM
  rw [List.append_assoc, List.append_assoc, List.append_assoc, List.append_assoc, List.append_assoc]
/-- one clause more is read -/
def CLG (s0 t0 : St) (L A z m n : Nat) (s t s' t' : St) : Prop := ∃ (A' : Nat) (c : Cla), A + 3 ≤ A' ∧ NP s0 t0 L A' 0 (z + c.2.1.length + c.2.2.length) (m + (caM c).length) s' t' ∧ TX (c.2.1 ++ c.2.2) z (s.2.1 905) (s'.2.1 905) ∧ TX (caM c) m (t.2.1 1229) (t'.2.1 1229) ∧ c.1 < 7 ∧ (c.2.1 = [] ∨ tkH c.2.1 0 = some 1) ∧ tkH c.2.2 0 = some 1 ∧ s'.1 908 = nI (n + 1) ∧ s'.1 909 = s.1 909 ||| ((1 : Int32) <<< (nI c.1 &&& 31)) ∧ s'.2.1 907 = U4 n (nI c.1) (nI z) (nI (z + c.2.1.length)) (nI (z + c.2.1.length + c.2.2.length)) (s.2.1 907)
theorem noLabel0 : F_X0_labelOf 0 = some (-1) := by
  rcases labelOf_ok 0 with ⟨k, hk, e, _⟩ | ⟨h, _⟩
  · exact absurd e ((by decide +kernel : ∀ k, k < 7 → ¬ (0 : Int32) = stA 0 k) k hk)
  · exact h
theorem sim_clause {s0 t0 : St} {T : Nat → Int32} {L : Nat} (hT : TB s0 t0 T L) {A z m n : Nat} {s t : St} (h : NP s0 t0 L A 0 z m s t) (hm : m ≤ 2 * A) (hn : n ≤ 40) (h8 : s.1 908 = nI n) : ∃ s' t', F_X9_readClause s = some s' ∧ F_X12_clause t = some t' ∧ (CLG s0 t0 L A z m n s t s' t' ∨ FF s0 t0 s' t') := by
  have hL : L ≤ 160 := hT.2.2.1
  obtain ⟨A1, cb, mb, s1, t1, l1, l2, l3, l4, l5, l6, l7, l8, l9, l10⟩ := look_np hT h
  rw [C_clauseIs, M_clauseIs, l1, l2, bind_some, bind_some]
  dsimp only
  have lab : (∃ k, k < 7 ∧ A1 < L ∧ mb = stA 0 k ∧ F_X0_labelOf cb = some (nI k) ∧ F_X12_isLabel mb = some 1) ∨ (F_X0_labelOf cb = some (-1) ∧ F_X12_isLabel mb = some 0) := by
    rcases l8 with ⟨_, x2, x3⟩ | ⟨x1, x2, x3⟩
    · right
      rw [x2, x3]
      exact ⟨noLabel0, by decide⟩
    · rw [x2, x3]
      rcases labelOf_ok (T A1) with ⟨k, hk, e, e1, e2⟩ | hh
      · exact Or.inl ⟨k, hk, x1, e, e1, e2⟩
      · exact Or.inr hh
  rcases lab with ⟨k, hk, hA1, ek, e1, e2⟩ | ⟨e1, e2⟩
  · rw [e1, e2, bind_some, bind_some, if_neg (nI_f (show k ≤ 160 by omega)), if_neg (by decide), wI_ok, wI_ok, bind_some, bind_some]
    obtain ⟨g1, g2⟩ := step_np l4 hA1
    obtain ⟨A2, cb2, mb2, s3, t3, y1, y2, y3, y4, y5, y6, y7, y8, y9, y10⟩ := look_np hT g1
    rw [y2, bind_some]
    dsimp only
    have hk3 : KC s s3 := l7.trans (g2.trans y7)
    by_cases c58 : cb2 = 58
    · have hA2 : A2 < L ∧ mb2 = 58 := by
        rcases y8 with ⟨_, c2, _⟩ | ⟨c1, c2, c3⟩
        · rw [c2] at c58
          exact absurd c58 (by decide)
        · exact ⟨c1, by rw [c3, ← c2, c58]⟩
      obtain ⟨hA2, hmb2⟩ := hA2
      obtain ⟨q1, q2⟩ := step_np y4 hA2
      have hw : F_X9_want 58 (pI s1 902 (s1.1 902 + 1)) = some (pI s3 902 (s3.1 902 + 1)) := by
        unfold F_X9_want
        rw [y1, bind_some]
        dsimp only
        rw [if_pos c58, wI_ok, bind_some]
      rw [hw, bind_some, if_pos hmb2, wI_ok, bind_some]
      obtain ⟨t5, o1, o2, o3⟩ := say_np hL q1 (by omega) mb
      rw [o1, bind_some]
      have z6 : (pI s3 902 (s3.1 902 + 1)).1 906 = nI z := q1.2.2.2.2.2.2.2.2.1
      rw [z6]
      obtain ⟨s', t', w1, w2, w3⟩ := body_np hT o2 (by omega) (by omega) hn (((hk3.trans q2).1).trans h8) (nI k)
      refine ⟨s', t', w1, w2, ?_⟩
      rcases w3 with ⟨A', k1, k2, a1, a2, a3, a4, a5, a6, a7, a8, a9⟩ | hF
      · left
        have e905 : (pI s3 902 (s3.1 902 + 1)).2.1 905 = s.2.1 905 := by
          show s3.2.1 905 = _
          rw [y5]
          show s1.2.1 905 = _
          rw [l5]
        have e1229 : (pI t3 1236 (t3.1 1236 + 1)).2.1 1229 = t.2.1 1229 := by
          show t3.2.1 1229 = _
          rw [y6]
          show t1.2.1 1229 = _
          rw [l6]
        have lM : (caM (k, k1, k2)).length = 1 + (boM k1 k2).length := by
          rw [caM_is, List.length_append]
          rfl
        refine ⟨A', (k, k1, k2), by omega, ?_, ?_, ?_, hk, a5, a6, a7, ?_, ?_⟩
        · rw [lM, ← Nat.add_assoc]
          exact a2
        · rw [e905] at a3
          exact a3
        · rw [caM_is]
          rw [e1229] at o3
          rw [ek] at o3
          exact TX_app o3 a4
        · rw [a8, (hk3.trans q2).2.1]
        · rw [a9, (hk3.trans q2).2.2]
      · exact Or.inr hF
    · have m58 : ¬ mb2 = 58 := by
        rcases y8 with ⟨_, _, c3⟩ | ⟨_, c2, c3⟩
        · rw [c3]
          decide
        · rw [c3, ← c2]
          exact c58
      obtain ⟨s4, t4, f1, f2, f3, f4, f5, f6⟩ := fail_np hL y4
      have hw : F_X9_want 58 (pI s1 902 (s1.1 902 + 1)) = some s4 := by
        unfold F_X9_want
        rw [y1, bind_some]
        dsimp only
        rw [if_neg c58, f1, bind_some]
      have k8 : s4.1 908 = nI n := (f4.1.trans hk3.1).trans h8
      obtain ⟨s', w1, w2⟩ := FC_keep f3 hn k8 (nI k) (s4.1 906) (s4.1 906)
      rw [hw, bind_some, if_neg m58, f2, bind_some]
      refine ⟨s', t4, ?_, rfl, Or.inr ⟨A2, A2, 0, m, f6, w2, f5⟩⟩
      unfold bodyC
      rw [C_peekF f3 f6, bind_some]
      dsimp only
      rw [if_neg (by decide), if_neg (by decide), (rgF f3 f6 61).1, bind_some, C_peekF f3 f6, bind_some]
      dsimp only
      rw [if_pos (show isRel 0 = false by decide), w1, bind_some]
  · obtain ⟨s4, t4, f1, f2, f3, f4, f5, f6⟩ := fail_np hL l4
    rw [e1, e2, bind_some, bind_some, if_pos rfl, if_pos rfl, f1, f2, bind_some, bind_some]
    exact ⟨s4, t4, rfl, rfl, Or.inr ⟨A1, A1, 0, m, f6, f3, f5⟩⟩
