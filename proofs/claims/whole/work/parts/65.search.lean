/-! the class's search -/
def QS (s s' : St) : Prop := SS s s' ∧ s'.2.1 604 = s.2.1 604 ∧ s'.2.1 605 = s.2.1 605 ∧ s'.2.1 606 = s.2.1 606 ∧ s'.2.1 607 = s.2.1 607
theorem QS.refl (s : St) : QS s s := ⟨SS.refl s, rfl, rfl, rfl, rfl⟩
theorem QS.trans {s s' s'' : St} (h : QS s s') (h2 : QS s' s'') : QS s s'' := ⟨h.1.trans h2.1, h2.2.1.trans h.2.1, h2.2.2.1.trans h.2.2.1, h2.2.2.2.1.trans h.2.2.2.1, h2.2.2.2.2.trans h.2.2.2.2⟩
def QU (V : Nat) (O pv q : Nat → Int32) (last : Nat) : Prop := last = cn (fun i => decide (¬ pv i = -1)) V ∧ (∀ b, b < last → ∃ i, i < V ∧ q b = nI i ∧ ¬ pv i = -1) ∧ (∀ i, i < V → ¬ pv i = -1 → ∃ b, b < last ∧ q b = nI i) ∧ ∀ i, i < V → (0 < (O i).toInt ↔ pv i = -2)
theorem QU_vis {V : Nat} {O pv q : Nat → Int32} {last : Nat} (h : QU V O pv q last) {i : Nat} (hi : i < V) : visV (fun i => 0 < (O i).toInt) pv i ↔ ¬ pv i = -1 := by
  constructor
  · rintro (z | z)
    · rw [(h.2.2.2 i hi).mp z]
      decide
    · exact z
  · exact Or.inr
/-- one village more in the queue -/
theorem QU_add {V : Nat} {O pv q : Nat → Int32} {last j c : Nat} (h : QU V O pv q last) (hV : V ≤ 24) (hj : j < V) (hpv : pv j = -1) (hc : c < 20) : QU V O (upd pv j (nI c)) (upd q last (nI j)) (last + 1) ∧ last < V := by
  obtain ⟨h1, h2, h3, h4⟩ := h
  have hlt : last < V := by
    rw [h1]
    exact cn_less hj (by rw [hpv]; rfl)
  have nc : ¬ nI c = -1 := nI_neg1 (by omega)
  refine ⟨⟨?_, fun b hb => ?_, fun i hi hp => ?_, fun i hi => ?_⟩, hlt⟩
  · rw [h1]
    refine (cn_one (j := j) (by rw [hpv]; rfl) (by rw [upd_at]; exact decide_eq_true nc) (fun i hi => by rw [upd_ne _ _ hi]) hj).symm
  · by_cases e : b = last
    · rw [e, upd_at]
      exact ⟨j, hj, rfl, by rw [upd_at]; exact nc⟩
    · rw [upd_ne _ _ e]
      obtain ⟨i, i1, i2, i3⟩ := h2 b (by omega)
      have : ¬ i = j := fun z => by rw [z] at i3; exact i3 hpv
      exact ⟨i, i1, i2, by rw [upd_ne _ _ this]; exact i3⟩
  · by_cases e : i = j
    · exact ⟨last, by omega, by rw [upd_at, e]⟩
    · rw [upd_ne _ _ e] at hp
      obtain ⟨b, b1, b2⟩ := h3 i hi hp
      exact ⟨b, by omega, by rw [upd_ne _ _ (by omega)]; exact b2⟩
  · by_cases e : i = j
    · subst e
      rw [upd_at]
      constructor
      · intro z
        have := (h4 i hi).mp z
        rw [hpv] at this
        exact absurd this (by decide)
      · intro z
        have := congrArg Int32.toInt z
        rw [nI_toInt (by omega)] at this
        exact absurd this (by have : (-2 : Int32).toInt = -2 := rfl; omega)
    · rw [upd_ne _ _ e]
      exact h4 i hi
theorem C_queue {nn V : Nat} {ok : Nat → Nat → Prop} {s : St} (hnn : nn ≤ 20) (hV : V ≤ 24) (iV : s.1 101 = nI V) (hS : ∀ i, i < V → ∀ k, k < nn → 0 ≤ (s.2.1 605 (20 * i + k)).toInt) {c i0 last : Nat} {P : List (Nat × Nat)} (hc : c < nn) {s1 : St} (hq : QS s s1) (hQ : QU V (s.2.1 606) (s1.2.1 609) (s1.2.1 611) last) (hT : TR nn V ok (s.2.1 605) (s1.2.1 610) (s1.2.1 609) (fun i => 0 < (s.2.1 606 i).toInt)) (hP : PC nn V ok (s.2.1 605) (s1.2.1 610) (s1.2.1 609) (fun i => 0 < (s.2.1 606 i).toInt) ((c, i0) :: P)) : ∃ last' s2, F_X6_queueThoseIn (nI c) (nI last) s1 = some (nI last', s2) ∧ QS s s2 ∧ s2.2.1 610 = s1.2.1 610 ∧ QU V (s.2.1 606) (s2.2.1 609) (s2.2.1 611) last' ∧ TR nn V ok (s.2.1 605) (s2.2.1 610) (s2.2.1 609) (fun i => 0 < (s.2.1 606 i).toInt) ∧ (∀ i, i < V → ¬ s1.2.1 609 i = -1 → ¬ s2.2.1 609 i = -1) ∧ (∀ b, b < last → s2.2.1 611 b = s1.2.1 611 b) ∧ last ≤ last' ∧ ∀ i, i < V → ¬ (s.2.1 605 (20 * i + c)).toInt = 0 → ¬ s2.2.1 609 i = -1 := by
  have e0 : (0 : Int32).toInt = 0 := rfl
  have e24 : (24 : Int32).toInt = 24 := rfl
  obtain ⟨Y, h1, last', s2, rfl, h2⟩ := lp_inv (B := B_X6_queueThoseIn_5 (nI c))
    (fun m X => ∃ (lst j : Nat) (s2 : St), X = (nI lst, nI j, s2) ∧ j + m = V ∧ QS s s2 ∧ s2.2.1 610 = s1.2.1 610 ∧ QU V (s.2.1 606) (s2.2.1 609) (s2.2.1 611) lst ∧ TR nn V ok (s.2.1 605) (s2.2.1 610) (s2.2.1 609) (fun i => 0 < (s.2.1 606 i).toInt) ∧ PC nn V ok (s.2.1 605) (s2.2.1 610) (s2.2.1 609) (fun i => 0 < (s.2.1 606 i).toInt) ((c, i0) :: P) ∧ (∀ i, i < V → ¬ s1.2.1 609 i = -1 → ¬ s2.2.1 609 i = -1) ∧ (∀ b, b < last → s2.2.1 611 b = s1.2.1 611 b) ∧ last ≤ lst ∧ ∀ i, i < j → ¬ (s.2.1 605 (20 * i + c)).toInt = 0 → ¬ s2.2.1 609 i = -1)
    (fun Y => ∃ (last' : Nat) (s2 : St), Y = (nI last', s2) ∧ QS s s2 ∧ s2.2.1 610 = s1.2.1 610 ∧ QU V (s.2.1 606) (s2.2.1 609) (s2.2.1 611) last' ∧ TR nn V ok (s.2.1 605) (s2.2.1 610) (s2.2.1 609) (fun i => 0 < (s.2.1 606 i).toInt) ∧ (∀ i, i < V → ¬ s1.2.1 609 i = -1 → ¬ s2.2.1 609 i = -1) ∧ (∀ b, b < last → s2.2.1 611 b = s1.2.1 611 b) ∧ last ≤ last' ∧ ∀ i, i < V → ¬ (s.2.1 605 (20 * i + c)).toInt = 0 → ¬ s2.2.1 609 i = -1) (by
      rintro m _ ⟨lst, j, s2, rfl, hj, q1, q2, q3, q4, q5, q6, q7, q8, q9⟩
      have i1 : s2.1 101 = nI V := by rw [q1.1.i (k := 101) rfl, iV]
      by_cases e : j = V
      · right
        subst e
        refine ⟨(nI lst, s2), ?_, lst, s2, rfl, q1, q2, q3, q4, q6, q7, q8, q9⟩
        unfold B_X6_queueThoseIn_5
        dsimp only
        rw [i1, if_pos (Int32.le_refl _)]
      · left
        have h9 : ¬ nI V ≤ nI j := by
          rw [i32_le, nI_toInt (by omega), nI_toInt (by omega)]
          omega
        have hjV : j < V := by omega
        have ix : nI j * 20 + nI c = nI (20 * j + c) := idxN (k := 20) (by omega) (by omega) (by omega)
        have k1 : rd s2 609 24 (nI j) = some (s2.2.1 609 j) := rd_nI (by omega) (by omega)
        have k2 : rd s2 605 480 (nI (20 * j + c)) = some (s.2.1 605 (20 * j + c)) := by rw [rd_nI (by omega) (by omega), q1.2.2.1]
        have stay : (¬ (s.2.1 605 (20 * j + c)).toInt = 0 → ¬ s2.2.1 609 j = -1) → ∀ i, i < j + 1 → ¬ (s.2.1 605 (20 * i + c)).toInt = 0 → ¬ s2.2.1 609 i = -1 := by
          intro h0 i hi
          by_cases e2 : i = j
          · rw [e2]; exact h0
          · exact q9 i (by omega)
        by_cases d1 : s2.2.1 609 j = -1
        · by_cases d2 : s.2.1 605 (20 * j + c) ≤ 0
          · refine ⟨(nI lst, nI (j + 1), s2), m - 1, ?_, by omega, lst, j + 1, s2, rfl, by omega, q1, q2, q3, q4, q5, q6, q7, q8, stay (fun z => ?_)⟩
            · unfold B_X6_queueThoseIn_5
              dsimp only
              rw [i1, if_neg h9, k1, bind_some, if_pos d1, ix, k2, bind_some, if_pos d2, nI_1]
            · rw [i32_le, e0] at d2
              have := hS j hjV c hc
              omega
          · obtain ⟨u1, u2⟩ := QU_add q3 hV hjV d1 (c := c) (by omega)
            have hrj : ¬ 0 < (s.2.1 606 j).toInt := fun z => by
              have := (q3.2.2.2 j hjV).mp z
              rw [d1] at this
              exact absurd this (by decide)
            obtain ⟨t1, t2, t3⟩ := TR_village q4 hc hnn q5 hrj d1 (by rw [i32_le, e0] at d2; omega)
            have hl24 : ¬ (24 : Int32) ≤ nI lst := by rw [i32_le, nI_toInt (by omega)]; omega
            have s3e : ∃ s3, wr s2 609 24 (nI j) (nI c) = some s3 ∧ QS s2 s3 ∧ s3.2.1 609 = upd (s2.2.1 609) j (nI c) ∧ s3.2.1 610 = s2.2.1 610 ∧ s3.2.1 611 = s2.2.1 611 := ⟨_, wr_nI (by omega) (by omega), ⟨SS_sA _ _ _ rfl, rfl, rfl, rfl, rfl⟩, sA_at _ _ _ _, rfl, rfl⟩
            obtain ⟨s3, a1, a2, a3, a4, a5⟩ := s3e
            have s4e : ∃ s4, wr s3 611 24 (nI lst) (nI j) = some s4 ∧ QS s3 s4 ∧ s4.2.1 609 = s3.2.1 609 ∧ s4.2.1 610 = s3.2.1 610 ∧ s4.2.1 611 = upd (s3.2.1 611) lst (nI j) := ⟨_, wr_nI (by omega) (by omega), ⟨SS_sA _ _ _ rfl, rfl, rfl, rfl, rfl⟩, rfl, rfl, sA_at _ _ _ _⟩
            obtain ⟨s4, b1, b2, b3, b4, b5⟩ := s4e
            have x609 : s4.2.1 609 = upd (s2.2.1 609) j (nI c) := b3.trans a3
            have x610 : s4.2.1 610 = s2.2.1 610 := b4.trans a4
            have x611 : s4.2.1 611 = upd (s2.2.1 611) lst (nI j) := by rw [b5, a5]
            have nc : ¬ nI c = -1 := nI_neg1 (by omega)
            have mono : ∀ i, ¬ s2.2.1 609 i = -1 → ¬ s4.2.1 609 i = -1 := by
              intro i hi
              rw [x609]
              by_cases e2 : i = j
              · rw [e2, upd_at]; exact nc
              · rw [upd_ne _ _ e2]; exact hi
            refine ⟨(nI (lst + 1), nI (j + 1), s4), m - 1, ?_, by omega, lst + 1, j + 1, s4, rfl, by omega, q1.trans (a2.trans b2), x610.trans q2, by rw [x609, x611]; exact u1, by rw [x609, x610]; exact t1, by rw [x609, x610]; exact t2, fun i hi hp => mono i (q6 i hi hp), fun b hb => ?_, by omega, fun i hi hp => ?_⟩
            · unfold B_X6_queueThoseIn_5
              dsimp only
              rw [i1, if_neg h9, k1, bind_some, if_pos d1, ix, k2, bind_some, if_neg d2, if_neg hl24, a1, bind_some, b1, bind_some, nI_1, nI_1]
            · rw [x611, upd_ne _ _ (by omega)]
              exact q7 b hb
            · by_cases e2 : i = j
              · rw [x609, e2, upd_at]; exact nc
              · exact mono i (q9 i (by omega) hp)
        · refine ⟨(nI lst, nI (j + 1), s2), m - 1, ?_, by omega, lst, j + 1, s2, rfl, by omega, q1, q2, q3, q4, q5, q6, q7, q8, stay (fun _ => d1)⟩
          unfold B_X6_queueThoseIn_5
          dsimp only
          rw [i1, if_neg h9, k1, bind_some, if_neg d1, nI_1]) FU V (nI last, 0, s1) ⟨last, 0, s1, rfl, by omega, hq, rfl, hQ, hT, hP, fun _ _ z => z, fun _ _ => rfl, Nat.le_refl _, fun i hi => absurd hi (by omega)⟩ (FU_lt (by omega))
  refine ⟨last', s2, ?_, h2⟩
  unfold F_X6_queueThoseIn F_X6_queueThoseIn_5
  rw [h1]
  rfl
/-- a school that is free at a chain's end -/
def FO (nn V : Nat) (ok : Nat → Nat → Prop) (s s' : St) (k : Nat) : Prop := QS s s' ∧ (∀ i, i < V → 0 < (s.2.1 606 i).toInt → s'.2.1 609 i = -2) ∧ k < nn ∧ 0 < (s.2.1 607 k).toInt ∧ ∃ i P, PT nn V ok (s.2.1 605) (s'.2.1 610) (s'.2.1 609) (fun i => 0 < (s.2.1 606 i).toInt) ((k, i) :: P) ∧ P.length + 1 ≤ 20
/-- within the search: a villages are done -/
def SE (nn V : Nat) (ok : Nat → Nat → Prop) (s s' : St) (last a : Nat) : Prop := QS s s' ∧ QU V (s.2.1 606) (s'.2.1 609) (s'.2.1 611) last ∧ TR nn V ok (s.2.1 605) (s'.2.1 610) (s'.2.1 609) (fun i => 0 < (s.2.1 606 i).toInt) ∧ (∀ b, b < a → ∀ i, i < V → s'.2.1 611 b = nI i → ∀ k, k < nn → ok i k → ¬ s'.2.1 610 k = -1) ∧ ∀ k, k < nn → ¬ s'.2.1 610 k = -1 → (s.2.1 607 k).toInt ≤ 0 ∧ ∀ i, i < V → ¬ (s.2.1 605 (20 * i + k)).toInt = 0 → ¬ s'.2.1 609 i = -1
theorem C_row {W : Nat → Nat → Int32} {nn V : Nat} {s : St} (hnn : nn ≤ 20) (hV : V ≤ 24) (iV : s.1 101 = nI V) (iN : s.1 501 = nI nn) (hW : ∀ i, i < V → ∀ k, k < nn → s.2.1 604 (20 * i + k) = W i k) (hS : ∀ i, i < V → ∀ k, k < nn → 0 ≤ (s.2.1 605 (20 * i + k)).toInt) {s0 : St} {last a i : Nat} (hE : SE nn V (fun i k => ¬ W i k = -1) s s0 last a) (ha : a < last) (hi : i < V) (hqa : s0.2.1 611 a = nI i) : ∃ Y, lp (B_X6_endOfChain_86 (nI a) (nI i)) FU (nI last, 0, s0) = some Y ∧ ((∃ last' s2, Y = .inl (nI last', s2) ∧ last ≤ last' ∧ SE nn V (fun i k => ¬ W i k = -1) s s2 last' (a + 1)) ∨ ∃ k s2, Y = .inr (nI k, s2) ∧ FO nn V (fun i k => ¬ W i k = -1) s s2 k) := by
  have e0 : (0 : Int32).toInt = 0 := rfl
  refine lp_inv (B := B_X6_endOfChain_86 (nI a) (nI i))
    (fun m X => ∃ (lst c : Nat) (s2 : St), X = (nI lst, nI c, s2) ∧ c + m = nn ∧ last ≤ lst ∧ SE nn V (fun i k => ¬ W i k = -1) s s2 lst a ∧ a < lst ∧ s2.2.1 611 a = nI i ∧ ∀ k, k < c → ¬ W i k = -1 → ¬ s2.2.1 610 k = -1)
    (fun Y => (∃ last' s2, Y = .inl (nI last', s2) ∧ last ≤ last' ∧ SE nn V (fun i k => ¬ W i k = -1) s s2 last' (a + 1)) ∨ ∃ k s2, Y = .inr (nI k, s2) ∧ FO nn V (fun i k => ¬ W i k = -1) s s2 k) (by
      rintro m _ ⟨lst, c, s2, rfl, hcm, hll, hE2, hal, hq2, hk⟩
      have hE0 := hE2
      obtain ⟨q1, q2, q3, q4, q5⟩ := hE2
      have i1 : s2.1 501 = nI nn := by rw [q1.1.i (k := 501) rfl, iN]
      by_cases e : c = nn
      · right
        subst e
        refine ⟨.inl (nI lst, s2), ?_, Or.inl ⟨lst, s2, rfl, hll, q1, q2, q3, fun b hb j hj hqb k hk2 hok => ?_, q5⟩⟩
        · unfold B_X6_endOfChain_86
          dsimp only
          rw [i1, if_pos (Int32.le_refl _)]
        · by_cases e2 : b = a
          · rw [e2, hq2] at hqb
            have : j = i := ((nI_eq (by omega) (by omega)).mp hqb).symm
            subst this
            exact hk k hk2 hok
          · exact q4 b (by omega) j hj hqb k hk2 hok
      · have h9 : ¬ nI nn ≤ nI c := by
          rw [i32_le, nI_toInt (by omega), nI_toInt (by omega)]
          omega
        have hcn : c < nn := by omega
        have ix : nI i * 20 + nI c = nI (20 * i + c) := idxN (k := 20) (by omega) (by omega) (by omega)
        have k1 : rd s2 604 480 (nI (20 * i + c)) = some (W i c) := by rw [rd_nI (by omega) (by omega), q1.2.1, hW i hi c hcn]
        have k2 : rd s2 610 20 (nI c) = some (s2.2.1 610 c) := rd_nI (by omega) (by omega)
        have stay : (¬ W i c = -1 → ¬ s2.2.1 610 c = -1) → ∀ k, k < c + 1 → ¬ W i k = -1 → ¬ s2.2.1 610 k = -1 := by
          intro h0 k hk2
          by_cases e2 : k = c
          · rw [e2]; exact h0
          · exact hk k (by omega)
        by_cases d1 : W i c = -1
        · left
          refine ⟨(nI lst, nI (c + 1), s2), m - 1, ?_, by omega, lst, c + 1, s2, rfl, by omega, hll, hE0, hal, hq2, stay (fun z => absurd d1 z)⟩
          unfold B_X6_endOfChain_86
          dsimp only
          rw [i1, if_neg h9, ix, k1, bind_some, if_pos d1, nI_1]
        by_cases d2 : s2.2.1 610 c = -1
        · -- a new school
          have hvi : visV (fun i => 0 < (s.2.1 606 i).toInt) (s2.2.1 609) i := by
            obtain ⟨j, j1, j2, j3⟩ := q2.2.1 a hal
            rw [hq2] at j2
            have : j = i := ((nI_eq (by omega) (by omega)).mp j2).symm
            subst this
            exact Or.inr j3
          obtain ⟨t1, P, t2⟩ := TR_school q3 hcn d2 hi hV hvi d1
          have s3e : ∃ s3, wr s2 610 20 (nI c) (nI i) = some s3 ∧ QS s2 s3 ∧ s3.2.1 610 = upd (s2.2.1 610) c (nI i) ∧ s3.2.1 609 = s2.2.1 609 ∧ s3.2.1 611 = s2.2.1 611 := ⟨_, wr_nI (by omega) (by omega), ⟨SS_sA _ _ _ rfl, rfl, rfl, rfl, rfl⟩, sA_at _ _ _ _, rfl, rfl⟩
          obtain ⟨s3, a1, a2, a3, a4, a5⟩ := s3e
          rw [← a3, ← a4] at t1 t2
          have hq3 : QS s s3 := q1.trans a2
          have hQ3 : QU V (s.2.1 606) (s3.2.1 609) (s3.2.1 611) lst := by rw [a4, a5]; exact q2
          have k3 : rd s3 607 20 (nI c) = some (s.2.1 607 c) := by rw [rd_nI (by omega) (by omega), hq3.2.2.2.2]
          have ni : ¬ nI i = -1 := nI_neg1 (by omega)
          by_cases d3 : s.2.1 607 c ≤ 0
          · left
            obtain ⟨lst', s4, b1, b2, b3, b4, b5, b6, b7, b8, b9⟩ := C_queue hnn hV iV hS hcn hq3 hQ3 t1 t2
            have mono : ∀ k, ¬ s2.2.1 610 k = -1 → ¬ s4.2.1 610 k = -1 := by
              intro k hk2
              rw [b3, a3]
              by_cases e2 : k = c
              · rw [e2, upd_at]; exact ni
              · rw [upd_ne _ _ e2]; exact hk2
            refine ⟨(nI lst', nI (c + 1), s4), m - 1, ?_, by omega, lst', c + 1, s4, rfl, by omega, by omega, ⟨b2, b4, b5, fun b hb j hj hqb k hk2 hok => ?_, fun k hk2 hpk => ?_⟩, by omega, by rw [b7 a hal, a5]; exact hq2, fun k hk2 hok => ?_⟩
            · unfold B_X6_endOfChain_86
              dsimp only
              rw [i1, if_neg h9, ix, k1, bind_some, if_neg d1, k2, bind_some, if_pos d2, a1, bind_some, k3, bind_some, if_pos d3, b1, bind_some, nI_1]
            · rw [b7 b (by omega), a5] at hqb
              exact mono k (q4 b hb j hj hqb k hk2 hok)
            · by_cases e2 : k = c
              · subst e2
                rw [i32_le, e0] at d3
                exact ⟨d3, b9⟩
              · rw [b3, a3, upd_ne _ _ e2] at hpk
                obtain ⟨x1, x2⟩ := q5 k hk2 hpk
                refine ⟨x1, fun j hj hz => b6 j hj ?_⟩
                rw [a4]
                exact x2 j hj hz
            · by_cases e2 : k = c
              · rw [b3, a3, e2, upd_at]; exact ni
              · exact mono k (hk k (by omega) hok)
          · right
            refine ⟨.inr (nI c, s3), ?_, Or.inr ⟨c, s3, rfl, hq3, fun j hj hz => (hQ3.2.2.2 j hj).mp hz, hcn, ?_, i, P, t2.1, ?_⟩⟩
            · unfold B_X6_endOfChain_86
              dsimp only
              rw [i1, if_neg h9, ix, k1, bind_some, if_neg d1, k2, bind_some, if_pos d2, a1, bind_some, k3, bind_some, if_neg d3]
            · rw [i32_le, e0] at d3
              omega
            · have := t2.2.2
              have hmx := cn_max (visB (s3.2.1 610)) nn
              simp only [List.length_cons] at this
              omega
        · left
          refine ⟨(nI lst, nI (c + 1), s2), m - 1, ?_, by omega, lst, c + 1, s2, rfl, by omega, hll, hE0, hal, hq2, stay (fun _ => d2)⟩
          unfold B_X6_endOfChain_86
          dsimp only
          rw [i1, if_neg h9, ix, k1, bind_some, if_neg d1, k2, bind_some, if_neg d2, nI_1]) FU nn (nI last, 0, s0) ⟨last, 0, s0, rfl, by omega, Nat.le_refl _, hE, ha, hqa, fun k hk => absurd hk (by omega)⟩ (FU_lt (by omega))
theorem C_end {W : Nat → Nat → Int32} {nn V : Nat} {s : St} (hnn : nn ≤ 20) (hV : V ≤ 24) (iV : s.1 101 = nI V) (iN : s.1 501 = nI nn) (hW : ∀ i, i < V → ∀ k, k < nn → s.2.1 604 (20 * i + k) = W i k) (hS : ∀ i, i < V → ∀ k, k < nn → 0 ≤ (s.2.1 605 (20 * i + k)).toInt) : ∃ r s', F_X6_endOfChain s = some (r, s') ∧ QS s s' ∧ ((r = -1 ∧ ∃ A B, CUT nn V (fun i k => ¬ W i k = -1) (s.2.1 605) (s.2.1 606) (s.2.1 607) V A B) ∨ ∃ k, r = nI k ∧ FO nn V (fun i k => ¬ W i k = -1) s s' k) := by
  have e0 : (0 : Int32).toInt = 0 := rfl
  have e24 : (24 : Int32).toInt = 24 := rfl
  -- nobody is seen
  have s1e : ∃ s1, wF s 610 20 (-1) = some s1 ∧ QS s s1 ∧ ∀ k, k < 20 → s1.2.1 610 k = -1 := ⟨_, rfl, ⟨SS_pF s 20 (-1) rfl, rfl, rfl, rfl, rfl⟩, fun k hk => by rw [pF_setA, setA_at, flf_lt hk]⟩
  obtain ⟨s1, a1, a2, a3⟩ := s1e
  -- those with children over
  obtain ⟨Y, h1, last, s2, rfl, b1, b2, b3⟩ := lp_inv (B := B_X6_endOfChain_12)
    (fun m X => ∃ (lst j : Nat) (s2 : St), X = (nI lst, nI j, s2) ∧ j + m = V ∧ QS s s2 ∧ s2.2.1 610 = s1.2.1 610 ∧ lst ≤ j ∧ QU j (s.2.1 606) (s2.2.1 609) (s2.2.1 611) lst ∧ ∀ i, i < j → ¬ s2.2.1 609 i = -1 → 0 < (s.2.1 606 i).toInt)
    (fun Y => ∃ (lst : Nat) (s2 : St), Y = (nI lst, s2) ∧ QS s s2 ∧ s2.2.1 610 = s1.2.1 610 ∧ QU V (s.2.1 606) (s2.2.1 609) (s2.2.1 611) lst ∧ ∀ i, i < V → ¬ s2.2.1 609 i = -1 → 0 < (s.2.1 606 i).toInt) (by
      rintro m _ ⟨lst, j, s2, rfl, hj, q1, q2, hlj, q3, q4⟩
      have i1 : s2.1 101 = nI V := by rw [q1.1.i (k := 101) rfl, iV]
      by_cases e : j = V
      · right
        subst e
        refine ⟨(nI lst, s2), ?_, lst, s2, rfl, q1, q2, q3, q4⟩
        unfold B_X6_endOfChain_12
        dsimp only
        rw [i1, if_pos (Int32.le_refl _)]
      · left
        have h9 : ¬ nI V ≤ nI j := by
          rw [i32_le, nI_toInt (by omega), nI_toInt (by omega)]
          omega
        obtain ⟨r1, r2, r3, r4⟩ := q3
        have s3e : ∃ s3, wr s2 609 24 (nI j) (-1) = some s3 ∧ QS s2 s3 ∧ s3.2.1 609 = upd (s2.2.1 609) j (-1) ∧ s3.2.1 610 = s2.2.1 610 ∧ s3.2.1 611 = s2.2.1 611 := ⟨_, wr_nI (by omega) (by omega), ⟨SS_sA _ _ _ rfl, rfl, rfl, rfl, rfl⟩, sA_at _ _ _ _, rfl, rfl⟩
        obtain ⟨s3, c1, c2, c3, c4, c5⟩ := s3e
        have k1 : rd s3 606 24 (nI j) = some (s.2.1 606 j) := by rw [rd_nI (by omega) (by omega), (q1.trans c2).2.2.2.1]
        by_cases d : s.2.1 606 j ≤ 0
        · refine ⟨(nI lst, nI (j + 1), s3), m - 1, ?_, by omega, lst, j + 1, s3, rfl, by omega, q1.trans c2, c4.trans q2, by omega, ⟨?_, fun b hb => ?_, fun i hi hp => ?_, fun i hi => ?_⟩, fun i hi hp => ?_⟩
          · unfold B_X6_endOfChain_12
            dsimp only
            rw [i1, if_neg h9, c1, bind_some, k1, bind_some, if_pos d, nI_1]
          · rw [c3, r1]
            show _ = cn _ j + _
            have : cn (fun i => decide (¬ upd (s2.2.1 609) j (-1) i = -1)) j = cn (fun i => decide (¬ s2.2.1 609 i = -1)) j := cn_cong (fun i hi => by rw [upd_ne _ _ (by omega)])
            rw [this]
            rw [if_neg (show ¬ (decide (¬ upd (s2.2.1 609) j (-1) j = -1) = true) by
              rw [decide_eq_true_eq, upd_at]
              exact fun z => z rfl)]
            rfl
          · rw [c5]
            obtain ⟨i, x1, x2, x3⟩ := r2 b hb
            exact ⟨i, by omega, x2, by rw [c3, upd_ne _ _ (by omega)]; exact x3⟩
          · rw [c3] at hp
            by_cases e2 : i = j
            · rw [e2, upd_at] at hp
              exact absurd rfl hp
            · rw [upd_ne _ _ e2] at hp
              rw [c5]
              exact r3 i (by omega) hp
          · rw [c3]
            by_cases e2 : i = j
            · subst e2
              rw [upd_at]
              rw [i32_le, e0] at d
              exact ⟨fun z => absurd z (by omega), fun z => absurd z (by decide)⟩
            · rw [upd_ne _ _ e2]
              exact r4 i (by omega)
          · rw [c3] at hp
            by_cases e2 : i = j
            · rw [e2, upd_at] at hp
              exact absurd rfl hp
            · rw [upd_ne _ _ e2] at hp
              exact q4 i (by omega) hp
        · have s4e : ∃ s4, wr s3 609 24 (nI j) (-2) = some s4 ∧ QS s3 s4 ∧ s4.2.1 609 = upd (s3.2.1 609) j (-2) ∧ s4.2.1 610 = s3.2.1 610 ∧ s4.2.1 611 = s3.2.1 611 := ⟨_, wr_nI (by omega) (by omega), ⟨SS_sA _ _ _ rfl, rfl, rfl, rfl, rfl⟩, sA_at _ _ _ _, rfl, rfl⟩
          obtain ⟨s4, f1, f2, f3, f4, f5⟩ := s4e
          have s5e : ∃ s5, wr s4 611 24 (nI lst) (nI j) = some s5 ∧ QS s4 s5 ∧ s5.2.1 609 = s4.2.1 609 ∧ s5.2.1 610 = s4.2.1 610 ∧ s5.2.1 611 = upd (s4.2.1 611) lst (nI j) := ⟨_, wr_nI (by omega) (by omega), ⟨SS_sA _ _ _ rfl, rfl, rfl, rfl, rfl⟩, rfl, rfl, sA_at _ _ _ _⟩
          obtain ⟨s5, g1, g2, g3, g4, g5⟩ := s5e
          have x609 : ∀ i, i ≠ j → s5.2.1 609 i = s2.2.1 609 i := fun i hi => by rw [g3, f3, upd_ne _ _ hi, c3, upd_ne _ _ hi]
          have y609 : s5.2.1 609 j = -2 := by rw [g3, f3, upd_at]
          have x611 : s5.2.1 611 = upd (s2.2.1 611) lst (nI j) := by rw [g5, f5, c5]
          rw [i32_le, e0] at d
          have d' : ¬ s.2.1 606 j ≤ 0 := by rw [i32_le, e0]; exact d
          refine ⟨(nI (lst + 1), nI (j + 1), s5), m - 1, ?_, by omega, lst + 1, j + 1, s5, rfl, by omega, q1.trans (c2.trans (f2.trans g2)), (g4.trans (f4.trans c4)).trans q2, by omega, ⟨?_, fun b hb => ?_, fun i hi hp => ?_, fun i hi => ?_⟩, fun i hi hp => ?_⟩
          · unfold B_X6_endOfChain_12
            dsimp only
            rw [i1, if_neg h9, c1, bind_some, k1, bind_some, if_neg d', f1, bind_some, g1, bind_some, nI_1, nI_1]
          · rw [r1]
            show _ = cn _ j + _
            have : cn (fun i => decide (¬ s5.2.1 609 i = -1)) j = cn (fun i => decide (¬ s2.2.1 609 i = -1)) j := cn_cong (fun i hi => by rw [x609 i (by omega)])
            rw [this]
            rw [if_pos (show decide (¬ s5.2.1 609 j = -1) = true from decide_eq_true (by rw [y609]; decide))]
          · rw [x611]
            by_cases e2 : b = lst
            · rw [e2, upd_at]
              exact ⟨j, by omega, rfl, by rw [y609]; decide⟩
            · rw [upd_ne _ _ e2]
              obtain ⟨i, x1, x2, x3⟩ := r2 b (by omega)
              exact ⟨i, by omega, x2, by rw [x609 i (by omega)]; exact x3⟩
          · rw [x611]
            by_cases e2 : i = j
            · exact ⟨lst, by omega, by rw [upd_at, e2]⟩
            · rw [x609 i e2] at hp
              obtain ⟨b, x1, x2⟩ := r3 i (by omega) hp
              exact ⟨b, by omega, by rw [upd_ne _ _ (by omega)]; exact x2⟩
          · by_cases e2 : i = j
            · subst e2
              rw [y609]
              exact ⟨fun _ => rfl, fun _ => by omega⟩
            · rw [x609 i e2]
              exact r4 i (by omega)
          · by_cases e2 : i = j
            · rw [e2]
              omega
            · rw [x609 i e2] at hp
              exact q4 i (by omega) hp) FU V (0, 0, s1) ⟨0, 0, s1, rfl, by omega, a2, rfl, Nat.le_refl _, ⟨rfl, fun b hb => absurd hb (by omega), fun i hi => absurd hi (by omega), fun i hi => absurd hi (by omega)⟩, fun i hi => absurd hi (by omega)⟩ (FU_lt (by omega))
  obtain ⟨b3, b4⟩ := b3
  have hT : TR nn V (fun i k => ¬ W i k = -1) (s.2.1 605) (s2.2.1 610) (s2.2.1 609) (fun i => 0 < (s.2.1 606 i).toInt) := by
    refine ⟨fun i hi hv hr => ?_, fun k hk hp => ?_⟩
    · rcases hv with z | z
      · exact absurd z hr
      · exact absurd (b4 i hi z) hr
    · rw [b2, a3 k (by omega)] at hp
      exact absurd rfl hp
  have hE0 : SE nn V (fun i k => ¬ W i k = -1) s s2 last 0 := ⟨b1, b3, hT, fun b hb => absurd hb (by omega), fun k hk hp => by
    rw [b2, a3 k (by omega)] at hp
    exact absurd rfl hp⟩
  -- the search
  obtain ⟨Z, k1, k2⟩ := lp_inv (B := B_X6_endOfChain_65)
    (fun m X => ∃ (lst a : Nat) (s2 : St), X = (nI lst, nI a, s2) ∧ a + m = 24 ∧ a ≤ lst ∧ SE nn V (fun i k => ¬ W i k = -1) s s2 lst a)
    (fun Z => (∃ s2 lst, Z = .inl s2 ∧ SE nn V (fun i k => ¬ W i k = -1) s s2 lst lst) ∨ ∃ k s2, Z = .inr (nI k, s2) ∧ FO nn V (fun i k => ¬ W i k = -1) s s2 k) (by
      rintro m _ ⟨lst, a, s2, rfl, ham, hal, hE⟩
      have hl24 : lst ≤ 24 := by
        have := cn_max (fun i => decide (¬ s2.2.1 609 i = -1)) V
        have := hE.2.1.1
        omega
      by_cases e : a = lst
      · right
        subst e
        refine ⟨.inl s2, ?_, Or.inl ⟨s2, a, rfl, hE⟩⟩
        unfold B_X6_endOfChain_65
        dsimp only
        rw [if_pos (Int32.le_refl _)]
      · have c1 : ¬ nI lst ≤ nI a := by
          rw [i32_le, nI_toInt (by omega), nI_toInt (by omega)]
          omega
        have c2 : ¬ (24 : Int32) ≤ nI a := by
          rw [i32_le, nI_toInt (by omega)]
          omega
        obtain ⟨i, i1, i2, i3⟩ := hE.2.1.2.1 a (by omega)
        have r1 : rd s2 611 24 (nI a) = some (nI i) := by rw [rd_nI (by omega) (by omega), i2]
        obtain ⟨Y, y1, y2⟩ := C_row hnn hV iV iN hW hS hE (by omega) i1 i2
        have hB : B_X6_endOfChain_65 (nI lst, nI a, s2) = F_X6_endOfChain_86 (nI lst) (nI a) (nI i) 0 s2 := by
          unfold B_X6_endOfChain_65
          dsimp only
          rw [if_neg c1, if_neg c2, r1, bind_some]
        rw [hB]
        unfold F_X6_endOfChain_86
        rw [y1, bind_some]
        rcases y2 with ⟨last', s3, rfl, hll, y3⟩ | ⟨k, s3, rfl, y3⟩
        · left
          refine ⟨(nI last', nI (a + 1), s3), m - 1, ?_, by omega, last', a + 1, s3, rfl, by omega, by omega, y3⟩
          show some (Sum.inl (nI last', nI a + 1, s3)) = _
          rw [nI_1]
        · right
          exact ⟨.inr (nI k, s3), rfl, Or.inr ⟨k, s3, rfl, y3⟩⟩) FU 24 (nI last, 0, s2) ⟨last, 0, s2, rfl, by omega, by omega, hE0⟩ (FU_lt (by omega))
  have hend : F_X6_endOfChain s = (Sum.elim (fun y => F_X6_endOfChain_169 y) (fun y => F_X6_endOfChain_146 y.1 y.2) Z) := by
    unfold F_X6_endOfChain
    rw [a1, bind_some]
    unfold F_X6_endOfChain_12
    have h1' : lp B_X6_endOfChain_12 FU (0, 0, s1) = some (nI last, s2) := h1
    rw [h1', bind_some]
    unfold F_X6_endOfChain_63 F_X6_endOfChain_65
    have k1' : lp B_X6_endOfChain_65 FU (nI last, 0, s2) = some Z := k1
    rw [k1', bind_some]
  rw [hend]
  rcases k2 with ⟨s3, lst, rfl, q1, q2, q3, q4, q5⟩ | ⟨k, s3, rfl, q1⟩
  · refine ⟨-1, s3, rfl, q1, Or.inl ⟨rfl, fun i => ¬ s3.2.1 609 i = -1, fun k => ¬ s3.2.1 610 k = -1, fun i _ hi hO => ?_, fun i hi k hk hA hok => ?_, fun k hk hB => (q5 k hk hB).1, fun i hi k hk hB hz => (q5 k hk hB).2 i hi hz⟩⟩
    · show ¬ s3.2.1 609 i = -1
      rw [(q2.2.2.2 i hi).mp hO]
      decide
    · obtain ⟨b, b1, b2⟩ := q2.2.2.1 i hi hA
      exact q4 b b1 i hi b2 k hk hok
  · exact ⟨nI k, s3, rfl, q1.1, Or.inr ⟨k, rfl, q1⟩⟩
