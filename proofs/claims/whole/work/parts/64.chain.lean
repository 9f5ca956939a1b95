/-! chains: the tree that a search leaves -/
theorem cn_cong {p q : Nat → Bool} : ∀ {n : Nat}, (∀ i, i < n → p i = q i) → cn p n = cn q n
  | 0, _ => rfl
  | n + 1, h => by
    unfold cn
    rw [cn_cong (fun i hi => h i (by omega)), h n (by omega)]
theorem cn_one {p q : Nat → Bool} {j : Nat} (hp : p j = false) (hq : q j = true) (ho : ∀ i, i ≠ j → q i = p i) : ∀ {n : Nat}, j < n → cn q n = cn p n + 1
  | 0, hn => absurd hn (by omega)
  | n + 1, hn => by
    unfold cn
    by_cases e : n = j
    · subst e
      rw [cn_cong (fun i hi => ho i (by omega)), hp, hq, if_pos rfl, if_neg (by decide)]
    · rw [cn_one hp hq ho (n := n) (by omega), ho n e]
      omega
theorem cn_less {p : Nat → Bool} {j n : Nat} (hj : j < n) (hp : p j = false) : cn p n < n := by
  have h1 : cn p n < cn (fun _ => true) n := cn_lt (fun _ _ _ => rfl) ⟨j, hj, rfl, hp⟩
  have h2 := cn_max (fun _ => true) n
  omega
def visV (rt : Nat → Prop) (pv : Nat → Int32) (i : Nat) : Prop := rt i ∨ ¬ pv i = -1
def visB (ps : Nat → Int32) (k : Nat) : Bool := decide (¬ ps k = -1)
/-- a chain of visited ones, not too long -/
def PC (nn V : Nat) (ok : Nat → Nat → Prop) (S ps pv : Nat → Int32) (rt : Nat → Prop) (l : List (Nat × Nat)) : Prop := PT nn V ok S ps pv rt l ∧ (∀ p ∈ l, visV rt pv p.2 ∧ ¬ ps p.1 = -1) ∧ l.length ≤ cn (visB ps) nn
def TR (nn V : Nat) (ok : Nat → Nat → Prop) (S ps pv : Nat → Int32) (rt : Nat → Prop) : Prop := (∀ i, i < V → visV rt pv i → ¬ rt i → ∃ (k i0 : Nat) (P : List (Nat × Nat)), k < nn ∧ pv i = nI k ∧ 0 < (S (20 * i + k)).toInt ∧ PC nn V ok S ps pv rt ((k, i0) :: P) ∧ ∀ p ∈ (k, i0) :: P, ¬ p.2 = i) ∧ ∀ k, k < nn → ¬ ps k = -1 → ∃ i, i < V ∧ ps k = nI i ∧ ok i k ∧ visV rt pv i
theorem visB_upd {ps : Nat → Int32} {nn c i : Nat} (hc : c < nn) (h : ps c = -1) (hi : i < 2 ^ 31) : cn (visB (upd ps c (nI i))) nn = cn (visB ps) nn + 1 := by
  refine cn_one (j := c) ?_ ?_ (fun k hk => ?_) hc
  · unfold visB
    rw [h]
    rfl
  · unfold visB
    rw [upd_at]
    exact decide_eq_true (nI_neg1 hi)
  · unfold visB
    rw [upd_ne _ _ hk]
/-- one school more -/
theorem TR_school {nn V : Nat} {ok : Nat → Nat → Prop} {S ps pv : Nat → Int32} {rt : Nat → Prop} (h : TR nn V ok S ps pv rt) {c i : Nat} (hc : c < nn) (hps : ps c = -1) (hi : i < V) (hV : V ≤ 24) (hv : visV rt pv i) (hok : ok i c) : TR nn V ok S (upd ps c (nI i)) pv rt ∧ ∃ P, PC nn V ok S (upd ps c (nI i)) pv rt ((c, i) :: P) := by
  have hcn := visB_upd (nn := nn) hc hps (i := i) (by omega)
  have keepP : ∀ l, PC nn V ok S ps pv rt l → PC nn V ok S (upd ps c (nI i)) pv rt l := by
    rintro l ⟨h1, h2, h3⟩
    have hne : ∀ p ∈ l, ¬ p.1 = c := fun p hp e => (h2 p hp).2 (by rw [e]; exact hps)
    refine ⟨PT_keep (fun p hp => ⟨upd_ne _ _ (hne p hp), rfl⟩) h1, fun p hp => ⟨(h2 p hp).1, ?_⟩, by omega⟩
    rw [upd_ne _ _ (hne p hp)]
    exact (h2 p hp).2
  have hself : ¬ upd ps c (nI i) c = -1 := by rw [upd_at]; exact nI_neg1 (by omega)
  refine ⟨⟨fun j hj hvj hrj => ?_, fun k hk hpk => ?_⟩, ?_⟩
  · obtain ⟨k, i0, P, a1, a2, a3, a4, a5⟩ := h.1 j hj hvj hrj
    exact ⟨k, i0, P, a1, a2, a3, keepP _ a4, a5⟩
  · by_cases e : k = c
    · subst e
      exact ⟨i, hi, upd_at _ _ _, hok, hv⟩
    · rw [upd_ne _ _ e] at hpk ⊢
      exact h.2 k hk hpk
  · by_cases hr : rt i
    · refine ⟨[], ⟨hc, hi, upd_at _ _ _, hok, hr⟩, fun p hp => ?_, ?_⟩
      · rw [List.mem_singleton.mp hp]
        exact ⟨Or.inl hr, hself⟩
      · show 1 ≤ _
        omega
    · obtain ⟨k, i0, P, a1, a2, a3, a4, a5⟩ := h.1 i hi hv hr
      have b := keepP _ a4
      have hkc : ¬ c = k := by
        intro e
        have := (a4.2.1 (k, i0) (List.mem_cons_self ..)).2
        rw [← e] at this
        exact this hps
      refine ⟨(k, i0) :: P, ⟨hc, hi, upd_at _ _ _, hok, hr, a2, a3, hkc, a5, b.1⟩, fun p hp => ?_, ?_⟩
      · rcases List.mem_cons.mp hp with e | hp
        · rw [e]
          exact ⟨hv, hself⟩
        · exact b.2.1 p hp
      · have := a4.2.2
        show ((k, i0) :: P).length + 1 ≤ _
        omega
/-- one village more -/
theorem TR_village {nn V : Nat} {ok : Nat → Nat → Prop} {S ps pv : Nat → Int32} {rt : Nat → Prop} (h : TR nn V ok S ps pv rt) {c i0 j : Nat} {P : List (Nat × Nat)} (hc : c < nn) (hnn : nn ≤ 20) (hP : PC nn V ok S ps pv rt ((c, i0) :: P)) (hrj : ¬ rt j) (hpv : pv j = -1) (hS : 0 < (S (20 * j + c)).toInt) : TR nn V ok S ps (upd pv j (nI c)) rt ∧ PC nn V ok S ps (upd pv j (nI c)) rt ((c, i0) :: P) ∧ ∀ i, visV rt pv i → visV rt (upd pv j (nI c)) i := by
  have hnv : ¬ visV rt pv j := fun z => z.elim hrj (fun w => w hpv)
  have hmono : ∀ i, visV rt pv i → visV rt (upd pv j (nI c)) i := by
    intro i hvi
    by_cases e : i = j
    · rw [e] at hvi
      exact absurd hvi hnv
    · unfold visV
      rw [upd_ne _ _ e]
      exact hvi
  have keepP : ∀ l, PC nn V ok S ps pv rt l → PC nn V ok S ps (upd pv j (nI c)) rt l ∧ ∀ p ∈ l, ¬ p.2 = j := by
    rintro l ⟨h1, h2, h3⟩
    have hne : ∀ p ∈ l, ¬ p.2 = j := fun p hp e => hnv (by rw [← e]; exact (h2 p hp).1)
    exact ⟨⟨PT_keep (fun p hp => ⟨rfl, upd_ne _ _ (hne p hp)⟩) h1, fun p hp => ⟨hmono _ (h2 p hp).1, (h2 p hp).2⟩, h3⟩, hne⟩
  refine ⟨⟨fun i hi hvi hri => ?_, fun k hk hpk => ?_⟩, (keepP _ hP).1, hmono⟩
  · by_cases e : i = j
    · subst e
      exact ⟨c, i0, P, hc, upd_at _ _ _, hS, (keepP _ hP).1, (keepP _ hP).2⟩
    · have hvi' : visV rt pv i := by
        unfold visV at hvi ⊢
        rw [upd_ne _ _ e] at hvi
        exact hvi
      obtain ⟨k, i1, Q, a1, a2, a3, a4, a5⟩ := h.1 i hi hvi' hri
      exact ⟨k, i1, Q, a1, by rw [upd_ne _ _ e]; exact a2, a3, (keepP _ a4).1, a5⟩
  · obtain ⟨i, a1, a2, a3, a4⟩ := h.2 k hk hpk
    exact ⟨i, a1, a2, a3, hmono _ a4⟩
/-! the class's moves along a chain -/
theorem C_min {nn V : Nat} {ok : Nat → Nat → Prop} {s : St} {rt : Nat → Prop} (hnn : nn ≤ 20) (hV : V ≤ 24) (hrt : ∀ i, i < V → rt i → s.2.1 609 i = -2 ∧ 0 < (s.2.1 606 i).toInt) (e : Int32) : ∀ (l : List (Nat × Nat)) (k i : Nat) (m0 : Int32) (st : Nat), PT nn V ok (s.2.1 605) (s.2.1 610) (s.2.1 609) rt ((k, i) :: l) → st + (l.length + 1) ≤ 20 → 0 < m0.toInt → ∀ F, l.length + 1 < F → ∃ m, lp (B_X6_moveAlong_12 e s) F (m0, nI k, nI st) = some m ∧ LQ (s.2.1 605) (s.2.1 606) m.toInt ((k, i) :: l) ∧ m.toInt ≤ m0.toInt ∧ 0 < m.toInt := by
  have e0 : (0 : Int32).toInt = 0 := rfl
  have e20 : (20 : Int32).toInt = 20 := rfl
  intro l
  induction l with
  | nil =>
    intro k i m0 st hP hst hm F hF
    obtain ⟨F, rfl⟩ : ∃ F', F = F' + 2 := ⟨F - 2, by simp only [List.length_nil] at hF; omega⟩
    obtain ⟨h1, h2, h3, h4, h5⟩ := hP
    obtain ⟨r1, r2⟩ := hrt i h2 h5
    simp only [List.length_nil] at hst
    have c1 : ¬ (20 : Int32) ≤ nI st := by rw [i32_le, nI_toInt (by omega)]; omega
    have c2 : ¬ nI k < 0 := by rw [i32_lt, nI_toInt (by omega)]; omega
    have c3 : ¬ nI i < 0 := by rw [i32_lt, nI_toInt (by omega)]; omega
    have k1 : rd s 610 20 (nI k) = some (nI i) := by rw [rd_nI (by omega) (by omega), h3]
    have k2 : rd s 609 24 (nI i) = some (-2) := by rw [rd_nI (by omega) (by omega), r1]
    have k3 : rd s 606 24 (nI i) = some (s.2.1 606 i) := rd_nI (by omega) (by omega)
    have hB : B_X6_moveAlong_12 e s (m0, nI k, nI st) = some (.inl (zmn m0 (s.2.1 606 i), -2, nI st + 1)) := by
      unfold B_X6_moveAlong_12
      dsimp only
      rw [if_neg c1, if_neg c2, k1, bind_some, if_neg c3, bind_some, k2, bind_some, if_neg (show ¬ (0 : Int32) ≤ -2 by decide), k3, bind_some]
    have hB2 : B_X6_moveAlong_12 e s (zmn m0 (s.2.1 606 i), -2, nI st + 1) = some (.inr (zmn m0 (s.2.1 606 i))) := by
      unfold B_X6_moveAlong_12
      dsimp only
      by_cases c4 : (20 : Int32) ≤ nI st + 1
      · rw [if_pos c4]
      · rw [if_neg c4, if_pos (show (-2 : Int32) < 0 by decide)]
    have ez := zmn_int m0 (s.2.1 606 i)
    refine ⟨zmn m0 (s.2.1 606 i), by rw [lp_l hB, lp_r hB2], ?_, by omega, by omega⟩
    show (zmn m0 (s.2.1 606 i)).toInt ≤ _
    omega
  | cons p l ih =>
    obtain ⟨k', i'⟩ := p
    intro k i m0 st hP hst hm F hF
    obtain ⟨F, rfl⟩ : ∃ F', F = F' + 1 := ⟨F - 1, by omega⟩
    obtain ⟨h1, h2, h3, h4, h5, h6, h7, h8, h9, h10⟩ := hP
    simp only [List.length_cons] at hst hF
    have hk' : k' < nn := by
      cases l with
      | nil => exact h10.1
      | cons p l => exact h10.1
    have c1 : ¬ (20 : Int32) ≤ nI st := by rw [i32_le, nI_toInt (by omega)]; omega
    have c2 : ¬ nI k < 0 := by rw [i32_lt, nI_toInt (by omega)]; omega
    have c3 : ¬ nI i < 0 := by rw [i32_lt, nI_toInt (by omega)]; omega
    have c4 : (0 : Int32) ≤ nI k' := by rw [i32_le, nI_toInt (by omega)]; omega
    have ix : nI i * 20 + nI k' = nI (20 * i + k') := idxN (k := 20) (by omega) (by omega) (by omega)
    have k1 : rd s 610 20 (nI k) = some (nI i) := by rw [rd_nI (by omega) (by omega), h3]
    have k2 : rd s 609 24 (nI i) = some (nI k') := by rw [rd_nI (by omega) (by omega), h6]
    have k3 : rd s 605 480 (nI (20 * i + k')) = some (s.2.1 605 (20 * i + k')) := rd_nI (by omega) (by omega)
    have hB : B_X6_moveAlong_12 e s (m0, nI k, nI st) = some (.inl (zmn m0 (s.2.1 605 (20 * i + k')), nI k', nI (st + 1))) := by
      unfold B_X6_moveAlong_12
      dsimp only
      rw [if_neg c1, if_neg c2, k1, bind_some, if_neg c3, bind_some, k2, bind_some, if_pos c4, ix, k3, bind_some, nI_1]
    have ez := zmn_int m0 (s.2.1 605 (20 * i + k'))
    obtain ⟨m, m1, m2, m3, m4⟩ := ih k' i' (zmn m0 (s.2.1 605 (20 * i + k'))) (st + 1) h10 (by omega) (by omega) F (by omega)
    refine ⟨m, by rw [lp_l hB, m1], ⟨by omega, m2⟩, by omega, m4⟩
theorem C_shift {nn V : Nat} {ok : Nat → Nat → Prop} {rt : Nat → Prop} {O0 C0 : Nat → Int} (hnn : nn ≤ 20) (hV : V ≤ 24) (hO : ∀ i, i < V → O0 i ≤ 100000) {m : Int32} (hm : 0 < m.toInt) : ∀ (l : List (Nat × Nat)) (k i st : Nat) (s : St), PT nn V ok (s.2.1 605) (s.2.1 610) (s.2.1 609) rt ((k, i) :: l) → (∀ i, i < V → rt i → s.2.1 609 i = -2) → LQ (s.2.1 605) (s.2.1 606) m.toInt ((k, i) :: l) → FP nn V ok (s.2.1 605) (s.2.1 606) (s.2.1 607) (pd k m.toInt) O0 C0 → st + (l.length + 1) ≤ 20 → ∀ F, l.length + 1 < F → ∃ s', lp (B_X6_moveAlong_106 m) F (nI k, nI st, s) = some s' ∧ FI nn V ok (s'.2.1 605) (s'.2.1 606) (s'.2.1 607) O0 C0 ∧ SS s s' ∧ s'.2.1 604 = s.2.1 604 ∧ rsum (fun i => (s'.2.1 606 i).toInt) V = rsum (fun i => (s.2.1 606 i).toInt) V - m.toInt := by
  have e0 : (0 : Int32).toInt = 0 := rfl
  have e20 : (20 : Int32).toInt = 20 := rfl
  intro l
  induction l with
  | nil =>
    intro k i st s hP hrt hL hF0 hst F hF
    obtain ⟨F, rfl⟩ : ∃ F', F = F' + 2 := ⟨F - 2, by simp only [List.length_nil] at hF; omega⟩
    obtain ⟨h1, h2, h3, h4, h5⟩ := hP
    have r1 := hrt i h2 h5
    simp only [List.length_nil] at hst
    have c1 : ¬ (20 : Int32) ≤ nI st := by rw [i32_le, nI_toInt (by omega)]; omega
    have c2 : ¬ nI k < 0 := by rw [i32_lt, nI_toInt (by omega)]; omega
    have c3 : ¬ nI i < 0 := by rw [i32_lt, nI_toInt (by omega)]; omega
    have ix : nI i * 20 + nI k = nI (20 * i + k) := idxN (k := 20) (by omega) (by omega) (by omega)
    have k1 : rd s 610 20 (nI k) = some (nI i) := by rw [rd_nI (by omega) (by omega), h3]
    have k2 : rd s 609 24 (nI i) = some (-2) := by rw [rd_nI (by omega) (by omega), r1]
    have k3 : rd s 605 480 (nI (20 * i + k)) = some (s.2.1 605 (20 * i + k)) := rd_nI (by omega) (by omega)
    have w1 : wr s 605 480 (nI (20 * i + k)) (s.2.1 605 (20 * i + k) + m) = some (sA s 605 (20 * i + k) (s.2.1 605 (20 * i + k) + m)) := wr_nI (by omega) (by omega)
    have k4 : rd (sA s 605 (20 * i + k) (s.2.1 605 (20 * i + k) + m)) 606 24 (nI i) = some (s.2.1 606 i) := rd_nI (by omega) (by omega)
    have w2 : wr (sA s 605 (20 * i + k) (s.2.1 605 (20 * i + k) + m)) 606 24 (nI i) (s.2.1 606 i - m) = some (sA (sA s 605 (20 * i + k) (s.2.1 605 (20 * i + k) + m)) 606 i (s.2.1 606 i - m)) := wr_nI (by omega) (by omega)
    have hB : B_X6_moveAlong_106 m (nI k, nI st, s) = some (.inl (-2, nI st + 1, sA (sA s 605 (20 * i + k) (s.2.1 605 (20 * i + k) + m)) 606 i (s.2.1 606 i - m))) := by
      unfold B_X6_moveAlong_106
      dsimp only
      rw [if_neg c1, if_neg c2, k1, bind_some, if_neg c3, bind_some, k2, bind_some, ix, k3, bind_some, w1, bind_some, if_neg (show ¬ (0 : Int32) ≤ -2 by decide), k4, bind_some, w2, bind_some]
    have hB2 : ∀ s' : St, B_X6_moveAlong_106 m (-2, nI st + 1, s') = some (.inr s') := by
      intro s'
      unfold B_X6_moveAlong_106
      dsimp only
      by_cases c4 : (20 : Int32) ≤ nI st + 1
      · rw [if_pos c4]
      · rw [if_neg c4, if_pos (show (-2 : Int32) < 0 by decide)]
    have hL' : m.toInt ≤ (s.2.1 606 i).toInt := hL
    have hFI := FP_end hF0 hnn hO h2 h1 h4 (by omega) hL'
    refine ⟨_, by rw [lp_l hB, lp_r (hB2 _)], hFI, (SS_sA _ _ _ rfl).trans (SS_sA _ _ _ rfl), rfl, ?_⟩
    have eO : (s.2.1 606 i - m).toInt = (s.2.1 606 i).toInt - m.toInt := by
      have := Int32.toInt_lt (s.2.1 606 i)
      exact i32_sub (by omega) (by omega)
    have := rsum_upd (f := fun i => (s.2.1 606 i).toInt) (g := fun j => (upd (s.2.1 606) i (s.2.1 606 i - m) j).toInt) (k := i) (d := - m.toInt) (n := V) (fun j hj => by
      by_cases e2 : j = i
      · subst e2
        show (upd (s.2.1 606) j (s.2.1 606 j - m) j).toInt = (s.2.1 606 j).toInt + _
        rw [if_pos rfl, upd_at, eO]
        omega
      · show (upd (s.2.1 606) i (s.2.1 606 i - m) j).toInt = (s.2.1 606 j).toInt + _
        rw [if_neg e2, upd_ne _ _ e2, Int.add_zero])
    rw [if_pos h2] at this
    exact this
  | cons p l ih =>
    obtain ⟨k', i'⟩ := p
    intro k i st s hP hrt hL hF0 hst F hF
    obtain ⟨F, rfl⟩ : ∃ F', F = F' + 1 := ⟨F - 1, by omega⟩
    have hP0 := hP
    obtain ⟨h1, h2, h3, h4, h5, h6, h7, h8, h9, h10⟩ := hP
    simp only [List.length_cons] at hst hF
    have hk' : k' < nn := by
      cases l with
      | nil => exact h10.1
      | cons p l => exact h10.1
    have c1 : ¬ (20 : Int32) ≤ nI st := by rw [i32_le, nI_toInt (by omega)]; omega
    have c2 : ¬ nI k < 0 := by rw [i32_lt, nI_toInt (by omega)]; omega
    have c3 : ¬ nI i < 0 := by rw [i32_lt, nI_toInt (by omega)]; omega
    have c4 : (0 : Int32) ≤ nI k' := by rw [i32_le, nI_toInt (by omega)]; omega
    have ix : nI i * 20 + nI k = nI (20 * i + k) := idxN (k := 20) (by omega) (by omega) (by omega)
    have ix' : nI i * 20 + nI k' = nI (20 * i + k') := idxN (k := 20) (by omega) (by omega) (by omega)
    have k1 : rd s 610 20 (nI k) = some (nI i) := by rw [rd_nI (by omega) (by omega), h3]
    have k2 : rd s 609 24 (nI i) = some (nI k') := by rw [rd_nI (by omega) (by omega), h6]
    have k3 : rd s 605 480 (nI (20 * i + k)) = some (s.2.1 605 (20 * i + k)) := rd_nI (by omega) (by omega)
    have w1 : wr s 605 480 (nI (20 * i + k)) (s.2.1 605 (20 * i + k) + m) = some (sA s 605 (20 * i + k) (s.2.1 605 (20 * i + k) + m)) := wr_nI (by omega) (by omega)
    have a1 : (sA s 605 (20 * i + k) (s.2.1 605 (20 * i + k) + m)).2.1 605 = upd (s.2.1 605) (20 * i + k) (s.2.1 605 (20 * i + k) + m) := sA_at _ _ _ _
    have k4 : rd (sA s 605 (20 * i + k) (s.2.1 605 (20 * i + k) + m)) 605 480 (nI (20 * i + k')) = some (s.2.1 605 (20 * i + k')) := by rw [rd_nI (by omega) (by omega), a1, upd_ne _ _ (by omega)]
    have s2e : ∃ s2, wr (sA s 605 (20 * i + k) (s.2.1 605 (20 * i + k) + m)) 605 480 (nI (20 * i + k')) (s.2.1 605 (20 * i + k') - m) = some s2 ∧ SS s s2 ∧ s2.2.1 605 = upd (upd (s.2.1 605) (20 * i + k) (s.2.1 605 (20 * i + k) + m)) (20 * i + k') (s.2.1 605 (20 * i + k') - m) ∧ s2.2.1 604 = s.2.1 604 ∧ s2.2.1 606 = s.2.1 606 ∧ s2.2.1 607 = s.2.1 607 ∧ s2.2.1 609 = s.2.1 609 ∧ s2.2.1 610 = s.2.1 610 := ⟨_, wr_nI (by omega) (by omega), (SS_sA _ _ _ rfl).trans (SS_sA _ _ _ rfl), by rw [sA_at, a1], rfl, rfl, rfl, rfl, rfl⟩
    obtain ⟨s2, w2, b1, b2, b3, b4, b5, b6, b7⟩ := s2e
    have hB : B_X6_moveAlong_106 m (nI k, nI st, s) = some (.inl (nI k', nI (st + 1), s2)) := by
      unfold B_X6_moveAlong_106
      dsimp only
      rw [if_neg c1, if_neg c2, k1, bind_some, if_neg c3, bind_some, k2, bind_some, ix, k3, bind_some, w1, bind_some, if_pos c4, ix', k4, bind_some, w2, bind_some, nI_1]
    have hoth : ∀ p ∈ (k', i') :: l, ∀ kk, kk < nn → s2.2.1 605 (20 * p.2 + kk) = s.2.1 605 (20 * p.2 + kk) := by
      intro p hp kk hkk
      have := h9 p hp
      rw [b2, upd_ne _ _ (by omega), upd_ne _ _ (by omega)]
    have hP2 : PT nn V ok (s2.2.1 605) (s2.2.1 610) (s2.2.1 609) rt ((k', i') :: l) := by
      rw [b6, b7]
      exact PT_S hoth h10
    have hL2 : LQ (s2.2.1 605) (s2.2.1 606) m.toInt ((k', i') :: l) := LQ_S h10 (fun p hp => ⟨hoth p hp, by rw [b4]⟩) hL.2
    have hF2 : FP nn V ok (s2.2.1 605) (s2.2.1 606) (s2.2.1 607) (pd k' m.toInt) O0 C0 := by
      rw [b2, b4, b5]
      exact FP_mid hF0 hnn hO h2 h1 hk' h8 h4 (by omega) hL.1
    obtain ⟨s', m1, m2, m3, m4, m5⟩ := ih k' i' (st + 1) s2 hP2 (by rw [b6]; exact hrt) hL2 hF2 (by omega) F (by omega)
    exact ⟨s', by rw [lp_l hB, m1], m2, b1.trans m3, m4.trans b3, by rw [m5, b4]⟩
