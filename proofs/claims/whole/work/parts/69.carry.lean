/-! the reference's carrying, pushing; most -/
theorem PT_head {nn V : Nat} {ok : Nat → Nat → Prop} {S ps pv : Nat → Int32} {rt : Nat → Prop} {k i : Nat} {l : List (Nat × Nat)} (h : PT nn V ok S ps pv rt ((k, i) :: l)) : k < nn ∧ i < V ∧ ps k = nI i ∧ ok i k := by
  cases l with
  | nil => exact ⟨h.1, h.2.1, h.2.2.1, h.2.2.2.1⟩
  | cons p l => exact ⟨h.1, h.2.1, h.2.2.1, h.2.2.2.1⟩
theorem PT_lt {nn V : Nat} {ok : Nat → Nat → Prop} {S ps pv : Nat → Int32} {rt : Nat → Prop} : ∀ {l : List (Nat × Nat)}, PT nn V ok S ps pv rt l → ∀ p ∈ l, p.1 < nn ∧ p.2 < V
  | [], h, _, _ => absurd h (fun z => z)
  | [(k, i)], h, p, hp => by
    rw [List.mem_singleton.mp hp]
    exact ⟨h.1, h.2.1⟩
  | (k, i) :: (k', i') :: l, h, p, hp => by
    rcases List.mem_cons.mp hp with e | hp
    · rw [e]
      exact ⟨h.1, h.2.1⟩
    · exact PT_lt h.2.2.2.2.2.2.2.2.2 p hp
/-- a chain to a free school keeps off a cut -/
theorem PT_off {nn V : Nat} {ok : Nat → Nat → Prop} {S O L ps pv : Nat → Int32} {rt : Nat → Prop} {n : Nat} {A B : Nat → Prop} (hc : CUT nn V ok S O L n A B) : ∀ {l : List (Nat × Nat)} {k i : Nat}, PT nn V ok S ps pv rt ((k, i) :: l) → ¬ B k → ∀ p ∈ (k, i) :: l, ¬ B p.1
  | [], k, i, _, hB, p, hp => by
    rw [List.mem_singleton.mp hp]
    exact hB
  | (k', i') :: l, k, i, h, hB, p, hp => by
    obtain ⟨h1, h2, h3, h4, h5, h6, h7, h8, h9, h10⟩ := h
    have hk' := (PT_head h10).1
    have hA : ¬ A i := fun z => hB (hc.2.1 i h2 k h1 z h4)
    have hB' : ¬ B k' := fun z => hA (hc.2.2.2 i h2 k' hk' z (by omega))
    rcases List.mem_cons.mp hp with e | hp
    · rw [e]
      exact hB
    · exact PT_off hc h10 hB' p hp
theorem M_min {nn V : Nat} {ok : Nat → Nat → Prop} {t : St} {v : Nat} (hnn : nn ≤ 20) (hV : V ≤ 24) (hv : v < V) (e : Int32) : ∀ (l : List (Nat × Nat)) (k i : Nat) (m0 : Int32), PT nn V ok (t.2.1 1250) (t.2.1 1251) (t.2.1 1252) (fun i => i = v) ((k, i) :: l) → 0 < m0.toInt → m0.toInt ≤ (t.2.1 1247 v).toInt → ∀ F, l.length < F → ∃ m, lp (B_X12_carry_19 (nI v) e t) F (m0, nI k) = some m ∧ LQ (t.2.1 1250) (t.2.1 1247) m.toInt ((k, i) :: l) ∧ m.toInt ≤ m0.toInt ∧ 0 < m.toInt := by
  intro l
  induction l with
  | nil =>
    intro k i m0 hP hm hmO F hF
    obtain ⟨F, rfl⟩ : ∃ F', F = F' + 1 := ⟨F - 1, by omega⟩
    obtain ⟨h1, h2, h3, h4, h5⟩ := hP
    have h5' : i = v := h5
    subst h5'
    have k1 : rd t 1251 20 (nI k) = some (nI i) := by rw [rd_nI (by omega) (by omega), h3]
    refine ⟨m0, lp_r ?_, hmO, Int.le_refl _, hm⟩
    unfold B_X12_carry_19
    dsimp only
    rw [k1, bind_some, if_pos rfl]
  | cons p l ih =>
    obtain ⟨k', i'⟩ := p
    intro k i m0 hP hm hmO F hF
    obtain ⟨F, rfl⟩ : ∃ F', F = F' + 1 := ⟨F - 1, by omega⟩
    obtain ⟨h1, h2, h3, h4, h5, h6, h7, h8, h9, h10⟩ := hP
    simp only [List.length_cons] at hF
    have hk' := (PT_head h10).1
    have ni : ¬ nI i = nI v := fun z => h5 ((nI_eq (by omega) (by omega)).mp z)
    have ix : 20 * nI i + nI k' = nI (20 * i + k') := idxN2 (k := 20) (by omega) (by omega) (by omega)
    have k1 : rd t 1251 20 (nI k) = some (nI i) := by rw [rd_nI (by omega) (by omega), h3]
    have k2 : rd t 1252 24 (nI i) = some (nI k') := by rw [rd_nI (by omega) (by omega), h6]
    have k3 : rd t 1250 480 (nI (20 * i + k')) = some (t.2.1 1250 (20 * i + k')) := rd_nI (by omega) (by omega)
    have hB : B_X12_carry_19 (nI v) e t (m0, nI k) = some (.inl (zmn m0 (t.2.1 1250 (20 * i + k')), nI k')) := by
      unfold B_X12_carry_19
      dsimp only
      rw [k1, bind_some, if_neg ni, bind_some, bind_some, k2, bind_some, ix, k3, bind_some, bind_some, k2, bind_some]
    have ez := zmn_int m0 (t.2.1 1250 (20 * i + k'))
    obtain ⟨m, m1, m2, m3, m4⟩ := ih k' i' (zmn m0 (t.2.1 1250 (20 * i + k'))) h10 (by omega) (by omega) F (by omega)
    exact ⟨m, by rw [lp_l hB, m1], ⟨by omega, m2⟩, by omega, m4⟩
theorem M_shift {nn V : Nat} {ok : Nat → Nat → Prop} {O0 C0 : Nat → Int} {v : Nat} {Lf : Nat → Int32} (hnn : nn ≤ 20) (hV : V ≤ 24) (hv : v < V) (hO : ∀ i, i < V → O0 i ≤ 100000) {m : Int32} (hm : 0 < m.toInt) (e : Int32) : ∀ (l : List (Nat × Nat)) (k i : Nat) (t : St), PT nn V ok (t.2.1 1250) (t.2.1 1251) (t.2.1 1252) (fun i => i = v) ((k, i) :: l) → LQ (t.2.1 1250) (t.2.1 1247) m.toInt ((k, i) :: l) → FP nn V ok (t.2.1 1250) (t.2.1 1247) Lf (pd k m.toInt) O0 C0 → ∀ F, l.length < F → ∃ kL t', lp (B_X12_carry_83 (nI v) e m) F (nI k, t) = some (nI kL, t') ∧ kL < nn ∧ ok v kL ∧ m.toInt ≤ (t.2.1 1247 v).toInt ∧ FP nn V ok (t'.2.1 1250) (t'.2.1 1247) Lf (pd kL m.toInt) O0 C0 ∧ SS t t' ∧ t'.2.1 1246 = t.2.1 1246 ∧ t'.2.1 1247 = t.2.1 1247 ∧ t'.2.1 1249 = t.2.1 1249 ∧ (∃ p ∈ (k, i) :: l, p.1 = kL) ∧ ∀ j, j < V → ∀ c, c < nn → (∀ p ∈ (k, i) :: l, ¬ p.1 = c) → t'.2.1 1250 (20 * j + c) = t.2.1 1250 (20 * j + c) := by
  intro l
  induction l with
  | nil =>
    intro k i t hP hL hF0 F hF
    obtain ⟨F, rfl⟩ : ∃ F', F = F' + 1 := ⟨F - 1, by omega⟩
    obtain ⟨h1, h2, h3, h4, h5⟩ := hP
    have h5' : i = v := h5
    subst h5'
    have k1 : rd t 1251 20 (nI k) = some (nI i) := by rw [rd_nI (by omega) (by omega), h3]
    refine ⟨k, t, lp_r ?_, h1, h4, hL, hF0, SS.refl t, rfl, rfl, rfl, ⟨(k, i), List.mem_cons_self .., rfl⟩, fun _ _ _ _ _ => rfl⟩
    unfold B_X12_carry_83
    dsimp only
    rw [k1, bind_some, if_pos rfl]
  | cons p l ih =>
    obtain ⟨k', i'⟩ := p
    intro k i t hP hL hF0 F hF
    obtain ⟨F, rfl⟩ : ∃ F', F = F' + 1 := ⟨F - 1, by omega⟩
    obtain ⟨h1, h2, h3, h4, h5, h6, h7, h8, h9, h10⟩ := hP
    simp only [List.length_cons] at hF
    have hk' := (PT_head h10).1
    have ni : ¬ nI i = nI v := fun z => h5 ((nI_eq (by omega) (by omega)).mp z)
    have ix : 20 * nI i + nI k = nI (20 * i + k) := idxN2 (k := 20) (by omega) (by omega) (by omega)
    have ix' : 20 * nI i + nI k' = nI (20 * i + k') := idxN2 (k := 20) (by omega) (by omega) (by omega)
    have k1 : rd t 1251 20 (nI k) = some (nI i) := by rw [rd_nI (by omega) (by omega), h3]
    have k3 : rd t 1250 480 (nI (20 * i + k)) = some (t.2.1 1250 (20 * i + k)) := rd_nI (by omega) (by omega)
    have t2e : ∃ t2, wr t 1250 480 (nI (20 * i + k)) (t.2.1 1250 (20 * i + k) + m) = some t2 ∧ SS t t2 ∧ t2.2.1 1250 = upd (t.2.1 1250) (20 * i + k) (t.2.1 1250 (20 * i + k) + m) ∧ t2.2.1 1246 = t.2.1 1246 ∧ t2.2.1 1247 = t.2.1 1247 ∧ t2.2.1 1249 = t.2.1 1249 ∧ t2.2.1 1251 = t.2.1 1251 ∧ t2.2.1 1252 = t.2.1 1252 := ⟨_, wr_nI (by omega) (by omega), SS_sA _ _ _ rfl, sA_at _ _ _ _, rfl, rfl, rfl, rfl, rfl⟩
    obtain ⟨t2, w1, a1, a2, a3, a4, a5, a6, a7⟩ := t2e
    have k4 : rd t2 1252 24 (nI i) = some (nI k') := by rw [rd_nI (by omega) (by omega), a7, h6]
    have k5 : rd t2 1250 480 (nI (20 * i + k')) = some (t.2.1 1250 (20 * i + k')) := by rw [rd_nI (by omega) (by omega), a2, upd_ne _ _ (show ¬ 20 * i + k' = 20 * i + k by omega)]
    have t3e : ∃ t3, wr t2 1250 480 (nI (20 * i + k')) (t.2.1 1250 (20 * i + k') - m) = some t3 ∧ SS t2 t3 ∧ t3.2.1 1250 = upd (t2.2.1 1250) (20 * i + k') (t.2.1 1250 (20 * i + k') - m) ∧ t3.2.1 1246 = t2.2.1 1246 ∧ t3.2.1 1247 = t2.2.1 1247 ∧ t3.2.1 1249 = t2.2.1 1249 ∧ t3.2.1 1251 = t2.2.1 1251 ∧ t3.2.1 1252 = t2.2.1 1252 := ⟨_, wr_nI (by omega) (by omega), SS_sA _ _ _ rfl, sA_at _ _ _ _, rfl, rfl, rfl, rfl, rfl⟩
    obtain ⟨t3, w2, b1, b2, b3, b4, b5, b6, b7⟩ := t3e
    have k6 : rd t3 1252 24 (nI i) = some (nI k') := by rw [rd_nI (by omega) (by omega), b7, a7, h6]
    have x50 : t3.2.1 1250 = upd (upd (t.2.1 1250) (20 * i + k) (t.2.1 1250 (20 * i + k) + m)) (20 * i + k') (t.2.1 1250 (20 * i + k') - m) := by rw [b2, a2]
    have x47 : t3.2.1 1247 = t.2.1 1247 := b4.trans a4
    have x51 : t3.2.1 1251 = t.2.1 1251 := b6.trans a6
    have x52 : t3.2.1 1252 = t.2.1 1252 := b7.trans a7
    have hB : B_X12_carry_83 (nI v) e m (nI k, t) = some (.inl (nI k', t3)) := by
      unfold B_X12_carry_83
      dsimp only
      rw [k1, bind_some, if_neg ni, bind_some, ix, k3, bind_some, w1, bind_some, k4, bind_some, ix', k5, bind_some, w2, bind_some, k6, bind_some]
    have hoth : ∀ p ∈ (k', i') :: l, ∀ kk, kk < nn → t3.2.1 1250 (20 * p.2 + kk) = t.2.1 1250 (20 * p.2 + kk) := by
      intro p hp kk hkk
      have := h9 p hp
      rw [x50, upd_ne _ _ (show ¬ 20 * p.2 + kk = 20 * i + k' by omega), upd_ne _ _ (show ¬ 20 * p.2 + kk = 20 * i + k by omega)]
    have hP2 : PT nn V ok (t3.2.1 1250) (t3.2.1 1251) (t3.2.1 1252) (fun i => i = v) ((k', i') :: l) := by
      rw [x51, x52]
      exact PT_S hoth h10
    have hL2 : LQ (t3.2.1 1250) (t3.2.1 1247) m.toInt ((k', i') :: l) := LQ_S h10 (fun p hp => ⟨hoth p hp, by rw [x47]⟩) hL.2
    have hF2 : FP nn V ok (t3.2.1 1250) (t3.2.1 1247) Lf (pd k' m.toInt) O0 C0 := by
      rw [x50, x47]
      exact FP_mid hF0 hnn hO h2 h1 hk' h8 h4 (by omega) hL.1
    obtain ⟨kL, t', m1, m2, m3, m4, m5, m6, m7, m8, m9, ⟨p, p1, p2⟩, m11⟩ := ih k' i' t3 hP2 hL2 hF2 F (by omega)
    refine ⟨kL, t', by rw [lp_l hB, m1], m2, m3, by rw [← x47]; exact m4, m5, a1.trans (b1.trans m6), m7.trans (b3.trans a3), m8.trans x47, m9.trans (b5.trans a5), ⟨p, List.mem_cons_of_mem _ p1, p2⟩, fun j hj c hc hn => ?_⟩
    have n1 : ¬ k = c := hn (k, i) (List.mem_cons_self ..)
    have n2 : ¬ k' = c := hn (k', i') (List.mem_cons_of_mem _ (List.mem_cons_self ..))
    rw [m11 j hj c hc (fun p hp => hn p (List.mem_cons_of_mem _ hp)), x50, upd_ne _ _ (show ¬ 20 * j + c = 20 * i + k' by omega), upd_ne _ _ (show ¬ 20 * j + c = 20 * i + k by omega)]
theorem M_carry {nn V : Nat} {ok : Nat → Nat → Prop} {O0 C0 : Nat → Int} {v k i : Nat} {l : List (Nat × Nat)} {t : St} (hnn : nn ≤ 20) (hV : V ≤ 24) (hv : v < V) (hO : ∀ i, i < V → O0 i ≤ 100000) (hP : PT nn V ok (t.2.1 1250) (t.2.1 1251) (t.2.1 1252) (fun i => i = v) ((k, i) :: l)) (hl : l.length ≤ 1000) (hF : FI nn V ok (t.2.1 1250) (t.2.1 1247) (t.2.1 1246) O0 C0) (hL : 0 < (t.2.1 1246 k).toInt) (hOv : 0 < (t.2.1 1247 v).toInt) {A B : Nat → Prop} (hc : CUT nn V ok (t.2.1 1250) (t.2.1 1247) (t.2.1 1246) v A B) : ∃ m t', F_X12_carry (nI v) (nI k) t = some (m, t') ∧ 0 < m.toInt ∧ SS t t' ∧ t'.2.1 1249 = t.2.1 1249 ∧ FI nn V ok (t'.2.1 1250) (t'.2.1 1247) (t'.2.1 1246) O0 C0 ∧ rsum (fun i => (t'.2.1 1247 i).toInt) V = rsum (fun i => (t.2.1 1247 i).toInt) V - m.toInt ∧ CUT nn V ok (t'.2.1 1250) (t'.2.1 1247) (t'.2.1 1246) v A B := by
  have hk := (PT_head hP).1
  have k1 : rd t 1247 24 (nI v) = some (t.2.1 1247 v) := rd_nI (by omega) (by omega)
  have k2 : rd t 1246 20 (nI k) = some (t.2.1 1246 k) := rd_nI (by omega) (by omega)
  have ez := zmn_int (t.2.1 1247 v) (t.2.1 1246 k)
  obtain ⟨m, m1, m2, m3, m4⟩ := M_min hnn hV hv (nI k) l k i (zmn (t.2.1 1247 v) (t.2.1 1246 k)) hP (by omega) (by omega) FU (FU_lt (by omega))
  have hFP : FP nn V ok (t.2.1 1250) (t.2.1 1247) (upd (t.2.1 1246) k (t.2.1 1246 k - m)) (pd k m.toInt) O0 C0 := FP_start hF (by omega) (by omega)
  obtain ⟨kL, t', q1, q2, q3, q4, q5, q6, q7, q8, q9, ⟨p, p1, p2⟩, q11⟩ := M_shift hnn hV hv hO m4 (nI k) l k i t hP m2 hFP FU (FU_lt (by omega))
  have ix : 20 * nI v + nI kL = nI (20 * v + kL) := idxN2 (k := 20) (by omega) (by omega) (by omega)
  have t2e : ∃ t2, wr t' 1250 480 (nI (20 * v + kL)) (t'.2.1 1250 (20 * v + kL) + m) = some t2 ∧ SS t' t2 ∧ t2.2.1 1250 = upd (t'.2.1 1250) (20 * v + kL) (t'.2.1 1250 (20 * v + kL) + m) ∧ t2.2.1 1246 = t'.2.1 1246 ∧ t2.2.1 1247 = t'.2.1 1247 ∧ t2.2.1 1249 = t'.2.1 1249 := ⟨_, wr_nI (by omega) (by omega), SS_sA _ _ _ rfl, sA_at _ _ _ _, rfl, rfl, rfl⟩
  obtain ⟨t2, w1, a1, a2, a3, a4, a5⟩ := t2e
  have t3e : ∃ t3, wr t2 1246 20 (nI k) (t.2.1 1246 k - m) = some t3 ∧ SS t2 t3 ∧ t3.2.1 1250 = t2.2.1 1250 ∧ t3.2.1 1246 = upd (t2.2.1 1246) k (t.2.1 1246 k - m) ∧ t3.2.1 1247 = t2.2.1 1247 ∧ t3.2.1 1249 = t2.2.1 1249 := ⟨_, wr_nI (by omega) (by omega), SS_sA _ _ _ rfl, rfl, sA_at _ _ _ _, rfl, rfl⟩
  obtain ⟨t3, w2, b1, b2, b3, b4, b5⟩ := t3e
  have t4e : ∃ t4, wr t3 1247 24 (nI v) (t.2.1 1247 v - m) = some t4 ∧ SS t3 t4 ∧ t4.2.1 1250 = t3.2.1 1250 ∧ t4.2.1 1246 = t3.2.1 1246 ∧ t4.2.1 1247 = upd (t3.2.1 1247) v (t.2.1 1247 v - m) ∧ t4.2.1 1249 = t3.2.1 1249 := ⟨_, wr_nI (by omega) (by omega), SS_sA _ _ _ rfl, rfl, rfl, sA_at _ _ _ _, rfl⟩
  obtain ⟨t4, w3, c1, c2, c3, c4, c5⟩ := t4e
  have j1 : rd t' 1250 480 (nI (20 * v + kL)) = some (t'.2.1 1250 (20 * v + kL)) := rd_nI (by omega) (by omega)
  have j2 : rd t2 1246 20 (nI k) = some (t.2.1 1246 k) := by rw [rd_nI (by omega) (by omega), a3, q7]
  have j3 : rd t3 1247 24 (nI v) = some (t.2.1 1247 v) := by rw [rd_nI (by omega) (by omega), b4, a4, q8]
  have x50 : t4.2.1 1250 = upd (t'.2.1 1250) (20 * v + kL) (t'.2.1 1250 (20 * v + kL) + m) := by rw [c2, b2, a2]
  have x46 : t4.2.1 1246 = upd (t.2.1 1246) k (t.2.1 1246 k - m) := by rw [c3, b3, a3, q7]
  have x47 : t4.2.1 1247 = upd (t.2.1 1247) v (t.2.1 1247 v - m) := by rw [c4, b4, a4, q8]
  have hFI : FI nn V ok (t4.2.1 1250) (t4.2.1 1247) (t4.2.1 1246) O0 C0 := by
    rw [x50, x47, x46]
    rw [q8] at q5
    exact FP_end q5 hnn hO hv q2 q3 (by omega) q4
  have eO : (t.2.1 1247 v - m).toInt = (t.2.1 1247 v).toInt - m.toInt := by
    have := Int32.toInt_lt (t.2.1 1247 v)
    exact i32_sub (by omega) (by omega)
  have hBk : ¬ B k := fun z => by
    have := hc.2.2.1 k hk z
    omega
  have hoff := PT_off hc hP hBk
  have hBL : ¬ B kL := by
    rw [← p2]
    exact hoff p p1
  refine ⟨m, t4, ?_, m4, q6.trans (a1.trans (b1.trans c1)), c5.trans (b5.trans (a5.trans q9)), hFI, ?_, fun j hj hjV hp => ?_, hc.2.1, fun c hc2 hB => ?_, fun j hj c hc2 hB hz => ?_⟩
  · unfold F_X12_carry
    rw [k1, bind_some, k2, bind_some]
    unfold F_X12_carry_19
    rw [m1, bind_some]
    unfold F_X12_carry_80 F_X12_carry_83
    rw [q1, bind_some]
    unfold F_X12_carry_154
    rw [ix, j1, bind_some, w1, bind_some, j2, bind_some, w2, bind_some, j3, bind_some, w3, bind_some]
  · rw [x47]
    have := rsum_upd (f := fun i => (t.2.1 1247 i).toInt) (g := fun j => (upd (t.2.1 1247) v (t.2.1 1247 v - m) j).toInt) (k := v) (d := - m.toInt) (n := V) (fun j hj => by
      by_cases e2 : j = v
      · subst e2
        show (upd (t.2.1 1247) j (t.2.1 1247 j - m) j).toInt = (t.2.1 1247 j).toInt + _
        rw [if_pos rfl, upd_at, eO]
        omega
      · show (upd (t.2.1 1247) v (t.2.1 1247 v - m) j).toInt = (t.2.1 1247 j).toInt + _
        rw [if_neg e2, upd_ne _ _ e2, Int.add_zero])
    rw [if_pos hv] at this
    exact this
  · rw [x47, upd_ne _ _ (show ¬ j = v by omega)] at hp
    exact hc.1 j hj hjV hp
  · have : ¬ c = k := fun z => hBk (by rw [← z]; exact hB)
    rw [x46, upd_ne _ _ this]
    exact hc.2.2.1 c hc2 hB
  · have n1 : ¬ c = kL := fun z => hBL (by rw [← z]; exact hB)
    rw [x50, upd_ne _ _ (show ¬ 20 * j + c = 20 * v + kL by omega), q11 j hj c hc2 (fun p hp z => hoff p hp (by rw [z]; exact hB))] at hz
    exact hc.2.2.2 j hj c hc2 hB hz
/-- the tree when nobody but the beginner is visited, whatever stood there -/
theorem T3_pv {nn V : Nat} {ok : Nat → Nat → Prop} {S ps pv pv' : Nat → Int32} {rt : Nat → Prop} (h : T3 nn V ok S ps pv rt) (he : ∀ i, i < V → pv' i = pv i) : T3 nn V ok S ps pv' rt := by
  have hv : ∀ i, i < V → (visV rt pv' i ↔ visV rt pv i) := by
    intro i hi
    unfold visV
    rw [he i hi]
  have keepP : ∀ l, PC nn V ok S ps pv rt l → PC nn V ok S ps pv' rt l := by
    rintro l ⟨h1, h2, h3⟩
    have hlt := PT_lt h1
    exact ⟨PT_keep (fun p hp => ⟨rfl, he p.2 (hlt p hp).2⟩) h1, fun p hp => ⟨(hv p.2 (hlt p hp).2).mpr (h2 p hp).1, (h2 p hp).2⟩, h3⟩
  refine ⟨⟨fun i hi hvi hri => ?_, fun k hk hp => ?_⟩, fun k hk hp => ?_⟩
  · obtain ⟨k, i0, P, a1, a2, a3, a4, a5⟩ := h.1.1 i hi ((hv i hi).mp hvi) hri
    exact ⟨k, i0, P, a1, by rw [he i hi]; exact a2, a3, keepP _ a4, a5⟩
  · obtain ⟨i, a1, a2, a3, a4⟩ := h.1.2 k hk hp
    exact ⟨i, a1, a2, a3, (hv i a1).mpr a4⟩
  · obtain ⟨i, P, hP⟩ := h.2 k hk hp
    exact ⟨i, P, keepP _ hP⟩
theorem M_push {W : Nat → Nat → Int32} {nn V : Nat} {t : St} {O0 C0 : Nat → Int} (hnn : nn ≤ 20) (hV : V ≤ 24) (iN : t.1 1223 = nI nn) (iV : t.1 1212 = nI V) (hG : ∀ i, i < V → ∀ k, k < nn → t.2.1 1249 (20 * i + k) = bI (decide (¬ W i k = -1))) (hO : ∀ i, i < V → O0 i ≤ 100000) (hF : FI nn V (fun i k => ¬ W i k = -1) (t.2.1 1250) (t.2.1 1247) (t.2.1 1246) O0 C0) {v : Nat} (hv : v < V) {A B : Nat → Prop} (hc : CUT nn V (fun i k => ¬ W i k = -1) (t.2.1 1250) (t.2.1 1247) (t.2.1 1246) v A B) : ∃ r t', F_X12_push (nI v) t = some (r, t') ∧ SS t t' ∧ t'.2.1 1249 = t.2.1 1249 ∧ FI nn V (fun i k => ¬ W i k = -1) (t'.2.1 1250) (t'.2.1 1247) (t'.2.1 1246) O0 C0 ∧ ((r = 0 ∧ rsum (fun i => (t'.2.1 1247 i).toInt) V = rsum (fun i => (t.2.1 1247 i).toInt) V ∧ ∃ A B, CUT nn V (fun i k => ¬ W i k = -1) (t'.2.1 1250) (t'.2.1 1247) (t'.2.1 1246) (v + 1) A B) ∨ (0 < r.toInt ∧ rsum (fun i => (t'.2.1 1247 i).toInt) V = rsum (fun i => (t.2.1 1247 i).toInt) V - r.toInt ∧ ∃ A B, CUT nn V (fun i k => ¬ W i k = -1) (t'.2.1 1250) (t'.2.1 1247) (t'.2.1 1246) v A B)) := by
  have e0 : (0 : Int32).toInt = 0 := rfl
  have kv : rd t 1247 24 (nI v) = some (t.2.1 1247 v) := rd_nI (by omega) (by omega)
  have hOv0 := (hF.2.1 v hv).1
  by_cases z0 : t.2.1 1247 v = 0
  · refine ⟨0, t, ?_, SS.refl t, rfl, hF, Or.inl ⟨rfl, rfl, A, B, fun j hj hjV hp => ?_, hc.2⟩⟩
    · unfold F_X12_push
      rw [kv, bind_some, if_pos z0]
    · by_cases e : j = v
      · rw [e, z0, e0] at hp
        omega
      · exact hc.1 j (by omega) hjV hp
  have hOv : 0 < (t.2.1 1247 v).toInt := by
    have : ¬ (t.2.1 1247 v).toInt = 0 := fun z => z0 (Int32.toInt_inj.mp (z.trans e0.symm))
    omega
  -- nothing is come upon
  obtain ⟨t1, p1, p2, p3⟩ := lp_inv (B := B_X12_push_13 (nI v))
    (fun m X => ∃ (c : Nat) (t1 : St), X = (nI c, t1) ∧ c + m = nn ∧ QT t t1 ∧ ∀ k, k < c → t1.2.1 1251 k = -1)
    (fun t1 => QT t t1 ∧ ∀ k, k < nn → t1.2.1 1251 k = -1) (by
      rintro m _ ⟨c, t1, rfl, hcm, q1, q2⟩
      have i1 : t1.1 1223 = nI nn := by rw [q1.1.i (k := 1223) rfl, iN]
      by_cases e : c = nn
      · right
        subst e
        refine ⟨t1, ?_, q1, q2⟩
        unfold B_X12_push_13
        dsimp only
        rw [i1, if_pos (Int32.le_refl _)]
      · left
        have h9 : ¬ nI nn ≤ nI c := by
          rw [i32_le, nI_toInt (by omega), nI_toInt (by omega)]
          omega
        have s3e : ∃ s3, wr t1 1251 20 (nI c) (-1) = some s3 ∧ QT t1 s3 ∧ s3.2.1 1251 = upd (t1.2.1 1251) c (-1) := ⟨_, wr_nI (by omega) (by omega), ⟨SS_sA _ _ _ rfl, rfl, rfl, rfl, rfl⟩, sA_at _ _ _ _⟩
        obtain ⟨s3, a1, a2, a3⟩ := s3e
        refine ⟨(nI (c + 1), s3), m - 1, ?_, by omega, c + 1, s3, rfl, by omega, q1.trans a2, fun k hk => ?_⟩
        · unfold B_X12_push_13
          dsimp only
          rw [i1, if_neg h9, a1, bind_some, nI_1]
        · rw [a3]
          by_cases e2 : k = c
          · rw [e2, upd_at]
          · rw [upd_ne _ _ e2]
            exact q2 k (by omega)) FU nn (0, t) ⟨0, t, rfl, by omega, QT.refl t, fun k hk => absurd hk (by omega)⟩ (FU_lt (by omega))
  -- its own schools
  obtain ⟨Y, r1, n, t2, rfl, r2, r3, r4, r5⟩ := lp_inv (B := B_X12_push_38 (nI v))
    (fun m X => ∃ (n c : Nat) (t2 : St), X = (nI n, nI c, t2) ∧ c + m = nn ∧ QT t t2 ∧ QM nn (t2.2.1 1251) (t2.2.1 1253) n ∧ T3 nn V (fun i k => ¬ W i k = -1) (t.2.1 1250) (t2.2.1 1251) (fun _ => -1) (fun i => i = v) ∧ (∀ k, k < c → ¬ W v k = -1 → ¬ t2.2.1 1251 k = -1) ∧ ∀ k, c ≤ k → k < nn → t2.2.1 1251 k = -1)
    (fun Y => ∃ (n : Nat) (t2 : St), Y = (nI n, t2) ∧ QT t t2 ∧ QM nn (t2.2.1 1251) (t2.2.1 1253) n ∧ T3 nn V (fun i k => ¬ W i k = -1) (t.2.1 1250) (t2.2.1 1251) (fun _ => -1) (fun i => i = v) ∧ ∀ k, k < nn → ¬ W v k = -1 → ¬ t2.2.1 1251 k = -1) (by
      rintro m _ ⟨n, c, t2, rfl, hcm, q1, q2, q3, q4, q5⟩
      have i1 : t2.1 1223 = nI nn := by rw [q1.1.i (k := 1223) rfl, iN]
      by_cases e : c = nn
      · right
        subst e
        refine ⟨(nI n, t2), ?_, n, t2, rfl, q1, q2, q3, q4⟩
        unfold B_X12_push_38
        dsimp only
        rw [i1, if_pos (Int32.le_refl _)]
      · left
        have h9 : ¬ nI nn ≤ nI c := by
          rw [i32_le, nI_toInt (by omega), nI_toInt (by omega)]
          omega
        have hcn : c < nn := by omega
        have ix : 20 * nI v + nI c = nI (20 * v + c) := idxN2 (k := 20) (by omega) (by omega) (by omega)
        have k1 : rd t2 1249 480 (nI (20 * v + c)) = some (bI (decide (¬ W v c = -1))) := by rw [rd_nI (by omega) (by omega), q1.2.2.2.1, hG v hv c hcn]
        by_cases d1 : W v c = -1
        · refine ⟨(nI n, nI (c + 1), t2), m - 1, ?_, by omega, n, c + 1, t2, rfl, by omega, q1, q2, q3, fun k hk hok => ?_, fun k hk hk2 => q5 k (by omega) hk2⟩
          · unfold B_X12_push_38
            dsimp only
            rw [i1, if_neg h9, ix, k1, bind_some, decide_eq_false (fun z => z d1), if_pos (show bI false = 0 from rfl), nI_1]
          · by_cases e2 : k = c
            · rw [e2] at hok
              exact absurd d1 hok
            · exact q4 k (by omega) hok
        rw [decide_eq_true d1] at k1
        have d2 := q5 c (by omega) hcn
        have t3 := T3_school q3 hcn d2 hv hV (Or.inl rfl) d1
        obtain ⟨u1, u2⟩ := QM_add q2 hcn d2 (i := v) (by omega)
        have s3e : ∃ s3, wr t2 1251 20 (nI c) (nI v) = some s3 ∧ QT t2 s3 ∧ s3.2.1 1251 = upd (t2.2.1 1251) c (nI v) ∧ s3.2.1 1253 = t2.2.1 1253 := ⟨_, wr_nI (by omega) (by omega), ⟨SS_sA _ _ _ rfl, rfl, rfl, rfl, rfl⟩, sA_at _ _ _ _, rfl⟩
        obtain ⟨s3, a1, a2, a3, a5⟩ := s3e
        have s4e : ∃ s4, wr s3 1253 20 (nI n) (nI c) = some s4 ∧ QT s3 s4 ∧ s4.2.1 1251 = s3.2.1 1251 ∧ s4.2.1 1253 = upd (s3.2.1 1253) n (nI c) := ⟨_, wr_nI (by omega) (by omega), ⟨SS_sA _ _ _ rfl, rfl, rfl, rfl, rfl⟩, rfl, sA_at _ _ _ _⟩
        obtain ⟨s4, b1, b2, b3, b5⟩ := s4e
        have x51 : s4.2.1 1251 = upd (t2.2.1 1251) c (nI v) := b3.trans a3
        have x53 : s4.2.1 1253 = upd (t2.2.1 1253) n (nI c) := by rw [b5, a5]
        have ni : ¬ nI v = -1 := nI_neg1 (by omega)
        refine ⟨(nI (n + 1), nI (c + 1), s4), m - 1, ?_, by omega, n + 1, c + 1, s4, rfl, by omega, q1.trans (a2.trans b2), by rw [x51, x53]; exact u1, by rw [x51]; exact t3, fun k hk hok => ?_, fun k hk hk2 => ?_⟩
        · unfold B_X12_push_38
          dsimp only
          rw [i1, if_neg h9, ix, k1, bind_some, if_neg (show ¬ bI true = 0 by decide), a1, bind_some, b1, bind_some, nI_1, nI_1]
        · rw [x51]
          by_cases e2 : k = c
          · rw [e2, upd_at]
            exact ni
          · rw [upd_ne _ _ e2]
            exact q4 k (by omega) hok
        · rw [x51, upd_ne _ _ (show ¬ k = c by omega)]
          exact q5 k (by omega) hk2) FU nn (0, 0, t1) ⟨0, 0, t1, rfl, by omega, p2, ⟨by
        have : cn (visB (t1.2.1 1251)) nn = cn (fun _ => false) nn := cn_cong (fun i hi => by unfold visB; rw [p3 i hi]; rfl)
        rw [this]
        have h0 : ∀ n, cn (fun _ => false) n = 0 := by
          intro n
          induction n with
          | zero => rfl
          | succ n ih => unfold cn; rw [ih]; rfl
        rw [h0], fun b hb => absurd hb (by omega), fun k hk hp => absurd (p3 k hk) hp⟩, ⟨⟨fun i hi hvi hri => hvi.elim (fun z => absurd z hri) (fun z => absurd rfl z), fun k hk hp => absurd (p3 k hk) hp⟩, fun k hk hp => absurd (p3 k hk) hp⟩, fun k hk => absurd hk (by omega), fun k _ hk => p3 k hk⟩ (FU_lt (by omega))
  -- no village is come upon
  obtain ⟨t3, w1, w2, w3, w4, w5⟩ := lp_inv (B := B_X12_push_85 (nI v) (nI n))
    (fun m X => ∃ (c : Nat) (t3 : St), X = (nI c, t3) ∧ c + m = V ∧ QT t t3 ∧ t3.2.1 1251 = t2.2.1 1251 ∧ t3.2.1 1253 = t2.2.1 1253 ∧ ∀ k, k < c → t3.2.1 1252 k = -1)
    (fun t3 => QT t t3 ∧ t3.2.1 1251 = t2.2.1 1251 ∧ t3.2.1 1253 = t2.2.1 1253 ∧ ∀ k, k < V → t3.2.1 1252 k = -1) (by
      rintro m _ ⟨c, t3, rfl, hcm, q1, q2, q3, q4⟩
      have i1 : t3.1 1212 = nI V := by rw [q1.1.i (k := 1212) rfl, iV]
      by_cases e : c = V
      · right
        subst e
        refine ⟨t3, ?_, q1, q2, q3, q4⟩
        unfold B_X12_push_85
        dsimp only
        rw [i1, if_pos (Int32.le_refl _)]
      · left
        have h9 : ¬ nI V ≤ nI c := by
          rw [i32_le, nI_toInt (by omega), nI_toInt (by omega)]
          omega
        have s3e : ∃ s3, wr t3 1252 24 (nI c) (-1) = some s3 ∧ QT t3 s3 ∧ s3.2.1 1252 = upd (t3.2.1 1252) c (-1) ∧ s3.2.1 1251 = t3.2.1 1251 ∧ s3.2.1 1253 = t3.2.1 1253 := ⟨_, wr_nI (by omega) (by omega), ⟨SS_sA _ _ _ rfl, rfl, rfl, rfl, rfl⟩, sA_at _ _ _ _, rfl, rfl⟩
        obtain ⟨s3, a1, a2, a3, a4, a5⟩ := s3e
        refine ⟨(nI (c + 1), s3), m - 1, ?_, by omega, c + 1, s3, rfl, by omega, q1.trans a2, a4.trans q2, a5.trans q3, fun k hk => ?_⟩
        · unfold B_X12_push_85
          dsimp only
          rw [i1, if_neg h9, a1, bind_some, nI_1]
        · rw [a3]
          by_cases e2 : k = c
          · rw [e2, upd_at]
          · rw [upd_ne _ _ e2]
            exact q4 k (by omega)) FU V (0, t2) ⟨0, t2, rfl, by omega, r2, rfl, rfl, fun k hk => absurd hk (by omega)⟩ (FU_lt (by omega))
  have hE0 : SM nn V (fun i k => ¬ W i k = -1) v t t3 n 0 := ⟨w2, by rw [w3, w4]; exact r3, by rw [w3]; exact T3_pv r4 (fun i hi => w5 i hi), fun b hb => absurd hb (by omega)⟩
  have hC0 : CV nn V (fun i k => ¬ W i k = -1) v t3 := by
    intro i hi hvi k hk hok
    rcases hvi with z | z
    · have z' : i = v := z
      rw [w3]
      rw [z'] at hok
      exact r5 k hk hok
    · exact absurd (w5 i hi) z
  have hS : ∀ i, i < V → ∀ k, k < nn → 0 ≤ (t.2.1 1250 (20 * i + k)).toInt := fun i hi k hk => (hF.1 i hi k hk).1
  -- the search
  obtain ⟨Z, y1, y2⟩ := lp_inv (B := B_X12_push_108 (nI v))
    (fun m X => ∃ (n a : Nat) (t3 : St), X = (nI n, nI a, t3) ∧ a + m = 20 ∧ a ≤ n ∧ SM nn V (fun i k => ¬ W i k = -1) v t t3 n a ∧ CV nn V (fun i k => ¬ W i k = -1) v t3)
    (fun Z => (∃ n t3, Z = .inl t3 ∧ SM nn V (fun i k => ¬ W i k = -1) v t t3 n n ∧ CV nn V (fun i k => ¬ W i k = -1) v t3) ∨ ∃ k t3 n a, Z = .inr (nI k, t3) ∧ k < nn ∧ ¬ t3.2.1 1251 k = -1 ∧ 0 < (t.2.1 1246 k).toInt ∧ SM nn V (fun i k => ¬ W i k = -1) v t t3 n a) (by
      rintro m _ ⟨n, a, t3, rfl, ham, han, hE, hC⟩
      have hn20 : n ≤ 20 := by
        have := cn_max (visB (t3.2.1 1251)) nn
        have := hE.2.1.1
        omega
      by_cases e : a = n
      · right
        subst e
        refine ⟨.inl t3, ?_, Or.inl ⟨a, t3, rfl, hE, hC⟩⟩
        unfold B_X12_push_108
        dsimp only
        rw [if_pos (Int32.le_refl _)]
      · have c1 : ¬ nI n ≤ nI a := by
          rw [i32_le, nI_toInt (by omega), nI_toInt (by omega)]
          omega
        obtain ⟨k, k1, k2, k3⟩ := hE.2.1.2.1 a (by omega)
        have j1 : rd t3 1253 20 (nI a) = some (nI k) := by rw [rd_nI (by omega) (by omega), k2]
        have j2 : rd t3 1246 20 (nI k) = some (t.2.1 1246 k) := by rw [rd_nI (by omega) (by omega), hE.1.2.1]
        by_cases d : t.2.1 1246 k ≤ 0
        · left
          have d' := d
          rw [i32_le, e0] at d'
          obtain ⟨n', t4, f1, f2, f3, f4⟩ := M_full hnn hV iN iV hG hS hv k1 hE hC (by omega) k2 k3 d'
          refine ⟨(nI n', nI (a + 1), t4), m - 1, ?_, by omega, n', a + 1, t4, rfl, by omega, by omega, f2, f3⟩
          unfold B_X12_push_108
          dsimp only
          rw [if_neg c1, j1, bind_some, j2, bind_some, if_pos d, f1]
        · right
          refine ⟨.inr (nI k, t3), ?_, Or.inr ⟨k, t3, n, a, rfl, k1, k3, ?_, hE⟩⟩
          · unfold B_X12_push_108
            dsimp only
            rw [if_neg c1, j1, bind_some, j2, bind_some, if_neg d]
          · rw [i32_le, e0] at d
            omega) FU 20 (nI n, 0, t3) ⟨n, 0, t3, rfl, by omega, by omega, hE0, hC0⟩ (FU_lt (by omega))
  have hpush : F_X12_push (nI v) t = Sum.elim (fun y => F_X12_push_273 y) (fun y => F_X12_push_131 (nI v) y.1 y.2) Z := by
    unfold F_X12_push
    rw [kv, bind_some, if_neg z0]
    unfold F_X12_push_13
    have p1' : lp (B_X12_push_13 (nI v)) FU (0, t) = some t1 := p1
    rw [p1', bind_some]
    unfold F_X12_push_34 F_X12_push_38
    have r1' : lp (B_X12_push_38 (nI v)) FU (0, 0, t1) = some (nI n, t2) := r1
    rw [r1', bind_some]
    unfold F_X12_push_83 F_X12_push_85
    have w1' : lp (B_X12_push_85 (nI v) (nI n)) FU (0, t2) = some t3 := w1
    rw [w1', bind_some]
    unfold F_X12_push_106 F_X12_push_108
    have y1' : lp (B_X12_push_108 (nI v)) FU (nI n, 0, t3) = some Z := y1
    rw [y1', bind_some]
  rw [hpush]
  rcases y2 with ⟨n4, t4, rfl, ⟨q1, q2, q3, q4⟩, hC⟩ | ⟨k, t4, n4, a4, rfl, k1, k2, k3, ⟨q1, q2, q3, q4⟩⟩
  · refine ⟨0, t4, rfl, q1.1, q1.2.2.2.1, ?_, Or.inl ⟨rfl, by rw [q1.2.2.1], fun i => A i ∨ visV (fun i => i = v) (t4.2.1 1252) i, fun k => B k ∨ ¬ t4.2.1 1251 k = -1, ?_⟩⟩
    · rw [q1.2.1, q1.2.2.1, q1.2.2.2.2]
      exact hF
    · rw [q1.2.1, q1.2.2.1, q1.2.2.2.2]
      refine ⟨fun j hj hjV hp => ?_, fun i hi k hk hA hok => ?_, fun k hk hB => ?_, fun i hi k hk hB hz => ?_⟩
      · by_cases e : j = v
        · exact Or.inr (Or.inl e)
        · exact Or.inl (hc.1 j (by omega) hjV hp)
      · rcases hA with z | z
        · exact Or.inl (hc.2.1 i hi k hk z hok)
        · exact Or.inr (hC i hi z k hk hok)
      · rcases hB with z | z
        · exact hc.2.2.1 k hk z
        · obtain ⟨b, b1, b2⟩ := q2.2.2 k hk z
          exact (q4 b b1 k hk b2).1
      · rcases hB with z | z
        · exact Or.inl (hc.2.2.2 i hi k hk z hz)
        · obtain ⟨b, b1, b2⟩ := q2.2.2 k hk z
          exact Or.inr ((q4 b b1 k hk b2).2 i hi hz)
  · obtain ⟨i, P, hP1, hP2, hP3⟩ := q3.2 k k1 k2
    have hP' : PT nn V (fun i k => ¬ W i k = -1) (t4.2.1 1250) (t4.2.1 1251) (t4.2.1 1252) (fun i => i = v) ((k, i) :: P) := by rw [q1.2.2.2.2]; exact hP1
    have hlen : P.length ≤ 1000 := by
      have := cn_max (visB (t4.2.1 1251)) nn
      simp only [List.length_cons] at hP3
      omega
    obtain ⟨m, t5, m1, m2, m3, m4, m5, m6, m7⟩ := M_carry hnn hV hv hO hP' hlen (by rw [q1.2.1, q1.2.2.1, q1.2.2.2.2]; exact hF) (by rw [q1.2.1]; exact k3) (by rw [q1.2.2.1]; exact hOv) (A := A) (B := B) (by rw [q1.2.1, q1.2.2.1, q1.2.2.2.2]; exact hc)
    refine ⟨m, t5, ?_, q1.1.trans m3, m4.trans q1.2.2.2.1, m5, Or.inr ⟨m2, by rw [m6, q1.2.2.1], A, B, m7⟩⟩
    show F_X12_push_131 (nI v) (nI k) t4 = _
    unfold F_X12_push_131
    rw [m1, bind_some]
