/-! a clause is kept -/
theorem nI_4 : ∀ n, n < 41 → (4 : Int32) * nI n = nI (4 * n) := by decide +kernel
def KP (n : Nat) (a b c : Int32) (s : St) : St := pI (pI (sA (sA (sA (sA s 907 (4 * n) a) 907 (4 * n + 1) b) 907 (4 * n + 2) c) 907 (4 * n + 3) (s.1 906)) 908 (nI (n + 1))) 909 (s.1 909 ||| ((1 : Int32) <<< (a &&& 31)))
theorem C_keep {s : St} {n : Nat} (hn : n ≤ 40) (h : s.1 908 = nI n) (a b c : Int32) : F_X9_keepClause a b c s = some (KP n a b c s) := by
  have e164 : (164 : Int32).toInt = 164 := rfl
  have c0 : ¬ (164 : Int32) ≤ nI (4 * n + 3) := by
    rw [i32_le, nI_toInt (by omega)]
    omega
  have e1 : nI (4 * n) + 1 = nI (4 * n + 1) := nI_add (4 * n) 1
  have e2 : nI (4 * n) + 2 = nI (4 * n + 2) := nI_add (4 * n) 2
  have e3 : nI (4 * n) + 3 = nI (4 * n + 3) := nI_add (4 * n) 3
  unfold F_X9_keepClause
  rw [h, nI_4 n (by omega), e3, if_neg c0, wr_nI (by omega) (by omega), bind_some]
  rw [e1, wr_nI (by omega) (by omega), bind_some, e2, wr_nI (by omega) (by omega), bind_some, wr_nI (by omega) (by omega), bind_some]
  rw [show (sA (sA (sA (sA s 907 (4 * n) a) 907 (4 * n + 1) b) 907 (4 * n + 2) c) 907 (4 * n + 3) ((sA (sA (sA s 907 (4 * n) a) 907 (4 * n + 1) b) 907 (4 * n + 2) c).1 906)).1 908 = nI n from h, wI_ok, bind_some, nI_1, wI_ok, bind_some]
  rfl
theorem KP_SS (n : Nat) (a b c : Int32) (s : St) : SS s (KP n a b c s) := (SS_sA _ _ _ rfl).trans ((SS_sA _ _ _ rfl).trans ((SS_sA _ _ _ rfl).trans ((SS_sA _ _ _ rfl).trans ((SS_pI _ _ rfl).trans (SS_pI _ _ rfl)))))
/-- from z on K is written -/
def TX (K : List Int32) (z : Nat) (f g : Nat → Int32) : Prop := (∀ j, j < z → g j = f j) ∧ ∀ i, i < K.length → g (z + i) = K.getD i 0
theorem TX_nil {z : Nat} {f g : Nat → Int32} (h : ∀ j, j < z → g j = f j) : TX [] z f g := ⟨h, fun i hi => absurd hi (by simp)⟩
theorem TX_app {K1 K2 : List Int32} {z : Nat} {f g h : Nat → Int32} (h1 : TX K1 z f g) (h2 : TX K2 (z + K1.length) g h) : TX (K1 ++ K2) z f h := by
  refine ⟨fun j hj => by rw [h2.1 j (by omega), h1.1 j hj], fun i hi => ?_⟩
  rw [List.length_append] at hi
  by_cases c : i < K1.length
  · rw [getD_app_l c, h2.1 (z + i) (by omega), h1.2 i c]
  · rw [getD_app_r (by omega), ← h2.2 (i - K1.length) (by omega)]
    congr 1
    omega
theorem TX_put {z : Nat} {f : Nat → Int32} (v : Int32) : TX [v] z f (upd f z v) := by
  refine ⟨fun j hj => upd_ne _ _ (by omega), fun i hi => ?_⟩
  have e : i = 0 := by
    have : i < 1 := hi
    omega
  subst e
  exact upd_at _ _ _
theorem WR_TX {k : List Int32} {z m : Nat} {s t s' t' : St} (h : WR k z m s t s' t') : TX k z (s.2.1 905) (s'.2.1 905) ∧ TX (k.flatMap tkM) m (t.2.1 1229) (t'.2.1 1229) := ⟨⟨h.1, h.2.1⟩, ⟨h.2.2.1, h.2.2.2⟩⟩
/-- the reference alone writes one more -/
theorem say_np {s0 t0 : St} {L A d z m : Nat} {s t : St} (hL : L ≤ 160) (h : NP s0 t0 L A d z m s t) (hm : m + 1 ≤ 2 * A + 1) (v : Int32) : ∃ t', F_X12_say v t = some t' ∧ NP s0 t0 L A d z (m + 1) s t' ∧ TX [v] m (t.2.1 1229) (t'.2.1 1229) := by
  obtain ⟨n1, n2, n3, n4, n5, n6, n7, n8, n9, n10, n11, n12, n13, n14⟩ := h
  refine ⟨_, M_say n10 (by omega) v, ⟨n1, n2.trans ((SS_sA _ _ _ rfl).trans (SS_pI _ _ rfl)), n3, n4, n5, n6, n7, n8, n9, pI_at _ _ _, n11, n12, n13, hm⟩, ?_⟩
  show TX [v] m (t.2.1 1229) ((sA t 1229 m v).2.1 1229)
  rw [sA_at]
  exact TX_put v
/-- both at fault -/
def FF (s0 t0 s t : St) : Prop := ∃ f A d m, f ≤ 160 ∧ FC s0 f s ∧ FM t0 f A d m t
theorem BAD.ff {s0 t0 : St} {L A d m : Nat} {s s' t' : St} (h : BAD s0 t0 L A d m s s' t') : FF s0 t0 s' t' := by
  obtain ⟨f, A', m', h1, h2, h3, h4, _⟩ := h
  exact ⟨f, A', d, m', h1, h2, h4⟩
theorem FC_keep {s0 s : St} {f n : Nat} (h : FC s0 f s) (hn : n ≤ 40) (h8 : s.1 908 = nI n) (a b c : Int32) : ∃ s', F_X9_keepClause a b c s = some s' ∧ FC s0 f s' := by
  obtain ⟨p1, p2, z, p3, p4⟩ := h
  exact ⟨_, C_keep hn h8 a b c, p1.trans (KP_SS _ _ _ _ _), p2, z, p3, p4⟩
/-- what follows the condition -/
def tailC (r y : Int32) (s : St) : Option St := (F_X9_want 63 s).bind fun s7 => ((RGC 64).1 s7).bind fun s8 => (F_X9_keepClause r y (s7.1 906) s8).bind fun s9 => some s9
def tailM (t : St) : Option St :=
  if (t.1 1237) = (-1) then
    (F_X12_look t).bind fun r13 =>
    if r13.1 = 63 then
      if (r13.2.1 1237) = (-1) then
        (wI r13.2 1236 ((r13.2.1 1236) + 1)).bind fun s14 =>
        (F_X12_say 2 s14).bind fun s15 =>
        ((RGM 64).1 s15).bind fun s16 =>
        (F_X12_say 3 s16).bind fun s17 =>
        some s17
      else
        some r13.2
    else
      (F_X12_bad r13.2).bind fun s18 =>
      if (s18.1 1237) = (-1) then
        (wI s18 1236 ((s18.1 1236) + 1)).bind fun s19 =>
        (F_X12_say 2 s19).bind fun s20 =>
        ((RGM 64).1 s20).bind fun s21 =>
        (F_X12_say 3 s21).bind fun s22 =>
        some s22
      else
        some s18
  else
    if (t.1 1237) = (-1) then
      (wI t 1236 ((t.1 1236) + 1)).bind fun s9 =>
      (F_X12_say 2 s9).bind fun s10 =>
      ((RGM 64).1 s10).bind fun s11 =>
      (F_X12_say 3 s11).bind fun s12 =>
      some s12
    else
      some t
theorem tail_F {s0 t0 s t : St} (h : FF s0 t0 s t) {n : Nat} (hn : n ≤ 40) (h8 : s.1 908 = nI n) (r y : Int32) : ∃ s' t', tailC r y s = some s' ∧ tailM t = some t' ∧ FF s0 t0 s' t' := by
  obtain ⟨f, A, d, m, hf, hC, hM⟩ := h
  obtain ⟨s', g1, g2⟩ := FC_keep hC hn h8 r y (s.1 906)
  refine ⟨s', t, ?_, ?_, f, A, d, m, hf, g2, hM⟩
  · unfold tailC
    rw [want_F hC hf (by decide), bind_some, (rgF hC hf 61).1, bind_some, g1, bind_some]
  · unfold tailM
    rw [hM.2.1, if_neg (nI_f hf), if_neg (nI_f hf)]
theorem tail_np {s0 t0 : St} {T : Nat → Int32} {L : Nat} (hT : TB s0 t0 T L) {A z m n : Nat} {s t : St} (h : NP s0 t0 L A 0 z m s t) (hm : m + 3 ≤ 2 * A) (hn : n ≤ 40) (h8 : s.1 908 = nI n) (r y : Int32) : ∃ s' t', tailC r y s = some s' ∧ tailM t = some t' ∧ ((∃ A' k s8, A + 2 ≤ A' ∧ s' = KP n r y (nI z) s8 ∧ KC s s8 ∧ NP s0 t0 L A' 0 (z + k.length) (m + 1 + (k.flatMap tkM).length + 1) s' t' ∧ m + 1 + (k.flatMap tkM).length + 1 + 1 ≤ 2 * A' ∧ TX k z (s.2.1 905) (s8.2.1 905) ∧ TX ([2] ++ k.flatMap tkM ++ [3]) m (t.2.1 1229) (t'.2.1 1229) ∧ tkH k 0 = some 1) ∨ FF s0 t0 s' t') := by
  have hL : L ≤ 160 := hT.2.2.1
  obtain ⟨A1, cb, mb, s1, t1, l1, l2, l3, l4, l5, l6, l7, l8, l9, l10⟩ := look_np hT h
  by_cases c : cb = 63
  · have hA1 : A1 < L ∧ mb = 63 := by
      rcases l8 with ⟨_, c2, _⟩ | ⟨c1, c2, c3⟩
      · rw [c2] at c
        exact absurd c (by decide)
      · exact ⟨c1, by rw [c3, ← c2, c]⟩
    obtain ⟨hA1, hmb⟩ := hA1
    obtain ⟨g1, g2⟩ := step_np l4 hA1
    obtain ⟨t3, o1, o2, o3⟩ := say_np hL g1 (by omega) 2
    obtain ⟨s4, t4, w1, w2, w3⟩ := rg_sum hT 6 64 64 0 rfl (by omega) (by omega) _ _ _ _ _ o2
    have z6 : (pI s1 902 (s1.1 902 + 1)).1 906 = nI z := g1.2.2.2.2.2.2.2.2.1
    have hw : F_X9_want 63 s = some (pI s1 902 (s1.1 902 + 1)) := by
      unfold F_X9_want
      rw [l1, bind_some]
      dsimp only
      rw [if_pos c, wI_ok, bind_some]
    have cC : ∀ s', F_X9_keepClause r y (nI z) s4 = some s' → tailC r y s = some s' := by
      intro s' k1
      unfold tailC
      rw [hw, bind_some, w1, bind_some, z6, k1, bind_some]
    have cM : ∀ t', F_X12_say 3 t4 = some t' → tailM t = some t' := by
      intro t' k1
      unfold tailM
      rw [h.2.2.2.1, if_pos rfl, l2, bind_some]
      dsimp only
      rw [if_pos hmb, l4.2.2.2.1, if_pos rfl, wI_ok, bind_some, o1, bind_some, w2, bind_some, k1, bind_some]
    rcases w3 with ⟨A2, k, a1, a2, a3, a4, a5, a6, a7⟩ | hB
    · have k8 : s4.1 908 = nI n := by rw [a6.1, g2.1, l7.1, h8]
      obtain ⟨t5, p1, p2, p3⟩ := say_np hL a2 (by omega) 3
      refine ⟨_, t5, cC _ (C_keep hn k8 r y (nI z)), cM t5 p1, Or.inl ⟨A2, k, s4, by omega, rfl, l7.trans (g2.trans a6), ?_, by omega, ?_, ?_, a7 0 (by omega)⟩⟩
      · obtain ⟨n1, n2, n3, n4, n5, n6, n7, n8, n9, n10, n11, n12, n13, n14⟩ := p2
        exact ⟨n1.trans (KP_SS _ _ _ _ _), n2, n3, n4, n5, n6, n7, n8, n9, n10, n11, n12, n13, n14⟩
      · have := (WR_TX a5).1
        rw [show (pI s1 902 (s1.1 902 + 1)).2.1 905 = s1.2.1 905 from rfl, l5] at this
        exact this
      · have q1 := (WR_TX a5).2
        rw [show (pI t1 1236 (t1.1 1236 + 1)).2.1 1229 = t1.2.1 1229 from rfl, l6] at o3
        rw [List.append_assoc]
        exact TX_app o3 (TX_app q1 p3)
    · have k8 : s4.1 908 = nI n := by
        obtain ⟨f, A', m', _, _, q3, _⟩ := hB
        rw [q3.1, g2.1, l7.1, h8]
      obtain ⟨f, A', m', q1, q2, q3, q4, q5, q6, q7⟩ := hB
      obtain ⟨s', e1, e2⟩ := FC_keep q2 hn k8 r y (nI z)
      obtain ⟨t5, y1, y2⟩ := M_sayF q4 (by omega) 3
      exact ⟨s', t5, cC s' e1, cM t5 y1, Or.inr ⟨f, A', 0, m' + 1, q1, e2, y2⟩⟩
  · have mc : ¬ mb = 63 := by
      rcases l8 with ⟨_, _, c3⟩ | ⟨_, c2, c3⟩
      · rw [c3]
        decide
      · rw [c3, ← c2]
        exact c
    obtain ⟨s2, t2, f1, f2, f3, f4, f5, f6⟩ := fail_np hL l4
    have k8 : s2.1 908 = nI n := by rw [f4.1, l7.1, h8]
    obtain ⟨s', e1, e2⟩ := FC_keep f3 hn k8 r y (s2.1 906)
    refine ⟨s', t2, ?_, ?_, Or.inr ⟨A1, A1, 0, m, f6, e2, f5⟩⟩
    · unfold tailC
      have hw : F_X9_want 63 s = some s2 := by
        unfold F_X9_want
        rw [l1, bind_some]
        dsimp only
        rw [if_neg c, f1, bind_some]
      rw [hw, bind_some, (rgF f3 f6 61).1, bind_some, e1, bind_some]
    · unfold tailM
      rw [h.2.2.2.1, if_pos rfl, l2, bind_some]
      dsimp only
      rw [if_neg mc, f2, bind_some, f5.2.1, if_neg (nI_f f6)]
