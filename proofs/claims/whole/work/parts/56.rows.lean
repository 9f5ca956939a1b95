/-! the class's spread -/
theorem dyn_hi {s : St} {a m : Nat} {P : Nat → Int32} (ha : 89 ≤ a) (hd : s.2.2.2[a - 89]? = some (m, P)) : dyn s a = some (m, P) := by
  have h2 : (mkCs s)[a]? = some (.inl (.int, m, .inl P)) := by
    unfold mkCs mkC
    rw [List.getElem?_append_right (by rw [mkC0_len]; exact ha), mkC0_len, List.getElem?_map, hd]
    rfl
  unfold dyn
  rw [h2]
theorem dyn_2 (s : St) : dyn s 2 = some (120, s.2.1 200) := by
  unfold dyn mkCs
  rw [gC_2]
theorem dyn_3 (s : St) : dyn s 3 = some (120, s.2.1 201) := by
  unfold dyn mkCs
  rw [gC_3]
theorem ra_dyn {s : St} {a m c : Nat} {P : Nat → Int32} (h : dyn s a = some (m, P)) (hc : c < m) (hm : m ≤ 1000) : ra s a (nI c) = some (P c) := by
  have e := nI_toInt (n := c) (by omega)
  unfold ra
  rw [h]
  dsimp only
  rw [if_pos (vb_iff.mpr ⟨by omega, by omega⟩), nI_clamp (by omega)]
theorem pD_get {s : St} {a : Nat} (hl : a - 89 < s.2.2.2.length) (D : Nat → Int32) : (pD s a 120 D).2.2.2[a - 89]? = some (120, D) := by
  show (s.2.2.2.set (a - 89) (120, D))[a - 89]? = _
  rw [List.getElem?_set_self hl]
theorem pD_ra {s : St} {a c : Nat} (ha : 89 ≤ a) (hl : a - 89 < s.2.2.2.length) (D : Nat → Int32) (hc : c < 120) : ra (pD s a 120 D) a (nI c) = some (D c) := ra_dyn (dyn_hi ha (pD_get hl D)) hc (by omega)
theorem pD_pD (s : St) (a : Nat) (D D2 : Nat → Int32) : pD (pD s a 120 D) a 120 D2 = pD s a 120 D2 := by
  refine congrArg (fun A => ((s.1, s.2.1, s.2.2.1, A) : St)) ?_
  show (s.2.2.2.set (a - 89) (120, D)).set (a - 89) (120, D2) = _
  rw [List.set_set]
theorem pD_wa {s : St} {a c : Nat} (ha : 89 ≤ a) (hl : a - 89 < s.2.2.2.length) (D : Nat → Int32) (hc : c < 120) (v : Int32) : wa (pD s a 120 D) a (nI c) v = some (pD s a 120 (upd D c v)) := by
  have e := nI_toInt (n := c) (by omega)
  unfold wa
  rw [dyn_hi ha (pD_get hl D)]
  dsimp only
  rw [if_pos ⟨vb_iff.mpr ⟨by omega, by omega⟩, ha⟩, nI_clamp (by omega), pD_pD]
/-- the least of some -/
def LPv (D : Nat → Int32) (l : List Nat) (v : Int32) : Prop := 0 ≤ v.toInt ∧ v.toInt ≤ 100000000 ∧ (∀ o ∈ l, v.toInt ≤ (D o).toInt) ∧ (v.toInt = 100000000 ∨ ∃ o ∈ l, v.toInt = (D o).toInt)
theorem LPv_add {D : Nat → Int32} {l : List Nat} {v : Int32} (h : LPv D l v) {cond : Prop} [Decidable cond] {o : Nat} (ho : cond → 0 ≤ (D o).toInt ∧ (D o).toInt ≤ 100000000) : LPv D (l ++ if cond then [o] else []) (if cond then zmn v (D o) else v) := by
  by_cases c : cond
  · rw [if_pos c, if_pos c]
    obtain ⟨h1, h2, h3, h4⟩ := h
    obtain ⟨o1, o2⟩ := ho c
    have e := zmn_int v (D o)
    refine ⟨by omega, by omega, fun p hp => ?_, ?_⟩
    · rcases List.mem_append.mp hp with hp | hp
      · have := h3 p hp
        omega
      · rw [List.mem_singleton.mp hp]
        omega
    · by_cases k : v.toInt ≤ (D o).toInt
      · rcases h4 with h4 | ⟨p, p1, p2⟩
        · exact Or.inl (by omega)
        · exact Or.inr ⟨p, List.mem_append.mpr (Or.inl p1), by omega⟩
      · exact Or.inr ⟨o, List.mem_append.mpr (Or.inr (List.mem_singleton.mpr rfl)), by omega⟩
  · rw [if_neg c, if_neg c, List.append_nil]
    exact h
theorem mod12 : ∀ c, c < 120 → nI c - nI c / 12 * 12 = nI (c % 12) := by decide +kernel
theorem C_ease {m : Nat → Int} {b : Nat} (hw : wM m) (s : St) {a mad : Nat} (ha : 89 ≤ a) (hl : a - 89 < s.2.2.2.length) {Mn : Nat → Int32} (hM : ∀ D c, c < 120 → ra (pD s a 120 D) mad (nI c) = some (Mn c)) (hm : ∀ c, c < 120 → (Mn c).toInt = m c) {c : Nat} (hc : c < 120) {D : Nat → Int32} (h : IV m b 100000000 D) : ∃ r D', F_X2_ease (nI c) mad a (pD s a 120 D) = some (r, pD s a 120 D') ∧ IV m b 100000000 D' ∧ LE' D' D ∧ (m c ≠ 0 → ∀ o ∈ nbs c, (D' c).toInt ≤ (D o).toInt + m c) ∧ ((r = 0 ∧ D' = D) ∨ r = 1) := by
  have e0 : (0 : Int32).toInt = 0 := rfl
  have e1 : (1 : Int32).toInt = 1 := rfl
  have e11 : (11 : Int32).toInt = 11 := rfl
  have e12 : (12 : Int32).toInt = 12 := rfl
  have e108 : (108 : Int32).toInt = 108 := rfl
  have hmc := hm c hc
  have hk := mod12 c hc
  have r1 : ra (pD s a 120 D) mad (nI c) = some (Mn c) := hM D c hc
  have rr1 : ∀ o, o < 120 → ra (pD s a 120 D) a (nI o) = some (D o) := fun o ho => pD_ra ha hl D ho
  have hD := h.2.1
  by_cases hz : Mn c = 0
  · refine ⟨0, D, ?_, h, LE'.refl D, fun w => absurd (by rw [← hmc, hz]; rfl) w, Or.inl ⟨rfl, rfl⟩⟩
    unfold F_X2_ease
    rw [r1, bind_some, if_pos hz]
  · have hm0 : m c ≠ 0 := by
      rw [← hmc]
      exact fun z => hz (Int32.toInt_inj.mp (z.trans e0.symm))
    have l0 : LPv D [] 100000000 := ⟨by decide, by decide, fun o ho => (nomatch ho), Or.inl rfl⟩
    have l1 := LPv_add l0 (cond := 0 < c % 12) (o := c - 1) (fun _ => hD (c - 1) (by omega))
    have l2 := LPv_add l1 (cond := c % 12 < 11) (o := c + 1) (fun _ => hD (c + 1) (by omega))
    have l3 := LPv_add l2 (cond := 12 ≤ c) (o := c - 12) (fun _ => hD (c - 12) (by omega))
    have l4 := LPv_add l3 (cond := c < 108) (o := c + 12) (fun _ => hD (c + 12) (by omega))
    have s1 : F_X2_ease (nI c) mad a (pD s a 120 D) = F_X2_ease_28 (nI c) mad a (if 0 < c % 12 then zmn 100000000 (D (c - 1)) else 100000000) (pD s a 120 D) := by
      unfold F_X2_ease
      rw [r1, bind_some, if_neg hz, hk]
      by_cases k : 0 < c % 12
      · have k2 : ¬ nI (c % 12) ≤ 0 := by rw [i32_le, nI_toInt (by omega)]; omega
        have k3 : nI c - 1 = nI (c - 1) := by
          have : nI c = nI (c - 1) + 1 := by rw [nI_1]; congr 1; omega
          rw [this, Int32.add_sub_cancel]
        rw [if_neg k2, if_pos k, k3, rr1 _ (by omega), bind_some]
      · have k2 : nI (c % 12) ≤ 0 := by rw [i32_le, nI_toInt (by omega)]; omega
        rw [if_pos k2, if_neg k]
    have s2 : ∀ v, F_X2_ease_28 (nI c) mad a v (pD s a 120 D) = F_X2_ease_47 (nI c) mad a (if c % 12 < 11 then zmn v (D (c + 1)) else v) (pD s a 120 D) := by
      intro v
      unfold F_X2_ease_28
      rw [hk]
      by_cases k : c % 12 < 11
      · have k2 : ¬ (11 : Int32) ≤ nI (c % 12) := by rw [i32_le, nI_toInt (by omega)]; omega
        rw [if_neg k2, if_pos k, nI_1, rr1 _ (by omega), bind_some]
      · have k2 : (11 : Int32) ≤ nI (c % 12) := by rw [i32_le, nI_toInt (by omega)]; omega
        rw [if_pos k2, if_neg k]
    have s3 : ∀ v, F_X2_ease_47 (nI c) mad a v (pD s a 120 D) = F_X2_ease_64 (nI c) mad a (if 12 ≤ c then zmn v (D (c - 12)) else v) (pD s a 120 D) := by
      intro v
      unfold F_X2_ease_47
      by_cases k : 12 ≤ c
      · have k2 : ¬ nI c < 12 := by rw [i32_lt, nI_toInt (by omega)]; omega
        have k3 : nI c - 12 = nI (c - 12) := by
          have : nI c = nI (c - 12) + 12 := by
            rw [show (12 : Int32) = nI 12 from rfl, nI_add]
            congr 1
            omega
          rw [this, Int32.add_sub_cancel]
        rw [if_neg k2, if_pos k, k3, rr1 _ (by omega), bind_some]
      · have k2 : nI c < 12 := by rw [i32_lt, nI_toInt (by omega)]; omega
        rw [if_pos k2, if_neg k]
    have s4 : ∀ v, F_X2_ease_64 (nI c) mad a v (pD s a 120 D) = F_X2_ease_81 (nI c) mad a (if c < 108 then zmn v (D (c + 12)) else v) (pD s a 120 D) := by
      intro v
      unfold F_X2_ease_64
      by_cases k : c < 108
      · have k2 : ¬ (108 : Int32) ≤ nI c := by rw [i32_le, nI_toInt (by omega)]; omega
        have k3 : nI c + 12 = nI (c + 12) := nI_add c 12
        rw [if_neg k2, if_pos k, k3, rr1 _ (by omega), bind_some]
      · have k2 : (108 : Int32) ≤ nI c := by rw [i32_le, nI_toInt (by omega)]; omega
        rw [if_pos k2, if_neg k]
    rw [s1, s2, s3, s4]
    have l5 : LPv D (nbs c) (if c < 108 then zmn (if 12 ≤ c then zmn (if c % 12 < 11 then zmn (if 0 < c % 12 then zmn 100000000 (D (c - 1)) else 100000000) (D (c + 1)) else (if 0 < c % 12 then zmn 100000000 (D (c - 1)) else 100000000)) (D (c - 12)) else (if c % 12 < 11 then zmn (if 0 < c % 12 then zmn 100000000 (D (c - 1)) else 100000000) (D (c + 1)) else (if 0 < c % 12 then zmn 100000000 (D (c - 1)) else 100000000))) (D (c + 12)) else (if 12 ≤ c then zmn (if c % 12 < 11 then zmn (if 0 < c % 12 then zmn 100000000 (D (c - 1)) else 100000000) (D (c + 1)) else (if 0 < c % 12 then zmn 100000000 (D (c - 1)) else 100000000)) (D (c - 12)) else (if c % 12 < 11 then zmn (if 0 < c % 12 then zmn 100000000 (D (c - 1)) else 100000000) (D (c + 1)) else (if 0 < c % 12 then zmn 100000000 (D (c - 1)) else 100000000)))) := l4
    generalize (if c < 108 then zmn (if 12 ≤ c then zmn (if c % 12 < 11 then zmn (if 0 < c % 12 then zmn 100000000 (D (c - 1)) else 100000000) (D (c + 1)) else (if 0 < c % 12 then zmn 100000000 (D (c - 1)) else 100000000)) (D (c - 12)) else (if c % 12 < 11 then zmn (if 0 < c % 12 then zmn 100000000 (D (c - 1)) else 100000000) (D (c + 1)) else (if 0 < c % 12 then zmn 100000000 (D (c - 1)) else 100000000))) (D (c + 12)) else (if 12 ≤ c then zmn (if c % 12 < 11 then zmn (if 0 < c % 12 then zmn 100000000 (D (c - 1)) else 100000000) (D (c + 1)) else (if 0 < c % 12 then zmn 100000000 (D (c - 1)) else 100000000)) (D (c - 12)) else (if c % 12 < 11 then zmn (if 0 < c % 12 then zmn 100000000 (D (c - 1)) else 100000000) (D (c + 1)) else (if 0 < c % 12 then zmn 100000000 (D (c - 1)) else 100000000)))) = v at l5 ⊢
    obtain ⟨p1, p2, p3, p4⟩ := l5
    have w1 := hw c hc
    have c1 := hD c hc
    have ev : (v + Mn c).toInt = v.toInt + m c := by rw [i32_add (by omega) (by omega), hmc]
    unfold F_X2_ease_81
    rw [r1, bind_some, rr1 c hc, bind_some]
    by_cases k : v + Mn c < D c
    · rw [if_pos k, bind_some, pD_wa ha hl D hc, bind_some]
      rw [i32_lt, ev] at k
      obtain ⟨o, o1, o2⟩ : ∃ o ∈ nbs c, v.toInt = (D o).toInt := by
        rcases p4 with p4 | p4
        · omega
        · exact p4
      refine ⟨1, _, rfl, IV_step h hw hc hm0 o1 (v := v + Mn c) (by rw [ev, o2]) (by omega), LE'_upd (LE'.refl D) hc (by omega), fun _ o3 ho3 => ?_, Or.inr rfl⟩
      rw [upd_at, ev]
      have := p3 o3 ho3
      omega
    · rw [if_neg k]
      rw [i32_lt, ev] at k
      refine ⟨0, D, rfl, h, LE'.refl D, fun _ o3 ho3 => ?_, Or.inl ⟨rfl, rfl⟩⟩
      have := p3 o3 ho3
      omega
/-- one round there, one back -/
theorem C_round {m : Nat → Int} {b : Nat} (hw : wM m) (s : St) {a mad : Nat} (ha : 89 ≤ a) (hl : a - 89 < s.2.2.2.length) {Mn : Nat → Int32} (hM : ∀ D c, c < 120 → ra (pD s a 120 D) mad (nI c) = some (Mn c)) (hm : ∀ c, c < 120 → (Mn c).toInt = m c) {D : Nat → Int32} (h : IV m b 100000000 D) (r : Nat) : ∃ fl D1 D2, F_X2_spread_31 mad a 0 (nI r) 0 (pD s a 120 D) = some (.inl (fl, nI (r + 1), pD s a 120 D2)) ∧ IV m b 100000000 D2 ∧ LE' D1 D ∧ LE' D2 D1 ∧ (∀ c, c < 120 → m c ≠ 0 → ∀ o ∈ nbs c, (D1 c).toInt ≤ (D o).toInt + m c) ∧ ((fl = 0 ∧ D2 = D) ∨ fl = 1) := by
  have e0 : (0 : Int32).toInt = 0 := rfl
  have e120 : (120 : Int32).toInt = 120 := rfl
  obtain ⟨Y, h1, f1, D1, rfl, q1, q2, q3, q4⟩ := lp_inv (B := B_X2_spread_31 mad a (nI r))
    (fun j X => ∃ (c : Nat) (fl : Int32) (D' : Nat → Int32), X = (fl, nI c, pD s a 120 D') ∧ c + j = 120 ∧ IV m b 100000000 D' ∧ LE' D' D ∧ (∀ c', c' < c → m c' ≠ 0 → ∀ o ∈ nbs c', (D' c').toInt ≤ (D o).toInt + m c') ∧ ((fl = 0 ∧ D' = D) ∨ fl = 1))
    (fun Y => ∃ (fl : Int32) (D' : Nat → Int32), Y = (fl, pD s a 120 D') ∧ IV m b 100000000 D' ∧ LE' D' D ∧ (∀ c', c' < 120 → m c' ≠ 0 → ∀ o ∈ nbs c', (D' c').toInt ≤ (D o).toInt + m c') ∧ ((fl = 0 ∧ D' = D) ∨ fl = 1)) (by
      rintro j _ ⟨c, fl, D', rfl, hj, i1, i2, i3, i4⟩
      by_cases e2 : c = 120
      · right
        subst e2
        refine ⟨(fl, pD s a 120 D'), ?_, fl, D', rfl, i1, i2, i3, i4⟩
        unfold B_X2_spread_31
        dsimp only
        exact if_pos (by decide)
      · left
        have hc : c < 120 := by omega
        have h9 : ¬ (120 : Int32) ≤ nI c := by
          rw [i32_le, nI_toInt (by omega)]
          omega
        obtain ⟨r1, D2, g1, g2, g3, g4, g5⟩ := C_ease hw s ha hl hM hm hc i1
        have ext : ∀ c', c' < c + 1 → m c' ≠ 0 → ∀ o ∈ nbs c', (D2 c').toInt ≤ (D o).toInt + m c' := by
          intro c' hc' hm' o ho
          by_cases e : c' = c
          · subst e
            have := g4 hm' o ho
            have := i2 o (nbs_lt hc ho).1
            omega
          · have := i3 c' (by omega) hm' o ho
            have := g3 c' (by omega)
            omega
        rcases g5 with ⟨rfl, rfl⟩ | rfl
        · by_cases k : fl = 0
          · refine ⟨(0, nI (c + 1), pD s a 120 D2), j - 1, ?_, by omega, c + 1, 0, D2, rfl, by omega, g2, i2, ext, ?_⟩
            · unfold B_X2_spread_31
              dsimp only
              rw [if_neg h9, g1, bind_some, if_pos rfl, if_pos k, nI_1]
            · rcases i4 with ⟨_, e⟩ | e
              · exact Or.inl ⟨rfl, e⟩
              · exact absurd k (by rw [e]; decide)
          · refine ⟨(1, nI (c + 1), pD s a 120 D2), j - 1, ?_, by omega, c + 1, 1, D2, rfl, by omega, g2, i2, ext, Or.inr rfl⟩
            unfold B_X2_spread_31
            dsimp only
            rw [if_neg h9, g1, bind_some, if_pos rfl, if_neg k, nI_1]
        · refine ⟨(1, nI (c + 1), pD s a 120 D2), j - 1, ?_, by omega, c + 1, 1, D2, rfl, by omega, g2, g3.trans i2, ext, Or.inr rfl⟩
          unfold B_X2_spread_31
          dsimp only
          rw [if_neg h9, g1, bind_some, if_neg (show ¬ (1 : Int32) = 0 by decide), nI_1]) FU 120 (0, 0, pD s a 120 D) ⟨0, 0, D, rfl, by omega, h, LE'.refl D, fun c' hc' => absurd hc' (by omega), Or.inl ⟨rfl, rfl⟩⟩ (FU_lt (by omega))
  obtain ⟨Y, k1, f2, D2, rfl, p1, p2, p3⟩ := lp_inv (B := B_X2_spread_68 mad a (nI r))
    (fun j X => ∃ (fl : Int32) (D' : Nat → Int32), X = (fl, nI j - 1, pD s a 120 D') ∧ j ≤ 120 ∧ IV m b 100000000 D' ∧ LE' D' D1 ∧ ((fl = 0 ∧ D' = D) ∨ fl = 1))
    (fun Y => ∃ (fl : Int32) (D' : Nat → Int32), Y = (fl, pD s a 120 D') ∧ IV m b 100000000 D' ∧ LE' D' D1 ∧ ((fl = 0 ∧ D' = D) ∨ fl = 1)) (by
      rintro j _ ⟨fl, D', rfl, hj, i1, i2, i4⟩
      cases j with
      | zero =>
        right
        refine ⟨(fl, pD s a 120 D'), ?_, fl, D', rfl, i1, i2, i4⟩
        unfold B_X2_spread_68
        dsimp only
        exact if_pos (by decide)
      | succ c =>
        left
        have hc : c < 120 := by omega
        have en : nI (c + 1) - 1 = nI c := by
          have : nI (c + 1) = nI c + 1 := (nI_add c 1).symm
          rw [this, Int32.add_sub_cancel]
        have en2 : nI c + (-1) = nI c - 1 := (Int32.sub_eq_add_neg (nI c) 1).symm
        have h9 : ¬ nI c < 0 := by
          rw [i32_lt, nI_toInt (by omega), e0]
          omega
        obtain ⟨r1, D2, g1, g2, g3, g4, g5⟩ := C_ease hw s ha hl hM hm hc i1
        rcases g5 with ⟨rfl, rfl⟩ | rfl
        · by_cases k : fl = 0
          · refine ⟨(0, nI c - 1, pD s a 120 D2), c, ?_, by omega, 0, D2, rfl, by omega, g2, i2, ?_⟩
            · unfold B_X2_spread_68
              dsimp only
              rw [en, if_neg h9, g1, bind_some, if_pos rfl, if_pos k, en2]
            · rcases i4 with ⟨_, e⟩ | e
              · exact Or.inl ⟨rfl, e⟩
              · exact absurd k (by rw [e]; decide)
          · refine ⟨(1, nI c - 1, pD s a 120 D2), c, ?_, by omega, 1, D2, rfl, by omega, g2, i2, Or.inr rfl⟩
            unfold B_X2_spread_68
            dsimp only
            rw [en, if_neg h9, g1, bind_some, if_pos rfl, if_neg k, en2]
        · refine ⟨(1, nI c - 1, pD s a 120 D2), c, ?_, by omega, 1, D2, rfl, by omega, g2, g3.trans i2, Or.inr rfl⟩
          unfold B_X2_spread_68
          dsimp only
          rw [en, if_neg h9, g1, bind_some, if_neg (show ¬ (1 : Int32) = 0 by decide), en2]) FU 120 (f1, 119, pD s a 120 D1) ⟨f1, D1, rfl, by omega, q1, LE'.refl D1, q4⟩ (FU_lt (by omega))
  refine ⟨f2, D1, D2, ?_, p1, q2, p2, q3, p3⟩
  unfold F_X2_spread_31
  have h1' : lp (B_X2_spread_31 mad a (nI r)) FU (0, 0, pD s a 120 D) = some (f1, pD s a 120 D1) := h1
  rw [h1', bind_some]
  unfold F_X2_spread_64 F_X2_spread_68
  rw [k1, bind_some]
  unfold F_X2_spread_99
  rw [nI_1]
theorem C_spread {m : Nat → Int} {b : Nat} (hw : wM m) (hb : b < 120) (s : St) {a mad : Nat} (ha : 89 ≤ a) {f0 : Nat → Int32} (hf0 : s.2.2.2[a - 89]? = some (120, f0)) {Mn : Nat → Int32} (hM : ∀ D c, c < 120 → ra (pD s a 120 D) mad (nI c) = some (Mn c)) (hm : ∀ c, c < 120 → (Mn c).toInt = m c) {F : Nat → Option Nat} (hF : isF m b F) (hFB : ∀ c, c < 120 → ∀ x, F c = some x → x ≤ 11880) : ∃ D, F_X2_spread (nI b) mad a s = some (pD s a 120 D) ∧ ∀ c, c < 120 → D c = wN F 100000000 c := by
  have hl : a - 89 < s.2.2.2.length := (List.getElem?_eq_some_iff.mp hf0).1
  have e0 : (0 : Int32).toInt = 0 := rfl
  have e120 : (120 : Int32).toInt = 120 := rfl
  have eB : (100000000 : Int32).toInt = 100000000 := rfl
  have h1 : wFd s a 100000000 = some (pD s a 120 (flf f0 120 100000000)) := by
    unfold wFd
    rw [dyn_hi ha hf0]
    dsimp only
    rw [if_pos ⟨ha, by omega⟩]
  have h2 : wa (pD s a 120 (flf f0 120 100000000)) a (nI b) 0 = some (pD s a 120 (upd (flf f0 120 100000000) b 0)) := pD_wa ha hl _ hb 0
  have hI0 : IV m b 100000000 (upd (flf f0 120 100000000) b 0) := by
    refine ⟨by rw [upd_at]; rfl, fun c hc => ?_, fun c hc hcb hB => ?_⟩
    · by_cases e : c = b
      · rw [e, upd_at, e0]
        omega
      · rw [upd_ne _ _ e, flf_lt hc, eB]
        omega
    · rw [upd_ne _ _ hcb, flf_lt hc, eB] at hB
      omega
  obtain ⟨Y, k1, D, rfl, k2, k3⟩ := lp_inv (B := B_X2_spread_15 mad a)
    (fun j X => ∃ (r : Nat) (fl : Int32) (D : Nat → Int32), X = (fl, nI r, pD s a 120 D) ∧ r + j = 120 ∧ IV m b 100000000 D ∧ (cn (wro F D) 120 + r ≤ 119 ∨ cn (wro F D) 120 = 0) ∧ (fl = 0 → cn (wro F D) 120 = 0))
    (fun Y => ∃ (D : Nat → Int32), Y = pD s a 120 D ∧ IV m b 100000000 D ∧ cn (wro F D) 120 = 0) (by
      rintro j _ ⟨r, fl, D, rfl, hj, i1, i2, i3⟩
      by_cases e2 : r = 120
      · right
        subst e2
        refine ⟨pD s a 120 D, ?_, D, rfl, i1, by omega⟩
        unfold B_X2_spread_15
        dsimp only
        exact if_pos (by decide)
      · have h9 : ¬ (120 : Int32) ≤ nI r := by
          rw [i32_le, nI_toInt (by omega)]
          omega
        by_cases k : fl = 0
        · right
          refine ⟨pD s a 120 D, ?_, D, rfl, i1, i3 k⟩
          unfold B_X2_spread_15
          dsimp only
          rw [if_neg h9, if_pos k]
        · left
          obtain ⟨fl2, D1, D2, g1, g2, g3, g4, g5, g6⟩ := C_round hw s ha hl hM hm i1 r
          have hless := wro_less hw i1 hF g3 g4 g5
          refine ⟨(fl2, nI (r + 1), pD s a 120 D2), j - 1, ?_, by omega, r + 1, fl2, D2, rfl, by omega, g2, by omega, fun z => ?_⟩
          · unfold B_X2_spread_15
            dsimp only
            rw [if_neg h9, if_neg k, g1]
          · rcases g6 with ⟨_, e⟩ | e
            · rw [e] at hless ⊢
              omega
            · exact absurd z (by rw [e]; decide)) FU 120 (1, 0, pD s a 120 (upd (flf f0 120 100000000) b 0)) ⟨0, 1, _, rfl, by omega, hI0, Or.inl (by have := wro_first hb hI0 hF; omega), fun z => absurd z (by decide)⟩ (FU_lt (by omega))
  refine ⟨D, ?_, fun c hc => wro_end (B := 100000000) hw k2 hF k3 (by omega) (by omega) hFB hc⟩
  unfold F_X2_spread
  rw [h1, bind_some, h2, bind_some]
  unfold F_X2_spread_15
  rw [k1]
  rfl
