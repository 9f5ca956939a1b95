/-! quarrel: what the reference's method says (its picture: gxq.py), and that both say the same -/
def B_X12_quarrel_25 (v1 : Int32) (v2 : Int32) (v3 : Int32) : Int32 × St → Option ((Int32 × St) ⊕ ((St) ⊕ (Int32 × St)))
  | (v4, s) =>
  if 7 ≤ v4 then
    some (.inr (.inl s))
  else
    (rs 0 7 v4).bind fun x3 =>
    (F_X12_lawFor v1 v2 v3 x3 1 s).bind fun r4 =>
    (F_X12_lawFor v1 v2 v3 x3 2 r4.2).bind fun r5 =>
    if r4.1 = (-1) then
      some (.inl ((v4 + 1), r5.2))
    else
      if r5.1 = (-1) then
        some (.inl ((v4 + 1), r5.2))
      else
        if (r4.2.1 1244) = (r5.2.1 1244) then
          some (.inl ((v4 + 1), r5.2))
        else
          some (.inr (.inr (x3, r5.2)))
def F_X12_quarrel_102 (s : St) : Option (Int32 × St) :=
  some ((-1), s)
def F_X12_quarrel_93 (v5 : Int32) (s : St) : Option (Int32 × St) :=
  some (v5, s)
def F_X12_quarrel_25 (v1 : Int32) (v2 : Int32) (v3 : Int32) (v4 : Int32) (s : St) : Option (Int32 × St) :=
  (lp (B_X12_quarrel_25 v1 v2 v3) FU (v4, s)).bind (Sum.elim (fun y => F_X12_quarrel_102 y) (fun y => F_X12_quarrel_93 y.1 y.2))
def F_X12_quarrel (v1 : Int32) (v2 : Int32) (v3 : Int32) (s : St) : Option (Int32 × St) :=
  (F_X12_isAsked v1 v2 v3 s).bind fun r1 =>
  if r1 = 0 then
    some ((-1), s)
  else
    (F_X12_tell v2 v1 0 0 0 0 s).bind fun s2 =>
    F_X12_quarrel_25 v1 v2 v3 0 s2
/-- the same letters on both sides -/
def QL (s t : St) (year shire : Int32) : Prop := ∀ i, i < 6 → upd (upd (s.2.1 7) 0 year) 1 shire i = t.2.1 1241 (lch i)
theorem ask_one {N : Int} {s t : St} (h : RX N s t) {k : Nat} (hk : k < 7) {shire year q whose : Int32} (hsh : 0 ≤ shire.toInt) (hQ : QL s t year shire) : ∃ (o : Option (Nat × Int32)) (s' t' : St), F_X0_worthOf (nI k) shire year q whose s = some (wv k o, s') ∧ F_X12_lawFor shire year q (stA 0 k) whose t = some (lawI o, t') ∧ RX N s' t' ∧ QL s' t' year shire ∧ s'.1 9 = lawI o ∧ t'.1 1244 = lawV o ∧ (∀ b v, o = some (b, v) → b < 2 ^ 31) := by
  obtain ⟨f, g, p, v, h1, h2, h3⟩ := worth_two h.law h.ref hk (shire := shire) (year := year) (q := q) (whose := whose) hsh rfl hQ
  refine ⟨_, _, _, h1, h2, ?_, ?_, ?_, ?_, ?_⟩
  · exact ⟨h.now, h.folk, h.cnt, h.rec, h.trt, h.sch, h.blt, h.shut, h.tape, h.yard, h.prom, h.given, h.staff, h.roof, h.site, h.purse, h.land, h.law, h.ref, h.row⟩
  · intro i hi
    have e := hQ i hi
    show upd (upd (upd (upd (s.2.1 7) 0 year) 1 shire) 0 year) 1 shire i = t.2.1 1241 (lch i)
    rw [← e]
    unfold upd
    by_cases c1 : i = 1
    · rw [if_pos c1, if_pos c1]
    · rw [if_neg c1, if_neg c1]
      by_cases c0 : i = 0
      · rw [if_pos c0, if_pos c0]
      · rw [if_neg c0]
  · unfold CL
    exact upd_at s.1 9 _
  · show upd (upd t.1 1243 p) 1244 v 1244 = _
    rw [upd_at, h3]
  · intro b' v e
    have q1 := lawB_lt e
    have q2 := h.law.2.1.2
    omega
theorem P_quarrel {N : Int} {s t : St} (h : RX N s t) (v1 v2 v3 : Int32) : Two (RX (N + 1)) (F_X11_quarrel v1 v2 v3 s) (F_X12_quarrel v1 v2 v3 t) := by
  unfold F_X11_quarrel F_X12_quarrel
  rcases asked (v1 := v1) (v2 := v2) (v3 := v3) (v4 := 119) h.now with ⟨h1, r, hr, c1 | ⟨c1, c2 | ⟨c2, c3⟩⟩⟩ | ⟨h1, c1, c2, c3⟩
  · rw [h1, bind_some, if_pos c1, if_pos rfl]
    exact Two_ret _ h.up
  · rw [h1, bind_some, if_neg c1, if_pos c2, if_pos rfl]
    exact Two_ret _ h.up
  · rw [h1, c3, bind_some, if_neg c1, if_neg c2, bind_some, if_pos rfl, if_pos rfl]
    exact Two_ret _ h.up
  · rw [h1, c3, bind_some, if_neg (show ¬ (1 : Int32) = 0 by decide), if_neg c1, if_neg c2, bind_some, if_neg (show ¬ (1 : Int32) = 0 by decide)]
    have hsh : 0 ≤ v1.toInt := (inb_R c1).1
    unfold F_X0_quarrelled
    rw [spell_ok, bind_some, tell_ok, bind_some]
    have hX : RX N (CL s (upd (upd (upd (upd (s.2.1 7) 2 0) 3 0) 4 0) 5 0) (s.2.1 8) (s.1 9)) (setA t 1241 (upd (upd (upd (upd (upd (upd (t.2.1 1241) 121 v2) 105 v1) 110 0) 108 0) 120 0) 114 0)) := ⟨h.now, h.folk, h.cnt, h.rec, h.trt, h.sch, h.blt, h.shut, h.tape, h.yard, h.prom, h.given, h.staff, h.roof, h.site, h.purse, h.land, h.law, h.ref, h.row⟩
    have hQ : QL (CL s (upd (upd (upd (upd (s.2.1 7) 2 0) 3 0) 4 0) 5 0) (s.2.1 8) (s.1 9)) (setA t 1241 (upd (upd (upd (upd (upd (upd (t.2.1 1241) 121 v2) 105 v1) 110 0) 108 0) 120 0) 114 0)) v2 v1 := by
      intro i hi
      have : i = 0 ∨ i = 1 ∨ i = 2 ∨ i = 3 ∨ i = 4 ∨ i = 5 := by omega
      rcases this with r | r | r | r | r | r <;> subst r <;> rfl
    obtain ⟨Y, Z, g1, g2, g3⟩ := lp_two (B := B_X0_quarrelled_11 v1 v2 v3) (B2 := B_X12_quarrel_25 v1 v2 v3)
      (fun j X Z => ∃ k, k + j = 7 ∧ X.1 = nI k ∧ Z.1 = nI k ∧ RX N X.2 Z.2 ∧ QL X.2 Z.2 v2 v1)
      (fun Y Z => (∃ y z, Y = .inl y ∧ Z = .inl z ∧ RX N y z) ∨ ∃ (k : Nat) (y z : St), k < 7 ∧ Y = .inr (nI k, y) ∧ Z = .inr (stA 0 k, z) ∧ RX N y z) (by
        rintro j ⟨X1, S⟩ ⟨Z1, T⟩ ⟨k, a1, a2, a3, a4, a5⟩
        dsimp only at a2 a3 a4 a5
        subst a2
        subst a3
        have e7 : (7 : Int32).toInt = 7 := rfl
        by_cases hk : k < 7
        · have c7 : ¬ (7 : Int32) ≤ nI k := by
            rw [i32_le, nI_toInt (by omega)]
            omega
          obtain ⟨o1, S1, T1, b1, b2, b3, b4, b5, b6, b7⟩ := ask_one a4 hk (q := v3) (whose := 1) hsh a5
          obtain ⟨o2, S2, T2, d1, d2, d3, d4, d5, d6, d7⟩ := ask_one b3 hk (q := v3) (whose := 2) hsh b4
          have next : B_X0_quarrelled_11 v1 v2 v3 (nI k, S) = some (.inl (nI k + 1, S2)) → B_X12_quarrel_25 v1 v2 v3 (nI k, T) = some (.inl (nI k + 1, T2)) → (∃ (x' z' : Int32 × St) (j' : Nat), B_X0_quarrelled_11 v1 v2 v3 (nI k, S) = some (.inl x') ∧ B_X12_quarrel_25 v1 v2 v3 (nI k, T) = some (.inl z') ∧ j' < j ∧ ∃ k, k + j' = 7 ∧ x'.1 = nI k ∧ z'.1 = nI k ∧ RX N x'.2 z'.2 ∧ QL x'.2 z'.2 v2 v1) := fun w1 w2 => ⟨_, _, j - 1, w1, w2, by omega, k + 1, by omega, nI_1 k, nI_1 k, d3, d4⟩
          have cC : B_X0_quarrelled_11 v1 v2 v3 (nI k, S) = if lawI o1 = -1 then some (.inl (nI k + 1, S2)) else if lawI o2 = -1 then some (.inl (nI k + 1, S2)) else if wv k o1 = wv k o2 then some (.inl (nI k + 1, S2)) else some (.inr (.inr (nI k, S2))) := by
            unfold B_X0_quarrelled_11
            dsimp only
            rw [if_neg c7, b1, bind_some]
            dsimp only
            rw [b5, d1, bind_some]
            dsimp only
            rw [bind_some]
            dsimp only
            rw [d5]
          have cM : B_X12_quarrel_25 v1 v2 v3 (nI k, T) = if lawI o1 = -1 then some (.inl (nI k + 1, T2)) else if lawI o2 = -1 then some (.inl (nI k + 1, T2)) else if lawV o1 = lawV o2 then some (.inl (nI k + 1, T2)) else some (.inr (.inr (stA 0 k, T2))) := by
            unfold B_X12_quarrel_25
            dsimp only
            rw [if_neg c7, rs_nI hk (by omega), bind_some, b2, bind_some]
            dsimp only
            rw [d2, bind_some]
            dsimp only
            rw [b6, d6]
          by_cases c1 : lawI o1 = -1
          · rw [if_pos c1] at cC cM
            exact Or.inl (next cC cM)
          · rw [if_neg c1] at cC cM
            by_cases c2 : lawI o2 = -1
            · rw [if_pos c2] at cC cM
              exact Or.inl (next cC cM)
            · rw [if_neg c2] at cC cM
              have n1 : ∀ {o : Option (Nat × Int32)}, ¬ lawI o = -1 → wv k o = lawV o := by
                intro o ho
                cases o with
                | none => exact absurd rfl ho
                | some bv => rfl
              rw [n1 c1, n1 c2] at cC
              by_cases c3 : lawV o1 = lawV o2
              · rw [if_pos c3] at cC cM
                exact Or.inl (next cC cM)
              · rw [if_neg c3] at cC cM
                exact Or.inr ⟨_, _, cC, cM, Or.inr ⟨k, S2, T2, hk, rfl, rfl, d3⟩⟩
        · have c7 : (7 : Int32) ≤ nI k := by
            rw [i32_le, nI_toInt (by omega)]
            omega
          refine Or.inr ⟨.inl S, .inl T, ?_, ?_, Or.inl ⟨S, T, rfl, rfl, a4⟩⟩
          · unfold B_X0_quarrelled_11
            dsimp only
            rw [if_pos c7]
          · unfold B_X12_quarrel_25
            dsimp only
            rw [if_pos c7]) FU FU 7 (0, CL s (upd (upd (upd (upd (s.2.1 7) 2 0) 3 0) 4 0) 5 0) (s.2.1 8) (s.1 9)) (0, setA t 1241 (upd (upd (upd (upd (upd (upd (t.2.1 1241) 121 v2) 105 v1) 110 0) 108 0) 120 0) 114 0)) ⟨0, rfl, rfl, rfl, hX, hQ⟩ (FU_lt (by omega)) (FU_lt (by omega))
    unfold F_X0_quarrelled_11 F_X12_quarrel_25
    rw [g1, g2, bind_some, bind_some]
    rcases g3 with ⟨y, z, rfl, rfl, w⟩ | ⟨k, y, z, hk, rfl, rfl, w⟩
    · exact Two_ret _ w.up
    · show Two (RX (N + 1)) ((F_X0_quarrelled_79 (nI k) y).bind fun r2 => some (r2.1, r2.2)) (F_X12_quarrel_93 (stA 0 k) z)
      unfold F_X0_quarrelled_79 F_X12_quarrel_93
      rw [rs_nI hk (by omega), bind_some, bind_some]
      exact Two_ret _ w.up
