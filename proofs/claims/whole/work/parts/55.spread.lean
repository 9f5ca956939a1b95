/-! the reference's spread -/
def nbd (c d : Nat) : Option Nat := if d = 0 then (if 12 ≤ c then some (c - 12) else none) else if d = 1 then (if c % 12 < 11 then some (c + 1) else none) else if d = 2 then (if c < 108 then some (c + 12) else none) else (if 0 < c % 12 then some (c - 1) else none)
theorem M_beside : ∀ c, c < 120 → ∀ d, d < 4 → F_X12_beside (nI c) (nI d) = some (oI (nbd c d)) := by decide +kernel
theorem nbd_in : ∀ c, c < 120 → ∀ o ∈ nbs c, nbd c 0 = some o ∨ nbd c 1 = some o ∨ nbd c 2 = some o ∨ nbd c 3 = some o := by decide +kernel
theorem nbd_mem0 : ∀ c, c < 120 → ∀ d, d < 4 → (nbd c d).all (fun o => decide (o ∈ nbs c)) = true := by decide +kernel
theorem nbd_mem {c d o : Nat} (hc : c < 120) (hd : d < 4) (h : nbd c d = some o) : o ∈ nbs c := by
  have := nbd_mem0 c hc d hd
  rw [h] at this
  exact of_decide_eq_true this
/-- within a round of the reference's -/
def QQ (m : Nat → Int) (b : Nat) (D0 : Nat → Int32) (c d : Nat) (fl : Int32) (D : Nat → Int32) : Prop := IV m b 1000000 D ∧ LE' D D0 ∧ ((fl = 0 ∧ D = D0 ∧ (∀ c', c' < c → m c' ≠ 0 → ∀ o ∈ nbs c', (D0 c').toInt ≤ (D0 o).toInt + m c') ∧ ∀ d', d' < d → ∀ o, nbd c d' = some o → (D0 c).toInt ≤ (D0 o).toInt + m c) ∨ (fl = 1 ∧ ∃ e, e < 120 ∧ (D e).toInt < (D0 e).toInt))
theorem rd_1203 (t : St) (D : Nat → Int32) {c : Nat} (hc : c < 120) : rd (setA t 1203 D) 1203 120 (nI c) = some (D c) := by
  rw [rd_nI hc (by omega), setA_at]
theorem wr_1203 (t : St) (D : Nat → Int32) {c : Nat} (v : Int32) (hc : c < 120) : wr (setA t 1203 D) 1203 120 (nI c) v = some (setA t 1203 (upd D c v)) := by
  rw [wr_nI hc (by omega), sA_set]
theorem M_cell {m : Nat → Int} {b : Nat} (hw : wM m) (t : St) (v2 mm : Int32) {c : Nat} (hc : c < 120) (hm : mm.toInt = m c) (hm0 : m c ≠ 0) {D0 : Nat → Int32} {fl : Int32} {D : Nat → Int32} (h : QQ m b D0 c 0 fl D) : ∃ fl' D', F_X12_spread_79 v2 fl (nI c) mm 0 (setA t 1203 D) = some (.inl (fl', nI (c + 1), setA t 1203 D')) ∧ QQ m b D0 (c + 1) 0 fl' D' := by
  have e4 : (4 : Int32).toInt = 4 := rfl
  obtain ⟨Y, h1, fl', D', rfl, h2⟩ := lp_inv (B := B_X12_spread_79 v2 (nI c) mm)
    (fun j X => ∃ (d : Nat) (fl : Int32) (D : Nat → Int32), X = (fl, nI d, setA t 1203 D) ∧ d + j = 4 ∧ QQ m b D0 c d fl D)
    (fun Y => ∃ (fl : Int32) (D : Nat → Int32), Y = (fl, setA t 1203 D) ∧ QQ m b D0 c 4 fl D) (by
      rintro j _ ⟨d, fl, D, rfl, hj, hQ⟩
      by_cases e : d = 4
      · right
        subst e
        refine ⟨(fl, setA t 1203 D), ?_, fl, D, rfl, hQ⟩
        unfold B_X12_spread_79
        dsimp only
        exact if_pos (by decide)
      · left
        have h9 : ¬ (4 : Int32) ≤ nI d := by
          rw [i32_le, nI_toInt (by omega)]
          omega
        have hb4 := M_beside c hc d (by omega)
        obtain ⟨q1, q2, q3⟩ := hQ
        cases ho : nbd c d with
        | none =>
          rw [ho] at hb4
          refine ⟨(fl, nI (d + 1), setA t 1203 D), j - 1, ?_, by omega, d + 1, fl, D, rfl, by omega, q1, q2, ?_⟩
          · unfold B_X12_spread_79
            dsimp only
            rw [if_neg h9, hb4, bind_some, if_pos (show oI none = -1 from rfl), nI_1]
          · rcases q3 with ⟨a1, a2, a3, a4⟩ | q3
            · refine Or.inl ⟨a1, a2, a3, fun d' hd' o hoo => ?_⟩
              by_cases e2 : d' = d
              · rw [e2, ho] at hoo
                cases hoo
              · exact a4 d' (by omega) o hoo
            · exact Or.inr q3
        | some o =>
          rw [ho] at hb4
          have om := nbd_mem hc (by omega) ho
          obtain ⟨o1, o2⟩ := nbs_lt hc om
          have no : ¬ oI (some o) = -1 := nI_neg1 (by omega)
          have hb5 : F_X12_beside (nI c) (nI d) = some (nI o) := hb4
          have no' : ¬ nI o = -1 := no
          have w1 := hw c hc
          have D1 := q1.2.1 o o1
          have D2 := q1.2.1 c hc
          have ev : (D o + mm).toInt = (D o).toInt + m c := by rw [i32_add (by omega) (by omega), hm]
          by_cases k : D c ≤ D o + mm
          · refine ⟨(fl, nI (d + 1), setA t 1203 D), j - 1, ?_, by omega, d + 1, fl, D, rfl, by omega, q1, q2, ?_⟩
            · unfold B_X12_spread_79
              dsimp only
              rw [if_neg h9, hb5, bind_some, if_neg no', rd_1203 _ _ o1, bind_some, rd_1203 _ _ hc, bind_some, if_pos k, nI_1]
            · rw [i32_le, ev] at k
              rcases q3 with ⟨a1, a2, a3, a4⟩ | q3
              · refine Or.inl ⟨a1, a2, a3, fun d' hd' o' hoo => ?_⟩
                by_cases e2 : d' = d
                · rw [e2, ho] at hoo
                  cases hoo
                  rw [← a2]
                  exact k
                · exact a4 d' (by omega) o' hoo
              · exact Or.inr q3
          · refine ⟨(1, nI (d + 1), setA t 1203 (upd D c (D o + mm))), j - 1, ?_, by omega, d + 1, 1, _, rfl, by omega, ?_⟩
            · unfold B_X12_spread_79
              dsimp only
              rw [if_neg h9, hb5, bind_some, if_neg no', rd_1203 _ _ o1, bind_some, rd_1203 _ _ hc, bind_some, if_neg k, bind_some, wr_1203 _ _ _ hc, bind_some, nI_1]
            · rw [i32_le, ev] at k
              refine ⟨IV_step q1 hw hc hm0 om ev (by omega), LE'_upd q2 hc (by omega), Or.inr ⟨rfl, c, hc, ?_⟩⟩
              rw [upd_at, ev]
              have := q2 c hc
              omega) FU 4 (fl, 0, setA t 1203 D) ⟨0, fl, D, rfl, by omega, h⟩ (FU_lt (by omega))
  refine ⟨fl', D', ?_, h2.1, h2.2.1, ?_⟩
  · unfold F_X12_spread_79
    rw [h1, bind_some]
    unfold F_X12_spread_145
    rw [nI_1]
  · rcases h2.2.2 with ⟨a1, a2, a3, a4⟩ | q3
    · refine Or.inl ⟨a1, a2, fun c' hc' hm' o ho => ?_, fun d' hd' => absurd hd' (by omega)⟩
      by_cases e : c' = c
      · subst e
        rcases nbd_in c' hc o ho with z | z | z | z
        · exact a4 0 (by omega) o z
        · exact a4 1 (by omega) o z
        · exact a4 2 (by omega) o z
        · exact a4 3 (by omega) o z
      · exact a3 c' (by omega) hm' o ho
    · exact Or.inr q3
theorem M_round {m : Nat → Int} {b : Nat} (hw : wM m) (t : St) {e : Nat} (he : e = 0 ∨ e = 1) (hm : ∀ c, c < 120 → (t.2.1 1201 (120 * e + c)).toInt = m c) (hm0 : e = 0 → ∀ c, c < 120 → m c ≠ 0) {D : Nat → Int32} (h : IV m b 1000000 D) : ∃ fl' D', F_X12_spread_42 (nI e) 0 0 (setA t 1203 D) = some (.inl (fl', setA t 1203 D')) ∧ IV m b 1000000 D' ∧ LE' D' D ∧ ((fl' = 0 ∧ D' = D ∧ fixD m D) ∨ (fl' = 1 ∧ ∃ c, c < 120 ∧ (D' c).toInt < (D c).toInt)) := by
  have e120 : (120 : Int32).toInt = 120 := rfl
  have e0 : (0 : Int32).toInt = 0 := rfl
  obtain ⟨Y, h1, fl', D', rfl, h2⟩ := lp_inv (B := B_X12_spread_42 (nI e))
    (fun j X => ∃ (c : Nat) (fl : Int32) (D' : Nat → Int32), X = (fl, nI c, setA t 1203 D') ∧ c + j = 120 ∧ QQ m b D c 0 fl D')
    (fun Y => ∃ (fl : Int32) (D' : Nat → Int32), Y = (fl, setA t 1203 D') ∧ QQ m b D 120 0 fl D') (by
      rintro j _ ⟨c, fl, D', rfl, hj, hQ⟩
      by_cases e2 : c = 120
      · right
        subst e2
        refine ⟨(fl, setA t 1203 D'), ?_, fl, D', rfl, hQ⟩
        unfold B_X12_spread_42
        dsimp only
        exact if_pos (by decide)
      · left
        have hc : c < 120 := by omega
        have h9 : ¬ (120 : Int32) ≤ nI c := by
          rw [i32_le, nI_toInt (by omega)]
          omega
        have ix : (120 : Int32) * nI e + nI c = nI (120 * e + c) := idxN2 (k := 120) (by omega) (by omega) (by omega)
        have k1 : rd (setA t 1203 D') 1201 240 (nI (120 * e + c)) = some (t.2.1 1201 (120 * e + c)) := rd_nI (by omega) (by omega)
        have hmc := hm c hc
        have closed : m c = 0 → QQ m b D (c + 1) 0 fl D' := by
          intro hz
          refine ⟨hQ.1, hQ.2.1, ?_⟩
          rcases hQ.2.2 with ⟨a1, a2, a3, a4⟩ | q3
          · refine Or.inl ⟨a1, a2, fun c' hc' hm' o ho => ?_, fun d' hd' => absurd hd' (by omega)⟩
            by_cases e : c' = c
            · rw [e] at hm'
              exact absurd hz hm'
            · exact a3 c' (by omega) hm' o ho
          · exact Or.inr q3
        rcases he with rfl | rfl
        · obtain ⟨fl2, D2, g1, g2⟩ := M_cell hw t (nI 0) (t.2.1 1201 (120 * 0 + c)) hc hmc (hm0 rfl c hc) hQ
          refine ⟨(fl2, nI (c + 1), setA t 1203 D2), j - 1, ?_, by omega, c + 1, fl2, D2, rfl, by omega, g2⟩
          unfold B_X12_spread_42
          dsimp only
          rw [if_neg h9, ix, k1, bind_some, if_neg (show ¬ nI 0 = 1 by decide), g1]
        · by_cases hz : t.2.1 1201 (120 * 1 + c) = 0
          · refine ⟨(fl, nI (c + 1), setA t 1203 D'), j - 1, ?_, by omega, c + 1, fl, D', rfl, by omega, closed (by rw [← hmc, hz]; rfl)⟩
            unfold B_X12_spread_42
            dsimp only
            rw [if_neg h9, ix, k1, bind_some, if_pos (show nI 1 = 1 from rfl), if_pos hz]
            unfold F_X12_spread_145
            rw [nI_1]
          · have hz2 : m c ≠ 0 := by
              rw [← hmc]
              exact fun z => hz (Int32.toInt_inj.mp (z.trans e0.symm))
            obtain ⟨fl2, D2, g1, g2⟩ := M_cell hw t (nI 1) (t.2.1 1201 (120 * 1 + c)) hc hmc hz2 hQ
            refine ⟨(fl2, nI (c + 1), setA t 1203 D2), j - 1, ?_, by omega, c + 1, fl2, D2, rfl, by omega, g2⟩
            unfold B_X12_spread_42
            dsimp only
            rw [if_neg h9, ix, k1, bind_some, if_pos (show nI 1 = 1 from rfl), if_neg hz, g1]) FU 120 (0, 0, setA t 1203 D) ⟨0, 0, D, rfl, by omega, h, LE'.refl D, Or.inl ⟨rfl, rfl, fun c' hc' => absurd hc' (by omega), fun d' hd' => absurd hd' (by omega)⟩⟩ (FU_lt (by omega))
  refine ⟨fl', D', ?_, h2.1, h2.2.1, ?_⟩
  · unfold F_X12_spread_42
    rw [h1]
    rfl
  · rcases h2.2.2 with ⟨a1, a2, a3, a4⟩ | q3
    · exact Or.inl ⟨a1, a2, a3⟩
    · exact Or.inr q3
theorem M_spread {m : Nat → Int} {b : Nat} (hw : wM m) (hb : b < 120) (t : St) {e : Nat} (he : e = 0 ∨ e = 1) (hm : ∀ c, c < 120 → (t.2.1 1201 (120 * e + c)).toInt = m c) (hm0 : e = 0 → ∀ c, c < 120 → m c ≠ 0) : ∃ (D : Nat → Int32) (F : Nat → Option Nat), F_X12_spread (nI b) (nI e) t = some (setA t 1203 D) ∧ isF m b F ∧ (∀ c, c < 120 → ∀ x, F c = some x → x ≤ 11880) ∧ ∀ c, c < 120 → D c = wN F 1000000 c := by
  have e120 : (120 : Int32).toInt = 120 := rfl
  have em : (1000000 : Int32).toInt = 1000000 := rfl
  have e0 : (0 : Int32).toInt = 0 := rfl
  -- the beginning
  obtain ⟨Y, h1, D0, rfl, h2⟩ := lp_inv (B := B_X12_spread_2 (nI b) (nI e))
    (fun j X => ∃ (c : Nat) (D : Nat → Int32), X = (nI c, setA t 1203 D) ∧ c + j = 120 ∧ ∀ k, k < c → D k = if k = b then 0 else 1000000)
    (fun Y => ∃ (D : Nat → Int32), Y = setA t 1203 D ∧ ∀ k, k < 120 → D k = if k = b then 0 else 1000000) (by
      rintro j _ ⟨c, D, rfl, hj, hk⟩
      by_cases e2 : c = 120
      · right
        subst e2
        refine ⟨setA t 1203 D, ?_, D, rfl, hk⟩
        unfold B_X12_spread_2
        dsimp only
        exact if_pos (by decide)
      · left
        have hc : c < 120 := by omega
        have h9 : ¬ (120 : Int32) ≤ nI c := by
          rw [i32_le, nI_toInt (by omega)]
          omega
        have ext : ∀ v, v = (if c = b then (0 : Int32) else 1000000) → ∀ k, k < c + 1 → upd D c v k = if k = b then 0 else 1000000 := by
          intro v hv k hk2
          by_cases e3 : k = c
          · rw [e3, upd_at, hv]
          · rw [upd_ne _ _ e3]
            exact hk k (by omega)
        by_cases e3 : c = b
        · refine ⟨(nI (c + 1), setA t 1203 (upd D c 0)), j - 1, ?_, by omega, c + 1, _, rfl, by omega, ext 0 (by rw [if_pos e3])⟩
          unfold B_X12_spread_2
          dsimp only
          rw [if_neg h9, if_pos (by rw [e3]), wr_1203 _ _ _ hc, bind_some, nI_1]
        · refine ⟨(nI (c + 1), setA t 1203 (upd D c 1000000)), j - 1, ?_, by omega, c + 1, _, rfl, by omega, ext 1000000 (by rw [if_neg e3])⟩
          unfold B_X12_spread_2
          dsimp only
          rw [if_neg h9, if_neg (fun z => e3 ((nI_eq (by omega) (by omega)).mp z)), wr_1203 _ _ _ hc, bind_some, nI_1]) FU 120 (0, t) ⟨0, t.2.1 1203, by rw [setA_self]; rfl, by omega, fun k hk => absurd hk (by omega)⟩ (FU_lt (by omega))
  have hI0 : IV m b 1000000 D0 := by
    refine ⟨?_, fun c hc => ?_, fun c hc hcb hB => ?_⟩
    · rw [h2 b hb, if_pos rfl]
      rfl
    · rw [h2 c hc]
      split
      · rw [e0]; omega
      · rw [em]; omega
    · rw [h2 c hc, if_neg hcb, em] at hB
      omega
  -- the rounds
  obtain ⟨Y, g1, D, rfl, g2, g3⟩ := lp_inv (B := B_X12_spread_33 (nI e))
    (fun j X => ∃ (fl : Int32) (D : Nat → Int32), X = (fl, setA t 1203 D) ∧ IV m b 1000000 D ∧ (fl = 0 ∧ fixD m D ∨ fl = 1 ∧ smD D 120 + 1 = j))
    (fun Y => ∃ (D : Nat → Int32), Y = setA t 1203 D ∧ IV m b 1000000 D ∧ fixD m D) (by
      rintro j _ ⟨fl, D, rfl, hI, ⟨rfl, hf⟩ | ⟨rfl, hj⟩⟩
      · right
        refine ⟨setA t 1203 D, ?_, D, rfl, hI, hf⟩
        unfold B_X12_spread_33
        dsimp only
        rw [if_pos rfl]
      · left
        obtain ⟨fl2, D2, k1, k2, k3, k4⟩ := M_round hw t he hm hm0 hI
        have hB : B_X12_spread_33 (nI e) (1, setA t 1203 D) = some (.inl (fl2, setA t 1203 D2)) := by
          unfold B_X12_spread_33
          dsimp only
          rw [if_neg (show ¬ (1 : Int32) = 0 by decide), k1]
        rcases k4 with ⟨rfl, rfl, k5⟩ | ⟨rfl, c, hc, k5⟩
        · exact ⟨_, 0, hB, by omega, 0, _, rfl, k2, Or.inl ⟨rfl, k5⟩⟩
        · have hlt := smD_lt (n := 120) k3 ⟨c, hc, k5, (k2.2.1 c hc).1⟩
          exact ⟨_, smD D2 120 + 1, hB, by omega, 1, _, rfl, k2, Or.inr ⟨rfl, rfl⟩⟩) FU (smD D0 120 + 1) (1, setA t 1203 D0) ⟨1, D0, rfl, hI0, Or.inr ⟨rfl, rfl⟩⟩ (by
        have := smD_max (D := D0) (B := 1000000) (n := 120) (fun i hi => (hI0.2.1 i hi).2)
        exact FU_lt (by omega))
  have hB : (20000 : Int) ≤ 1000000 := by omega
  refine ⟨D, _, ?_, fix_isF hb g2 hw g3 hB, fun c hc x hx => ?_, fun c hc => ?_⟩
  · unfold F_X12_spread F_X12_spread_2
    rw [h1, bind_some]
    unfold F_X12_spread_31 F_X12_spread_33
    rw [g1]
    rfl
  · have hx' : (if (D c).toInt < 1000000 then some (D c).toInt.toNat else none) = some x := hx
    by_cases k : (D c).toInt < 1000000
    · rw [if_pos k] at hx'
      have := Option.some.inj hx'
      have := IV_bound hb g2 hw g3 hc k
      omega
    · rw [if_neg k] at hx'
      cases hx'
  · have c1 := g2.2.1 c hc
    unfold wN
    dsimp only
    by_cases k : (D c).toInt < 1000000
    · rw [if_pos k]
      exact i32_of (by omega)
    · rw [if_neg k]
      refine Int32.toInt_inj.mp ?_
      rw [em]
      omega
