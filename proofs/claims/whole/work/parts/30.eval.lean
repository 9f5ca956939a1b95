/-! a law's program: what a step does, on both sides -/
theorem lgc_cases (x y : Int64) : (y.toInt < x.toInt ∧ lg_cmp x y = 1) ∨ (x.toInt = y.toInt ∧ lg_cmp x y = 0) ∨ (x.toInt < y.toInt ∧ lg_cmp x y = -1) := by
  unfold lg_cmp
  have h1 : x > y ↔ y.toInt < x.toInt := Int64.lt_iff_toInt_lt
  have h2 : x = y ↔ x.toInt = y.toInt := Int64.toInt_inj.symm
  by_cases c1 : y.toInt < x.toInt
  · left
    exact ⟨c1, by rw [if_pos (h1.mpr c1)]⟩
  · right
    by_cases c2 : x.toInt = y.toInt
    · left
      exact ⟨c2, by rw [if_neg (fun z => c1 (h1.mp z)), if_pos (h2.mpr c2)]⟩
    · right
      exact ⟨by omega, by rw [if_neg (fun z => c1 (h1.mp z)), if_neg (fun z => c2 (h2.mp z))]⟩
theorem lgc_le {x y : Int64} : lg_cmp x y ≤ 0 ↔ x.toInt ≤ y.toInt := by
  rcases lgc_cases x y with ⟨h, e⟩ | ⟨h, e⟩ | ⟨h, e⟩ <;> rw [e]
  · exact ⟨fun z => absurd z (by decide), fun z => by omega⟩
  · exact ⟨fun _ => by omega, fun _ => by decide⟩
  · exact ⟨fun _ => by omega, fun _ => by decide⟩
theorem lgc_ge {x y : Int64} : 0 ≤ lg_cmp x y ↔ y.toInt ≤ x.toInt := by
  rcases lgc_cases x y with ⟨h, e⟩ | ⟨h, e⟩ | ⟨h, e⟩ <;> rw [e]
  · exact ⟨fun _ => by omega, fun _ => by decide⟩
  · exact ⟨fun _ => by omega, fun _ => by decide⟩
  · exact ⟨fun z => absurd z (by decide), fun z => by omega⟩
theorem lgc_eq {x y : Int64} : lg_cmp x y = 0 ↔ x.toInt = y.toInt := by
  rcases lgc_cases x y with ⟨h, e⟩ | ⟨h, e⟩ | ⟨h, e⟩ <;> rw [e]
  · exact ⟨fun z => absurd z (by decide), fun z => by omega⟩
  · exact ⟨fun _ => by omega, fun _ => rfl⟩
  · exact ⟨fun z => absurd z (by decide), fun z => by omega⟩
theorem bnd_eq (v : Int64) : (if lg_cmp v 1000000 ≤ 0 then if 0 ≤ lg_cmp v (-1000000) then some (Int64.toInt32 v) else some (-1000000) else some (1000000 : Int32)) = some (Int64.toInt32 (mx64 (-1000000) (mn64 1000000 v))) := by
  have e1 : (1000000 : Int64).toInt = 1000000 := rfl
  have e2 : (-1000000 : Int64).toInt = -1000000 := rfl
  unfold mx64 mn64
  by_cases h1 : v.toInt ≤ 1000000
  · rw [if_pos (lgc_le.mpr (by rw [e1]; exact h1))]
    have hw : (if v < 1000000 then v else (1000000 : Int64)) = v := by
      split
      · rfl
      · next h => exact Int64.toInt_inj.mp (by rw [Int64.lt_iff_toInt_lt, e1] at h; rw [e1]; omega)
    rw [hw]
    by_cases h2 : -1000000 ≤ v.toInt
    · rw [if_pos (lgc_ge.mpr (by rw [e2]; exact h2)), if_neg (by rw [Int64.lt_iff_toInt_lt, e2]; omega)]
    · rw [if_neg (fun z => h2 (by have := lgc_ge.mp z; rw [e2] at this; exact this)), if_pos (by rw [Int64.lt_iff_toInt_lt, e2]; omega)]
      rfl
  · rw [if_neg (fun z => h1 (by have := lgc_le.mp z; rw [e1] at this; exact this))]
    rw [if_neg (show ¬ v < 1000000 by rw [Int64.lt_iff_toInt_lt, e1]; omega)]
    rfl
/-- what a sign makes of two numbers -/
def opv (c a b : Int32) : Int32 := (F_X12_both c a b).getD 0
def isOp (c : Int32) : Prop := c = 38 ∨ c = 42 ∨ c = 43 ∨ c = 45 ∨ c = 47 ∨ c = 60 ∨ c = 61 ∨ c = 62 ∨ c = 124
theorem both_opv (c a b : Int32) : F_X12_both c a b = some (opv c a b) := by
  have h : ∃ r, F_X12_both c a b = some r := by
    unfold F_X12_both F_X12_bounded
    simp only [bind_some]
    repeat' split
    all_goals first | exact ⟨_, rfl⟩ | skip
    next h =>
      have hz : ¬ Int32.toInt64 b = 0 := by
        intro z
        apply h
        have := congrArg Int64.toInt z
        rw [Int32.toInt_toInt64] at this
        exact Int32.toInt_inj.mp this
      rw [nzl_ok hz]
      exact ⟨_, rfl⟩
  obtain ⟨r, hr⟩ := h
  unfold opv
  rw [hr]
  rfl
theorem joined_opv {c : Int32} (hc : isOp c) (a b : Int32) : F_X0_joined c (Int32.toInt64 a) (Int32.toInt64 b) = some (opv c a b) := by
  have e0 : (0 : Int64).toInt = 0 := rfl
  have ea : (Int32.toInt64 a).toInt = a.toInt := Int32.toInt_toInt64 a
  have eb : (Int32.toInt64 b).toInt = b.toInt := Int32.toInt_toInt64 b
  have ha0 : lg_cmp (Int32.toInt64 a) 0 = 0 ↔ a = 0 := by rw [lgc_eq, ea, e0, i32_eq]; rfl
  have hb0 : lg_cmp (Int32.toInt64 b) 0 = 0 ↔ b = 0 := by rw [lgc_eq, eb, e0, i32_eq]; rfl
  have hab : lg_cmp (Int32.toInt64 a) (Int32.toInt64 b) = 0 ↔ a = b := by rw [lgc_eq, ea, eb, i32_eq]
  have hge : 0 ≤ lg_cmp (Int32.toInt64 a) (Int32.toInt64 b) ↔ b ≤ a := by rw [lgc_ge, ea, eb, i32_le]
  have hle : lg_cmp (Int32.toInt64 a) (Int32.toInt64 b) ≤ 0 ↔ a ≤ b := by rw [lgc_le, ea, eb, i32_le]
  rw [← both_opv]
  rcases hc with rfl | rfl | rfl | rfl | rfl | rfl | rfl | rfl | rfl
  · simp only [F_X0_joined, F_X12_both, if_true, ha0, hb0]
  · have n1 : ¬ (42 : Int32) = 38 := by decide
    have n2 : ¬ (42 : Int32) = 60 := by decide
    have n3 : ¬ (42 : Int32) = 61 := by decide
    have n4 : ¬ (42 : Int32) = 62 := by decide
    have n5 : ¬ (42 : Int32) = 124 := by decide
    have n6 : ¬ (42 : Int32) = 43 := by decide
    have n7 : ¬ (42 : Int32) = 45 := by decide
    simp only [F_X0_joined, F_X12_both, n1, n2, n3, n4, n5, n6, n7, if_true, if_false, bnd_eq, F_X12_bounded, bind_some]
  · have n1 : ¬ (43 : Int32) = 38 := by decide
    have n2 : ¬ (43 : Int32) = 60 := by decide
    have n3 : ¬ (43 : Int32) = 61 := by decide
    have n4 : ¬ (43 : Int32) = 62 := by decide
    have n5 : ¬ (43 : Int32) = 124 := by decide
    have n6 : ¬ (43 : Int32) = 42 := by decide
    simp only [F_X0_joined, F_X12_both, n1, n2, n3, n4, n5, n6, if_true, if_false, bnd_eq, F_X12_bounded, bind_some]
  · have n1 : ¬ (45 : Int32) = 38 := by decide
    have n2 : ¬ (45 : Int32) = 60 := by decide
    have n3 : ¬ (45 : Int32) = 61 := by decide
    have n4 : ¬ (45 : Int32) = 62 := by decide
    have n5 : ¬ (45 : Int32) = 124 := by decide
    have n6 : ¬ (45 : Int32) = 42 := by decide
    have n7 : ¬ (45 : Int32) = 43 := by decide
    simp only [F_X0_joined, F_X12_both, n1, n2, n3, n4, n5, n6, n7, if_true, if_false, bnd_eq, F_X12_bounded, bind_some]
  · have n1 : ¬ (47 : Int32) = 38 := by decide
    have n2 : ¬ (47 : Int32) = 60 := by decide
    have n3 : ¬ (47 : Int32) = 61 := by decide
    have n4 : ¬ (47 : Int32) = 62 := by decide
    have n5 : ¬ (47 : Int32) = 124 := by decide
    have n6 : ¬ (47 : Int32) = 42 := by decide
    have n7 : ¬ (47 : Int32) = 43 := by decide
    have n8 : ¬ (47 : Int32) = 45 := by decide
    simp only [F_X0_joined, F_X12_both, n1, n2, n3, n4, n5, n6, n7, n8, if_true, if_false, bnd_eq, F_X12_bounded, bind_some, hb0]
    by_cases h : b = 0
    · simp only [h, if_true]; rfl
    · simp only [h, if_false]
  · have n1 : ¬ (60 : Int32) = 38 := by decide
    have n2 : ¬ (60 : Int32) = 42 := by decide
    have n3 : ¬ (60 : Int32) = 43 := by decide
    have n4 : ¬ (60 : Int32) = 45 := by decide
    have n5 : ¬ (60 : Int32) = 47 := by decide
    simp only [F_X0_joined, F_X12_both, n1, n2, n3, n4, n5, if_true, if_false, hge]
  · have n1 : ¬ (61 : Int32) = 38 := by decide
    have n2 : ¬ (61 : Int32) = 42 := by decide
    have n3 : ¬ (61 : Int32) = 43 := by decide
    have n4 : ¬ (61 : Int32) = 45 := by decide
    have n5 : ¬ (61 : Int32) = 47 := by decide
    have n6 : ¬ (61 : Int32) = 60 := by decide
    simp only [F_X0_joined, F_X12_both, n1, n2, n3, n4, n5, n6, if_true, if_false, hab]
  · have n1 : ¬ (62 : Int32) = 38 := by decide
    have n2 : ¬ (62 : Int32) = 42 := by decide
    have n3 : ¬ (62 : Int32) = 43 := by decide
    have n4 : ¬ (62 : Int32) = 45 := by decide
    have n5 : ¬ (62 : Int32) = 47 := by decide
    have n6 : ¬ (62 : Int32) = 60 := by decide
    have n7 : ¬ (62 : Int32) = 61 := by decide
    simp only [F_X0_joined, F_X12_both, n1, n2, n3, n4, n5, n6, n7, if_true, if_false, hle]
  · have n1 : ¬ (124 : Int32) = 38 := by decide
    have n2 : ¬ (124 : Int32) = 42 := by decide
    have n3 : ¬ (124 : Int32) = 43 := by decide
    have n4 : ¬ (124 : Int32) = 45 := by decide
    have n5 : ¬ (124 : Int32) = 47 := by decide
    have n6 : ¬ (124 : Int32) = 60 := by decide
    have n7 : ¬ (124 : Int32) = 61 := by decide
    have n8 : ¬ (124 : Int32) = 62 := by decide
    simp only [F_X0_joined, F_X12_both, n1, n2, n3, n4, n5, n6, n7, n8, if_true, if_false, ha0, hb0]
/-- a program over an array as a stack (L: the letters) -/
def evS (L : Nat → Int32) : List Int32 → (Nat → Int32) → Nat → (Nat → Int32) × Nat
  | [], f, h => (f, h)
  | k :: l, f, h => if k.toInt ≤ 9999 then evS L l (upd f h k) (h + 1) else if k.toInt ≤ 10005 then evS L l (upd f h (L (k.toInt - 10000).toNat)) (h + 1) else if k = 20033 then evS L l (upd f (h - 1) (if f (h - 1) = 0 then 1 else 0)) h else evS L l (upd f (h - 2) (opv (k - 20000) (f (h - 2)) (f (h - 1)))) (h - 1)
theorem evS_agree {L L2 : Nat → Int32} (hL : ∀ i, i < 6 → L i = L2 i) : ∀ {l : List Int32} {f g : Nat → Int32} {h h2 : Nat}, tkH l h = some h2 → (∀ i, i < h → f i = g i) → (evS L l f h).2 = h2 ∧ (evS L2 l g h).2 = h2 ∧ ∀ i, i < h2 → (evS L l f h).1 i = (evS L2 l g h).1 i
  | [], f, g, h, h2, ht, hf => by
    simp only [tkH, Option.some.injEq] at ht
    subst ht
    exact ⟨rfl, rfl, hf⟩
  | k :: l, f, g, h, h2, ht, hf => by
    unfold tkH at ht
    unfold evS
    split at ht
    · next hk =>
      split at ht
      · next h64 =>
        by_cases c1 : k.toInt ≤ 9999
        · rw [if_pos c1, if_pos c1]
          exact evS_agree hL ht (fun i hi => by unfold upd; split; rfl; exact hf i (by omega))
        · have c2 : k.toInt ≤ 10005 := by omega
          rw [if_neg c1, if_neg c1, if_pos c2, if_pos c2]
          exact evS_agree hL ht (fun i hi => by unfold upd; split; exact hL _ (by omega); exact hf i (by omega))
      · cases ht
    · next hk =>
      split at ht
      · next hk2 =>
        split at ht
        · next h0 =>
          have e : k.toInt = 20033 := by rw [hk2]; rfl
          simp only [if_neg (show ¬ k.toInt ≤ 9999 by omega), if_neg (show ¬ k.toInt ≤ 10005 by omega), if_pos hk2]
          refine evS_agree hL ht (fun i hi => ?_)
          unfold upd
          rw [hf (h - 1) (by omega), hf i hi]
        · cases ht
      · next hk2 =>
        split at ht
        · next hk3 =>
          split at ht
          · next h1 =>
            have e : 20000 ≤ k.toInt := by rcases hk3 with z | z | z | z | z | z | z | z | z <;> rw [z] <;> decide
            simp only [if_neg (show ¬ k.toInt ≤ 9999 by omega), if_neg (show ¬ k.toInt ≤ 10005 by omega), if_neg hk2]
            refine evS_agree hL ht (fun i hi => ?_)
            unfold upd
            rw [hf (h - 1) (by omega), hf (h - 2) (by omega), hf i (by omega)]
          · cases ht
        · cases ht
