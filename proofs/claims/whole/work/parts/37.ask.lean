/-! asking the law: scratch on both sides -/
def ML (t : St) (l g : Nat → Int32) (p v : Int32) : St := (upd (upd t.1 1243 p) 1244 v, va_up (va_up t.2.1 1241 l) 1242 g, t.2.2)
theorem CL_self (s : St) : CL s (s.2.1 7) (s.2.1 8) (s.1 9) = s := by
  unfold CL
  have h1 : upd s.1 9 (s.1 9) = s.1 := by
    funext j; unfold upd; split
    · next e => rw [e]
    · rfl
  have h2 : va_up (va_up s.2.1 7 (s.2.1 7)) 8 (s.2.1 8) = s.2.1 := by
    funext j; unfold va_up; split
    · next e => rw [e]
    · split
      · next e => rw [e]
      · rfl
  rw [h1, h2]
theorem ML_self (t : St) : ML t (t.2.1 1241) (t.2.1 1242) (t.1 1243) (t.1 1244) = t := by
  have h := MS_self t
  unfold MS at h
  unfold ML
  have h2 : va_up t.2.1 1241 (t.2.1 1241) = t.2.1 := by
    funext j; unfold va_up; split
    · next e => rw [e]
    · rfl
  rw [h2]
  exact h
theorem CL_CL (s : St) (l l2 f f2 : Nat → Int32) (x x2 : Int32) : CL (CL s l f x) l2 f2 x2 = CL s l2 f2 x2 := by
  unfold CL
  have h1 : upd (upd s.1 9 x) 9 x2 = upd s.1 9 x2 := by funext j; unfold upd; split <;> rfl
  have h2 : va_up (va_up (va_up (va_up s.2.1 7 l) 8 f) 7 l2) 8 f2 = va_up (va_up s.2.1 7 l2) 8 f2 := by
    funext j; unfold va_up
    by_cases e : j = 8
    · simp [e]
    · by_cases e2 : j = 7
      · simp [e2]
      · simp [e, e2]
  simp only [h1, h2]
theorem ML_ML (t : St) (l l2 g g2 : Nat → Int32) (p p2 v v2 : Int32) : ML (ML t l g p v) l2 g2 p2 v2 = ML t l2 g2 p2 v2 := by
  unfold ML
  have h1 : upd (upd (upd (upd t.1 1243 p) 1244 v) 1243 p2) 1244 v2 = upd (upd t.1 1243 p2) 1244 v2 := by
    funext j; unfold upd
    by_cases e : j = 1244
    · simp [e]
    · by_cases e2 : j = 1243
      · simp [e2]
      · simp [e, e2]
  have h2 : va_up (va_up (va_up (va_up t.2.1 1241 l) 1242 g) 1241 l2) 1242 g2 = va_up (va_up t.2.1 1241 l2) 1242 g2 := by
    funext j; unfold va_up
    by_cases e : j = 1242
    · simp [e]
    · by_cases e2 : j = 1241
      · simp [e2]
      · simp [e, e2]
  simp only [h1, h2]
/-- the relation doesn't see the scratch -/
theorem RX.scr {N : Int} {s t : St} (h : RX N s t) (l f : Nat → Int32) (x : Int32) (l2 g : Nat → Int32) (p v : Int32) : RX N (CL s l f x) (ML t l2 g p v) := ⟨h.now, h.folk, h.cnt, h.rec, h.trt, h.sch, h.blt, h.shut, h.tape, h.yard, h.prom, h.given, h.staff, h.roof, h.site, h.purse, h.land, h.law, h.ref, h.row⟩
theorem labelOf_lp (c : Int32) : ∀ (m j : Nat), j + m = 7 → (∀ i, i < j → ¬ stA 0 i = c) → ∀ F, m < F → (∃ k, k < 7 ∧ stA 0 k = c ∧ lp (B_X0_labelOf_2 c) F (nI j) = some (.inr (nI k))) ∨ ((∀ i, i < 7 → ¬ stA 0 i = c) ∧ lp (B_X0_labelOf_2 c) F (nI j) = some (.inl ()))
  | 0, j, e, h, F, hF => by
    obtain ⟨F, rfl⟩ : ∃ F', F = F' + 1 := ⟨F - 1, by omega⟩
    have : j = 7 := by omega
    subst this
    refine Or.inr ⟨h, lp_r ?_⟩
    unfold B_X0_labelOf_2
    exact if_pos (by decide)
  | m + 1, j, e, h, F, hF => by
    obtain ⟨F, rfl⟩ : ∃ F', F = F' + 1 := ⟨F - 1, by omega⟩
    have h7 : ¬ (7 : Int32) ≤ nI j := by
      rw [i32_le, nI_toInt (by omega)]
      have e7 : (7 : Int32).toInt = 7 := rfl
      omega
    by_cases q : stA 0 j = c
    · refine Or.inl ⟨j, by omega, q, lp_r ?_⟩
      unfold B_X0_labelOf_2
      rw [if_neg h7, rs_nI (by omega) (by omega), bind_some, if_pos q]
    · have hB : B_X0_labelOf_2 c (nI j) = some (.inl (nI (j + 1))) := by
        unfold B_X0_labelOf_2
        rw [if_neg h7, rs_nI (by omega) (by omega), bind_some, if_neg q]
        exact congrArg (fun z => some (Sum.inl z)) (nI_add j 1)
      rw [lp_l hB]
      refine labelOf_lp c m (j + 1) (by omega) (fun i hi => ?_) F (by omega)
      by_cases e2 : i = j
      · rw [e2]; exact q
      · exact h i (by omega)
theorem labelOf_ok (c : Int32) : (∃ k, k < 7 ∧ c = stA 0 k ∧ F_X0_labelOf c = some (nI k) ∧ F_X12_isLabel c = some 1) ∨ (F_X0_labelOf c = some (-1) ∧ F_X12_isLabel c = some 0) := by
  unfold F_X0_labelOf F_X0_labelOf_2
  rcases labelOf_lp c 7 0 rfl (fun i hi => absurd hi (by omega)) FU (FU_lt (by omega)) with ⟨k, hk, e, h1⟩ | ⟨h0, h1⟩
  · refine Or.inl ⟨k, hk, e.symm, ?_, ?_⟩
    · rw [show (0 : Int32) = nI 0 from rfl, h1]
      rfl
    · have : k = 0 ∨ k = 1 ∨ k = 2 ∨ k = 3 ∨ k = 4 ∨ k = 5 ∨ k = 6 := by omega
      rcases this with r | r | r | r | r | r | r <;> subst r <;> subst e <;> rfl
  · refine Or.inr ⟨?_, ?_⟩
    · rw [show (0 : Int32) = nI 0 from rfl, h1]
      rfl
    · have n0 : ¬ c = 119 := fun e => h0 0 (by omega) e.symm
      have n1 : ¬ c = 104 := fun e => h0 1 (by omega) e.symm
      have n2 : ¬ c = 115 := fun e => h0 2 (by omega) e.symm
      have n3 : ¬ c = 116 := fun e => h0 3 (by omega) e.symm
      have n4 : ¬ c = 118 := fun e => h0 4 (by omega) e.symm
      have n5 : ¬ c = 99 := fun e => h0 5 (by omega) e.symm
      have n6 : ¬ c = 102 := fun e => h0 6 (by omega) e.symm
      unfold F_X12_isLabel
      rw [if_neg n5, if_neg n6, if_neg n1, if_neg n2, if_neg n3, if_neg n4, if_neg n0]
theorem plain_ok {k : Nat} (hk : k < 7) : F_X12_plain (stA 0 k) = some (stA 1 k) := by
  have : k = 0 ∨ k = 1 ∨ k = 2 ∨ k = 3 ∨ k = 4 ∨ k = 5 ∨ k = 6 := by omega
  rcases this with r | r | r | r | r | r | r <;> subst r <;> rfl
theorem spell_ok (s : St) (a b c d : Int32) : F_X0_spell a b c d s = some (CL s (upd (upd (upd (upd (s.2.1 7) 2 a) 3 b) 4 c) 5 d) (s.2.1 8) (s.1 9)) := by
  have e0 := setA_self s 7
  have e : F_X0_spell a b c d s = some (setA s 7 (upd (upd (upd (upd (s.2.1 7) 2 a) 3 b) 4 c) 5 d)) := by
    unfold F_X0_spell
    rw [show wr s 7 6 2 a = some (sA s 7 2 a) from wr_nI (s := s) (k := 7) (n := 6) (j := 2) (v := a) (by omega) (by omega), bind_some,
      show wr (sA s 7 2 a) 7 6 3 b = some (sA (sA s 7 2 a) 7 3 b) from wr_nI (s := sA s 7 2 a) (k := 7) (n := 6) (j := 3) (v := b) (by omega) (by omega), bind_some,
      show wr (sA (sA s 7 2 a) 7 3 b) 7 6 4 c = some (sA (sA (sA s 7 2 a) 7 3 b) 7 4 c) from wr_nI (s := sA (sA s 7 2 a) 7 3 b) (k := 7) (n := 6) (j := 4) (v := c) (by omega) (by omega), bind_some,
      show wr (sA (sA (sA s 7 2 a) 7 3 b) 7 4 c) 7 6 5 d = some (sA (sA (sA (sA s 7 2 a) 7 3 b) 7 4 c) 7 5 d) from wr_nI (s := sA (sA (sA s 7 2 a) 7 3 b) 7 4 c) (k := 7) (n := 6) (j := 5) (v := d) (by omega) (by omega), bind_some]
    show some (sA (sA (sA (setA s 7 (upd (s.2.1 7) 2 a)) 7 3 b) 7 4 c) 7 5 d) = _
    rw [sA_set, sA_set, sA_set]
  rw [e]
  refine congrArg some ?_
  have := CL_self (setA s 7 (upd (upd (upd (upd (s.2.1 7) 2 a) 3 b) 4 c) 5 d))
  rw [← this]
  unfold CL setA
  simp only [va_upup]
  rfl
theorem tell_ok (t : St) (y i a b c d : Int32) : F_X12_tell y i a b c d t = some (setA t 1241 (upd (upd (upd (upd (upd (upd (t.2.1 1241) 121 y) 105 i) 110 a) 108 b) 120 c) 114 d)) := by
  unfold F_X12_tell
  rw [show wr t 1241 128 121 y = some (sA t 1241 121 y) from wr_nI (s := t) (k := 1241) (n := 128) (j := 121) (v := y) (by omega) (by omega), bind_some]
  have w : ∀ (f : Nat → Int32) (j : Nat) (v : Int32), j < 128 → wr (setA t 1241 f) 1241 128 (nI j) v = some (setA t 1241 (upd f j v)) := fun f j v hj => by
    rw [wr_nI hj (by omega), sA_set]
  show (wr (setA t 1241 (upd (t.2.1 1241) 121 y)) 1241 128 (nI 105) i).bind _ = _
  rw [w _ _ _ (by omega), bind_some]
  show (wr _ 1241 128 (nI 110) a).bind _ = _
  rw [w _ _ _ (by omega), bind_some]
  show (wr _ 1241 128 (nI 108) b).bind _ = _
  rw [w _ _ _ (by omega), bind_some]
  show (wr _ 1241 128 (nI 120) c).bind _ = _
  rw [w _ _ _ (by omega), bind_some]
  show (wr _ 1241 128 (nI 114) d).bind _ = _
  rw [w _ _ _ (by omega), bind_some]
/-- what is spelled, what is told -/
def sp (l : Nat → Int32) (a b c d : Int32) : Prop := l 2 = a ∧ l 3 = b ∧ l 4 = c ∧ l 5 = d
def tl (l : Nat → Int32) (y i a b c d : Int32) : Prop := l 121 = y ∧ l 105 = i ∧ l 110 = a ∧ l 108 = b ∧ l 120 = c ∧ l 114 = d
theorem upd_eq {f : Nat → Int32} {k : Nat} {v : Int32} (h : f k = v) : upd f k v = f := by
  funext j; unfold upd; split
  · next e => rw [e, h]
  · rfl
theorem tell_same {t : St} {y i a b c d : Int32} (h : tl (t.2.1 1241) y i a b c d) : F_X12_tell y i a b c d t = some t := by
  obtain ⟨h1, h2, h3, h4, h5, h6⟩ := h
  rw [tell_ok, upd_eq h1, upd_eq h2, upd_eq h3, upd_eq h4, upd_eq h5, upd_eq h6, setA_self]
theorem setA_ML (t : St) (l : Nat → Int32) : setA t 1241 l = ML t l (t.2.1 1242) (t.1 1243) (t.1 1244) := by
  have h := ML_self (setA t 1241 l)
  rw [← h]
  unfold ML setA
  simp only [va_upup]
  rfl
/-- both sides ask their law: one answer, and only the scratch is touched -/
theorem ask_two {N : Int} {s t : St} (h : RX N s t) {k : Nat} (hk : k < 7) {shire year q whose a b c d : Int32} (hsh : 0 ≤ shire.toInt) : ∃ (s3 t3 : St) (o : Option (Nat × Int32)) (l f l2 g : Nat → Int32) (p w : Int32), F_X0_spell a b c d s = some s3 ∧ F_X12_tell year shire a b c d t = some t3 ∧ F_X0_worthOf (nI k) shire year q whose s3 = some (wv k o, CL s l f (lawI o)) ∧ F_X12_lawFor shire year q (stA 0 k) whose t3 = some (lawI o, ML t l2 g p w) ∧ w = lawV o ∧ (∀ b v, o = some (b, v) → b < 2 ^ 31) ∧ (∃ l0 f0 x0, s3 = CL s l0 f0 x0) ∧ (∃ l0 g0 p0 w0, t3 = ML t l0 g0 p0 w0) ∧ sp l a b c d ∧ tl l2 year shire a b c d := by
  have hlaw : RLaw (CL s (upd (upd (upd (upd (s.2.1 7) 2 a) 3 b) 4 c) 5 d) (s.2.1 8) (s.1 9)) (setA t 1241 (upd (upd (upd (upd (upd (upd (t.2.1 1241) 121 year) 105 shire) 110 a) 108 b) 120 c) 114 d)) := h.law
  have href : RRef (CL s (upd (upd (upd (upd (s.2.1 7) 2 a) 3 b) 4 c) 5 d) (s.2.1 8) (s.1 9)) (CL s (upd (upd (upd (upd (s.2.1 7) 2 a) 3 b) 4 c) 5 d) (s.2.1 8) (s.1 9)) := h.ref
  obtain ⟨f, g, p, v, h1, h2, h3⟩ := worth_two hlaw href hk (shire := shire) (year := year) (q := q) (whose := whose) hsh (l := upd (upd (upd (upd (upd (upd (s.2.1 7) 2 a) 3 b) 4 c) 5 d) 0 year) 1 shire) rfl (by
    intro i hi
    have : i = 0 ∨ i = 1 ∨ i = 2 ∨ i = 3 ∨ i = 4 ∨ i = 5 := by omega
    rcases this with r | r | r | r | r | r <;> subst r <;> rfl)
  rw [CL_CL] at h1
  exact ⟨_, _, _, _, f, _, g, p, v, spell_ok s a b c d, tell_ok t year shire a b c d, h1, h2, h3, fun b' v e => by
    have q1 := lawB_lt e
    have q2 := h.law.2.1.2
    have q3 : (setA t 1241 (upd (upd (upd (upd (upd (upd (t.2.1 1241) 121 year) 105 shire) 110 a) 108 b) 120 c) 114 d)).1 1240 = t.1 1240 := rfl
    rw [q3] at q1
    omega, ⟨_, _, _, rfl⟩, ⟨_, _, _, _, setA_ML t _⟩, ⟨rfl, rfl, rfl, rfl⟩, ⟨rfl, rfl, rfl, rfl, rfl, rfl⟩⟩
theorem lawI_none {o : Option (Nat × Int32)} (h : ∀ b v, o = some (b, v) → b < 2 ^ 31) : lawI o = -1 ↔ o = none := by
  cases o with
  | none => exact ⟨fun _ => rfl, fun _ => rfl⟩
  | some bv => exact ⟨fun e => absurd e (nI_neg1 (h bv.1 bv.2 rfl)), fun e => by cases e⟩
theorem ask {N : Int} {s t : St} (h : RX N s t) {k : Nat} (hk : k < 7) {shire year q a b c d : Int32} (hsh : 0 ≤ shire.toInt) : ∃ (s3 t3 : St) (r : Int32) (l f l2 g : Nat → Int32) (x p w : Int32), F_X0_spell a b c d s = some s3 ∧ F_X12_tell year shire a b c d t = some t3 ∧ F_X0_worthOf (nI k) shire year q 0 s3 = some (r, CL s l f x) ∧ F_X12_worthOf shire year q (stA 0 k) t3 = some (r, ML t l2 g p w) ∧ (∃ l0 f0 x0, s3 = CL s l0 f0 x0) ∧ (∃ l0 g0 p0 w0, t3 = ML t l0 g0 p0 w0) ∧ sp l a b c d ∧ tl l2 year shire a b c d := by
  obtain ⟨s3, t3, o, l, f, l2, g, p, w, h1, h2, h3, h4, h5, h6, h7⟩ := ask_two h hk (shire := shire) (year := year) (q := q) (whose := 0) (a := a) (b := b) (c := c) (d := d) hsh
  refine ⟨s3, t3, wv k o, l, f, l2, g, lawI o, p, w, h1, h2, h3, ?_, h7⟩
  unfold F_X12_worthOf
  rw [h4, bind_some]
  cases o with
  | none =>
    rw [if_pos (show lawI none = -1 from rfl), plain_ok hk]
    rfl
  | some bv =>
    rw [if_neg (show ¬ lawI (some bv) = -1 from nI_neg1 (h6 bv.1 bv.2 rfl))]
    show some ((upd (upd t.1 1243 p) 1244 w) 1244, _) = _
    rw [h5]
    rfl
theorem asked_no {v1 v2 v3 : Int32} {t : St} (h : inb v1 0 3 = false ∨ inb v2 0 11 = false ∨ inb v3 0 (t.1 1200) = false) : F_X12_isAsked v1 v2 v3 t = some 0 := by
  unfold F_X12_isAsked F_X12_isKnowing
  by_cases c1 : inb v1 0 3 = false
  · rw [if_pos c1]
  · rw [if_neg c1]
    by_cases c2 : inb v2 0 11 = false
    · rw [if_pos c2]
    · rw [if_neg c2, bind_some, if_pos]
      rw [bI_eq0]
      rcases h with h | h | h
      · exact absurd h c1
      · exact absurd h c2
      · exact h
theorem asked_yes {v1 v2 v3 : Int32} {t : St} (c1 : ¬ inb v1 0 3 = false) (c2 : ¬ inb v2 0 11 = false) (c3 : ¬ inb v3 0 (t.1 1200) = false) : F_X12_isAsked v1 v2 v3 t = some 1 := by
  unfold F_X12_isAsked F_X12_isKnowing
  rw [if_neg c1, if_neg c2, bind_some, if_neg]
  rw [bI_eq0]
  exact c3
theorem labelOf_some (c : Int32) : ∃ r, F_X0_labelOf c = some r := by
  rcases labelOf_ok c with ⟨k, _, _, h1, _⟩ | ⟨h1, _⟩ <;> exact ⟨_, h1⟩
/-- which questions of a law are in order -/
theorem asked {v1 v2 v3 v4 : Int32} {s t : St} (h : RNow s t) : (F_X12_isAsked v1 v2 v3 t = some 0 ∧ ∃ r, F_X0_labelOf v4 = some r ∧ (inb v1 0 3 = false ∨ ¬ inb v1 0 3 = false ∧ (inb v2 0 11 = false ∨ ¬ inb v2 0 11 = false ∧ F_X11_isPast v3 s = some 0))) ∨ (F_X12_isAsked v1 v2 v3 t = some 1 ∧ ¬ inb v1 0 3 = false ∧ ¬ inb v2 0 11 = false ∧ F_X11_isPast v3 s = some 1) := by
  obtain ⟨r, hr⟩ := labelOf_some v4
  unfold F_X11_isPast
  rw [h.1]
  by_cases c1 : inb v1 0 3 = false
  · exact Or.inl ⟨asked_no (Or.inl c1), r, hr, Or.inl c1⟩
  · by_cases c2 : inb v2 0 11 = false
    · exact Or.inl ⟨asked_no (Or.inr (Or.inl c2)), r, hr, Or.inr ⟨c1, Or.inl c2⟩⟩
    · by_cases c3 : inb v3 0 (t.1 1200) = false
      · exact Or.inl ⟨asked_no (Or.inr (Or.inr c3)), r, hr, Or.inr ⟨c1, Or.inr ⟨c2, by rw [c3]; rfl⟩⟩⟩
      · refine Or.inr ⟨asked_yes c1 c2 c3, c1, c2, ?_⟩
        rw [Bool.not_eq_false] at c3
        rw [c3]
        rfl
theorem P_worth {N : Int} {s t : St} (h : RX N s t) (v1 v2 v3 v4 v5 v6 v7 v8 : Int32) : Two (RX (N + 1)) (F_X11_worth v1 v2 v3 v4 v5 v6 v7 v8 s) (F_X12_worth v1 v2 v3 v4 v5 v6 v7 v8 t) := by
  unfold F_X11_worth F_X12_worth
  rcases asked (v1 := v1) (v2 := v2) (v3 := v3) (v4 := v4) h.now with ⟨h1, r, hr, c1 | ⟨c1, c2 | ⟨c2, c3⟩⟩⟩ | ⟨h1, c1, c2, c3⟩
  · rw [h1, hr, bind_some, bind_some, if_pos c1, if_pos rfl]
    exact Two_ret _ h.up
  · rw [h1, hr, bind_some, bind_some, if_neg c1, if_pos c2, if_pos rfl]
    exact Two_ret _ h.up
  · rw [h1, hr, c3, bind_some, bind_some, if_neg c1, if_neg c2, bind_some, if_pos rfl, if_pos rfl]
    exact Two_ret _ h.up
  · rw [h1, c3, bind_some, if_neg (show ¬ (1 : Int32) = 0 by decide)]
    rcases labelOf_ok v4 with ⟨k, hk, e, g1, g2⟩ | ⟨g1, g2⟩
    · obtain ⟨s3, t3, r, l, f, l2, g, x, p, w, a1, a2, a3, a4, _⟩ := ask h hk (shire := v1) (year := v2) (q := v3) (a := v5) (b := v6) (c := v7) (d := v8) (inb_R c1).1
      rw [g1, g2, bind_some, bind_some, if_neg c1, if_neg c2, bind_some, if_neg (show ¬ (1 : Int32) = 0 by decide), if_neg (show ¬ (1 : Int32) = 0 by decide), if_neg (nI_neg1 (by omega)), a1, a2, bind_some, bind_some, a3, e, a4, bind_some, bind_some]
      exact Two_ret _ (h.scr l f x l2 g p w).up
    · rw [g1, g2, bind_some, bind_some, if_neg c1, if_neg c2, bind_some, if_neg (show ¬ (1 : Int32) = 0 by decide), if_pos rfl, if_pos rfl]
      exact Two_ret _ h.up
theorem P_why {N : Int} {s t : St} (h : RX N s t) (v1 v2 v3 v4 v5 v6 v7 v8 : Int32) : Two (RX (N + 1)) (F_X11_why v1 v2 v3 v4 v5 v6 v7 v8 s) (F_X12_why v1 v2 v3 v4 v5 v6 v7 v8 t) := by
  unfold F_X11_why F_X12_why
  rcases asked (v1 := v1) (v2 := v2) (v3 := v3) (v4 := v4) h.now with ⟨h1, r, hr, c1 | ⟨c1, c2 | ⟨c2, c3⟩⟩⟩ | ⟨h1, c1, c2, c3⟩
  · rw [h1, hr, bind_some, bind_some, if_pos c1, if_pos rfl]
    exact Two_ret _ h.up
  · rw [h1, hr, bind_some, bind_some, if_neg c1, if_pos c2, if_pos rfl]
    exact Two_ret _ h.up
  · rw [h1, hr, c3, bind_some, bind_some, if_neg c1, if_neg c2, bind_some, if_pos rfl, if_pos rfl]
    exact Two_ret _ h.up
  · rw [h1, c3, bind_some, if_neg (show ¬ (1 : Int32) = 0 by decide)]
    rcases labelOf_ok v4 with ⟨k, hk, e, g1, g2⟩ | ⟨g1, g2⟩
    · obtain ⟨s3, t3, o, l, f, l2, g, p, w, a1, a2, a3, a4, a5, a6, _⟩ := ask_two h hk (shire := v1) (year := v2) (q := v3) (whose := 0) (a := v5) (b := v6) (c := v7) (d := v8) (inb_R c1).1
      rw [g1, g2, bind_some, bind_some, if_neg c1, if_neg c2, bind_some, if_neg (show ¬ (1 : Int32) = 0 by decide), if_neg (show ¬ (1 : Int32) = 0 by decide), if_neg (nI_neg1 (by omega)), a1, a2, bind_some, bind_some, a3, e, a4, bind_some, bind_some]
      exact Two_ret _ (h.scr l f (lawI o) l2 g p w).up
    · rw [g1, g2, bind_some, bind_some, if_neg c1, if_neg c2, bind_some, if_neg (show ¬ (1 : Int32) = 0 by decide), if_pos rfl, if_pos rfl]
      exact Two_ret _ h.up
