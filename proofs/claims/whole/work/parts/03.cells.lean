/-! THE SMALL MACHINE: a heap is a list of cells, a cell's name is its place; a method is walked over it (mj_I: one instruction), and what it says holds of the machine (mj_body) -/
abbrev mj_C : Type := (FieldType × vp_A) ⊕ (Nat × List Value)
abbrev mj_H : Type := List mj_C
def mj_tv (ad sd : Nat → Nat) : Value → Value
  | .ref n => .ref (ad n)
  | .float b => .ref (sd b.toNat)
  | v => v
def mj_ta (ad : Nat → Nat) : vp_A → vp_A
  | (n, .inr (.inr (.inr (.inr f)))) => (n, .inr (.inr (.inr (.inr (fun j => (f j).map ad)))))
  | a => a
def mj_tc (cA : FieldType → ClassId) (ad sd : Nat → Nat) : mj_C → va_E
  | .inl (ty, a) => .inl (cA ty, mj_ta ad a)
  | .inr (ci, fs) => .inr (ci, fs.map (mj_tv ad sd))
def mj_ws (cA : FieldType → ClassId) (ad sd : Nat → Nat) (h : mj_H) : va_W := h.mapIdx fun i c => (ad i, mj_tc cA ad sd c)
theorem mj_ws_at {cA : FieldType → ClassId} {ad sd : Nat → Nat} {h : mj_H} {i : Nat} {c : mj_C} (hc : h[i]? = some c) : (mj_ws cA ad sd h)[i]? = some (ad i, mj_tc cA ad sd c) := by
  simp [mj_ws, List.getElem?_mapIdx, hc]
theorem mj_ws_set {cA : FieldType → ClassId} {ad sd : Nat → Nat} {h : mj_H} (i : Nat) (c : mj_C) : (mj_ws cA ad sd h).set i (ad i, mj_tc cA ad sd c) = mj_ws cA ad sd (h.set i c) := by
  apply List.ext_getElem?
  intro j
  simp only [mj_ws, List.getElem?_set, List.getElem?_mapIdx, List.length_mapIdx]
  by_cases hj : i = j
  · subst hj
    by_cases hl : i < h.length <;> simp [hl]
  · simp [hj]
def mj_sv (n : Nat) : Value → Prop
  | .ref k => k < n
  | _ => True
def mj_sc (n : Nat) : mj_C → Prop
  | .inl (_, _, .inr (.inr (.inr (.inr f)))) => ∀ j k, f j = some k → k < n
  | .inl _ => True
  | .inr (_, fs) => ∀ v ∈ fs, mj_sv n v
theorem mj_sv.mono {n n' : Nat} {v : Value} (h : mj_sv n v) (hn : n ≤ n') : mj_sv n' v := by
  cases v <;> first | exact trivial | exact Nat.lt_of_lt_of_le h hn
theorem mj_sc.mono {n n' : Nat} {c : mj_C} (h : mj_sc n c) (hn : n ≤ n') : mj_sc n' c := by
  rcases c with ⟨ty, k, f | f | f | f | f⟩ | ⟨ci, fs⟩
  · exact trivial
  · exact trivial
  · exact trivial
  · exact trivial
  · exact fun j k hk => Nat.lt_of_lt_of_le (h j k hk) hn
  · exact fun v hv => (h v hv).mono hn
theorem mj_tv_cong {n : Nat} {ad ad' sd : Nat → Nat} {v : Value} (h : mj_sv n v) (e : ∀ k, k < n → ad' k = ad k) : mj_tv ad' sd v = mj_tv ad sd v := by
  cases v <;> first | rfl | exact congrArg Value.ref (e _ h)
theorem mj_tvs_cong {n : Nat} {ad ad' sd : Nat → Nat} {l : List Value} (h : ∀ v ∈ l, mj_sv n v) (e : ∀ k, k < n → ad' k = ad k) : l.map (mj_tv ad' sd) = l.map (mj_tv ad sd) :=
  List.map_congr_left fun v hv => mj_tv_cong (h v hv) e
theorem mj_tc_cong {n : Nat} {cA : FieldType → ClassId} {ad ad' sd : Nat → Nat} {c : mj_C} (h : mj_sc n c) (e : ∀ k, k < n → ad' k = ad k) : mj_tc cA ad' sd c = mj_tc cA ad sd c := by
  rcases c with ⟨ty, k, f | f | f | f | f⟩ | ⟨ci, fs⟩
  · rfl
  · rfl
  · rfl
  · rfl
  · have hh : (fun j => (f j).map ad') = fun j => (f j).map ad := by
      funext j
      cases hf : f j with
      | none => rfl
      | some k => simp only [Option.map_some]; exact congrArg some (e k (h j k hf))
    simp only [mj_tc, mj_ta, hh]
  · simp only [mj_tc]
    rw [mj_tvs_cong h e]
theorem mj_tv_cat (ad sd : Nat → Nat) (v : Value) : (mj_tv ad sd v).category = v.category := by
  cases v <;> rfl
theorem mj_ws_push {cA : FieldType → ClassId} {ad sd : Nat → Nat} {h : mj_H} (hs : ∀ c ∈ h, mj_sc h.length c) (q : Nat) (c : mj_C) : mj_ws cA (fun k => if k = h.length then q else ad k) sd (h ++ [c]) = mj_ws cA ad sd h ++ [(q, mj_tc cA (fun k => if k = h.length then q else ad k) sd c)] := by
  have e : ∀ k, k < h.length → (fun k => if k = h.length then q else ad k) k = ad k := fun k hk => if_neg (Nat.ne_of_lt hk)
  apply List.ext_getElem?
  intro j
  simp only [mj_ws, List.getElem?_mapIdx]
  rcases Nat.lt_trichotomy j h.length with hj | hj | hj
  · rw [List.getElem?_append_left hj, List.getElem?_append_left (by simpa using hj), List.getElem?_mapIdx, List.getElem?_eq_getElem hj]
    simp only [Option.map_some]
    rw [mj_tc_cong (hs _ (List.getElem_mem hj)) e, if_neg (Nat.ne_of_lt hj)]
  · subst hj
    rw [List.getElem?_append_right (Nat.le_refl _), List.getElem?_append_right (by simp)]
    simp
  · rw [List.getElem?_append_right (by omega), List.getElem?_append_right (by simp; omega)]
    have : ∀ z : Nat, 0 < z → ∀ (w : mj_C), ([w] : List mj_C)[z]? = none := fun z hz w => by simp; omega
    rw [this _ (by omega)]
    simp
    omega
/-! locals -/
def mj_unk : Value := .retAddr 0
def mj_lm (t : Value → Value) : Nat → List Value → List (Nat × Value)
  | _, [] => []
  | i, .retAddr _ :: l => mj_lm t (i + 1) l
  | i, v :: l => (i, t v) :: mj_lm t (i + 1) l
def mj_kn : Value → Bool
  | .retAddr _ => false
  | _ => true
theorem mj_lm_mem {t : Value → Value} : ∀ {l : List Value} {b : Nat} {q : Nat × Value}, q ∈ mj_lm t b l ↔ ∃ j v, l[j]? = some v ∧ mj_kn v = true ∧ q = (b + j, t v)
  | [], b, q => by simp [mj_lm]
  | v :: l, b, q => by
    have ih := mj_lm_mem (t := t) (l := l) (b := b + 1) (q := q)
    have key : (∃ j w, (v :: l)[j]? = some w ∧ mj_kn w = true ∧ q = (b + j, t w)) ↔ (mj_kn v = true ∧ q = (b, t v)) ∨ ∃ j w, l[j]? = some w ∧ mj_kn w = true ∧ q = (b + 1 + j, t w) := by
      constructor
      · rintro ⟨j, w, h1, h2, h3⟩
        cases j with
        | zero => simp at h1; subst h1; exact Or.inl ⟨h2, h3⟩
        | succ j => rw [List.getElem?_cons_succ] at h1; exact Or.inr ⟨j, w, h1, h2, by rw [h3]; congr 1; omega⟩
      · rintro (⟨h2, h3⟩ | ⟨j, w, h1, h2, h3⟩)
        · exact ⟨0, v, rfl, h2, h3⟩
        · exact ⟨j + 1, w, by rw [List.getElem?_cons_succ]; exact h1, h2, by rw [h3]; congr 1; omega⟩
    rw [key]
    cases v <;> simp [mj_lm, mj_kn, ih]
theorem mj_lm_at {t : Value → Value} {l : List Value} {j : Nat} {v : Value} {ls : Array Slot} {nL : Nat} (hl : lv_has ls nL (mj_lm t 0 l)) (h : l[j]? = some v) (hk : mj_kn v = true) : ls[j]? = some (.val (t v)) := by
  have := hl.2.2 (0 + j, t v) (mj_lm_mem.mpr ⟨j, v, h, hk, rfl⟩)
  simpa using this
theorem mj_lv_mono {ls : Array Slot} {nL : Nat} {l l' : List (Nat × Value)} (h : lv_has ls nL l) (hm : ∀ q ∈ l', q ∈ l) : lv_has ls nL l' := ⟨h.1, h.2.1, fun q hq => h.2.2 q (hm q hq)⟩
def mj_c2 : Value → Bool
  | .long _ => true
  | .double _ => true
  | _ => false
def mj_set : List Value → Nat → Value → List Value
  | [], 0, v => [v]
  | [], n + 1, v => mj_unk :: mj_set [] n v
  | _ :: l, 0, v => v :: l
  | a :: l, n + 1, v => (if n = 0 then (if mj_c2 a = true then mj_unk else a) else a) :: mj_set l n v
theorem mj_set_at : ∀ {l : List Value} {i : Nat} {v : Value} {j : Nat} {w : Value}, (mj_set l i v)[j]? = some w → mj_kn w = true → (j = i ∧ w = v) ∨ (j ≠ i ∧ l[j]? = some w ∧ ¬ (j + 1 = i ∧ mj_c2 w = true))
  | [], 0, v, j, w, h, hk => by
    cases j with
    | zero => simp [mj_set] at h; exact Or.inl ⟨rfl, h.symm⟩
    | succ j => simp [mj_set] at h
  | [], n + 1, v, j, w, h, hk => by
    cases j with
    | zero => simp [mj_set] at h; subst h; simp [mj_unk, mj_kn] at hk
    | succ j =>
      simp only [mj_set, List.getElem?_cons_succ] at h
      rcases mj_set_at h hk with ⟨h1, h2⟩ | ⟨h1, h2, h3⟩
      · exact Or.inl ⟨by omega, h2⟩
      · simp at h2
  | a :: l, 0, v, j, w, h, hk => by
    cases j with
    | zero => simp [mj_set] at h; exact Or.inl ⟨rfl, h.symm⟩
    | succ j => simp only [mj_set, List.getElem?_cons_succ] at h; exact Or.inr ⟨by omega, by simpa using h, by omega⟩
  | a :: l, n + 1, v, j, w, h, hk => by
    cases j with
    | zero =>
      simp only [mj_set, List.getElem?_cons_zero, Option.some.injEq] at h
      refine Or.inr ⟨by omega, ?_, ?_⟩
      · by_cases hn : n = 0
        · rw [if_pos hn] at h
          by_cases hc : mj_c2 a = true
          · rw [if_pos hc] at h; subst h; simp [mj_unk, mj_kn] at hk
          · rw [if_neg hc] at h; simp [h]
        · rw [if_neg hn] at h; simp [h]
      · rintro ⟨hn, hc⟩
        have hn : n = 0 := by omega
        rw [if_pos hn] at h
        by_cases hc2 : mj_c2 a = true
        · rw [if_pos hc2] at h; subst h; simp [mj_unk, mj_kn] at hk
        · rw [if_neg hc2] at h; subst h; exact hc2 hc
    | succ j =>
      simp only [mj_set, List.getElem?_cons_succ] at h
      rcases mj_set_at h hk with ⟨h1, h2⟩ | ⟨h1, h2, h3⟩
      · exact Or.inl ⟨by omega, h2⟩
      · exact Or.inr ⟨by omega, by simpa using h2, fun q => h3 ⟨by omega, q.2⟩⟩
theorem mj_c2_cat (v : Value) : (v.category == 2) = mj_c2 v := by cases v <;> rfl
theorem mj_set_lm {t : Value → Value} (ht : ∀ v, (t v).category = v.category) {l : List Value} {i : Nat} {v : Value} : ∀ q ∈ mj_lm t 0 (mj_set l i v), q ∈ (i, t v) :: (mj_lm t 0 l).filter (fun q => !(q.1 == i) && !(q.1 + 1 == i && q.2.category == 2)) := by
  intro q hq
  obtain ⟨j, w, h1, h2, h3⟩ := mj_lm_mem.mp hq
  rcases mj_set_at h1 h2 with ⟨e1, e2⟩ | ⟨e1, e2, e3⟩
  · rw [h3, e1, e2, Nat.zero_add]; exact List.mem_cons_self
  · refine List.mem_cons_of_mem _ (List.mem_filter.mpr ⟨mj_lm_mem.mpr ⟨j, w, e2, h2, h3⟩, ?_⟩)
    rw [h3]
    simp only [Nat.zero_add, ht, mj_c2_cat]
    simp only [Bool.and_eq_true, Bool.not_eq_true', beq_eq_false_iff_ne, ne_eq, Bool.and_eq_false_iff]
    refine ⟨e1, ?_⟩
    by_cases hj : j + 1 = i
    · right; cases hw : mj_c2 w with
      | false => rfl
      | true => exact absurd ⟨hj, hw⟩ e3
    · left; exact hj
theorem mj_setL_lm {t : Value → Value} (ht : ∀ v, (t v).category = v.category) {l : List Value} {i : Nat} {v : Value} : ∀ q ∈ mj_lm t 0 (mj_set (mj_set l (i + 1) mj_unk) i v), q ∈ (i, t v) :: (mj_lm t 0 l).filter (fun q => !(q.1 == i) && (!(q.1 == i + 1) && !(q.1 + 1 == i && q.2.category == 2))) := by
  intro q hq
  obtain ⟨j, w, h1, h2, h3⟩ := mj_lm_mem.mp hq
  rcases mj_set_at h1 h2 with ⟨e1, e2⟩ | ⟨e1, e2, e3⟩
  · rw [h3, e1, e2, Nat.zero_add]; exact List.mem_cons_self
  · rcases mj_set_at e2 h2 with ⟨g1, g2⟩ | ⟨g1, g2, g3⟩
    · subst g2; simp [mj_unk, mj_kn] at h2
    · refine List.mem_cons_of_mem _ (List.mem_filter.mpr ⟨mj_lm_mem.mpr ⟨j, w, g2, h2, h3⟩, ?_⟩)
      rw [h3]
      simp only [Nat.zero_add, ht, mj_c2_cat]
      simp only [Bool.and_eq_true, Bool.not_eq_true', beq_eq_false_iff_ne, ne_eq, Bool.and_eq_false_iff]
      refine ⟨e1, g1, ?_⟩
      by_cases hj : j + 1 = i
      · right; cases hw : mj_c2 w with
        | false => rfl
        | true => exact absurd ⟨hj, hw⟩ e3
      · left; exact hj
theorem mj_set_sv {n : Nat} : ∀ {l : List Value} {i : Nat} {v : Value}, (∀ w ∈ l, mj_sv n w) → mj_sv n v → ∀ w ∈ mj_set l i v, mj_sv n w
  | [], 0, v, hl, hv, w, hw => by simp [mj_set] at hw; subst hw; exact hv
  | [], k + 1, v, hl, hv, w, hw => by
    simp only [mj_set, List.mem_cons] at hw
    rcases hw with rfl | hw
    · exact trivial
    · exact mj_set_sv hl hv w hw
  | a :: l, 0, v, hl, hv, w, hw => by
    simp only [mj_set, List.mem_cons] at hw
    rcases hw with rfl | hw
    · exact hv
    · exact hl w (List.mem_cons_of_mem _ hw)
  | a :: l, k + 1, v, hl, hv, w, hw => by
    simp only [mj_set, List.mem_cons] at hw
    rcases hw with rfl | hw
    · by_cases hk : k = 0
      · rw [if_pos hk]
        by_cases hc : mj_c2 a = true
        · rw [if_pos hc]; exact trivial
        · rw [if_neg hc]; exact hl a List.mem_cons_self
      · rw [if_neg hk]; exact hl a List.mem_cons_self
    · exact mj_set_sv (fun x hx => hl x (List.mem_cons_of_mem _ hx)) hv w hw
def mj_al : List Value → List Value
  | [] => []
  | .long x :: l => .long x :: mj_unk :: mj_al l
  | v :: l => v :: mj_al l
theorem mj_al_lm (ad sd : Nat → Nat) : ∀ (l : List Value) (b : Nat), (∀ v ∈ l, mj_kn v = true ∧ ∀ x, v ≠ .double x) → ∀ q ∈ mj_lm (mj_tv ad sd) b (mj_al l), q ∈ lv_args b (l.map (mj_tv ad sd))
  | [], b, hl, q, hq => by simp [mj_al, mj_lm] at hq
  | v :: l, b, hl, q, hq => by
    have ih := fun b => mj_al_lm ad sd l b (fun w hw => hl w (List.mem_cons_of_mem _ hw))
    have hv := hl v List.mem_cons_self
    cases v with
    | long x =>
      simp only [mj_al, mj_lm, mj_unk, List.mem_cons, List.map_cons, mj_tv, lv_args, Value.category] at hq ⊢
      rcases hq with h | h
      · exact Or.inl h
      · exact Or.inr (by simpa using ih _ q h)
    | double x => exact absurd rfl (hv.2 x)
    | retAddr x => simp [mj_kn] at hv
    | _ =>
      simp only [mj_al, mj_lm, List.mem_cons, List.map_cons, mj_tv, lv_args, Value.category] at hq ⊢
      rcases hq with h | h
      · exact Or.inl h
      · exact Or.inr (by simpa using ih _ q h)
