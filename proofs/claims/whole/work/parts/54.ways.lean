/-! ways: the pure side -/
def wM (m : Nat → Int) : Prop := ∀ c, c < 120 → 0 ≤ m c ∧ m c ≤ 99
/-- what holds of the sums found so far -/
def IV (m : Nat → Int) (b : Nat) (B : Int) (D : Nat → Int32) : Prop := (D b).toInt = 0 ∧ (∀ c, c < 120 → 0 ≤ (D c).toInt ∧ (D c).toInt ≤ B) ∧ ∀ c, c < 120 → c ≠ b → (D c).toInt < B → m c ≠ 0 ∧ ∃ o ∈ nbs c, (D o).toInt + m c ≤ (D c).toInt
def LE' (D D0 : Nat → Int32) : Prop := ∀ c, c < 120 → (D c).toInt ≤ (D0 c).toInt
theorem LE'.refl (D : Nat → Int32) : LE' D D := fun _ _ => Int.le_refl _
theorem LE'.trans {D D1 D2 : Nat → Int32} (h : LE' D D1) (h2 : LE' D1 D2) : LE' D D2 := fun c hc => Int.le_trans (h c hc) (h2 c hc)
theorem nbs_lt {c o : Nat} (hc : c < 120) (h : o ∈ nbs c) : o < 120 ∧ o ≠ c := (by decide +kernel : ∀ c, c < 120 → ∀ o ∈ nbs c, o < 120 ∧ o ≠ c) c hc o h
theorem IV_step {m : Nat → Int} {b : Nat} {B : Int} {D : Nat → Int32} (h : IV m b B D) (hw : wM m) {c o : Nat} (hc : c < 120) (hm : m c ≠ 0) (ho : o ∈ nbs c) {v : Int32} (hv : v.toInt = (D o).toInt + m c) (hlt : v.toInt < (D c).toInt) : IV m b B (upd D c v) := by
  obtain ⟨h1, h2, h3⟩ := h
  obtain ⟨o1, o2⟩ := nbs_lt hc ho
  have hw1 := hw c hc
  have ho1 := h2 o o1
  have hc1 := h2 c hc
  have hcb : c ≠ b := by
    intro e
    subst e
    omega
  refine ⟨by rw [upd_ne _ _ (fun e => hcb e.symm)]; exact h1, fun d hd => ?_, fun d hd hdb hdB => ?_⟩
  · by_cases e : d = c
    · rw [e, upd_at]
      exact ⟨by omega, by omega⟩
    · rw [upd_ne _ _ e]
      exact h2 d hd
  · by_cases e : d = c
    · subst e
      refine ⟨hm, o, ho, ?_⟩
      rw [upd_at, upd_ne _ _ o2]
      omega
    · rw [upd_ne _ _ e] at hdB ⊢
      obtain ⟨p1, p, p2, p3⟩ := h3 d hd hdb hdB
      refine ⟨p1, p, p2, ?_⟩
      by_cases e2 : p = c
      · rw [e2, upd_at]
        rw [e2] at p3
        omega
      · rw [upd_ne _ _ e2]
        exact p3
theorem LE'_upd {D D0 : Nat → Int32} (h : LE' D D0) {c : Nat} {v : Int32} (hc : c < 120) (hv : v.toInt ≤ (D c).toInt) : LE' (upd D c v) D0 := by
  intro d hd
  by_cases e : d = c
  · rw [e, upd_at]
    exact Int.le_trans hv (h c hc)
  · rw [upd_ne _ _ e]
    exact h d hd
/-! counting -/
def cn (p : Nat → Bool) : Nat → Nat
  | 0 => 0
  | n + 1 => cn p n + if p n = true then 1 else 0
theorem cn_le {p q : Nat → Bool} : ∀ {n : Nat}, (∀ i, i < n → p i = true → q i = true) → cn p n ≤ cn q n
  | 0, _ => Nat.le_refl _
  | n + 1, h => by
    have ih := cn_le (p := p) (q := q) (n := n) (fun i hi => h i (by omega))
    have hn := h n (by omega)
    unfold cn
    by_cases c : p n = true
    · rw [if_pos c, if_pos (hn c)]
      omega
    · rw [if_neg c]
      omega
theorem cn_lt {p q : Nat → Bool} : ∀ {n : Nat}, (∀ i, i < n → p i = true → q i = true) → (∃ i, i < n ∧ q i = true ∧ p i = false) → cn p n < cn q n
  | 0, _, ⟨i, hi, _⟩ => absurd hi (by omega)
  | n + 1, h, ⟨i, hi, h1, h2⟩ => by
    have hn := h n (by omega)
    unfold cn
    by_cases e : i = n
    · subst e
      have ih := cn_le (p := p) (q := q) (n := i) (fun i hi => h i (by omega))
      rw [if_pos h1, h2, if_neg (by decide)]
      omega
    · have ih := cn_lt (p := p) (q := q) (n := n) (fun i hi => h i (by omega)) ⟨i, by omega, h1, h2⟩
      by_cases c : p n = true
      · rw [if_pos c, if_pos (hn c)]
        omega
      · rw [if_neg c]
        omega
theorem cn_max (p : Nat → Bool) : ∀ n : Nat, cn p n ≤ n
  | 0 => Nat.le_refl _
  | n + 1 => by
    have ih := cn_max p n
    unfold cn
    split <;> omega
theorem cn_0 {p : Nat → Bool} : ∀ {n : Nat}, cn p n = 0 → ∀ i, i < n → p i = false
  | 0, _, i, hi => absurd hi (by omega)
  | n + 1, h, i, hi => by
    unfold cn at h
    by_cases c : p n = true
    · rw [if_pos c] at h
      omega
    · rw [if_neg c] at h
      by_cases e : i = n
      · rw [e]
        exact Bool.eq_false_iff.mpr c
      · exact cn_0 (by omega) i (by omega)
/-! no finite sum is great -/
def fixD (m : Nat → Int) (D : Nat → Int32) : Prop := ∀ c, c < 120 → m c ≠ 0 → ∀ o ∈ nbs c, (D c).toInt ≤ (D o).toInt + m c
theorem level_down {m : Nat → Int} {b : Nat} {B : Int} {D : Nat → Int32} (h : IV m b B D) (hw : wM m) (hf : fixD m D) {L : Int} (hL : 0 ≤ L) : ∀ (n c : Nat), c < 120 → (D c).toInt < B → (D c).toInt.toNat = n → L < (D c).toInt → ∃ e, e < 120 ∧ L - 99 < (D e).toInt ∧ (D e).toInt ≤ L := by
  intro n
  induction n using Nat.strongRecOn with
  | ind n ih =>
    intro c hc hcB hn hcL
    have hcb : c ≠ b := by
      intro e
      have := h.1
      rw [← e] at this
      omega
    obtain ⟨p1, o, p2, p3⟩ := h.2.2 c hc hcb hcB
    obtain ⟨o1, _⟩ := nbs_lt hc p2
    have hf1 := hf c hc p1 o p2
    have hw1 := hw c hc
    have ho1 := h.2.1 o o1
    by_cases e : (D o).toInt ≤ L
    · exact ⟨o, o1, by omega, e⟩
    · exact ih (D o).toInt.toNat (by omega) o o1 (by omega) rfl (by omega)
theorem level_up {m : Nat → Int} {b : Nat} {B : Int} {D : Nat → Int32} (hb : b < 120) (h : IV m b B D) (hw : wM m) (hf : fixD m D) : ∀ k : Nat, (∃ c, c < 120 ∧ 99 * (k : Int) < (D c).toInt ∧ (D c).toInt < B) → k + 1 ≤ cn (fun c => decide ((D c).toInt ≤ 99 * (k : Int))) 120
  | 0, _ => by
    have h0 : cn (fun _ => false) 120 < cn (fun c => decide ((D c).toInt ≤ 99 * ((0 : Nat) : Int))) 120 := cn_lt (fun _ _ z => by cases z) ⟨b, hb, decide_eq_true (by have := h.1; omega), rfl⟩
    omega
  | k + 1, ⟨c, hc, h1, h2⟩ => by
    have ih := level_up hb h hw hf k ⟨c, hc, by omega, h2⟩
    obtain ⟨e, e1, e2, e3⟩ := level_down h hw hf (L := 99 * ((k + 1 : Nat) : Int)) (by omega) _ c hc h2 rfl h1
    have h0 : cn (fun c => decide ((D c).toInt ≤ 99 * (k : Int))) 120 < cn (fun c => decide ((D c).toInt ≤ 99 * ((k + 1 : Nat) : Int))) 120 := cn_lt (fun i _ z => decide_eq_true (by have := of_decide_eq_true z; omega)) ⟨e, e1, decide_eq_true e3, decide_eq_false (by omega)⟩
    omega
theorem IV_bound {m : Nat → Int} {b : Nat} {B : Int} {D : Nat → Int32} (hb : b < 120) (h : IV m b B D) (hw : wM m) (hf : fixD m D) {c : Nat} (hc : c < 120) (hB : (D c).toInt < B) : (D c).toInt ≤ 11880 := by
  refine Classical.byContradiction fun e => ?_
  have h1 := level_up hb h hw hf 120 ⟨c, hc, by omega, hB⟩
  have h2 := cn_max (fun c => decide ((D c).toInt ≤ 99 * ((120 : Nat) : Int))) 120
  omega
theorem fix_isF {m : Nat → Int} {b : Nat} {B : Int} {D : Nat → Int32} (hb : b < 120) (h : IV m b B D) (hw : wM m) (hf : fixD m D) (hB : 20000 ≤ B) : isF m b (fun c => if (D c).toInt < B then some (D c).toInt.toNat else none) := by
  refine ⟨?_, fun c hc hcb => ⟨fun hm => ?_, fun hm => ⟨fun o ho x hx => ?_, fun y hy => ?_⟩⟩⟩
  · show (if (D b).toInt < B then some (D b).toInt.toNat else none) = some 0
    rw [h.1, if_pos (by omega)]
    rfl
  · show (if (D c).toInt < B then some (D c).toInt.toNat else none) = none
    refine if_neg fun e => ?_
    exact (h.2.2 c hc hcb e).1 hm
  · obtain ⟨o1, _⟩ := nbs_lt hc ho
    have hx' : (if (D o).toInt < B then some (D o).toInt.toNat else none) = some x := hx
    by_cases e : (D o).toInt < B
    · rw [if_pos e] at hx'
      have ex := Option.some.inj hx'
      have b1 := IV_bound hb h hw hf o1 e
      have f1 := hf c hc hm o ho
      have w1 := hw c hc
      have c1 := h.2.1 c hc
      have o2 := h.2.1 o o1
      refine ⟨(D c).toInt.toNat, if_pos (by omega), by omega⟩
    · rw [if_neg e] at hx'
      cases hx'
  · have hy' : (if (D c).toInt < B then some (D c).toInt.toNat else none) = some y := hy
    by_cases e : (D c).toInt < B
    · rw [if_pos e] at hy'
      have ey := Option.some.inj hy'
      obtain ⟨p1, o, p2, p3⟩ := h.2.2 c hc hcb e
      obtain ⟨o1, _⟩ := nbs_lt hc p2
      have f1 := hf c hc hm o p2
      have w1 := hw c hc
      have c1 := h.2.1 c hc
      have o2 := h.2.1 o o1
      exact ⟨o, p2, (D o).toInt.toNat, if_pos (by omega), by omega⟩
    · rw [if_neg e] at hy'
      cases hy'
/-- the least ways are one -/
theorem isF_le {m : Nat → Int} {b : Nat} {F G : Nat → Option Nat} (hw : wM m) (hb : b < 120) (h1 : isF m b F) (h2 : isF m b G) : ∀ (y c : Nat), c < 120 → F c = some y → ∃ z, G c = some z ∧ z ≤ y := by
  intro y
  induction y using Nat.strongRecOn with
  | ind y ih =>
    intro c hc hy
    by_cases e : c = b
    · rw [e]
      exact ⟨0, h2.1, by omega⟩
    · obtain ⟨a1, a2⟩ := h1.2 c hc e
      obtain ⟨b1, b2⟩ := h2.2 c hc e
      have hm : m c ≠ 0 := fun z => by rw [a1 z] at hy; cases hy
      obtain ⟨o, o1, x, o2, o3⟩ := (a2 hm).2 y hy
      have w1 := hw c hc
      obtain ⟨o4, _⟩ := nbs_lt hc o1
      obtain ⟨z, z1, z2⟩ := ih x (by omega) o o4 o2
      obtain ⟨u, u1, u2⟩ := (b2 hm).1 o o1 z z1
      exact ⟨u, u1, by omega⟩
theorem isF_one {m : Nat → Int} {b : Nat} {F G : Nat → Option Nat} (hw : wM m) (hb : b < 120) (h1 : isF m b F) (h2 : isF m b G) {c : Nat} (hc : c < 120) : F c = G c := by
  cases hF : F c with
  | none =>
    cases hG : G c with
    | none => rfl
    | some y =>
      obtain ⟨z, z1, _⟩ := isF_le hw hb h2 h1 y c hc hG
      rw [hF] at z1
      cases z1
  | some x =>
    obtain ⟨z, z1, z2⟩ := isF_le hw hb h1 h2 x c hc hF
    obtain ⟨u, u1, u2⟩ := isF_le hw hb h2 h1 z c hc z1
    rw [hF] at u1
    have := Option.some.inj u1
    rw [z1]
    exact congrArg some (by omega)
theorem isF_cong {m m' : Nat → Int} {b : Nat} {F : Nat → Option Nat} (h : ∀ c, c < 120 → m c = m' c) (hF : isF m b F) : isF m' b F := by
  refine ⟨hF.1, fun c hc hcb => ?_⟩
  rw [← h c hc]
  exact hF.2 c hc hcb
/-- what is found is at least the least way -/
theorem IV_ge {m : Nat → Int} {b : Nat} {B : Int} {D : Nat → Int32} {F : Nat → Option Nat} (hw : wM m) (h : IV m b B D) (hF : isF m b F) : ∀ (n c : Nat), c < 120 → (D c).toInt.toNat = n → (D c).toInt < B → ∃ x : Nat, F c = some x ∧ (x : Int) ≤ (D c).toInt := by
  intro n
  induction n using Nat.strongRecOn with
  | ind n ih =>
    intro c hc hn hB
    by_cases e : c = b
    · rw [e]
      exact ⟨0, hF.1, by rw [h.1]; omega⟩
    · obtain ⟨p1, o, p2, p3⟩ := h.2.2 c hc e hB
      obtain ⟨o1, _⟩ := nbs_lt hc p2
      have w1 := hw c hc
      have o2 := h.2.1 o o1
      obtain ⟨x, x1, x2⟩ := ih (D o).toInt.toNat (by omega) o o1 rfl (by omega)
      obtain ⟨u, u1, u2⟩ := ((hF.2 c hc e).2 p1).1 o p2 x x1
      exact ⟨u, u1, by omega⟩
/-! the sum of all, for the reference's end -/
def smD (D : Nat → Int32) : Nat → Nat
  | 0 => 0
  | n + 1 => smD D n + (D n).toInt.toNat
theorem smD_le {D D0 : Nat → Int32} : ∀ {n : Nat}, (∀ i, i < n → (D i).toInt ≤ (D0 i).toInt) → smD D n ≤ smD D0 n
  | 0, _ => Nat.le_refl _
  | n + 1, h => by
    have ih := smD_le (D := D) (D0 := D0) (n := n) (fun i hi => h i (by omega))
    have := h n (by omega)
    unfold smD
    omega
theorem smD_lt {D D0 : Nat → Int32} : ∀ {n : Nat}, (∀ i, i < n → (D i).toInt ≤ (D0 i).toInt) → (∃ i, i < n ∧ (D i).toInt < (D0 i).toInt ∧ 0 ≤ (D i).toInt) → smD D n < smD D0 n
  | 0, _, ⟨i, hi, _⟩ => absurd hi (by omega)
  | n + 1, h, ⟨i, hi, h1, h2⟩ => by
    have hn := h n (by omega)
    unfold smD
    by_cases e : i = n
    · subst e
      have ih := smD_le (D := D) (D0 := D0) (n := i) (fun i hi => h i (by omega))
      omega
    · have ih := smD_lt (D := D) (D0 := D0) (n := n) (fun i hi => h i (by omega)) ⟨i, by omega, h1, h2⟩
      omega
theorem smD_max {D : Nat → Int32} {B : Nat} : ∀ {n : Nat}, (∀ i, i < n → (D i).toInt ≤ B) → smD D n ≤ B * n
  | 0, _ => Nat.zero_le _
  | n + 1, h => by
    have ih := smD_max (D := D) (B := B) (n := n) (fun i hi => h i (by omega))
    have hn := h n (by omega)
    unfold smD
    rw [Nat.mul_succ]
    omega
/-! the class: how many are wrong still -/
def wro (F : Nat → Option Nat) (D : Nat → Int32) (c : Nat) : Bool := match F c with
  | some y => decide ((y : Int) < (D c).toInt)
  | none => false
theorem wro_le {F : Nat → Option Nat} {D D0 : Nat → Int32} {c : Nat} (h : (D c).toInt ≤ (D0 c).toInt) (hw : wro F D c = true) : wro F D0 c = true := by
  unfold wro at hw ⊢
  cases hF : F c with
  | none => rw [hF] at hw; exact hw
  | some y =>
    rw [hF] at hw
    dsimp only at hw ⊢
    exact decide_eq_true (by have := of_decide_eq_true hw; omega)
/-- a wrong one beside a right one -/
theorem wro_edge {m : Nat → Int} {b : Nat} {B : Int} {D : Nat → Int32} {F : Nat → Option Nat} (hw : wM m) (h : IV m b B D) (hF : isF m b F) : ∀ (y c : Nat), c < 120 → F c = some y → wro F D c = true → ∃ d, d < 120 ∧ m d ≠ 0 ∧ wro F D d = true ∧ ∃ o ∈ nbs d, ∃ x z : Nat, F o = some x ∧ F d = some z ∧ (z : Int) = x + m d ∧ (D o).toInt ≤ x := by
  intro y
  induction y using Nat.strongRecOn with
  | ind y ih =>
    intro c hc hy hwr
    have hcb : c ≠ b := by
      intro e
      subst e
      unfold wro at hwr
      rw [hF.1] at hwr
      have := of_decide_eq_true hwr
      rw [h.1] at this
      omega
    obtain ⟨a1, a2⟩ := hF.2 c hc hcb
    have hm : m c ≠ 0 := fun z => by rw [a1 z] at hy; cases hy
    obtain ⟨o, o1, x, o2, o3⟩ := (a2 hm).2 y hy
    have w1 := hw c hc
    obtain ⟨o4, _⟩ := nbs_lt hc o1
    by_cases e : (D o).toInt ≤ x
    · exact ⟨c, hc, hm, hwr, o, o1, x, y, o2, hy, o3, e⟩
    · refine ih x (by omega) o o4 o2 ?_
      unfold wro
      rw [o2]
      exact decide_eq_true (by omega)
/-- a round makes one more right -/
theorem wro_less {m : Nat → Int} {b : Nat} {B : Int} {D D1 D2 : Nat → Int32} {F : Nat → Option Nat} (hw : wM m) (h : IV m b B D) (hF : isF m b F) (h1 : LE' D1 D) (h2 : LE' D2 D1) (hr : ∀ c, c < 120 → m c ≠ 0 → ∀ o ∈ nbs c, (D1 c).toInt ≤ (D o).toInt + m c) : cn (wro F D2) 120 < cn (wro F D) 120 ∨ (cn (wro F D) 120 = 0 ∧ cn (wro F D2) 120 = 0) := by
  have hle := h2.trans h1
  have hmono := cn_le (p := wro F D2) (q := wro F D) (n := 120) (fun i hi => wro_le (hle i hi))
  by_cases e : ∃ c, c < 120 ∧ wro F D c = true
  · left
    obtain ⟨c, hc, hwr⟩ := e
    have hy : ∃ y, F c = some y := by
      unfold wro at hwr
      cases hF2 : F c with
      | none => rw [hF2] at hwr; cases hwr
      | some y => exact ⟨y, rfl⟩
    obtain ⟨y, hy⟩ := hy
    obtain ⟨d, d1, d2, d3, o, o1, x, z, x1, z1, z2, x2⟩ := wro_edge hw h hF y c hc hy hwr
    refine cn_lt (fun i hi => wro_le (hle i hi)) ⟨d, d1, d3, ?_⟩
    unfold wro
    rw [z1]
    refine decide_eq_false ?_
    have a1 := hr d d1 d2 o o1
    have a2 := h2 d d1
    omega
  · right
    have : cn (wro F D) 120 = 0 := by
      refine Classical.byContradiction fun z => ?_
      have h0 : cn (wro F D) 120 ≤ cn (fun _ => false) 120 := cn_le (fun i hi w => absurd ⟨i, hi, w⟩ e)
      have h3 : cn (fun _ => false) 120 = 0 := by decide +kernel
      omega
    exact ⟨this, by omega⟩
theorem wro_first {m : Nat → Int} {b : Nat} {B : Int} {D : Nat → Int32} {F : Nat → Option Nat} (hb : b < 120) (h : IV m b B D) (hF : isF m b F) : cn (wro F D) 120 ≤ 119 := by
  have h0 : cn (wro F D) 120 < cn (fun _ => true) 120 := cn_lt (fun _ _ _ => rfl) ⟨b, hb, rfl, by
    unfold wro
    rw [hF.1]
    exact decide_eq_false (by rw [h.1]; omega)⟩
  have := cn_max (fun _ => true) 120
  omega
/-- none wrong: all are the least ways -/
theorem wro_end {m : Nat → Int} {b : Nat} {B : Nat} {D : Nat → Int32} {F : Nat → Option Nat} (hw : wM m) (h : IV m b B D) (hF : isF m b F) (h0 : cn (wro F D) 120 = 0) (hB : 20000 ≤ B) (hB2 : B < 2 ^ 31) (hFB : ∀ c, c < 120 → ∀ x, F c = some x → x ≤ 11880) {c : Nat} (hc : c < 120) : D c = match F c with
  | some x => nI x
  | none => nI B := by
  have h1 := cn_0 h0 c hc
  have c1 := h.2.1 c hc
  unfold wro at h1
  cases hF2 : F c with
  | none =>
    refine i32_of ?_
    refine Classical.byContradiction fun z => ?_
    obtain ⟨x, x1, x2⟩ := IV_ge hw h hF _ c hc rfl (by omega)
    rw [hF2] at x1
    cases x1
  | some y =>
    rw [hF2] at h1
    have h2 := of_decide_eq_false h1
    have h3 := hFB c hc y hF2
    obtain ⟨x, x1, x2⟩ := IV_ge hw h hF _ c hc rfl (by omega)
    rw [hF2] at x1
    have := Option.some.inj x1
    exact i32_of (by omega)
/-- the least ways, as numbers -/
def wN (F : Nat → Option Nat) (B : Int32) (c : Nat) : Int32 := match F c with
  | some x => nI x
  | none => B
