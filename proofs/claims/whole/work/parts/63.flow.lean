/-! flows: the pure side -/
theorem rsum_le {f g : Nat → Int} : ∀ {n : Nat}, (∀ j, j < n → f j ≤ g j) → rsum f n ≤ rsum g n
  | 0, _ => Int.le_refl _
  | n + 1, h => by
    have ih := rsum_le (f := f) (g := g) (n := n) (fun j hj => h j (by omega))
    have := h n (by omega)
    unfold rsum
    omega
theorem rsum_add (f g : Nat → Int) : ∀ n : Nat, rsum (fun j => f j + g j) n = rsum f n + rsum g n
  | 0 => rfl
  | n + 1 => by
    have ih := rsum_add f g n
    unfold rsum
    rw [ih]
    omega
theorem rsum_zero : ∀ n : Nat, rsum (fun _ => 0) n = 0
  | 0 => rfl
  | n + 1 => by
    unfold rsum
    rw [rsum_zero n]
    rfl
theorem rsum_swap (f : Nat → Nat → Int) (n : Nat) : ∀ m : Nat, rsum (fun i => rsum (fun k => f i k) n) m = rsum (fun k => rsum (fun i => f i k) m) n
  | 0 => (rsum_zero n).symm
  | m + 1 => by
    have ih := rsum_swap f n m
    have h2 : (fun k => rsum (fun i => f i k) (m + 1)) = fun k => rsum (fun i => f i k) m + f m k := rfl
    rw [h2, rsum_add, ← ih]
    rfl
/-- all that are seated -/
def tot (nn V : Nat) (S : Nat → Int32) : Int := rsum (fun i => rsum (fun k => (S (20 * i + k)).toInt) nn) V
theorem FI_tot {nn V : Nat} {ok : Nat → Nat → Prop} {S O Lf : Nat → Int32} {O0 C0 : Nat → Int} (h : FI nn V ok S O Lf O0 C0) : tot nn V S + rsum (fun i => (O i).toInt) V = rsum O0 V := by
  unfold tot
  rw [← rsum_add]
  exact rsum_cong (fun i hi => (h.2.1 i hi).2)
/-- a cut: who and which are reached -/
def CUT (nn V : Nat) (ok : Nat → Nat → Prop) (S O Lf : Nat → Int32) (n : Nat) (A B : Nat → Prop) : Prop := (∀ i, i < n → i < V → 0 < (O i).toInt → A i) ∧ (∀ i, i < V → ∀ k, k < nn → A i → ok i k → B k) ∧ (∀ k, k < nn → B k → (Lf k).toInt ≤ 0) ∧ ∀ i, i < V → ∀ k, k < nn → B k → ¬ (S (20 * i + k)).toInt = 0 → A i
theorem cut_ge {nn V : Nat} {ok : Nat → Nat → Prop} {S O Lf S' O' Lf' : Nat → Int32} {O0 C0 : Nat → Int} (h : FI nn V ok S O Lf O0 C0) (h' : FI nn V ok S' O' Lf' O0 C0) {A B : Nat → Prop} (hc : CUT nn V ok S O Lf V A B) : tot nn V S' ≤ tot nn V S := by
  classical
  obtain ⟨c1, c2, c3, c4⟩ := hc
  -- the other flow is at most what the cut lets through
  have u1 : tot nn V S' ≤ rsum (fun i => (if A i then 0 else O0 i) + rsum (fun k => if A i ∧ B k then (S' (20 * i + k)).toInt else 0) nn) V := by
    refine rsum_le (fun i hi => ?_)
    obtain ⟨a1, a2⟩ := h'.2.1 i hi
    by_cases hA : A i
    · rw [if_pos hA]
      have : rsum (fun k => (S' (20 * i + k)).toInt) nn = rsum (fun k => if A i ∧ B k then (S' (20 * i + k)).toInt else 0) nn := by
        refine rsum_cong (fun k hk => ?_)
        by_cases hB : B k
        · rw [if_pos ⟨hA, hB⟩]
        · rw [if_neg (fun z => hB z.2)]
          refine Classical.byContradiction fun z => hB (c2 i hi k hk hA ((h'.1 i hi k hk).2 z))
      rw [this]
      omega
    · rw [if_neg hA]
      have : rsum (fun k => if A i ∧ B k then (S' (20 * i + k)).toInt else 0) nn = rsum (fun _ => 0) nn := rsum_cong (fun k _ => if_neg (fun z => hA z.1))
      rw [this, rsum_zero]
      omega
  have u2 : rsum (fun i => (if A i then 0 else O0 i) + rsum (fun k => if A i ∧ B k then (S' (20 * i + k)).toInt else 0) nn) V ≤ rsum (fun i => if A i then 0 else O0 i) V + rsum (fun k => if B k then C0 k else 0) nn := by
    rw [rsum_add, rsum_swap (fun i k => if A i ∧ B k then (S' (20 * i + k)).toInt else 0)]
    have : rsum (fun k => rsum (fun i => if A i ∧ B k then (S' (20 * i + k)).toInt else 0) V) nn ≤ rsum (fun k => if B k then C0 k else 0) nn := by
      refine rsum_le (fun k hk => ?_)
      by_cases hB : B k
      · rw [if_pos hB]
        have a2 := h'.2.2 k hk
        have : rsum (fun i => if A i ∧ B k then (S' (20 * i + k)).toInt else 0) V ≤ rsum (fun i => (S' (20 * i + k)).toInt) V := by
          refine rsum_le (fun i hi => ?_)
          have := (h'.1 i hi k hk).1
          split <;> omega
        omega
      · rw [if_neg hB]
        have : rsum (fun i => if A i ∧ B k then (S' (20 * i + k)).toInt else 0) V = rsum (fun _ => 0) V := rsum_cong (fun i _ => if_neg (fun z => hB z.2))
        rw [this, rsum_zero]
        exact Int.le_refl _
    omega
  -- this one is all of that
  have u3 : rsum (fun i => if A i then 0 else O0 i) V + rsum (fun k => if B k then C0 k else 0) nn ≤ tot nn V S := by
    have w1 : rsum (fun k => if B k then C0 k else 0) nn = rsum (fun k => rsum (fun i => if A i ∧ B k then (S (20 * i + k)).toInt else 0) V) nn := by
      refine rsum_cong (fun k hk => ?_)
      by_cases hB : B k
      · rw [if_pos hB]
        have a2 := h.2.2 k hk
        have a3 := c3 k hk hB
        have : rsum (fun i => if A i ∧ B k then (S (20 * i + k)).toInt else 0) V = rsum (fun i => (S (20 * i + k)).toInt) V := by
          refine rsum_cong (fun i hi => ?_)
          by_cases hA : A i
          · rw [if_pos ⟨hA, hB⟩]
          · rw [if_neg (fun z => hA z.1)]
            refine Classical.byContradiction fun z => hA (c4 i hi k hk hB (fun y => z y.symm))
        omega
      · rw [if_neg hB]
        have : rsum (fun i => if A i ∧ B k then (S (20 * i + k)).toInt else 0) V = rsum (fun _ => 0) V := rsum_cong (fun i _ => if_neg (fun z => hB z.2))
        rw [this, rsum_zero]
    rw [w1, ← rsum_swap (fun i k => if A i ∧ B k then (S (20 * i + k)).toInt else 0), ← rsum_add]
    refine rsum_le (fun i hi => ?_)
    obtain ⟨a1, a2⟩ := h.2.1 i hi
    by_cases hA : A i
    · rw [if_pos hA]
      have : rsum (fun k => if A i ∧ B k then (S (20 * i + k)).toInt else 0) nn ≤ rsum (fun k => (S (20 * i + k)).toInt) nn := by
        refine rsum_le (fun k hk => ?_)
        have := (h.1 i hi k hk).1
        split <;> omega
      omega
    · rw [if_neg hA]
      have : rsum (fun k => if A i ∧ B k then (S (20 * i + k)).toInt else 0) nn = rsum (fun _ => 0) nn := rsum_cong (fun k _ => if_neg (fun z => hA z.1))
      rw [this, rsum_zero]
      have : ¬ 0 < (O i).toInt := fun z => hA (c1 i hi hi z)
      omega
  omega
/-! a chain of moves -/
/-- a flow with some still to be placed at a school -/
def FP (nn V : Nat) (ok : Nat → Nat → Prop) (S O Lf : Nat → Int32) (P : Nat → Int) (O0 C0 : Nat → Int) : Prop := (∀ i, i < V → ∀ k, k < nn → 0 ≤ (S (20 * i + k)).toInt ∧ (¬ (S (20 * i + k)).toInt = 0 → ok i k)) ∧ (∀ i, i < V → 0 ≤ (O i).toInt ∧ rsum (fun k => (S (20 * i + k)).toInt) nn + (O i).toInt = O0 i) ∧ ∀ k, k < nn → rsum (fun i => (S (20 * i + k)).toInt) V + max 0 (Lf k).toInt + P k = C0 k
def pd (c : Nat) (m : Int) (k : Nat) : Int := if k = c then m else 0
theorem FP_start {nn V : Nat} {ok : Nat → Nat → Prop} {S O Lf : Nat → Int32} {O0 C0 : Nat → Int} (h : FI nn V ok S O Lf O0 C0) {c : Nat} {m : Int32} (m0 : 0 ≤ m.toInt) (m1 : m.toInt ≤ (Lf c).toInt) : FP nn V ok S O (upd Lf c (Lf c - m)) (pd c m.toInt) O0 C0 := by
  have lim := Int32.toInt_lt (Lf c)
  have eL : (Lf c - m).toInt = (Lf c).toInt - m.toInt := i32_sub (by omega) (by omega)
  refine ⟨h.1, h.2.1, fun k hk => ?_⟩
  have := h.2.2 k hk
  unfold pd
  by_cases e : k = c
  · subst e
    rw [upd_at, eL, if_pos rfl]
    omega
  · rw [upd_ne _ _ e, if_neg e]
    omega
theorem FP_cell {nn V : Nat} {ok : Nat → Nat → Prop} {S O Lf : Nat → Int32} {P O0 C0 : Nat → Int} (h : FP nn V ok S O Lf P O0 C0) {i k : Nat} (hi : i < V) (hk : k < nn) : (S (20 * i + k)).toInt + (O i).toInt ≤ O0 i := by
  have h1 := rsum_one (f := fun k => (S (20 * i + k)).toInt) (k := k) (n := nn) (fun j hj => (h.1 i hi j hj).1) hk
  have h2 := (h.2.1 i hi).2
  have h3 : (fun k => (S (20 * i + k)).toInt) k = (S (20 * i + k)).toInt := rfl
  omega
theorem col_upd {S : Nat → Int32} {V i k k' : Nat} {v : Int32} {d : Int} (hi : i < V) (hk : k < 20) (hk' : k' < 20) (hv : v.toInt = (S (20 * i + k)).toInt + d) : rsum (fun j => (upd S (20 * i + k) v (20 * j + k')).toInt) V = rsum (fun j => (S (20 * j + k')).toInt) V + if k' = k then d else 0 := by
  by_cases e : k' = k
  · subst e
    have := rsum_upd (f := fun j => (S (20 * j + k')).toInt) (g := fun j => (upd S (20 * i + k') v (20 * j + k')).toInt) (k := i) (d := d) (n := V) (fun j hj => by
      by_cases e2 : j = i
      · subst e2
        show (upd S (20 * j + k') v (20 * j + k')).toInt = (S (20 * j + k')).toInt + _
        rw [if_pos rfl, upd_at, hv]
      · show (upd S (20 * i + k') v (20 * j + k')).toInt = (S (20 * j + k')).toInt + _
        rw [if_neg e2, upd_ne _ _ (by omega), Int.add_zero])
    rw [if_pos hi] at this
    rw [if_pos rfl]
    exact this
  · rw [if_neg e, Int.add_zero]
    exact rsum_cong (fun j hj => by rw [upd_ne _ _ (by omega)])
theorem row_upd {S : Nat → Int32} {nn i i' k : Nat} {v : Int32} {d : Int} (hnn : nn ≤ 20) (hk : k < nn) (hv : v.toInt = (S (20 * i + k)).toInt + d) : rsum (fun j => (upd S (20 * i + k) v (20 * i' + j)).toInt) nn = rsum (fun j => (S (20 * i' + j)).toInt) nn + if i' = i then d else 0 := by
  by_cases e : i' = i
  · subst e
    have := rsum_upd (f := fun j => (S (20 * i' + j)).toInt) (g := fun j => (upd S (20 * i' + k) v (20 * i' + j)).toInt) (k := k) (d := d) (n := nn) (fun j hj => by
      by_cases e2 : j = k
      · subst e2
        show (upd S (20 * i' + j) v (20 * i' + j)).toInt = (S (20 * i' + j)).toInt + _
        rw [if_pos rfl, upd_at, hv]
      · show (upd S (20 * i' + k) v (20 * i' + j)).toInt = (S (20 * i' + j)).toInt + _
        rw [if_neg e2, upd_ne _ _ (by omega), Int.add_zero])
    rw [if_pos hk] at this
    rw [if_pos rfl]
    exact this
  · rw [if_neg e, Int.add_zero]
    exact rsum_cong (fun j hj => by rw [upd_ne _ _ (by omega)])
/-- from a school to the one ahead in the chain -/
theorem FP_mid {nn V : Nat} {ok : Nat → Nat → Prop} {S O Lf : Nat → Int32} {O0 C0 : Nat → Int} {c : Nat} {m : Int32} (h : FP nn V ok S O Lf (pd c m.toInt) O0 C0) (hnn : nn ≤ 20) (hO : ∀ i, i < V → O0 i ≤ 100000) {i k : Nat} (hi : i < V) (hc : c < nn) (hk : k < nn) (hck : ¬ c = k) (hok : ok i c) (m0 : 0 ≤ m.toInt) (m1 : m.toInt ≤ (S (20 * i + k)).toInt) : FP nn V ok (upd (upd S (20 * i + c) (S (20 * i + c) + m)) (20 * i + k) (S (20 * i + k) - m)) O Lf (pd k m.toInt) O0 C0 := by
  have hc1 := FP_cell h hi hc
  have hc2 := FP_cell h hi hk
  have hO0 := hO i hi
  have s0 := (h.1 i hi c hc).1
  have o0 := (h.2.1 i hi).1
  have eS : (S (20 * i + c) + m).toInt = (S (20 * i + c)).toInt + m.toInt := i32_add (by omega) (by omega)
  have eK : (S (20 * i + k) - m).toInt = (S (20 * i + k)).toInt + (- m.toInt) := by rw [i32_sub (by omega) (by omega)]; omega
  have eK2 : (S (20 * i + k) - m).toInt = ((upd S (20 * i + c) (S (20 * i + c) + m)) (20 * i + k)).toInt + (- m.toInt) := by rw [upd_ne _ _ (by omega)]; exact eK
  refine ⟨fun i' hi' k' hk' => ?_, fun i' hi' => ?_, fun k' hk' => ?_⟩
  · by_cases e : 20 * i' + k' = 20 * i + k
    · have e1 : i' = i := by omega
      have e2 : k' = k := by omega
      subst e1 e2
      rw [upd_at]
      exact ⟨by omega, fun z => (h.1 i' hi' k' hk').2 (by omega)⟩
    · rw [upd_ne _ _ e]
      by_cases e3 : 20 * i' + k' = 20 * i + c
      · have e1 : i' = i := by omega
        have e2 : k' = c := by omega
        subst e1 e2
        rw [upd_at]
        exact ⟨by omega, fun _ => hok⟩
      · rw [upd_ne _ _ e3]
        exact h.1 i' hi' k' hk'
  · obtain ⟨a1, a2⟩ := h.2.1 i' hi'
    refine ⟨a1, ?_⟩
    rw [row_upd hnn hk eK2, row_upd hnn hc eS]
    by_cases e : i' = i
    · rw [if_pos e, if_pos e]
      omega
    · rw [if_neg e, if_neg e]
      omega
  · have a2 := h.2.2 k' hk'
    rw [col_upd hi (by omega) (by omega) eK2, col_upd hi (by omega) (by omega) eS]
    unfold pd at a2 ⊢
    by_cases e : k' = k
    · have : ¬ k' = c := fun z => hck (z.symm.trans e)
      rw [if_pos e, if_neg this, if_pos e]
      rw [if_neg this] at a2
      omega
    · rw [if_neg e, if_neg e]
      by_cases e2 : k' = c
      · rw [if_pos e2]
        rw [if_pos e2] at a2
        omega
      · rw [if_neg e2]
        rw [if_neg e2] at a2
        omega
/-- the chain's begin -/
theorem FP_end {nn V : Nat} {ok : Nat → Nat → Prop} {S O Lf : Nat → Int32} {O0 C0 : Nat → Int} {c : Nat} {m : Int32} (h : FP nn V ok S O Lf (pd c m.toInt) O0 C0) (hnn : nn ≤ 20) (hO : ∀ i, i < V → O0 i ≤ 100000) {i : Nat} (hi : i < V) (hc : c < nn) (hok : ok i c) (m0 : 0 ≤ m.toInt) (m1 : m.toInt ≤ (O i).toInt) : FI nn V ok (upd S (20 * i + c) (S (20 * i + c) + m)) (upd O i (O i - m)) Lf O0 C0 := by
  have hc1 := FP_cell h hi hc
  have hO0 := hO i hi
  have s0 := (h.1 i hi c hc).1
  have eS : (S (20 * i + c) + m).toInt = (S (20 * i + c)).toInt + m.toInt := i32_add (by omega) (by omega)
  have eO : (O i - m).toInt = (O i).toInt - m.toInt := i32_sub (by omega) (by omega)
  refine ⟨fun i' hi' k' hk' => ?_, fun i' hi' => ?_, fun k' hk' => ?_⟩
  · by_cases e3 : 20 * i' + k' = 20 * i + c
    · have e1 : i' = i := by omega
      have e2 : k' = c := by omega
      subst e1 e2
      rw [upd_at]
      exact ⟨by omega, fun _ => hok⟩
    · rw [upd_ne _ _ e3]
      exact h.1 i' hi' k' hk'
  · obtain ⟨a1, a2⟩ := h.2.1 i' hi'
    rw [row_upd hnn hc eS]
    by_cases e : i' = i
    · subst e
      rw [if_pos rfl, upd_at, eO]
      exact ⟨by omega, by omega⟩
    · rw [if_neg e, upd_ne _ _ e]
      exact ⟨a1, by omega⟩
  · have a2 := h.2.2 k' hk'
    rw [col_upd hi (by omega) (by omega) eS]
    unfold pd at a2
    by_cases e2 : k' = c
    · rw [if_pos e2]
      rw [if_pos e2] at a2
      omega
    · rw [if_neg e2]
      rw [if_neg e2] at a2
      omega
/-! a chain as a list: schools and the villages from which they were come upon -/
def PT (nn V : Nat) (ok : Nat → Nat → Prop) (S ps pv : Nat → Int32) (rt : Nat → Prop) : List (Nat × Nat) → Prop
  | [] => False
  | [(k, i)] => k < nn ∧ i < V ∧ ps k = nI i ∧ ok i k ∧ rt i
  | (k, i) :: (k', i') :: l => k < nn ∧ i < V ∧ ps k = nI i ∧ ok i k ∧ ¬ rt i ∧ pv i = nI k' ∧ 0 < (S (20 * i + k')).toInt ∧ ¬ k = k' ∧ (∀ p ∈ (k', i') :: l, ¬ p.2 = i) ∧ PT nn V ok S ps pv rt ((k', i') :: l)
/-- at most the least of the chain -/
def LQ (S O : Nat → Int32) (m : Int) : List (Nat × Nat) → Prop
  | [] => True
  | [(_, i)] => m ≤ (O i).toInt
  | (_, i) :: (k', i') :: l => m ≤ (S (20 * i + k')).toInt ∧ LQ S O m ((k', i') :: l)
theorem LQ_le {S O : Nat → Int32} {m m' : Int} (h : m' ≤ m) : ∀ {l : List (Nat × Nat)}, LQ S O m l → LQ S O m' l
  | [], _ => trivial
  | [(_, _)], hl => Int.le_trans h hl
  | (_, _) :: (_, _) :: _, hl => ⟨Int.le_trans h hl.1, LQ_le h hl.2⟩
/-- a chain stays when other places are written -/
theorem PT_keep {nn V : Nat} {ok : Nat → Nat → Prop} {S ps pv ps' pv' : Nat → Int32} {rt : Nat → Prop} : ∀ {l : List (Nat × Nat)}, (∀ p ∈ l, ps' p.1 = ps p.1 ∧ pv' p.2 = pv p.2) → PT nn V ok S ps pv rt l → PT nn V ok S ps' pv' rt l
  | [], _, h => h
  | [(k, i)], hk, h => by
    obtain ⟨h1, h2, h3, h4, h5⟩ := h
    exact ⟨h1, h2, by rw [(hk (k, i) (List.mem_cons_self ..)).1]; exact h3, h4, h5⟩
  | (k, i) :: (k', i') :: l, hk, h => by
    obtain ⟨h1, h2, h3, h4, h5, h6, h7, h8, h9, h10⟩ := h
    have hh := hk (k, i) (List.mem_cons_self ..)
    exact ⟨h1, h2, by rw [hh.1]; exact h3, h4, h5, by rw [hh.2]; exact h6, h7, h8, h9, PT_keep (fun p hp => hk p (List.mem_cons_of_mem _ hp)) h10⟩
/-- a chain stays when other villages' seats are written -/
theorem PT_S {nn V : Nat} {ok : Nat → Nat → Prop} {S S' ps pv : Nat → Int32} {rt : Nat → Prop} : ∀ {l : List (Nat × Nat)}, (∀ p ∈ l, ∀ k, k < nn → S' (20 * p.2 + k) = S (20 * p.2 + k)) → PT nn V ok S ps pv rt l → PT nn V ok S' ps pv rt l
  | [], _, h => h
  | [(k, i)], _, h => h
  | (k, i) :: (k', i') :: l, hk, h => by
    obtain ⟨h1, h2, h3, h4, h5, h6, h7, h8, h9, h10⟩ := h
    have ih := PT_S (fun p hp => hk p (List.mem_cons_of_mem _ hp)) h10
    have hk' : k' < nn := by
      cases l with
      | nil => exact h10.1
      | cons p l => exact h10.1
    exact ⟨h1, h2, h3, h4, h5, h6, by rw [hk (k, i) (List.mem_cons_self ..) k' hk']; exact h7, h8, h9, ih⟩
theorem LQ_S {nn V : Nat} {ok : Nat → Nat → Prop} {S S' O O' ps pv : Nat → Int32} {rt : Nat → Prop} {m : Int} : ∀ {l : List (Nat × Nat)}, PT nn V ok S ps pv rt l → (∀ p ∈ l, (∀ k, k < nn → S' (20 * p.2 + k) = S (20 * p.2 + k)) ∧ O' p.2 = O p.2) → LQ S O m l → LQ S' O' m l
  | [], _, _, h => h
  | [(k, i)], _, hk, h => by
    unfold LQ
    rw [(hk (k, i) (List.mem_cons_self ..)).2]
    exact h
  | (k, i) :: (k', i') :: l, hp, hk, h => by
    have h10 := hp.2.2.2.2.2.2.2.2.2
    have hk' : k' < nn := by
      cases l with
      | nil => exact h10.1
      | cons p l => exact h10.1
    refine ⟨by rw [(hk (k, i) (List.mem_cons_self ..)).1 k' hk']; exact h.1, LQ_S h10 (fun p hp => hk p (List.mem_cons_of_mem _ hp)) h.2⟩
