/-! the recursion, by its levels -/
theorem SIM_mono {s0 t0 : St} {L A d z m e H H' : Nat} {s t : St} {F G : St → Option St} (hH : H ≤ H') (h : SIM s0 t0 L A d z m e H s t F G) : SIM s0 t0 L A d z m e H' s t F G := by
  obtain ⟨s', t', h1, h2, ⟨A', k, a1, a2, a3, a4, a5, a6, a7⟩ | hB⟩ := h
  · exact ⟨s', t', h1, h2, Or.inl ⟨A', k, a1, a2, a3, a4, a5, a6, fun h hh => a7 h (by omega)⟩⟩
  · exact ⟨s', t', h1, h2, Or.inr hB⟩
theorem rg_sum {s0 t0 : St} {T : Nat → Int32} {L : Nat} (hT : TB s0 t0 T L) : ∀ (k Dc Dm d : Nat), d + k = 6 → 3 * k + 3 ≤ Dc → 3 * k + 3 ≤ Dm → ∀ A z m s t, NP s0 t0 L A d z m s t → SIM s0 t0 L A d z m 0 (2 * k + 3) s t (RGC Dc).1 (RGM Dm).1 := by
  intro k
  induction k with
  | zero =>
    intro Dc Dm d hd h1 h2 A z m s t h
    obtain ⟨C, rfl⟩ : ∃ C, Dc = C + 3 := ⟨Dc - 3, by omega⟩
    obtain ⟨M, rfl⟩ : ∃ M, Dm = M + 3 := ⟨Dm - 3, by omega⟩
    refine SIM_mono (by omega) (sim_sum hT (RGC (C + 2)) (RGM (M + 2)) (Ho := 2) (fun A z m s t h => ?_) h)
    refine sim_term hT (RGC (C + 1)) (RGM (M + 1)) (Ho := 1) (fun A z m s t h => ?_) h
    exact sim_atom hT (Nat.le_refl 1) (Nat.le_refl 1) (RGC C) (RGM M) (fun hd6 => by omega) h
  | succ k ih =>
    intro Dc Dm d hd h1 h2 A z m s t h
    obtain ⟨C, rfl⟩ : ∃ C, Dc = C + 3 := ⟨Dc - 3, by omega⟩
    obtain ⟨M, rfl⟩ : ∃ M, Dm = M + 3 := ⟨Dm - 3, by omega⟩
    refine SIM_mono (by omega) (sim_sum hT (RGC (C + 2)) (RGM (M + 2)) (Ho := 2 * k + 4) (fun A z m s t h => ?_) h)
    refine sim_term hT (RGC (C + 1)) (RGM (M + 1)) (Ho := 2 * k + 3) (fun A z m s t h => ?_) h
    exact sim_atom hT (by omega) (Nat.le_refl (2 * k + 3)) (RGC C) (RGM M) (fun _ => ih C M (d + 1) (by omega) (by omega) (by omega)) h
theorem rg_comp {s0 t0 : St} {T : Nat → Int32} {L : Nat} (hT : TB s0 t0 T L) {k C M d : Nat} (hd : d + k = 6) (h1 : 3 * k + 3 ≤ C) (h2 : 3 * k + 3 ≤ M) (A z m : Nat) (s t : St) (h : NP s0 t0 L A d z m s t) : SIM s0 t0 L A d z m 1 (2 * k + 4) s t (F_X9_readUnit (RGC C) 1) (F_X12_compare (RGM M)) :=
  sim_comp hT (RGC C) (RGM M) (rg_sum hT k C M d hd h1 h2) h
theorem comp_F {t0 t : St} {f A d m : Nat} (h : FM t0 f A d m t) (hf : f ≤ 160) (p : RTM) : ∃ t', F_X12_compare p t = some t' ∧ FM t0 f A d m t' := by
  obtain ⟨t', g1, g2⟩ := M_badF h hf
  refine ⟨t', ?_, g2⟩
  unfold F_X12_compare
  rw [h.2.1, if_neg (nI_f hf), if_pos (by decide), g1, bind_some]
/-- a unit at the k'th depth from below -/
def PU (s0 t0 : St) (L k : Nat) : Prop := ∀ (Dc Dm d : Nat), d + k = 6 → 3 * k + 4 ≤ Dc → 3 * k + 5 ≤ Dm → ∀ A z m s t, NP s0 t0 L A d z m s t → SIM s0 t0 L A d z m 0 (2 * k + 4) s t ((RGC Dc).2.2.2.2.2 0) (RGM Dm).2.2.2.2.2.1
theorem part_of {s0 t0 : St} {T : Nat → Int32} {L : Nat} (hT : TB s0 t0 T L) {k : Nat} (hU : PU s0 t0 L k) {Dc Dm d e : Nat} {v : Int32} (hv : (v = 0 ∧ e = 0) ∨ (v = 1 ∧ e = 1)) (hd : d + k = 6) (h1 : 3 * k + 5 ≤ Dc) (h2 : 3 * k + 6 ≤ Dm) (A z m : Nat) (s t : St) (h : NP s0 t0 L A d z m s t) : SIM s0 t0 L A d z m e (2 * k + 5) s t ((RGC Dc).2.2.2.2.1 v) ((RGM Dm).2.2.2.2.1 v) := by
  obtain ⟨C, rfl⟩ : ∃ C, Dc = C + 2 := ⟨Dc - 2, by omega⟩
  obtain ⟨M, rfl⟩ : ∃ M, Dm = M + 2 := ⟨Dm - 2, by omega⟩
  have hz1 : z ≤ A := h.2.2.2.2.2.2.2.2.2.2.2.2.1
  have hm1 : m ≤ 2 * A + 1 := h.2.2.2.2.2.2.2.2.2.2.2.2.2
  have hd6 : d ≤ 6 := by omega
  have hq := hU (C + 1) (M + 1) d hd (by omega) (by omega)
  have first : SIM s0 t0 L A d z m e (2 * k + 4) s t ((RGC (C + 1)).2.2.2.2.2 v) (fun t => if v = 0 then (RGM (M + 1)).2.2.2.2.2.1 t else (RGM (M + 1)).2.2.2.2.2.2 t) := by
    rcases hv with ⟨rfl, rfl⟩ | ⟨rfl, rfl⟩
    · obtain ⟨s1, t1, g1, g2, g3⟩ := hq A z m s t h
      exact ⟨s1, t1, g1, by dsimp only; rw [if_pos rfl]; exact g2, g3⟩
    · obtain ⟨s1, t1, g1, g2, g3⟩ := rg_comp hT (k := k) (C := C) (M := M) hd (by omega) (by omega) A z m s t h
      exact ⟨s1, t1, g1, by dsimp only; rw [if_neg (by decide)]; exact g2, g3⟩
  obtain ⟨s1, t1, g1, g2, g3⟩ := first
  obtain ⟨s', t', w1, w2, w3⟩ := loop_part hT (RGC (C + 1)) (RGM (M + 1)) hq hm1 hz1 hd6 g3
  refine ⟨s', t', ?_, ?_, w3⟩
  · show F_X9_readPart (RGC (C + 1)) v s = _
    unfold F_X9_readPart
    rw [g1, bind_some]
    unfold F_X9_readPart_7
    rw [w1, bind_some]
    rfl
  · show F_X12_part (RGM (M + 1)) v t = _
    have w4 : F_X12_part_15 (RGM (M + 1)) t1 = some t' := by
      unfold F_X12_part_15
      rw [w2, bind_some]
      rfl
    unfold F_X12_part
    dsimp only at g2
    by_cases c : v = 0
    · rw [if_pos c] at g2 ⊢
      rw [g2, bind_some, w4]
    · rw [if_neg c] at g2 ⊢
      rw [g2, bind_some, w4]
theorem cond_of {s0 t0 : St} {T : Nat → Int32} {L : Nat} (hT : TB s0 t0 T L) {k : Nat} (hU : PU s0 t0 L k) {Dc Dm d e : Nat} {v : Int32} (hv : (v = 0 ∧ e = 0) ∨ (v = 1 ∧ e = 1)) (hd : d + k = 6) (h1 : 3 * k + 6 ≤ Dc) (h2 : 3 * k + 7 ≤ Dm) (A z m : Nat) (s t : St) (h : NP s0 t0 L A d z m s t) : SIM s0 t0 L A d z m e (2 * k + 6) s t ((RGC Dc).2.2.2.1 v) ((RGM Dm).2.2.2.1 v) := by
  obtain ⟨C, rfl⟩ : ∃ C, Dc = C + 1 := ⟨Dc - 1, by omega⟩
  obtain ⟨M, rfl⟩ : ∃ M, Dm = M + 1 := ⟨Dm - 1, by omega⟩
  have hz1 : z ≤ A := h.2.2.2.2.2.2.2.2.2.2.2.2.1
  have hm1 : m ≤ 2 * A + 1 := h.2.2.2.2.2.2.2.2.2.2.2.2.2
  have hd6 : d ≤ 6 := by omega
  have hq := fun A z m s t h => part_of hT hU (Dc := C) (Dm := M) (d := d) (e := 0) (v := 0) (Or.inl ⟨rfl, rfl⟩) hd (by omega) (by omega) A z m s t h
  obtain ⟨s1, t1, g1, g2, g3⟩ := part_of hT hU (Dc := C) (Dm := M) hv hd (by omega) (by omega) A z m s t h
  obtain ⟨s', t', w1, w2, w3⟩ := loop_condition hT (RGC C) (RGM M) hq hm1 hz1 hd6 g3
  refine ⟨s', t', ?_, ?_, w3⟩
  · show F_X9_readCondition (RGC C) v s = _
    unfold F_X9_readCondition
    rw [g1, bind_some]
    unfold F_X9_readCondition_7
    rw [w1, bind_some]
    rfl
  · show F_X12_condition (RGM M) v t = _
    unfold F_X12_condition
    rw [g2, bind_some]
    unfold F_X12_condition_5
    rw [w2, bind_some]
    rfl
theorem rg_unit {s0 t0 : St} {T : Nat → Int32} {L : Nat} (hT : TB s0 t0 T L) : ∀ k, PU s0 t0 L k := by
  intro k
  induction k with
  | zero =>
    intro Dc Dm d hd h1 h2 A z m s t h
    obtain ⟨C, rfl⟩ : ∃ C, Dc = C + 1 := ⟨Dc - 1, by omega⟩
    obtain ⟨M, rfl⟩ : ∃ M, Dm = M + 2 := ⟨Dm - 2, by omega⟩
    exact sim_unit hT (Hs := 3) (Hn := 0) (by omega) (by omega) (RGC C) (RGM (M + 1)) (rg_sum hT 0 C (M + 1) d hd (by omega) (by omega)) (rg_comp hT (k := 0) hd (by omega) (by omega)) (fun f A m t hf hF => comp_F hF hf (RGM M)) (fun hh => by omega) (fun hh => by omega) h
  | succ k ih =>
    intro Dc Dm d hd h1 h2 A z m s t h
    obtain ⟨C, rfl⟩ : ∃ C, Dc = C + 1 := ⟨Dc - 1, by omega⟩
    obtain ⟨M, rfl⟩ : ∃ M, Dm = M + 2 := ⟨Dm - 2, by omega⟩
    exact sim_unit hT (Hs := 2 * (k + 1) + 3) (Hn := 2 * k + 6) (by omega) (by omega) (RGC C) (RGM (M + 1)) (rg_sum hT (k + 1) C (M + 1) d hd (by omega) (by omega)) (rg_comp hT (k := k + 1) hd (by omega) (by omega)) (fun f A m t hf hF => comp_F hF hf (RGM M)) (fun hh A z m s t h => SIM_mono (by omega) (ih C (M + 1) (d + 1) (by omega) (by omega) (by omega) A z m s t h)) (fun hh A z m s t h => cond_of hT ih (Or.inl ⟨rfl, rfl⟩) (by omega) (by omega) (by omega) A z m s t h) h
