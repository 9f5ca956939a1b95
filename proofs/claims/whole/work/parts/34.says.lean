/-! the first clause of a label that holds: the reference -/
/-- the condition's steps as the reference has them -/
def cT (c : Cla) : List Int32 := if c.2.1 = [] then [1] else c.2.1
theorem caM_eq (c : Cla) : caM c = stA 0 c.1 :: ((cT c).flatMap tkM ++ [2] ++ (c.2.2.flatMap tkM ++ [3])) := by
  unfold caM cT
  by_cases h : c.2.1 = []
  · rw [if_pos h, if_pos h]
    simp only [List.flatMap_cons, List.flatMap_nil, List.append_nil, List.append_assoc, List.cons_append, List.nil_append]
    rfl
  · rw [if_neg h, if_neg h]
    simp only [List.append_assoc, List.cons_append, List.nil_append]
theorem cT_h {c : Cla} (h : c.2.1 = [] ∨ tkH c.2.1 0 = some 1) : tkH (cT c) 0 = some 1 := by
  unfold cT
  by_cases e : c.2.1 = []
  · rw [if_pos e]; rfl
  · rw [if_neg e]; exact h.resolve_left e
theorem cT_ev {L : Nat → Int32} {c : Cla} : (¬ ev L (cT c) = 0) ↔ (c.2.1 = [] ∨ ¬ ev L c.2.1 = 0) := by
  unfold cT
  by_cases e : c.2.1 = []
  · rw [if_pos e]
    refine ⟨fun _ => Or.inl e, fun _ => ?_⟩
    have : ev L [1] = 1 := rfl
    rw [this]
    decide
  · rw [if_neg e]
    exact ⟨fun h => Or.inr h, fun h => h.resolve_left e⟩
theorem stA_inj {i k : Nat} (hi : i < 7) (hk : k < 7) : stA 0 i = stA 0 k ↔ i = k := by
  have h : ∀ i k : Fin 7, stA 0 i.val = stA 0 k.val ↔ i.val = k.val := by decide +kernel
  exact h ⟨i, hi⟩ ⟨k, hk⟩
/-- the value of the first clause of a label that holds -/
def fcv (L : Nat → Int32) (k : Nat) : List Cla → Option Int32
  | [] => none
  | c :: cl => if c.1 = k ∧ (c.2.1 = [] ∨ ¬ ev L c.2.1 = 0) then some (ev L c.2.2) else fcv L k cl
theorem fcv_fcl {L : Nat → Int32} {k : Nat} : ∀ {cl : List Cla} {i : Nat}, (fcl L k cl i = none ∧ fcv L k cl = none) ∨ ∃ j c, fcl L k cl i = some j ∧ i ≤ j ∧ cl[j - i]? = some c ∧ fcv L k cl = some (ev L c.2.2)
  | [], i => Or.inl ⟨rfl, rfl⟩
  | c :: cl, i => by
    unfold fcl fcv
    by_cases h : c.1 = k ∧ (c.2.1 = [] ∨ ¬ ev L c.2.1 = 0)
    · rw [if_pos h, if_pos h]
      exact Or.inr ⟨i, c, rfl, Nat.le_refl _, by rw [Nat.sub_self]; rfl, rfl⟩
    · rw [if_neg h, if_neg h]
      rcases fcv_fcl (L := L) (k := k) (cl := cl) (i := i + 1) with h1 | ⟨j, c', h1, h2, h3, h4⟩
      · exact Or.inl h1
      · refine Or.inr ⟨j, c', h1, by omega, ?_, h4⟩
        obtain ⟨d, hd⟩ : ∃ d, j - i = d + 1 := ⟨j - i - 1, by omega⟩
        rw [hd, List.getElem?_cons_succ, ← h3]
        congr 1
        omega
theorem nI420 (j : Nat) (hj : j < 20) : (420 : Int32) * nI j = nI (420 * j) := by
  refine i32_of ?_
  have e1 : (420 : Int32).toInt = 420 := rfl
  have e2 := nI_toInt (n := j) (by omega)
  rw [i32_mul (by rw [e1]; omega) (by rw [e1]; omega), e1, e2]
  omega
theorem M_saysLoop {t : St} {j k T : Nat} (hj : j < 20) (hk : k < 7) (hT : t.2.1 1231 j = nI T) (hT2 : T ≤ 420) : ∀ (cl : List Cla) (p : Nat) (g : Nat → Int32) (F : Nat), clW cl → cdAt t p (cl.flatMap caM) → p + (cl.flatMap caM).length = 420 * j + T → cl.length < F → ∃ g2 p2, lp (B_X12_says_9 (nI j) (stA 0 k)) F (Wk t g p) = some (match fcv (fun i => t.2.1 1241 (lch i)) k cl with
    | none => .inl (Wk t g2 p2)
    | some v => .inr (v, Wk t g2 p2)) := by
  intro cl
  have hts : ∀ (g : Nat → Int32) (p : Nat), rd (Wk t g p) 1231 20 (nI j) = some (nI T) := fun g p => by
    rw [rd_nI hj (by omega)]
    exact congrArg some hT
  have h420 := nI420 j hj
  have hadd : nI (420 * j) + nI T = nI (420 * j + T) := nI_add _ _
  induction cl with
  | nil =>
    intro p g F hW hc hp hF
    obtain ⟨F, rfl⟩ : ∃ F', F = F' + 1 := ⟨F - 1, by simp only [List.length_nil] at hF; omega⟩
    refine ⟨g, p, lp_r ?_⟩
    simp only [List.flatMap_nil, List.length_nil, Nat.add_zero] at hp
    simp (disch := omega) only [B_X12_says_9, hts, bind_some, h420, hadd, Wk_1, nI_leI, fcv]
    rw [if_pos (by omega)]
  | cons c cl ih =>
    intro p g F hW hc hp hF
    obtain ⟨F, rfl⟩ : ∃ F', F = F' + 1 := ⟨F - 1, by rw [List.length_cons] at hF; omega⟩
    rw [List.length_cons] at hF
    rw [List.flatMap_cons, caM_eq, List.cons_append] at hc hp
    obtain ⟨w1, w2, w3⟩ := hW c List.mem_cons_self
    have q0 : t.2.1 1230 p = stA 0 c.1 := cdAt.hd (l := ((cT c).flatMap tkM ++ [2] ++ (c.2.2.flatMap tkM ++ [3])) ++ cl.flatMap caM) hc
    have h1 : cdAt t (p + 1) (((cT c).flatMap tkM ++ [2] ++ (c.2.2.flatMap tkM ++ [3])) ++ cl.flatMap caM) := cdAt.tl (x := stA 0 c.1) hc
    have h2 := h1.left.left
    have h3 := h1.left.app
    have h4 := h1.app
    simp only [List.length_cons, List.length_append, List.length_nil] at hp h3 h4
    have hle : ∀ l : List Int32, l.length ≤ (l.flatMap tkM).length := by
      intro l
      induction l with
      | nil => exact Nat.le_refl 0
      | cons x l ihl =>
        rw [List.flatMap_cons, List.length_append, List.length_cons]
        have : 1 ≤ (tkM x).length := by unfold tkM; split; exact (by decide : 1 ≤ 2); split; exact (by decide : 1 ≤ 2); exact Nat.le_refl 1
        omega
    have hl1 := hle (cT c)
    have hl2 := hle c.2.2
    have k1 := M_work (t := t) (e := 2) (Or.inl rfl) (l := cT c) (p := p + 1) (g := g) (cT_h w2) h2 (by omega) (by omega)
    have hv1 : (evS (fun i => t.2.1 1241 (lch i)) (cT c) g 0).1 0 = ev (fun i => t.2.1 1241 (lch i)) (cT c) := ev_eq (fun _ _ => rfl) (cT_h w2) g
    rw [hv1] at k1
    have k2 := M_work (t := t) (e := 3) (Or.inr rfl) (l := c.2.2) (p := p + 1 + ((cT c).flatMap tkM).length + 1) (g := (evS (fun i => t.2.1 1241 (lch i)) (cT c) g 0).1) w3 (by rw [show p + 1 + ((cT c).flatMap tkM).length + 1 = p + 1 + (((cT c).flatMap tkM).length + (0 + 1)) by omega]; exact h3) (by omega) (by omega)
    have hv2 : (evS (fun i => t.2.1 1241 (lch i)) c.2.2 (evS (fun i => t.2.1 1241 (lch i)) (cT c) g 0).1 0).1 0 = ev (fun i => t.2.1 1241 (lch i)) c.2.2 := ev_eq (fun _ _ => rfl) w3 _
    rw [hv2] at k2
    have c0 : ¬ 420 * j + T ≤ p := by omega
    have hlab : stA 0 c.1 = stA 0 k ↔ c.1 = k := stA_inj w1 hk
    have hnext := ih (p + 1 + ((cT c).flatMap tkM).length + 1 + (c.2.2.flatMap tkM).length + 1) (evS (fun i => t.2.1 1241 (lch i)) c.2.2 (evS (fun i => t.2.1 1241 (lch i)) (cT c) g 0).1 0).1 F (fun c' hc' => hW c' (List.mem_cons_of_mem _ hc')) (by rw [show p + 1 + ((cT c).flatMap tkM).length + 1 + (c.2.2.flatMap tkM).length + 1 = p + 1 + (((cT c).flatMap tkM).length + (0 + 1) + ((c.2.2.flatMap tkM).length + (0 + 1))) by omega]; exact h4) (by omega) (by omega)
    obtain ⟨g2, p2, hn⟩ := hnext
    unfold fcv
    by_cases ck : c.1 = k
    · by_cases cv : ev (fun i => t.2.1 1241 (lch i)) (cT c) = 0
      · rw [if_neg (fun z => (cT_ev.mpr z.2) cv)]
        refine ⟨g2, p2, ?_⟩
        rw [← hn]
        refine lp_l ?_
        simp (disch := omega) only [B_X12_says_9, hts, bind_some, h420, hadd, Wk_1, nI_leI, c0, if_false, Wk_c, q0, hlab, ck, if_true, nI_1, Wk_i, k1, cv, k2]
      · rw [if_pos ⟨ck, cT_ev.mp cv⟩]
        refine ⟨(evS (fun i => t.2.1 1241 (lch i)) c.2.2 (evS (fun i => t.2.1 1241 (lch i)) (cT c) g 0).1 0).1, p + 1 + ((cT c).flatMap tkM).length + 1 + (c.2.2.flatMap tkM).length + 1, lp_r ?_⟩
        simp (disch := omega) only [B_X12_says_9, hts, bind_some, h420, hadd, Wk_1, nI_leI, c0, if_false, Wk_c, q0, hlab, ck, if_true, nI_1, Wk_i, k1, cv, k2]
    · rw [if_neg (fun z => ck z.1)]
      refine ⟨g2, p2, ?_⟩
      rw [← hn]
      refine lp_l ?_
      by_cases cv : ev (fun i => t.2.1 1241 (lch i)) (cT c) = 0
      · simp (disch := omega) only [B_X12_says_9, hts, bind_some, h420, hadd, Wk_1, nI_leI, c0, if_false, Wk_c, q0, hlab, ck, nI_1, Wk_i, k1, cv, if_true, k2]
      · simp (disch := omega) only [B_X12_says_9, hts, bind_some, h420, hadd, Wk_1, nI_leI, c0, if_false, Wk_c, q0, hlab, ck, nI_1, Wk_i, k1, cv, k2]
theorem Wk_self (t : St) (p : Nat) : pI t 1243 (nI p) = Wk t (t.2.1 1242) p := by
  unfold pI Wk
  have : va_up t.2.1 1242 (t.2.1 1242) = t.2.1 := by
    funext j; unfold va_up; split
    · next e => rw [e]
    · rfl
  rw [this]
/-- the reference finds it -/
theorem M_says {t : St} {j k : Nat} {cl : List Cla} (hj : j < 20) (hk : k < 7) (hc : clM t j cl) (hW : clW cl) (hl : cl.length ≤ 41) : ∃ g2 p2, F_X12_says (nI j) (stA 0 k) t = some (match fcv (fun i => t.2.1 1241 (lch i)) k cl with
    | none => (0, Wk t g2 p2)
    | some v => (1, pI (Wk t g2 p2) 1244 v)) := by
  obtain ⟨h1, h2, h3⟩ := hc
  obtain ⟨g2, p2, hs⟩ := M_saysLoop (t := t) hj hk h1 h2 cl (420 * j) (t.2.1 1242) FU hW (fun i x hx => h3 i x hx) rfl (FU_lt (by omega))
  refine ⟨g2, p2, ?_⟩
  unfold F_X12_says F_X12_says_9
  rw [nI420 j hj, wI_ok, bind_some, Wk_self, hs]
  cases fcv (fun i => t.2.1 1241 (lch i)) k cl with
  | none => rfl
  | some v => rfl
