/-! which law is in force and what it is worth, on both sides -/
def CL (s : St) (l f : Nat → Int32) (x : Int32) : St := (upd s.1 9 x, va_up (va_up s.2.1 7 l) 8 f, s.2.2)
theorem CL_set (s : St) (l f g : Nat → Int32) (x : Int32) : setA (CL s l f x) 8 g = CL s l g x := by
  unfold setA CL
  simp only [va_upup]
theorem CL_I (s : St) (l f : Nat → Int32) (x y : Int32) : pI (CL s l f x) 9 y = CL s l f y := by
  unfold pI CL
  have : upd (upd s.1 9 x) 9 y = upd s.1 9 y := by funext j; unfold upd; split <;> rfl
  simp only [this]
def MS (t : St) (g : Nat → Int32) (p v : Int32) : St := (upd (upd t.1 1243 p) 1244 v, va_up t.2.1 1242 g, t.2.2)
theorem MS_self (t : St) : MS t (t.2.1 1242) (t.1 1243) (t.1 1244) = t := by
  unfold MS
  have h1 : upd (upd t.1 1243 (t.1 1243)) 1244 (t.1 1244) = t.1 := by
    funext j; unfold upd; split
    · next e => rw [e]
    · split
      · next e => rw [e]
      · rfl
  have h2 : va_up t.2.1 1242 (t.2.1 1242) = t.2.1 := by
    funext j; unfold va_up; split
    · next e => rw [e]
    · rfl
  rw [h1, h2]
theorem MS_Wk (t : St) (g g2 : Nat → Int32) (p v : Int32) (p2 : Nat) : Wk (MS t g p v) g2 p2 = MS t g2 (nI p2) v := by
  unfold Wk MS
  have h1 : upd (upd (upd t.1 1243 p) 1244 v) 1243 (nI p2) = upd (upd t.1 1243 (nI p2)) 1244 v := by
    funext j; unfold upd
    by_cases e : j = 1243
    · subst e; rfl
    · simp [e]
  simp only [va_upup, h1]
theorem MS_I (t : St) (g : Nat → Int32) (p v w : Int32) : pI (MS t g p v) 1244 w = MS t g p w := by
  unfold pI MS
  have : upd (upd (upd t.1 1243 p) 1244 v) 1244 w = upd (upd t.1 1243 p) 1244 w := by funext j; unfold upd; split <;> rfl
  simp only [this]
theorem MS_MS (t : St) (g g2 : Nat → Int32) (p p2 v v2 : Int32) : MS (MS t g p v) g2 p2 v2 = MS t g2 p2 v2 := by
  unfold MS
  have : upd (upd (upd (upd t.1 1243 p) 1244 v) 1243 p2) 1244 v2 = upd (upd t.1 1243 p2) 1244 v2 := by
    funext j; unfold upd
    by_cases e : j = 1244
    · simp [e]
    · by_cases e2 : j = 1243
      · simp [e2]
      · simp [e, e2]
  simp only [va_upup, this]
/-- whose laws are looked at -/
def his (t : St) (shire whose : Int32) (n : Nat) : Bool := if t.2.1 1232 n = -1 then decide (¬ whose = 2) else if t.2.1 1232 n = shire then decide (¬ whose = 1) else false
def lge (t : St) (o : Option (Nat × Int32)) (n : Nat) : Bool := match o with
  | none => true
  | some (b, _) => decide (¬ t.2.1 1233 n < t.2.1 1233 b)
/-- the law in force among the first n, and its worth -/
def lawB (t : St) (cls : Nat → List Cla) (L : Nat → Int32) (shire year q : Int32) (k : Nat) (whose : Int32) : Nat → Option (Nat × Int32)
  | 0 => none
  | n + 1 => if his t shire whose n = true ∧ ¬ q < t.2.1 1234 n ∧ ¬ year < t.2.1 1233 n ∧ lge t (lawB t cls L shire year q k whose n) n = true then (match fcv L k (cls n) with
    | some v => some (n, v)
    | none => lawB t cls L shire year q k whose n) else lawB t cls L shire year q k whose n
theorem lawB_lt {t : St} {cls : Nat → List Cla} {L : Nat → Int32} {shire year q : Int32} {k : Nat} {whose : Int32} : ∀ {n b : Nat} {v : Int32}, lawB t cls L shire year q k whose n = some (b, v) → b < n
  | 0, b, v, h => by cases h
  | n + 1, b, v, h => by
    unfold lawB at h
    split at h
    · split at h
      · cases h; exact Nat.lt_succ_self _
      · exact Nat.lt_succ_of_lt (lawB_lt h)
    · exact Nat.lt_succ_of_lt (lawB_lt h)
def lawI (o : Option (Nat × Int32)) : Int32 := oI (o.map Prod.fst)
def lawV (o : Option (Nat × Int32)) : Int32 := match o with
  | some (_, v) => v
  | none => 0
theorem C_binds {s t : St} (hl : s.2.1 1 = t.2.1 1232) {n : Nat} (hn : n < 20) (shire whose : Int32) : F_X0_binds (nI n) shire whose s = some (bI (his t shire whose n)) := by
  unfold F_X0_binds his
  simp (disch := omega) only [rd_nI, bind_some, hl]
  by_cases c1 : t.2.1 1232 n = -1
  · simp only [c1, if_true]
    by_cases c2 : whose = 2
    · simp [c2, bI]
    · simp [c2, bI]
  · simp only [c1, if_false]
    by_cases c2 : t.2.1 1232 n = shire
    · simp only [c2, if_true]
      by_cases c3 : whose = 1
      · simp [c3, bI]
      · simp [c3, bI]
    · simp [c2, bI]
def M_G (t : St) (year q ch b w : Int32) (j : Nat) : Option ((Int32 × Int32 × Int32 × St) ⊕ (Int32 × Int32 × St)) := (rd t 1234 20 (nI j)).bind fun x2 =>
  if q < x2 then some (.inl (b, w, (nI j + 1), t)) else
  (rd t 1233 20 (nI j)).bind fun x3 =>
  if year < x3 then some (.inl (b, w, (nI j + 1), t)) else
  if b = (-1) then
    (F_X12_says (nI j) ch t).bind fun r4 =>
    if r4.1 = 0 then some (.inl (b, w, (nI j + 1), r4.2)) else some (.inl (nI j, (r4.2.1 1244), (nI j + 1), r4.2))
  else
    (rd t 1233 20 (nI j)).bind fun x5 =>
    (rd t 1233 20 b).bind fun x6 =>
    if x6 ≤ x5 then
      (F_X12_says (nI j) ch t).bind fun r7 =>
      if r7.1 = 0 then some (.inl (b, w, (nI j + 1), r7.2)) else some (.inl (nI j, (r7.2.1 1244), (nI j + 1), r7.2))
    else some (.inl (b, w, (nI j + 1), t))
theorem M_body {t : St} {shire year q ch whose b w x2 : Int32} {j : Nat} (hn : ¬ t.1 1240 ≤ nI j) (m2 : rd t 1232 20 (nI j) = some x2) (hs : ¬ shire = -1) : B_X12_lawFor_9 shire year q ch whose (b, w, nI j, t) = if (if x2 = -1 then decide (¬ whose = 2) else if x2 = shire then decide (¬ whose = 1) else false) = true then M_G t year q ch b w j else some (.inl (b, w, nI j + 1, t)) := by
  have n21 : ¬ (2 : Int32) = 1 := by decide
  have hs2 : ¬ (-1 : Int32) = shire := fun z => hs z.symm
  show (if t.1 1240 ≤ nI j then _ else _) = _
  rw [if_neg hn]
  by_cases c1 : whose = 2
  · rw [if_pos c1, c1, if_neg n21, m2]
    simp only [bind_some]
    by_cases c2 : x2 = -1
    · rw [c2, if_neg hs2]
      simp
    · by_cases c3 : x2 = shire
      · rw [if_pos c3]
        simp only [c2, c3, if_false, if_true, n21, not_false_eq_true, decide_true, hs]
        rfl
      · rw [if_neg c3]
        simp [c2, c3]
  · rw [if_neg c1, m2]
    simp only [bind_some]
    by_cases c2 : x2 = -1
    · rw [if_pos c2]
      simp only [c2, if_true, c1, not_false_eq_true, decide_true]
      rfl
    · rw [if_neg c2]
      by_cases c4 : whose = 1
      · rw [if_pos c4]
        simp [c2, c4]
      · rw [if_neg c4]
        by_cases c3 : x2 = shire
        · rw [if_pos c3]
          simp only [c2, c3, if_false, if_true, c4, not_false_eq_true, decide_true, hs]
          rfl
        · rw [if_neg c3]
          simp [c2, c3]
theorem M_exit {t : St} {shire year q ch whose b w x : Int32} (hn : t.1 1240 ≤ x) : B_X12_lawFor_9 shire year q ch whose (b, w, x, t) = some (.inr (b, w, t)) := by
  show (if t.1 1240 ≤ x then _ else _) = _
  rw [if_pos hn]
set_option maxHeartbeats 1000000 in
theorem law_loop {s t : St} (h : RLaw s t) (hR : RRef s s) {k : Nat} (hk : k < 7) {shire year q whose : Int32} (hsh : 0 ≤ shire.toInt) {l : Nat → Int32} (hL : ∀ i, i < 6 → l i = t.2.1 1241 (lch i)) {cls : Nat → List Cla} (hcls : ∀ j : Nat, (j : Int) < (t.1 1240).toInt → clC s j (cls j) ∧ clM t j (cls j) ∧ clW (cls j) ∧ ∀ k : Nat, k < 7 → (bt (s.2.1 4 j) k = true ↔ ∃ c ∈ cls j, c.1 = k)) {n : Nat} (en : t.1 1240 = nI n) (hn : n ≤ 20) (f0 : Nat → Int32) :
    ∃ y w, lp (B_X0_worthOf_28 (nI k) shire year q whose) FU (-1, 0, 0, CL s l f0 (-1)) = some y ∧ lp (B_X12_lawFor_9 shire year q (stA 0 k) whose) FU (-1, 0, 0, t) = some w ∧ (∃ f, y.2 = CL s l f (lawI (lawB t cls l shire year q k whose n))) ∧ (match lawB t cls l shire year q k whose n with
      | none => y.1 = -1
      | some (b, v) => ∃ i c, y.1 = nI (4 * i) ∧ (cls b)[i]? = some c ∧ v = ev l c.2.2) ∧ w.1 = lawI (lawB t cls l shire year q k whose n) ∧ w.2.1 = lawV (lawB t cls l shire year q k whose n) ∧ ∃ g p v, w.2.2 = MS t g p v := by
  obtain ⟨z0, z1, z2, z3, z4, z5, z6, z7⟩ := h
  have hLM : (fun i => t.2.1 1241 (lch i)) = fun i => t.2.1 1241 (lch i) := rfl
  have hfc : ∀ cl, clW cl → fcv (fun i => t.2.1 1241 (lch i)) k cl = fcv l k cl := by
    intro cl
    induction cl with
    | nil => intro _; rfl
    | cons c cl ih =>
      intro hW
      obtain ⟨w1, w2, w3⟩ := hW c List.mem_cons_self
      have e1 : ev l c.2.2 = ev (fun i => t.2.1 1241 (lch i)) c.2.2 := ev_eq (L := l) (L2 := fun i => t.2.1 1241 (lch i)) hL w3 _
      unfold fcv
      rw [ih (fun c' hc' => hW c' (List.mem_cons_of_mem _ hc')), e1]
      rcases w2 with w2 | w2
      · simp only [w2, true_or]
      · have e2 : ev l c.2.1 = ev (fun i => t.2.1 1241 (lch i)) c.2.1 := ev_eq (L := l) (L2 := fun i => t.2.1 1241 (lch i)) hL w2 _
        rw [e2]
  have key := lp_two (B := B_X0_worthOf_28 (nI k) shire year q whose) (B2 := B_X12_lawFor_9 shire year q (stA 0 k) whose)
    (fun m x z => ∃ j : Nat, j ≤ n ∧ m = n - j ∧ x.2.2.1 = nI j ∧ z.2.2.1 = nI j ∧ (∃ f, x.2.2.2 = CL s l f (lawI (lawB t cls l shire year q k whose j))) ∧ (match lawB t cls l shire year q k whose j with
      | none => x.1 = -1 ∧ x.2.1 = 0
      | some (b, v) => (∃ i c, x.1 = nI (4 * i) ∧ (cls b)[i]? = some c ∧ v = ev l c.2.2) ∧ x.2.1 = t.2.1 1233 b) ∧ z.1 = lawI (lawB t cls l shire year q k whose j) ∧ z.2.1 = lawV (lawB t cls l shire year q k whose j) ∧ ∃ g p v, z.2.2.2 = MS t g p v)
    (fun y w => (∃ f, y.2 = CL s l f (lawI (lawB t cls l shire year q k whose n))) ∧ (match lawB t cls l shire year q k whose n with
      | none => y.1 = -1
      | some (b, v) => ∃ i c, y.1 = nI (4 * i) ∧ (cls b)[i]? = some c ∧ v = ev l c.2.2) ∧ w.1 = lawI (lawB t cls l shire year q k whose n) ∧ w.2.1 = lawV (lawB t cls l shire year q k whose n) ∧ ∃ g p v, w.2.2 = MS t g p v) (by
      rintro m ⟨ci, lat, kx, s'⟩ ⟨z1', z2', z3', t'⟩ ⟨j, g1, g2, g3, g4, ⟨f, g5⟩, g6, g7, g8, g, p, v, g9⟩
      dsimp only at g3 g4 g5 g6 g7 g8 g9
      subst g3 g4 g5 g7 g8 g9
      have hs0 : (CL s l f (lawI (lawB t cls l shire year q k whose j))).1 0 = nI n := z0.trans en
      have ht0 : (MS t g p v).1 1240 = nI n := en
      by_cases hj : j = n
      · right
        subst hj
        refine ⟨(ci, CL s l f (lawI (lawB t cls l shire year q k whose j))), (lawI (lawB t cls l shire year q k whose j), lawV (lawB t cls l shire year q k whose j), MS t g p v), ?_, ?_, ⟨f, rfl⟩, ?_, rfl, rfl, g, p, v, rfl⟩
        · simp (disch := omega) only [B_X0_worthOf_28, hs0, nI_leI, Nat.le_refl, if_true]
        · exact M_exit (by rw [ht0]; exact Int32.le_refl _)
        · cases hB : lawB t cls l shire year q k whose j with
          | none => rw [hB] at g6; exact g6.1
          | some o => obtain ⟨b, v2⟩ := o; rw [hB] at g6; exact g6.1
      · left
        have hjn : j < n := by omega
        have hj20 : j < 20 := by omega
        have c0 : ¬ n ≤ j := by omega
        obtain ⟨k1, k2, k3, k4⟩ := hcls j (by rw [en, nI_toInt (by omega)]; omega)
        have hcl41 : (cls j).length ≤ 41 := by obtain ⟨a, b, m, P, Q, _, _, _, _, _, h41, _⟩ := k1; exact h41
        -- the class's reads
        have r3 : rd (CL s l f (lawI (lawB t cls l shire year q k whose j))) 3 20 (nI j) = some (t.2.1 1234 j) := by rw [rd_nI hj20 (by omega)]; exact congrArg some (congrFun z4 j)
        have r4 : rd (CL s l f (lawI (lawB t cls l shire year q k whose j))) 4 20 (nI j) = some (s.2.1 4 j) := by rw [rd_nI hj20 (by omega)]; rfl
        have r2 : rd (CL s l f (lawI (lawB t cls l shire year q k whose j))) 2 20 (nI j) = some (t.2.1 1233 j) := by rw [rd_nI hj20 (by omega)]; exact congrArg some (congrFun z3 j)
        have rb := C_binds (s := CL s l f (lawI (lawB t cls l shire year q k whose j))) (t := t) z2 hj20 shire whose
        obtain ⟨f2, rc⟩ := C_clause (s := CL s l f (lawI (lawB t cls l shire year q k whose j))) hR hj20 hk k1 k3
        rw [CL_set] at rc
        -- the reference's
        have m2 : rd (MS t g p v) 1232 20 (nI j) = some (t.2.1 1232 j) := by rw [rd_nI hj20 (by omega)]; rfl
        have m3 : rd (MS t g p v) 1233 20 (nI j) = some (t.2.1 1233 j) := by rw [rd_nI hj20 (by omega)]; rfl
        have m4 : rd (MS t g p v) 1234 20 (nI j) = some (t.2.1 1234 j) := by rw [rd_nI hj20 (by omega)]; rfl
        obtain ⟨g2', p2', ms⟩ := M_says (t := MS t g p v) hj20 hk k2 k3 hcl41
        have ms2 : fcv (fun i => (MS t g p v).2.1 1241 (lch i)) k (cls j) = fcv l k (cls j) := hfc _ k3
        rw [ms2] at ms
        simp only [MS_Wk, MS_I] at ms
        have hLl : (CL s l f (lawI (lawB t cls l shire year q k whose j))).2.1 7 = l := rfl
        rw [hLl] at rc
        have hbt : ((s.2.1 4 j >>> (nI k &&& 31)) &&& 1 = 1) ↔ bt (s.2.1 4 j) k = true := bt_is _ (by omega)
        have hnolab : ¬ bt (s.2.1 4 j) k = true → fcv l k (cls j) = none := by
          intro hb
          have hno : ∀ c ∈ cls j, ¬ c.1 = k := fun c hc hck => hb ((k4 k hk).mpr ⟨c, hc, hck⟩)
          have : ∀ cl : List Cla, (∀ c ∈ cl, ¬ c.1 = k) → fcv l k cl = none := by
            intro cl
            induction cl with
            | nil => intro _; rfl
            | cons c cl ih =>
              intro hc
              unfold fcv
              rw [if_neg (fun z => hc c List.mem_cons_self z.1)]
              exact ih (fun c' hc' => hc c' (List.mem_cons_of_mem _ hc'))
          exact this _ hno
        have hsneg : ¬ shire = -1 := by intro z; rw [z] at hsh; exact absurd hsh (by decide)
        have e0 : (0 : Int32).toInt = 0 := rfl
        -- one more law that doesn't count
        have hskip : lawB t cls l shire year q k whose (j + 1) = lawB t cls l shire year q k whose j → ∀ (fx gx : Nat → Int32) (px vx : Int32), B_X0_worthOf_28 (nI k) shire year q whose (ci, lat, nI j, CL s l f (lawI (lawB t cls l shire year q k whose j))) = some (.inl (ci, lat, nI (j + 1), CL s l fx (lawI (lawB t cls l shire year q k whose j)))) → B_X12_lawFor_9 shire year q (stA 0 k) whose (lawI (lawB t cls l shire year q k whose j), lawV (lawB t cls l shire year q k whose j), nI j, MS t g p v) = some (.inl (lawI (lawB t cls l shire year q k whose j), lawV (lawB t cls l shire year q k whose j), nI (j + 1), MS t gx px vx)) → ∃ x' z' j', B_X0_worthOf_28 (nI k) shire year q whose (ci, lat, nI j, CL s l f (lawI (lawB t cls l shire year q k whose j))) = some (.inl x') ∧ B_X12_lawFor_9 shire year q (stA 0 k) whose (lawI (lawB t cls l shire year q k whose j), lawV (lawB t cls l shire year q k whose j), nI j, MS t g p v) = some (.inl z') ∧ j' < m ∧ ∃ j : Nat, j ≤ n ∧ j' = n - j ∧ x'.2.2.1 = nI j ∧ z'.2.2.1 = nI j ∧ (∃ f, x'.2.2.2 = CL s l f (lawI (lawB t cls l shire year q k whose j))) ∧ (match lawB t cls l shire year q k whose j with
              | none => x'.1 = -1 ∧ x'.2.1 = 0
              | some (b, v) => (∃ i c, x'.1 = nI (4 * i) ∧ (cls b)[i]? = some c ∧ v = ev l c.2.2) ∧ x'.2.1 = t.2.1 1233 b) ∧ z'.1 = lawI (lawB t cls l shire year q k whose j) ∧ z'.2.1 = lawV (lawB t cls l shire year q k whose j) ∧ ∃ g p v, z'.2.2.2 = MS t g p v := by
          intro hE fx gx px vx hC hM
          refine ⟨_, _, n - (j + 1), hC, hM, by omega, j + 1, by omega, rfl, rfl, rfl, ?_⟩
          rw [hE]
          exact ⟨⟨fx, rfl⟩, g6, rfl, rfl, gx, px, vx, rfl⟩
        have hyR := z6 j
        have hMb := M_body (t := MS t g p v) (shire := shire) (year := year) (q := q) (ch := stA 0 k) (whose := whose) (b := lawI (lawB t cls l shire year q k whose j)) (w := lawV (lawB t cls l shire year q k whose j)) (j := j) (by rw [ht0, nI_leI (by omega) (by omega)]; exact c0) m2 hsneg
        have hhis : (if t.2.1 1232 j = -1 then decide (¬ whose = 2) else if t.2.1 1232 j = shire then decide (¬ whose = 1) else false) = his t shire whose j := rfl
        rw [hhis] at hMb
        by_cases hH : his t shire whose j = true
        · rw [if_pos hH] at hMb
          rw [hH] at rb
          have b10 : ¬ bI true = 0 := by decide
          by_cases c1 : q < t.2.1 1234 j
          · refine hskip (by simp [lawB, c1]) f g p v ?_ ?_
            · simp (disch := omega) only [B_X0_worthOf_28, hs0, nI_leI, c0, if_false, r3, bind_some, c1, if_true, nI_1]
            · rw [hMb]
              simp only [M_G, m4, bind_some, c1, if_true, nI_1]
          · by_cases c2 : year < t.2.1 1233 j
            · refine hskip (by simp [lawB, c2]) f g p v ?_ ?_
              · by_cases cb : bt (s.2.1 4 j) k = true
                · simp (disch := omega) only [B_X0_worthOf_28, hs0, nI_leI, c0, if_false, r3, bind_some, c1, r4, hbt, cb, if_true, rb, b10, r2, c2, nI_1]
                · simp (disch := omega) only [B_X0_worthOf_28, hs0, nI_leI, c0, if_false, r3, bind_some, c1, r4, hbt, cb, Bool.false_eq_true, if_false, nI_1]
              · rw [hMb]
                simp only [M_G, m4, m3, bind_some, c1, c2, if_true, if_false, nI_1]
            · by_cases c3 : lge t (lawB t cls l shire year q k whose j) j = true
              · -- the law is asked
                have hlat : lat ≤ t.2.1 1233 j := by
                  cases hB : lawB t cls l shire year q k whose j with
                  | none => rw [hB] at g6; rw [g6.2, i32_le, e0]; exact hyR.1
                  | some o =>
                    obtain ⟨b, v2⟩ := o
                    rw [hB] at g6 c3
                    rw [g6.2]
                    have := of_decide_eq_true c3
                    rw [i32_lt] at this
                    rw [i32_le]; omega
                have hMG : M_G (MS t g p v) year q (stA 0 k) (lawI (lawB t cls l shire year q k whose j)) (lawV (lawB t cls l shire year q k whose j)) j = (F_X12_says (nI j) (stA 0 k) (MS t g p v)).bind fun r4 => if r4.1 = 0 then some (.inl (lawI (lawB t cls l shire year q k whose j), lawV (lawB t cls l shire year q k whose j), (nI j + 1), r4.2)) else some (.inl (nI j, (r4.2.1 1244), (nI j + 1), r4.2)) := by
                  simp only [M_G, m4, m3, bind_some, c1, c2, if_false]
                  cases hB : lawB t cls l shire year q k whose j with
                  | none => rw [if_pos (show lawI none = -1 from rfl)]
                  | some o =>
                    obtain ⟨b, v2⟩ := o
                    have hb20 : b < 20 := by have := lawB_lt hB; omega
                    rw [if_neg (show ¬ lawI (some (b, v2)) = -1 from nI_neg1 (by omega))]
                    have mb : rd (MS t g p v) 1233 20 (lawI (some (b, v2))) = some (t.2.1 1233 b) := by
                      show rd (MS t g p v) 1233 20 (nI b) = _
                      rw [rd_nI hb20 (by omega)]; rfl
                    rw [hB] at c3
                    have c5 : t.2.1 1233 b ≤ t.2.1 1233 j := by
                      have := of_decide_eq_true c3
                      rw [i32_lt] at this
                      rw [i32_le]; omega
                    rw [mb]
                    simp only [bind_some]
                    rw [if_pos c5]
                rw [hMG, ms] at hMb
                cases hv : fcv l k (cls j) with
                | none =>
                  rw [hv] at hMb
                  simp only [bind_some, if_true] at hMb
                  rcases fcv_fcl (L := l) (k := k) (cl := cls j) (i := 0) with ⟨hf, _⟩ | ⟨i2, c, _, _, _, hf⟩
                  · rw [hf] at rc
                    by_cases cb : bt (s.2.1 4 j) k = true
                    · refine hskip (by simp [lawB, hv]) f2 g2' (nI p2') v ?_ (by rw [hMb, nI_1])
                      simp (disch := omega) only [B_X0_worthOf_28, hs0, nI_leI, c0, if_false, r3, bind_some, c1, r4, hbt, cb, if_true, rb, b10, r2, c2, hlat, rc, Option.map_none, oI_none, nI_1]
                    · refine hskip (by simp [lawB, hv]) f g2' (nI p2') v ?_ (by rw [hMb, nI_1])
                      simp (disch := omega) only [B_X0_worthOf_28, hs0, nI_leI, c0, if_false, r3, bind_some, c1, r4, hbt, cb, Bool.false_eq_true, if_false, nI_1]
                  · rw [hf] at hv; cases hv
                | some vv =>
                  rw [hv] at hMb
                  have n10 : ¬ (1 : Int32) = 0 := by decide
                  simp only [bind_some, n10, if_false] at hMb
                  have cb : bt (s.2.1 4 j) k = true := by
                    cases hb : bt (s.2.1 4 j) k with
                    | true => rfl
                    | false => rw [hnolab (by rw [hb]; decide)] at hv; cases hv
                  rcases fcv_fcl (L := l) (k := k) (cl := cls j) (i := 0) with ⟨_, hf⟩ | ⟨i2, c, hf1, hf2, hf3, hf4⟩
                  · rw [hf] at hv; cases hv
                  · rw [hf1] at rc
                    rw [Nat.sub_zero] at hf3
                    have hi41 : i2 < (cls j).length := (List.getElem?_eq_some_iff.mp hf3).1
                    have hB1 : lawB t cls l shire year q k whose (j + 1) = some (j, vv) := by
                      unfold lawB
                      rw [if_pos ⟨hH, c1, c2, c3⟩, hv]
                    have hvv : vv = ev l c.2.2 := by rw [hf4] at hv; cases hv; rfl
                    have c6 : ¬ oI (Option.map (fun i => 4 * i) (some i2)) = -1 := nI_neg1 (j := 4 * i2) (by omega)
                    refine ⟨(nI (4 * i2), t.2.1 1233 j, nI (j + 1), CL s l f2 (nI j)), (nI j, vv, nI (j + 1), MS t g2' (nI p2') vv), n - (j + 1), ?_, ?_, by omega, j + 1, by omega, rfl, rfl, rfl, ?_⟩
                    · have r2' : rd (CL s l f2 (nI j)) 2 20 (nI j) = some (t.2.1 1233 j) := by rw [rd_nI hj20 (by omega)]; exact congrArg some (congrFun z3 j)
                      simp (disch := omega) only [B_X0_worthOf_28, hs0, nI_leI, c0, if_false, r3, bind_some, c1, r4, hbt, cb, if_true, rb, b10, r2, c2, hlat, rc, c6, wI_ok, CL_I, r2', nI_1]
                      rfl
                    · rw [hMb, nI_1]
                      rfl
                    · rw [hB1]
                      exact ⟨⟨f2, rfl⟩, ⟨⟨i2, c, rfl, hf3, hvv⟩, rfl⟩, rfl, rfl, g2', nI p2', vv, rfl⟩
              · -- an elder one
                cases hB : lawB t cls l shire year q k whose j with
                | none => rw [hB] at c3; exact absurd rfl c3
                | some o =>
                  obtain ⟨b, v2⟩ := o
                  have hb20 : b < 20 := by have := lawB_lt hB; omega
                  have c4 : t.2.1 1233 j < t.2.1 1233 b := by
                    rw [hB] at c3
                    simpa [lge] using c3
                  have c5 : ¬ t.2.1 1233 b ≤ t.2.1 1233 j := by rw [i32_lt] at c4; rw [i32_le]; omega
                  have hlat : ¬ lat ≤ t.2.1 1233 j := by
                    rw [hB] at g6
                    rw [g6.2]; exact c5
                  rw [← hB]
                  refine hskip (by simp [lawB, c3]) f g p v ?_ ?_
                  · by_cases cb : bt (s.2.1 4 j) k = true
                    · simp (disch := omega) only [B_X0_worthOf_28, hs0, nI_leI, c0, if_false, r3, bind_some, c1, r4, hbt, cb, if_true, rb, b10, r2, c2, hlat, nI_1]
                    · simp (disch := omega) only [B_X0_worthOf_28, hs0, nI_leI, c0, if_false, r3, bind_some, c1, r4, hbt, cb, Bool.false_eq_true, if_false, nI_1]
                  · rw [hMb]
                    have mb : rd (MS t g p v) 1233 20 (lawI (lawB t cls l shire year q k whose j)) = some (t.2.1 1233 b) := by
                      rw [hB]
                      show rd (MS t g p v) 1233 20 (nI b) = _
                      rw [rd_nI hb20 (by omega)]; rfl
                    have nb : ¬ lawI (lawB t cls l shire year q k whose j) = -1 := by rw [hB]; exact nI_neg1 (by omega)
                    simp only [M_G, m4, m3, mb, bind_some, c1, c2, c5, nb, if_false, nI_1]
        · rw [if_neg hH] at hMb
          have hHf : his t shire whose j = false := by cases hx : his t shire whose j with
            | true => exact absurd hx hH
            | false => rfl
          rw [hHf] at rb
          have b00 : bI false = 0 := rfl
          refine hskip (by simp [lawB, hHf]) f g p v ?_ (by rw [hMb, nI_1])
          by_cases c1 : q < t.2.1 1234 j
          · simp (disch := omega) only [B_X0_worthOf_28, hs0, nI_leI, c0, if_false, r3, bind_some, c1, if_true, nI_1]
          · by_cases cb : bt (s.2.1 4 j) k = true
            · simp (disch := omega) only [B_X0_worthOf_28, hs0, nI_leI, c0, if_false, r3, bind_some, c1, r4, hbt, cb, if_true, rb, b00, nI_1]
            · simp (disch := omega) only [B_X0_worthOf_28, hs0, nI_leI, c0, if_false, r3, bind_some, c1, r4, hbt, cb, Bool.false_eq_true, if_false, nI_1]) FU FU n (-1, 0, 0, CL s l f0 (-1)) (-1, 0, 0, t) ⟨0, by omega, rfl, rfl, rfl, ⟨f0, rfl⟩, ⟨rfl, rfl⟩, rfl, rfl, t.2.1 1242, t.1 1243, t.1 1244, (MS_self t).symm⟩ (FU_lt (by omega)) (FU_lt (by omega))
  exact key
