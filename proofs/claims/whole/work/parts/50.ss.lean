/-! states that are the same but for the scratch -/
def scI (k : Nat) : Bool := Nat.beq k 9 || Nat.beq k 902 || Nat.beq k 903 || Nat.beq k 904 || Nat.beq k 906 || Nat.beq k 908 || Nat.beq k 909 || Nat.beq k 1236 || Nat.beq k 1237 || Nat.beq k 1238 || Nat.beq k 1239 || Nat.beq k 1243 || Nat.beq k 1244
def scA (k : Nat) : Bool := Nat.beq k 7 || Nat.beq k 8 || Nat.beq k 305 || Nat.beq k 604 || Nat.beq k 605 || Nat.beq k 606 || Nat.beq k 607 || Nat.beq k 608 || Nat.beq k 609 || Nat.beq k 610 || Nat.beq k 611 || Nat.beq k 704 || Nat.beq k 808 || Nat.beq k 809 || Nat.beq k 810 || Nat.beq k 905 || Nat.beq k 907 || Nat.beq k 1203 || Nat.beq k 1229 || Nat.beq k 1241 || Nat.beq k 1242 || Nat.beq k 1245 || Nat.beq k 1246 || Nat.beq k 1247 || Nat.beq k 1248 || Nat.beq k 1249 || Nat.beq k 1250 || Nat.beq k 1251 || Nat.beq k 1252 || Nat.beq k 1253 || Nat.beq k 1255 || Nat.beq k 1273 || Nat.beq k 1274 || Nat.beq k 1292
def nS (s : St) : St := (fun k => bif scI k then 0 else s.1 k, fun k => bif scA k then fun _ => 0 else s.2.1 k, s.2.2)
def SS (s s' : St) : Prop := nS s' = nS s
theorem SS.refl (s : St) : SS s s := rfl
theorem SS.r {s s' : St} (h : SS s s') : s'.2.2 = s.2.2 := by
  have h1 : (nS s').2.2 = (nS s).2.2 := by rw [show nS s' = nS s from h]
  exact h1
theorem SS.trans {s s' s'' : St} (h : SS s s') (h2 : SS s' s'') : SS s s'' := Eq.trans h2 h
theorem SS.symm {s s' : St} (h : SS s s') : SS s' s := Eq.symm h
theorem SS.i {s s' : St} (h : SS s s') {k : Nat} (hk : scI k = false) : s'.1 k = s.1 k := by
  have h1 : (nS s').1 k = (nS s).1 k := by rw [show nS s' = nS s from h]
  simp only [nS, hk, cond_false] at h1
  exact h1
theorem SS.a {s s' : St} (h : SS s s') {k : Nat} (hk : scA k = false) : s'.2.1 k = s.2.1 k := by
  have h1 : (nS s').2.1 k = (nS s).2.1 k := by rw [show nS s' = nS s from h]
  simp only [nS, hk, cond_false] at h1
  exact h1
theorem SS_pI (s : St) {k : Nat} (v : Int32) (hk : scI k = true) : SS s (pI s k v) := by
  have e : (fun j => bif scI j then (0 : Int32) else upd s.1 k v j) = fun j => bif scI j then 0 else s.1 j := by
    funext j
    by_cases c : j = k
    · rw [c, hk]; rfl
    · have : upd s.1 k v j = s.1 j := if_neg c
      rw [this]
  exact congrArg (fun z => ((z, (nS s).2) : St)) e
theorem SS_setA (s : St) {k : Nat} (f : Nat → Int32) (hk : scA k = true) : SS s (setA s k f) := by
  have e : (fun j => bif scA j then (fun _ => (0 : Int32)) else va_up s.2.1 k f j) = fun j => bif scA j then (fun _ => 0) else s.2.1 j := by
    funext j
    by_cases c : j = k
    · rw [c, hk]; rfl
    · have : va_up s.2.1 k f j = s.2.1 j := if_neg c
      rw [this]
  exact congrArg (fun z => (((nS s).1, z, s.2.2) : St)) e
theorem SS_sA (s : St) {k : Nat} (j : Nat) (v : Int32) (hk : scA k = true) : SS s (sA s k j v) := SS_setA s _ hk
theorem SS_pF (s : St) {k : Nat} (n : Nat) (v : Int32) (hk : scA k = true) : SS s (pF s k n v) := SS_setA s _ hk
theorem SS_CL (s : St) (l f : Nat → Int32) (x : Int32) : SS s (CL s l f x) := (SS_pI s (k := 9) x rfl).trans ((SS_setA _ (k := 7) l rfl).trans (SS_setA _ (k := 8) f rfl))
theorem SS_ML (t : St) (l g : Nat → Int32) (p v : Int32) : SS t (ML t l g p v) := (SS_pI t (k := 1243) p rfl).trans ((SS_pI _ (k := 1244) v rfl).trans ((SS_setA _ (k := 1241) l rfl).trans (SS_setA _ (k := 1242) g rfl)))
theorem RX.toN {N : Int} {s t : St} (h : RX N s t) : RX N (nS s) (nS t) := ⟨h.now, h.folk, h.cnt, h.rec, h.trt, h.sch, h.blt, h.shut, h.tape, h.yard, h.prom, h.given, h.staff, h.roof, h.site, h.purse, h.land, h.law, h.ref, h.row⟩
theorem RX.ofN {N : Int} {s t : St} (h : RX N (nS s) (nS t)) : RX N s t := ⟨h.now, h.folk, h.cnt, h.rec, h.trt, h.sch, h.blt, h.shut, h.tape, h.yard, h.prom, h.given, h.staff, h.roof, h.site, h.purse, h.land, h.law, h.ref, h.row⟩
theorem RX.ss {N : Int} {s t s' t' : St} (h : RX N s t) (e1 : SS s s') (e2 : SS t t') : RX N s' t' := by
  refine RX.ofN ?_
  rw [show nS s' = nS s from e1, show nS t' = nS t from e2]
  exact h.toN
theorem lcl_ss {s s' : St} (e : SS s s') : lcl s' = lcl s := by
  funext j
  unfold lcl clC
  rw [e.r]
theorem wq_ss {N : Int} {s t s' t' : St} (h : RX N s t) (e1 : SS s s') (e2 : SS t t') (k : Nat) (shire year q a b c d : Int32) : wq s' t' k shire year q a b c d = wq s t k shire year q a b c d := by
  have h0 : wo s' t' k shire year q 0 a b c d = wo s t' k shire year q 0 a b c d := by
    unfold wo
    rw [lcl_ss e1]
  unfold wq
  rw [h0, wo_same h (e2.i (k := 1240) rfl) (e2.a (k := 1232) rfl) (e2.a (k := 1233) rfl) (e2.a (k := 1234) rfl)]
theorem mayT_ss {N : Int} {s t s' t' : St} (h : RX N s t) (e1 : SS s s') (e2 : SS t t') (i : Nat) (shire y q : Int32) (m : Nat) : mayT s' t' i shire y q m = mayT s t i shire y q m := by
  unfold mayT
  rw [wq_ss h e1 e2, e2.a (k := 1270) rfl, e2.a (k := 1268) rfl, e2.a (k := 1269) rfl]
/-- a question that both ask at a state -/
theorem askS {N : Int} {s t : St} (h : RX N s t) {k : Nat} (hk : k < 7) {shire year q a b c d : Int32} (hsh : 0 ≤ shire.toInt) : ∃ (s3 t3 : St) (l f l2 g : Nat → Int32) (x p v : Int32), F_X0_spell a b c d s = some s3 ∧ F_X12_tell year shire a b c d t = some t3 ∧ F_X0_worthOf (nI k) shire year q 0 s3 = some (wq s t k shire year q a b c d, CL s l f x) ∧ F_X12_worthOf shire year q (stA 0 k) t3 = some (wq s t k shire year q a b c d, ML t l2 g p v) ∧ (∃ l0 f0 x0, s3 = CL s l0 f0 x0) ∧ (∃ l0 g0 p0 w0, t3 = ML t l0 g0 p0 w0) ∧ tl l2 year shire a b c d := by
  obtain ⟨s3, t3, l, f, l2, g, x, p, v, a1, a2, a3, a4, a5, a6, _, a8⟩ := ask_det h hk (shire := shire) (year := year) (q := q) (a := a) (b := b) (c := c) (d := d) hsh (s.2.1 7) (s.2.1 8) (s.1 9) (t.2.1 1241) (t.2.1 1242) (t.1 1243) (t.1 1244)
  rw [CL_self] at a1
  rw [ML_self] at a2
  exact ⟨s3, t3, l, f, l2, g, x, p, v, a1, a2, a3, a4, a5, a6, a8⟩
theorem flf_lt {f : Nat → Int32} {n j : Nat} {v : Int32} (h : j < n) : flf f n v j = v := if_pos h
theorem pF_setA (s : St) (k n : Nat) (v : Int32) : pF s k n v = setA s k (flf (s.2.1 k) n v) := rfl
theorem sA_setA (s : St) (k j : Nat) (v : Int32) : sA s k j v = setA s k (upd (s.2.1 k) j v) := rfl
theorem setA_at (s : St) (k : Nat) (f : Nat → Int32) : (setA s k f).2.1 k = f := if_pos rfl
theorem sA_at (s : St) (k j : Nat) (v : Int32) : (sA s k j v).2.1 k = upd (s.2.1 k) j v := if_pos rfl
theorem upd_at (f : Nat → Int32) (j : Nat) (v : Int32) : upd f j v j = v := if_pos rfl
theorem upd_ne (f : Nat → Int32) {j i : Nat} (v : Int32) (h : ¬ i = j) : upd f j v i = f i := if_neg h
