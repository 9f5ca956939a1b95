/-! a question's answer is a function of the laws and the question -/
theorem ev_L {L L2 : Nat → Int32} (hL : ∀ i, i < 6 → L i = L2 i) {l : List Int32} (ht : tkH l 0 = some 1) : ev L l = ev L2 l := ev_eq hL ht _
theorem fcv_L {L L2 : Nat → Int32} (hL : ∀ i, i < 6 → L i = L2 i) {k : Nat} : ∀ {cl : List Cla}, clW cl → fcv L k cl = fcv L2 k cl
  | [], _ => rfl
  | c :: cl, w => by
    have hc := w c (List.mem_cons_self ..)
    have ih := fcv_L hL (k := k) (cl := cl) (fun d hd => w d (List.mem_cons_of_mem _ hd))
    have h2 : ev L c.2.2 = ev L2 c.2.2 := ev_L hL hc.2.2
    have h1 : (c.2.1 = [] ∨ ¬ ev L c.2.1 = 0) ↔ (c.2.1 = [] ∨ ¬ ev L2 c.2.1 = 0) := by
      rcases hc.2.1 with e | e
      · exact ⟨fun _ => Or.inl e, fun _ => Or.inl e⟩
      · rw [ev_L hL e]
    unfold fcv
    by_cases q : c.1 = k ∧ (c.2.1 = [] ∨ ¬ ev L2 c.2.1 = 0)
    · rw [if_pos q, if_pos ⟨q.1, h1.mpr q.2⟩, h2]
    · rw [if_neg q, if_neg (fun e => q ⟨e.1, h1.mp e.2⟩), ih]
theorem lawB_L {t t' : St} (e1 : t'.2.1 1232 = t.2.1 1232) (e2 : t'.2.1 1233 = t.2.1 1233) (e3 : t'.2.1 1234 = t.2.1 1234) {cls : Nat → List Cla} {L L2 : Nat → Int32} (hL : ∀ i, i < 6 → L i = L2 i) {shire year q : Int32} {k : Nat} {whose : Int32} : ∀ n : Nat, (∀ j, j < n → clW (cls j)) → lawB t' cls L shire year q k whose n = lawB t cls L2 shire year q k whose n
  | 0, _ => rfl
  | n + 1, hc => by
    have ih := lawB_L e1 e2 e3 (cls := cls) hL (shire := shire) (year := year) (q := q) (k := k) (whose := whose) n (fun j hj => hc j (by omega))
    unfold lawB his lge
    rw [ih, e1, e2, e3, fcv_L hL (hc n (by omega))]
theorem MS_ML (t : St) (l g g2 : Nat → Int32) (p p2 v v2 : Int32) : MS (ML t l g p v) g2 p2 v2 = ML t l g2 p2 v2 := by
  unfold MS ML
  have h1 : upd (upd (upd (upd t.1 1243 p) 1244 v) 1243 p2) 1244 v2 = upd (upd t.1 1243 p2) 1244 v2 := by
    funext j; unfold upd
    by_cases e : j = 1244
    · simp [e]
    · by_cases e2 : j = 1243
      · simp [e2]
      · simp [e, e2]
  simp only [va_upup, h1]
def L0 (year shire a b c d : Int32) : Nat → Int32 := fun i => ([year, shire, a, b, c, d] : List Int32).getD i 0
/-- what a question is worth -/
noncomputable def wo (s t : St) (k : Nat) (shire year q whose a b c d : Int32) : Option (Nat × Int32) := lawB t (lcl s) (L0 year shire a b c d) shire year q k whose (t.1 1240).toInt.toNat
noncomputable def wq (s t : St) (k : Nat) (shire year q a b c d : Int32) : Int32 := wv k (wo s t k shire year q 0 a b c d)
theorem ask_det {N : Int} {s t : St} (h : RX N s t) {k : Nat} (hk : k < 7) {shire year q a b c d : Int32} (hsh : 0 ≤ shire.toInt) (l f : Nat → Int32) (x : Int32) (l2 g : Nat → Int32) (p v : Int32) : ∃ (s3 t3 : St) (l' f' l2' g' : Nat → Int32) (x' p' v' : Int32), F_X0_spell a b c d (CL s l f x) = some s3 ∧ F_X12_tell year shire a b c d (ML t l2 g p v) = some t3 ∧ F_X0_worthOf (nI k) shire year q 0 s3 = some (wq s t k shire year q a b c d, CL s l' f' x') ∧ F_X12_worthOf shire year q (stA 0 k) t3 = some (wq s t k shire year q a b c d, ML t l2' g' p' v') ∧ (∃ l0 f0 x0, s3 = CL s l0 f0 x0) ∧ (∃ l0 g0 p0 w0, t3 = ML t l0 g0 p0 w0) ∧ sp l' a b c d ∧ tl l2' year shire a b c d := by
  have hR := h.scr l f x l2 g p v
  have hS := spell_ok (CL s l f x) a b c d
  have hT := tell_ok (ML t l2 g p v) year shire a b c d
  rw [CL_CL] at hS
  rw [setA_ML, ML_ML] at hT
  generalize (upd (upd (upd (upd ((CL s l f x).2.1 7) 2 a) 3 b) 4 c) 5 d) = lS at hS
  have hlS : F_X0_spell a b c d (CL s l f x) = some (CL s lS ((CL s l f x).2.1 8) ((CL s l f x).1 9)) := hS
  have hS2 := spell_ok (CL s l f x) a b c d
  rw [CL_CL, hS] at hS2
  have hl7 := congrArg (fun o => o.map (fun z : St => z.2.1 7)) hS2
  have hl7' : lS = upd (upd (upd (upd ((CL s l f x).2.1 7) 2 a) 3 b) 4 c) 5 d := Option.some.inj hl7
  generalize hlT : (upd (upd (upd (upd (upd (upd ((ML t l2 g p v).2.1 1241) 121 year) 105 shire) 110 a) 108 b) 120 c) 114 d) = lT at hT
  have hR3 := h.scr lS ((CL s l f x).2.1 8) ((CL s l f x).1 9) lT ((ML t l2 g p v).2.1 1242) ((ML t l2 g p v).1 1243) ((ML t l2 g p v).1 1244)
  generalize (CL s l f x).2.1 8 = f0 at hS hR3
  generalize (CL s l f x).1 9 = x0 at hS hR3
  generalize (ML t l2 g p v).2.1 1242 = g0 at hT hR3
  generalize (ML t l2 g p v).1 1243 = p0 at hT hR3
  generalize (ML t l2 g p v).1 1244 = v0 at hT hR3
  obtain ⟨f', g', p', v', h1, h2, h3⟩ := worth_two hR3.law hR3.ref hk (shire := shire) (year := year) (q := q) (whose := 0) hsh (l := upd (upd lS 0 year) 1 shire) rfl (by
    intro i hi
    have : i = 0 ∨ i = 1 ∨ i = 2 ∨ i = 3 ∨ i = 4 ∨ i = 5 := by omega
    subst hl7' hlT
    rcases this with r | r | r | r | r | r <;> subst r <;> rfl)
  have hO : lawB (ML t lT g0 p0 v0) (lcl (CL s lS f0 x0)) (upd (upd lS 0 year) 1 shire) shire year q k 0 ((ML t lT g0 p0 v0).1 1240).toInt.toNat = wo s t k shire year q 0 a b c d := by
    refine lawB_L (t := t) (t' := ML t lT g0 p0 v0) rfl rfl rfl ?_ _ (fun j hj => (lcl_of h.law j ?_).2.2.1)
    · intro i hi
      have : i = 0 ∨ i = 1 ∨ i = 2 ∨ i = 3 ∨ i = 4 ∨ i = 5 := by omega
      subst hl7'
      rcases this with r | r | r | r | r | r <;> subst r <;> rfl
    · have h0 := h.law.2.1.1
      have hj' : j < (t.1 1240).toInt.toNat := hj
      omega
  rw [hO] at h1 h2 h3
  rw [CL_CL] at h1
  have h2' : F_X12_lawFor shire year q (stA 0 k) 0 (ML t lT g0 p0 v0) = some (lawI (wo s t k shire year q 0 a b c d), ML t lT g' p' v') := by
    rw [h2]
    refine congrArg (fun z => some (lawI (wo s t k shire year q 0 a b c d), z)) ?_
    exact MS_ML t lT g0 g' p0 p' v0 v'
  have hlt : ∀ b' y, wo s t k shire year q 0 a b c d = some (b', y) → b' < 2 ^ 31 := fun b' y e => by
    have q1 := lawB_lt e
    have q2 := h.law.2.1.2
    omega
  refine ⟨_, _, upd (upd lS 0 year) 1 shire, f', lT, g', lawI (wo s t k shire year q 0 a b c d), p', v', hS, hT, h1, ?_, ⟨_, _, _, rfl⟩, ⟨_, _, _, _, rfl⟩, ?_, ?_⟩
  · unfold F_X12_worthOf
    rw [h2', bind_some]
    unfold wq
    generalize wo s t k shire year q 0 a b c d = o at h3 hlt
    cases o with
    | none =>
      rw [if_pos (show lawI none = -1 from rfl), plain_ok hk]
      rfl
    | some bv =>
      rw [if_neg (show ¬ lawI (some bv) = -1 from nI_neg1 (hlt bv.1 bv.2 rfl))]
      show some ((upd (upd t.1 1243 p') 1244 v') 1244, _) = _
      rw [h3]
      rfl
  · subst hl7'
    exact ⟨rfl, rfl, rfl, rfl⟩
  · subst hlT
    exact ⟨rfl, rfl, rfl, rfl, rfl, rfl⟩
