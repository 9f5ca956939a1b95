/-! STATES (St: int fields, arrays, arrays of arrays, later arrays) and the words of the functional pictures; a walk may forget locals (mj_cl2) -/
abbrev St : Type := (Nat → Int32) × (Nat → Nat → Int32) × (Nat → Nat → Option Nat) × List (Nat × (Nat → Int32))
def mkMs (s : St) : mj_H := mkM s.1 s.2.1
def mkCs (s : St) : mj_H := mkC s.1 s.2.1 s.2.2.1 s.2.2.2
def pI (s : St) (k : Nat) (v : Int32) : St := (upd s.1 k v, s.2)
def pA (s : St) (k : Nat) (i v : Int32) : St := (s.1, va_up s.2.1 k (upd (s.2.1 k) i.toNatClampNeg v), s.2.2)
def vb (i : Int32) (n : Nat) : Bool := decide (0 ≤ i.toInt ∧ i.toInt < n)
theorem vb_in {i : Int32} {n : Nat} (h : vb i n = true) : vp_in i n := vp_in_iff.mpr (of_decide_eq_true h)
def stA (b : Nat) : Nat → Int32 := match mj_stat b with
  | some (_, f) => f
  | none => fun _ => 0
theorem mj_st0 : mj_stat (UInt32.ofNat 0).toNat = some (7, stA 0) := rfl
theorem mj_st1 : mj_stat (UInt32.ofNat 1).toNat = some (7, stA 1) := rfl
theorem mj_st2 : mj_stat (UInt32.ofNat 2).toNat = some (5, stA 2) := rfl
def rd (s : St) (k n : Nat) (i : Int32) : Option Int32 := if vb i n = true then some (s.2.1 k i.toNatClampNeg) else none
def rs (b n : Nat) (i : Int32) : Option Int32 := if vb i n = true then some (stA b i.toNatClampNeg) else none
def wr (s : St) (k n : Nat) (i v : Int32) : Option St := if vb i n = true then some (pA s k i v) else none
def wI (s : St) (k : Nat) (v : Int32) : Option St := some (pI s k v)
def nz (y : Int32) : Option Unit := if y = 0 then none else some ()
def nzl (y : Int64) : Option Unit := if y = 0 then none else some ()
def bz (x : Int32) : Option Unit := if x = 0 ∨ x = 1 then some () else none
def ok {α : Type} (o : Option α) (Q : α → Prop) : Prop := ∃ a, o = some a ∧ Q a
theorem ok_some {α : Type} {a : α} {Q : α → Prop} (h : ok (some a) Q) : Q a := by
  obtain ⟨b, h1, h2⟩ := h
  cases h1
  exact h2
theorem ok_bind {α β : Type} {o : Option α} {f : α → Option β} {Q : β → Prop} (h : ok (o.bind f) Q) : ok o (fun a => ok (f a) Q) := by
  obtain ⟨b, h1, h2⟩ := h
  cases o with
  | none => cases h1
  | some a => exact ⟨a, rfl, b, h1, h2⟩
theorem ok_imp {α : Type} {o : Option α} {P Q : α → Prop} (h : ok o P) (hi : ∀ a, P a → Q a) : ok o Q := by
  obtain ⟨b, h1, h2⟩ := h
  exact ⟨b, h1, hi b h2⟩
theorem ok_t {α : Type} {c : Prop} {dc : Decidable c} {a b : Option α} {Q : α → Prop} (h : ok (if c then a else b) Q) (hc : c) : ok a Q := by rwa [if_pos hc] at h
theorem ok_f {α : Type} {c : Prop} {dc : Decidable c} {a b : Option α} {Q : α → Prop} (h : ok (if c then a else b) Q) (hc : ¬ c) : ok b Q := by rwa [if_neg hc] at h
theorem ok_gd {α β : Type} {c : Prop} {dc : Decidable c} {a : α} {f : α → Option β} {Q : β → Prop} (h : ok ((if c then some a else none).bind f) Q) : c ∧ ok (f a) Q := by
  by_cases hc : c
  · rw [if_pos hc] at h; exact ⟨hc, h⟩
  · rw [if_neg hc] at h; obtain ⟨b, h1, h2⟩ := h; cases h1
theorem ok_rd {β : Type} {s : St} {k n : Nat} {i : Int32} {f : Int32 → Option β} {Q : β → Prop} (h : ok ((rd s k n i).bind f) Q) : vp_in i n ∧ ok (f (s.2.1 k i.toNatClampNeg)) Q := ⟨vb_in (ok_gd h).1, (ok_gd h).2⟩
theorem ok_rs {β : Type} {k n : Nat} {i : Int32} {f : Int32 → Option β} {Q : β → Prop} (h : ok ((rs k n i).bind f) Q) : vp_in i n ∧ ok (f (stA k i.toNatClampNeg)) Q := ⟨vb_in (ok_gd h).1, (ok_gd h).2⟩
theorem ok_wr {β : Type} {s : St} {k n : Nat} {i v : Int32} {f : St → Option β} {Q : β → Prop} (h : ok ((wr s k n i v).bind f) Q) : vp_in i n ∧ ok (f (pA s k i v)) Q := ⟨vb_in (ok_gd h).1, (ok_gd h).2⟩
theorem ok_wI {β : Type} {s : St} {k : Nat} {v : Int32} {f : St → Option β} {Q : β → Prop} (h : ok ((wI s k v).bind f) Q) : ok (f (pI s k v)) Q := h
theorem ok_nz {β : Type} {y : Int32} {f : Unit → Option β} {Q : β → Prop} (h : ok ((nz y).bind f) Q) : ¬ y = 0 ∧ ok (f ()) Q := by
  unfold nz at h
  by_cases hc : y = 0
  · rw [if_pos hc] at h; obtain ⟨b, h1, h2⟩ := h; cases h1
  · rw [if_neg hc] at h; exact ⟨hc, h⟩
theorem ok_nzl {β : Type} {y : Int64} {f : Unit → Option β} {Q : β → Prop} (h : ok ((nzl y).bind f) Q) : ¬ y = 0 ∧ ok (f ()) Q := by
  unfold nzl at h
  by_cases hc : y = 0
  · rw [if_pos hc] at h; obtain ⟨b, h1, h2⟩ := h; cases h1
  · rw [if_neg hc] at h; exact ⟨hc, h⟩
theorem ok_bz {β : Type} {x : Int32} {f : Unit → Option β} {Q : β → Prop} (h : ok ((bz x).bind f) Q) : (x = 0 ∨ x = 1) ∧ ok (f ()) Q := ok_gd h
def lp {X Y : Type} (b : X → Option (X ⊕ Y)) : Nat → X → Option Y
  | 0, _ => none
  | n + 1, x => match b x with
    | some (.inl x') => lp b n x'
    | some (.inr y) => some y
    | none => none
def FU : Nat := 1000000000000
theorem lp_ok {X Y : Type} (b : X → Option (X ⊕ Y)) (P : X → Prop) (K : Y → Prop) (hb : ∀ x, ok (b x) (Sum.elim P K) → P x) : ∀ (n : Nat) (x : X), ok (lp b n x) K → P x
  | 0, x, h => by obtain ⟨a, h1, h2⟩ := h; cases h1
  | n + 1, x, h => by
    obtain ⟨a, h1, h2⟩ := h
    refine hb x ?_
    unfold lp at h1
    cases hx : b x with
    | none => rw [hx] at h1; cases h1
    | some z =>
      cases z with
      | inl x' => rw [hx] at h1; exact ⟨_, rfl, lp_ok b P K hb n x' ⟨a, h1, h2⟩⟩
      | inr y => rw [hx] at h1; cases h1; exact ⟨_, rfl, h2⟩
theorem ok_none {α : Type} {Q : α → Prop} : ¬ ok none Q := fun ⟨_, h, _⟩ => nomatch h
/-! arrays that are known by their address -/
def dyn (s : St) (a : Nat) : Option (Nat × (Nat → Int32)) := match (mkCs s)[a]? with
  | some (.inl (.int, n, .inl f)) => some (n, f)
  | _ => none
theorem dyn_at {s : St} {a n : Nat} {f : Nat → Int32} (h : dyn s a = some (n, f)) : (mkCs s)[a]? = some (.inl (.int, n, .inl f)) := by
  unfold dyn at h
  split at h
  · next e => cases h; exact e
  · cases h
def aL (s : St) : Nat := 89 + s.2.2.2.length
def pD (s : St) (a n : Nat) (f : Nat → Int32) : St := (s.1, s.2.1, s.2.2.1, s.2.2.2.set (a - 89) (n, f))
def pR (s : St) (k : Nat) (i : Int32) (a : Nat) : St := (s.1, s.2.1, va_up s.2.2.1 k (va_up (s.2.2.1 k) i.toNatClampNeg (some a)), s.2.2.2)
def flf (f : Nat → Int32) (n : Nat) (v : Int32) : Nat → Int32 := fun j => if j < n then v else f j
def pF (s : St) (k n : Nat) (v : Int32) : St := (s.1, va_up s.2.1 k (flf (s.2.1 k) n v), s.2.2)
def pN (s : St) (n : Nat) : St := (s.1, s.2.1, s.2.2.1, s.2.2.2 ++ [(n, fun _ => 0)])
def ra (s : St) (a : Nat) (i : Int32) : Option Int32 := match dyn s a with
  | some (n, f) => if vb i n = true then some (f i.toNatClampNeg) else none
  | none => none
def la (s : St) (a : Nat) : Option Int32 := match dyn s a with
  | some (n, _) => some (nI n)
  | none => none
def wa (s : St) (a : Nat) (i v : Int32) : Option St := match dyn s a with
  | some (n, f) => if vb i n = true ∧ 89 ≤ a then some (pD s a n (upd f i.toNatClampNeg v)) else none
  | none => none
def wFd (s : St) (a : Nat) (v : Int32) : Option St := match dyn s a with
  | some (n, f) => if 89 ≤ a ∧ n ≤ 100000 then some (pD s a n (flf f n v)) else none
  | none => none
def wF (s : St) (k n : Nat) (v : Int32) : Option St := some (pF s k n v)
def nA (s : St) (n : Nat) : Option St := some (pN s n)
def wR (s : St) (k n : Nat) (i : Int32) (a : Nat) : Option St := match dyn s a with
  | some _ => if vb i n = true then some (pR s k i a) else none
  | none => none
def rr {β : Type} (s : St) (k n : Nat) (i : Int32) (A : Option β) (B : Nat → Option β) : Option β := if vb i n = true then (match s.2.2.1 k i.toNatClampNeg with
  | none => A
  | some a => B a) else none
theorem mkCs_set {s : St} {a n : Nat} {f : Nat → Int32} (h : 89 ≤ a) : (mkCs s).set a (.inl (.int, n, .inl f)) = mkCs (pD s a n f) := by
  unfold mkCs mkC pD
  rw [List.set_append_right _ _ (by rw [mkC0_len]; exact h), mkC0_len]
  simp only [List.map_set]
theorem mkCs_len (s : St) : (mkCs s).length = aL s := by
  unfold mkCs mkC aL
  rw [List.length_append, mkC0_len, List.length_map]
theorem sS_new (s : St) (n : Nat) : mkCs s ++ [.inl (.int, n, .inl (fun _ => 0))] = mkCs (pN s n) := by
  unfold mkCs mkC pN
  simp only [List.map_append, List.map_cons, List.map_nil, List.append_assoc]
theorem ok_ra {β : Type} {s : St} {a : Nat} {i : Int32} {f : Int32 → Option β} {Q : β → Prop} (h : ok ((ra s a i).bind f) Q) : ∃ n g, (mkCs s)[a]? = some (.inl (.int, n, .inl g)) ∧ vp_in i n ∧ ok (f (g i.toNatClampNeg)) Q := by
  unfold ra at h
  cases hd : dyn s a with
  | none => rw [hd] at h; exact absurd h ok_none
  | some q =>
    obtain ⟨n, g⟩ := q
    rw [hd] at h
    exact ⟨n, g, dyn_at hd, vb_in (ok_gd h).1, (ok_gd h).2⟩
theorem ok_la {β : Type} {s : St} {a : Nat} {f : Int32 → Option β} {Q : β → Prop} (h : ok ((la s a).bind f) Q) : ∃ n g, (mkCs s)[a]? = some (.inl (.int, n, .inl g)) ∧ ok (f (nI n)) Q := by
  unfold la at h
  cases hd : dyn s a with
  | none => rw [hd] at h; exact absurd h ok_none
  | some q =>
    obtain ⟨n, g⟩ := q
    rw [hd] at h
    exact ⟨n, g, dyn_at hd, h⟩
theorem ok_wa {β : Type} {s : St} {a : Nat} {i v : Int32} {f : St → Option β} {Q : β → Prop} (h : ok ((wa s a i v).bind f) Q) : ∃ n g, (mkCs s)[a]? = some (.inl (.int, n, .inl g)) ∧ vp_in i n ∧ (mkCs s).set a (.inl (.int, n, .inl (upd g i.toNatClampNeg v))) = mkCs (pD s a n (upd g i.toNatClampNeg v)) ∧ ok (f (pD s a n (upd g i.toNatClampNeg v))) Q := by
  unfold wa at h
  cases hd : dyn s a with
  | none => rw [hd] at h; exact absurd h ok_none
  | some q =>
    obtain ⟨n, g⟩ := q
    rw [hd] at h
    exact ⟨n, g, dyn_at hd, vb_in (ok_gd h).1.1, mkCs_set (ok_gd h).1.2, (ok_gd h).2⟩
theorem ok_wFd {β : Type} {s : St} {a : Nat} {v : Int32} {f : St → Option β} {Q : β → Prop} (h : ok ((wFd s a v).bind f) Q) : ∃ n g, (mkCs s)[a]? = some (.inl (.int, n, .inl g)) ∧ (mkCs s).set a (.inl (.int, n, .inl (flf g n v))) = mkCs (pD s a n (flf g n v)) ∧ n ≤ 100000 ∧ ok (f (pD s a n (flf g n v))) Q := by
  unfold wFd at h
  cases hd : dyn s a with
  | none => rw [hd] at h; exact absurd h ok_none
  | some q =>
    obtain ⟨n, g⟩ := q
    rw [hd] at h
    exact ⟨n, g, dyn_at hd, mkCs_set (ok_gd h).1.1, (ok_gd h).1.2, (ok_gd h).2⟩
theorem ok_wF {β : Type} {s : St} {k n : Nat} {v : Int32} {f : St → Option β} {Q : β → Prop} (h : ok ((wF s k n v).bind f) Q) : ok (f (pF s k n v)) Q := h
theorem ok_nA {β : Type} {s : St} {n : Nat} {f : St → Option β} {Q : β → Prop} (h : ok ((nA s n).bind f) Q) : ok (f (pN s n)) Q := h
theorem ok_wR {β : Type} {s : St} {k n a : Nat} {i : Int32} {f : St → Option β} {Q : β → Prop} (h : ok ((wR s k n i a).bind f) Q) : ∃ m g, (mkCs s)[a]? = some (.inl (.int, m, .inl g)) ∧ vp_in i n ∧ ok (f (pR s k i a)) Q := by
  unfold wR at h
  cases hd : dyn s a with
  | none => rw [hd] at h; exact absurd h ok_none
  | some q =>
    obtain ⟨m, g⟩ := q
    rw [hd] at h
    exact ⟨m, g, dyn_at hd, vb_in (ok_gd h).1, (ok_gd h).2⟩
theorem ok_rr {β : Type} {s : St} {k n : Nat} {i : Int32} {A : Option β} {B : Nat → Option β} {Q : β → Prop} (h : ok (rr s k n i A B) Q) : vp_in i n ∧ ((s.2.2.1 k i.toNatClampNeg = none ∧ ok A Q) ∨ ∃ a, s.2.2.1 k i.toNatClampNeg = some a ∧ ok (B a) Q) := by
  unfold rr at h
  by_cases hv : vb i n = true
  · rw [if_pos hv] at h
    refine ⟨vb_in hv, ?_⟩
    cases hc : s.2.2.1 k i.toNatClampNeg with
    | none => rw [hc] at h; exact Or.inl ⟨rfl, h⟩
    | some a => rw [hc] at h; exact Or.inr ⟨a, rfl, h⟩
  · rw [if_neg hv] at h; exact absurd h ok_none
theorem lp_okN {X Y : Type} (b : X → Option (X ⊕ Y)) (P : Nat → X → Prop) (K : Y → Prop) (hb : ∀ n x, ok (b x) (Sum.elim (P n) K) → P (n + 1) x) : ∀ (n : Nat) (x : X), ok (lp b n x) K → P n x
  | 0, x, h => by obtain ⟨a, h1, h2⟩ := h; cases h1
  | n + 1, x, h => by
    obtain ⟨a, h1, h2⟩ := h
    refine hb n x ?_
    unfold lp at h1
    cases hx : b x with
    | none => rw [hx] at h1; cases h1
    | some z =>
      cases z with
      | inl x' => rw [hx] at h1; exact ⟨_, rfl, lp_okN b P K hb n x' ⟨a, h1, h2⟩⟩
      | inr y => rw [hx] at h1; cases h1; exact ⟨_, rfl, h2⟩
/-! forgetting locals -/
def mj_wk : List Value → List Value → Prop
  | _, [] => True
  | [], v :: L' => v = mj_unk ∧ mj_wk [] L'
  | w :: L, v :: L' => (v = mj_unk ∨ v = w) ∧ mj_wk L L'
theorem mj_wk_at : ∀ {L L' : List Value} {j : Nat} {v : Value}, mj_wk L L' → L'[j]? = some v → v = mj_unk ∨ L[j]? = some v
  | L, [], j, v, _, h => by simp at h
  | [], w :: L', 0, v, h, hj => by simp at hj; subst hj; exact Or.inl h.1
  | [], w :: L', j + 1, v, h, hj => by
    rw [List.getElem?_cons_succ] at hj
    rcases mj_wk_at h.2 hj with z | z
    · exact Or.inl z
    · simp at z
  | u :: L, w :: L', 0, v, h, hj => by
    simp at hj; subst hj
    rcases h.1 with z | z
    · exact Or.inl z
    · exact Or.inr (by simp [z])
  | u :: L, w :: L', j + 1, v, h, hj => by
    rw [List.getElem?_cons_succ] at hj
    rcases mj_wk_at h.2 hj with z | z
    · exact Or.inl z
    · exact Or.inr (by rw [List.getElem?_cons_succ]; exact z)
theorem mj_wk_lm {t : Value → Value} {L L' : List Value} (h : mj_wk L L') {q : Nat × Value} (hq : q ∈ mj_lm t 0 L') : q ∈ mj_lm t 0 L := by
  obtain ⟨j, v, h1, h2, h3⟩ := mj_lm_mem.mp hq
  rcases mj_wk_at h h1 with z | z
  · subst z; simp [mj_unk, mj_kn] at h2
  · exact mj_lm_mem.mpr ⟨j, v, z, h2, h3⟩
theorem mj_wk_sv {n : Nat} {L L' : List Value} (h : mj_wk L L') (hL : ∀ v ∈ L, mj_sv n v) : ∀ v ∈ L', mj_sv n v := by
  intro v hv
  obtain ⟨j, hj⟩ := List.mem_iff_getElem?.mp hv
  rcases mj_wk_at h hj with z | z
  · subst z; exact trivial
  · exact hL v (List.mem_of_getElem? z)
def mj_cl2 (cc : ByteArray) (T : mj_T) (k : Option Value → mj_H → Prop) (G : mj_K) : Prop := mj_cl cc T k G ∧ ∀ (pc : Nat) (L L' st : List Value) (h : mj_H) (bc bs bc' bs' : Nat), mj_wk L L' → bc' ≤ bc → bs' ≤ bs → G pc L' st h bc' bs' → G pc L st h bc bs
theorem mj_Go_wk {p : Program} {l : Launch} {e : Env} {R : Room} {s : State} {m : MethodId} {args : Array Value} {below : List Frame} {meth : Method} {c : Code} {Q : State → Prop} {D : va_G} {cA : FieldType → ClassId} {sd : Nat → Nat} {A : Nat → Prop} {n0 : Nat} {ad0 : Nat → Nat} {mc ms nL : Nat} {pc : Nat} {L L' st : List Value} {h : mj_H} {bc bs bc' bs' : Nat} (hw : mj_wk L L') (h1 : bc' ≤ bc) (h2 : bs' ≤ bs) (hg : mj_Go p l e R s m args below meth c Q D cA sd A n0 ad0 mc ms nL pc L' st h bc' bs') : mj_Go p l e R s m args below meth c Q D cA sd A n0 ad0 mc ms nL pc L st h bc bs := by
  intro ad H locs cells slots ls g1 g2 g3 g4 g5 g6 g7 g8 g9 g10 g11
  exact hg ad H locs cells slots ls g1 g2 g3 (mj_wk_sv hw g4) g5 g6 g7 g8 (mj_lv_mono g9 (fun q hq => mj_wk_lm hw hq)) (by omega) (by omega)
section MJ2
variable {p : Program} {l : Launch} {e : Env} {R : Room} {s : State} {m : MethodId} {args : Array Value} {below : List Frame} {meth : Method} {c : Code} {Q : State → Prop} {cc : ByteArray} {own : String} {ini : Bool} {lev : Nat} {D : va_G} {cA : FieldType → ClassId} {sd adK adV : Nat → Nat} {A : Nat → Prop} {n0 : Nat} {ad0 : Nat → Nat} {mc ms : Nat} {T : mj_T} {ret : Option Value → mj_H → Prop} {pc : Nat} {L st : List Value} {h : mj_H} {bc bs : Nat}
theorem mj_body2 {y : MethodName} {cc : ByteArray} {maxL : Nat} {rt : Option FieldType} {cs : mj_S} (ini : Bool) (T : mj_T) (hy : plainName y.cls = true) (hT : T.1 = maxL) (hr : T.2.1 = rt) (hini : ini = true → y.name = "<init>") (hTF : mj_TF l y.cls ini lev T)
    (hmain : ∀ (as : List Value) (h : mj_H) (k : Option Value → mj_H → Prop), cs as h k → mj_aok maxL as = true ∧ ∀ G : mj_K, mj_cl2 cc T k G → G 0 (mj_al as) [] h mc ms) : mj_Met l y cc maxL rt lev mc ms cs := by
  intro D cA sd adK adV ad as h k sz hc
  subst hT; subst hr
  refine Met.ofW (cc := cc) (maxL := T.1) (ret := T.2.1) hy rfl ?_
  intro p e s m args below meth c s₁ B hml hv
  obtain ⟨rfl, hsz, ⟨hP, hK, hD0, h5⟩, hX, hsv⟩ := hv
  have hts : ∀ w ∈ mj_tw, w.before (as.map (mj_tv ad sd)).toArray s = true := fun w hw => atoms_spec (ws := Cond.code y cc T.1 T.2.1 :: mj_tw) B.pre w (List.mem_cons_of_mem _ hw)
  have hown : s.vm.findClass y.cls = some m.cls := findClass_of_methodNamed B.named
  subst hsz
  obtain ⟨hok, hG⟩ := hmain as h k hc
  unfold mj_aok at hok
  rw [Bool.and_eq_true, decide_eq_true_eq] at hok
  have hkn : ∀ v ∈ as, mj_kn v = true ∧ ∀ x, v ≠ .double x := by
    intro v hv
    have := List.all_eq_true.mp hok.2 v hv
    rw [Bool.and_eq_true] at this
    refine ⟨this.1, fun x hx => ?_⟩
    rw [hx] at this
    exact Bool.false_ne_true this.2
  have hlen := mj_al_len ad sd as hkn
  have hl := lv_entry (as.map (mj_tv ad sd)) (n := T.1) (by rw [hlen]; exact hok.1)
  have X : mj_Cx p l (headSpec (Cond.code y cc T.1 T.2.1 :: mj_tw) (mj_rm lev mc ms)).room s m (as.map (mj_tv ad sd)).toArray meth c cc y.cls ini lev D cA sd adK adV (va_A (mj_ws cA ad sd h) s.heap.size) mc ms T :=
    ⟨B.exec, B.bytes, hml, hown, hts, hK, fun q hq => Or.inr hq, hX, rfl, fun hi => (name_of_methodNamed B.named B.method).1.trans (hini hi), hTF⟩
  have h9 := hG (mj_Go p l e (headSpec (Cond.code y cc T.1 T.2.1 :: mj_tw) (mj_rm lev mc ms)).room s m (as.map (mj_tv ad sd)).toArray below meth c (MQ below (mj_Q D cA sd ad h k (va_A (mj_ws cA ad sd h) s.heap.size)) (as.map (mj_tv ad sd)).toArray s mc ms (va_A (mj_ws cA ad sd h) s.heap.size)) D cA sd (va_A (mj_ws cA ad sd h) s.heap.size) h.length ad mc ms T.1)
    ⟨fun K hKG pc L st h' bc bs hI => mj_true hKG B.returns B.notSynchronized X hI, fun _ _ _ _ _ _ _ _ _ hw h1 h2 hg => mj_Go_wk hw h1 h2 hg⟩
  rw [lg_entry_eq]
  refine h9 ad s.heap [] 0 0 _ (fun _ _ => rfl) (Nat.le_refl _) (fun v hv => by cases hv) (fun v hv => ?_) h5 hP hD0.self va_S.rf (mj_lv_mono hl (mj_al_lm ad sd as 0 hkn)) (by omega) (by omega)
  have hgo : ∀ x : List Value, (∀ v ∈ x, mj_sv h.length v) → ∀ v ∈ mj_al x, mj_sv h.length v := by
    intro x
    induction x with
    | nil => intro _ v hv; cases hv
    | cons w x ih =>
      intro hx v hv
      have ih := ih (fun v hv => hx v (List.mem_cons_of_mem _ hv))
      have hw := hx w List.mem_cons_self
      cases w <;> simp only [mj_al, List.mem_cons] at hv <;> first
        | (rcases hv with rfl | rfl | hv
           · exact trivial
           · exact trivial
           · exact ih v hv)
        | (rcases hv with rfl | hv
           · exact hw
           · exact ih v hv)
  exact hgo as hsv v hv
end MJ2
abbrev mj_T0 (nL : Nat) (rt : Option FieldType) : mj_T := (nL, rt, fun _ => none, fun _ => none, fun _ => none, fun _ => none, fun _ => none, fun _ => none)
theorem mj_tf0 {l : Launch} {own : String} {ini : Bool} {lev nL : Nat} {rt : Option FieldType} : mj_TF l own ini lev (mj_T0 nL rt) := ⟨fun _ _ _ h => (nomatch h), fun _ _ _ _ h => (nomatch h), fun _ _ h => (nomatch h), fun _ _ h => (nomatch h), fun _ _ h => (nomatch h), fun _ _ h => (nomatch h)⟩
def bI (b : Bool) : Int32 := if b = true then 1 else 0
def inb (v lo hi : Int32) : Bool := decide (lo ≤ v) && decide (v ≤ hi)
theorem bI_eq0 (b : Bool) : (bI b = 0) = (b = false) := by cases b <;> simp [bI]
theorem bI_ne0 (b : Bool) : (¬ bI b = 0) = (b = true) := by cases b <;> simp [bI]
theorem gMl (I : Nat → Int32) : (fM I).length = 100 := gMfl I (fun _ _ => 0)
theorem va_up_n {α : Type} {f : Nat → α} {k j : Nat} {v : α} (h : (j == k) = false) : va_up f k v j = f j := by simp only [beq_eq_false_iff_ne, ne_eq] at h; simp [va_up, h]
theorem upd_n {f : Nat → Int32} {k j : Nat} {v : Int32} (h : (j == k) = false) : upd f k v j = f j := by simp only [beq_eq_false_iff_ne, ne_eq] at h; simp [upd, h]
theorem va_up_s {α : Type} (f : Nat → α) (k : Nat) (v : α) : va_up f k v k = v := by simp [va_up]
theorem bI_eq1 (b : Bool) : (bI b = 1) = (b = true) := by cases b <;> simp [bI]
theorem bool_ft (b : Bool) : (b = false ∨ b = true) = True := by cases b <;> simp
theorem bI_01 (b : Bool) : bI b = 0 ∨ bI b = 1 := by cases b <;> simp [bI]
theorem mj_fin : ((0 : Fin 4) : Nat) = 0 ∧ ((1 : Fin 4) : Nat) = 1 ∧ ((2 : Fin 4) : Nat) = 2 ∧ ((3 : Fin 4) : Nat) = 3 := ⟨rfl, rfl, rfl, rfl⟩
theorem mj_W_s (cc : ByteArray) (T : mj_T) (k : Option Value → mj_H → Prop) (G : mj_K) (cut : Nat → Bool) (n pc : Nat) (L st : List Value) (h : mj_H) (bc bs : Nat) : mj_W cc T k G cut (n + 1) pc L st h bc bs = if cut pc = true then G pc L st h bc bs else mj_step cc T k (mj_W cc T k G cut n) pc L st h bc bs := rfl
theorem mj_nd {a b : Nat} : (a == b) = decide (a = b) := rfl
theorem mj_set0 (v : Value) : mj_set [] 0 v = [v] := rfl
theorem inb_t {a b c : Int32} (h1 : ¬ a < b) (h2 : ¬ c < a) : inb a b c = true := by
  simp [inb, Int32.not_lt.mp h1, Int32.not_lt.mp h2]
theorem inb_f1 {a b c : Int32} (h1 : a < b) : inb a b c = false := by
  have := Int32.not_le.mpr h1
  simp [inb, this]
theorem inb_f2 {a b c : Int32} (h1 : c < a) : inb a b c = false := by
  have := Int32.not_le.mpr h1
  simp [inb, this]
theorem mj_kc : (Int8.ofInt (-2)).toInt32 = (-2) ∧ (Int8.ofInt 6).toInt32 = 6 ∧ (Int8.ofInt 7).toInt32 = 7 ∧ (Int8.ofInt 8).toInt32 = 8 ∧ (Int8.ofInt 9).toInt32 = 9 ∧ (Int8.ofInt 10).toInt32 = 10 ∧ (Int8.ofInt 11).toInt32 = 11 ∧ (Int8.ofInt 12).toInt32 = 12 ∧ (Int8.ofInt 15).toInt32 = 15 ∧ (Int8.ofInt 16).toInt32 = 16 ∧ (Int8.ofInt 20).toInt32 = 20 ∧ (Int8.ofInt 24).toInt32 = 24 ∧ (Int8.ofInt 26).toInt32 = 26 ∧ (Int8.ofInt 30).toInt32 = 30 ∧ (Int8.ofInt 32).toInt32 = 32 ∧ (Int8.ofInt 33).toInt32 = 33 ∧ (Int8.ofInt 38).toInt32 = 38 ∧ (Int8.ofInt 40).toInt32 = 40 ∧ (Int8.ofInt 41).toInt32 = 41 ∧ (Int8.ofInt 42).toInt32 = 42 ∧ (Int8.ofInt 43).toInt32 = 43 ∧ (Int8.ofInt 45).toInt32 = 45 ∧ (Int8.ofInt 47).toInt32 = 47 ∧ (Int8.ofInt 48).toInt32 = 48 ∧ (Int8.ofInt 50).toInt32 = 50 ∧ (Int8.ofInt 52).toInt32 = 52 ∧ (Int8.ofInt 57).toInt32 = 57 ∧ (Int8.ofInt 58).toInt32 = 58 ∧ (Int8.ofInt 59).toInt32 = 59 ∧ (Int8.ofInt 60).toInt32 = 60 ∧ (Int8.ofInt 61).toInt32 = 61 ∧ (Int8.ofInt 62).toInt32 = 62 ∧ (Int8.ofInt 63).toInt32 = 63 ∧ (Int8.ofInt 64).toInt32 = 64 ∧ (Int8.ofInt 91).toInt32 = 91 ∧ (Int8.ofInt 93).toInt32 = 93 ∧ (Int8.ofInt 99).toInt32 = 99 ∧ (Int8.ofInt 100).toInt32 = 100 ∧ (Int8.ofInt 102).toInt32 = 102 ∧ (Int8.ofInt 104).toInt32 = 104 ∧ (Int8.ofInt 105).toInt32 = 105 ∧ (Int8.ofInt 108).toInt32 = 108 ∧ (Int8.ofInt 110).toInt32 = 110 ∧ (Int8.ofInt 114).toInt32 = 114 ∧ (Int8.ofInt 115).toInt32 = 115 ∧ (Int8.ofInt 116).toInt32 = 116 ∧ (Int8.ofInt 118).toInt32 = 118 ∧ (Int8.ofInt 119).toInt32 = 119 ∧ (Int8.ofInt 120).toInt32 = 120 ∧ (Int8.ofInt 121).toInt32 = 121 ∧ (Int8.ofInt 124).toInt32 = 124 ∧ Int32.ofInt (-8) = (-8) ∧ Int32.ofInt (-1) = (-1) ∧ Int32.ofInt 0 = 0 ∧ Int32.ofInt 1 = 1 ∧ Int32.ofInt 2 = 2 ∧ Int32.ofInt 3 = 3 ∧ Int32.ofInt 4 = 4 ∧ Int32.ofInt 5 = 5 ∧ Int32.ofInt 9 = 9 ∧ (Int16.ofInt 128).toInt32 = 128 ∧ (Int16.ofInt 160).toInt32 = 160 ∧ (Int16.ofInt 164).toInt32 = 164 ∧ (Int16.ofInt 200).toInt32 = 200 ∧ (Int16.ofInt 240).toInt32 = 240 ∧ (Int16.ofInt 255).toInt32 = 255 ∧ (Int16.ofInt 300).toInt32 = 300 ∧ (Int16.ofInt 420).toInt32 = 420 ∧ (Int16.ofInt 480).toInt32 = 480 ∧ (Int16.ofInt 600).toInt32 = 600 ∧ (Int16.ofInt 601).toInt32 = 601 ∧ (Int16.ofInt 999).toInt32 = 999 ∧ (Int16.ofInt 1000).toInt32 = 1000 ∧ (Int16.ofInt 1998).toInt32 = 1998 ∧ (Int16.ofInt 4096).toInt32 = 4096 ∧ (Int16.ofInt 8400).toInt32 = 8400 ∧ (Int16.ofInt 10000).toInt32 = 10000 ∧ (Int16.ofInt 20000).toInt32 = 20000 ∧ (Int16.ofInt 20033).toInt32 = 20033 ∧ (Int16.ofInt 20038).toInt32 = 20038 ∧ (Int16.ofInt 20124).toInt32 = 20124 ∧ Int64.ofNat ((0 : Fin 2) : Nat) = 0 ∧ Int64.ofNat ((1 : Fin 2) : Nat) = 1 := by and_intros <;> decide
theorem mj_kne : (((-2) : Int32) = (-1)) = False ∧ (((-2) : Int32) = 0) = False ∧ (((-2) : Int32) = 1) = False ∧ (((-1) : Int32) = (-2)) = False ∧ (((-1) : Int32) = 0) = False ∧ (((-1) : Int32) = 1) = False ∧ ((0 : Int32) = (-2)) = False ∧ ((0 : Int32) = (-1)) = False ∧ ((0 : Int32) = 1) = False ∧ ((1 : Int32) = (-2)) = False ∧ ((1 : Int32) = (-1)) = False ∧ ((1 : Int32) = 0) = False ∧ ((2 : Int32) = 0) = False ∧ ((4 : Int32) = 0) = False ∧ ((8 : Int32) = 0) = False ∧ ((12 : Int32) = 0) = False ∧ ((26 : Int32) = 0) = False ∧ ((52 : Int32) = 0) = False ∧ ((1000 : Int32) = 0) = False ∧ (((1000 : Int64) = 0) = False) := by and_intros <;> exact eq_false (by decide)
theorem vnar0 : vp_nar .boolean 0 = 0 := rfl
theorem vnar1 : vp_nar .boolean 1 = 1 := rfl
theorem mj_nk : nI 5 = 5 ∧ nI 6 = 6 ∧ nI 7 = 7 ∧ nI 8 = 8 ∧ nI 20 = 20 ∧ nI 24 = 24 ∧ nI 48 = 48 ∧ nI 64 = 64 ∧ nI 120 = 120 ∧ nI 160 = 160 ∧ nI 164 = 164 ∧ nI 240 = 240 ∧ nI 601 = 601 := by and_intros <;> rfl
theorem mj_nn : (120 : Int32).toNatClampNeg = 120 ∧ ((120 : Int32) < 0) = False ∧ ((120 : Nat) ≤ 100000) = True := by and_intros <;> first | rfl | exact eq_false (by decide) | exact eq_true (by decide)
theorem gS_M0 (s : St) : (mkMs s)[0]? = some (.inr (12, fM s.1)) := gM_0 s.1 s.2.1
theorem gS_M1 (s : St) : (mkMs s)[1]? = some (.inl (.int, 240, .inl (s.2.1 1201))) := gM_1 s.1 s.2.1
theorem gS_M2 (s : St) : (mkMs s)[2]? = some (.inl (.boolean, 601, .inl (s.2.1 1202))) := gM_2 s.1 s.2.1
theorem gS_M3 (s : St) : (mkMs s)[3]? = some (.inl (.int, 120, .inl (s.2.1 1203))) := gM_3 s.1 s.2.1
theorem gS_M4 (s : St) : (mkMs s)[4]? = some (.inl (.int, 24, .inl (s.2.1 1204))) := gM_4 s.1 s.2.1
theorem gS_M5 (s : St) : (mkMs s)[5]? = some (.inl (.int, 24, .inl (s.2.1 1205))) := gM_5 s.1 s.2.1
theorem gS_M6 (s : St) : (mkMs s)[6]? = some (.inl (.int, 24, .inl (s.2.1 1206))) := gM_6 s.1 s.2.1
theorem gS_M7 (s : St) : (mkMs s)[7]? = some (.inl (.int, 200, .inl (s.2.1 1207))) := gM_7 s.1 s.2.1
theorem gS_M8 (s : St) : (mkMs s)[8]? = some (.inl (.int, 200, .inl (s.2.1 1208))) := gM_8 s.1 s.2.1
theorem gS_M9 (s : St) : (mkMs s)[9]? = some (.inl (.int, 200, .inl (s.2.1 1209))) := gM_9 s.1 s.2.1
theorem gS_M10 (s : St) : (mkMs s)[10]? = some (.inl (.int, 200, .inl (s.2.1 1210))) := gM_10 s.1 s.2.1
theorem gS_M11 (s : St) : (mkMs s)[11]? = some (.inl (.int, 200, .inl (s.2.1 1211))) := gM_11 s.1 s.2.1
theorem gS_M12 (s : St) : (mkMs s)[12]? = some (.inl (.int, 20, .inl (s.2.1 1214))) := gM_12 s.1 s.2.1
theorem gS_M13 (s : St) : (mkMs s)[13]? = some (.inl (.int, 20, .inl (s.2.1 1215))) := gM_13 s.1 s.2.1
theorem gS_M14 (s : St) : (mkMs s)[14]? = some (.inl (.int, 20, .inl (s.2.1 1216))) := gM_14 s.1 s.2.1
theorem gS_M15 (s : St) : (mkMs s)[15]? = some (.inl (.int, 20, .inl (s.2.1 1217))) := gM_15 s.1 s.2.1
theorem gS_M16 (s : St) : (mkMs s)[16]? = some (.inl (.int, 20, .inl (s.2.1 1218))) := gM_16 s.1 s.2.1
theorem gS_M17 (s : St) : (mkMs s)[17]? = some (.inl (.int, 20, .inl (s.2.1 1219))) := gM_17 s.1 s.2.1
theorem gS_M18 (s : St) : (mkMs s)[18]? = some (.inl (.int, 20, .inl (s.2.1 1220))) := gM_18 s.1 s.2.1
theorem gS_M19 (s : St) : (mkMs s)[19]? = some (.inl (.boolean, 20, .inl (s.2.1 1221))) := gM_19 s.1 s.2.1
theorem gS_M20 (s : St) : (mkMs s)[20]? = some (.inl (.int, 100, .inl (s.2.1 1222))) := gM_20 s.1 s.2.1
theorem gS_M21 (s : St) : (mkMs s)[21]? = some (.inl (.int, 4096, .inl (s.2.1 1224))) := gM_21 s.1 s.2.1
theorem gS_M22 (s : St) : (mkMs s)[22]? = some (.inl (.int, 4096, .inl (s.2.1 1225))) := gM_22 s.1 s.2.1
theorem gS_M23 (s : St) : (mkMs s)[23]? = some (.inl (.boolean, 20, .inl (s.2.1 1227))) := gM_23 s.1 s.2.1
theorem gS_M24 (s : St) : (mkMs s)[24]? = some (.inl (.int, 160, .inl (s.2.1 1228))) := gM_24 s.1 s.2.1
theorem gS_M25 (s : St) : (mkMs s)[25]? = some (.inl (.int, 420, .inl (s.2.1 1229))) := gM_25 s.1 s.2.1
theorem gS_M26 (s : St) : (mkMs s)[26]? = some (.inl (.int, 8400, .inl (s.2.1 1230))) := gM_26 s.1 s.2.1
theorem gS_M27 (s : St) : (mkMs s)[27]? = some (.inl (.int, 20, .inl (s.2.1 1231))) := gM_27 s.1 s.2.1
theorem gS_M28 (s : St) : (mkMs s)[28]? = some (.inl (.int, 20, .inl (s.2.1 1232))) := gM_28 s.1 s.2.1
theorem gS_M29 (s : St) : (mkMs s)[29]? = some (.inl (.int, 20, .inl (s.2.1 1233))) := gM_29 s.1 s.2.1
theorem gS_M30 (s : St) : (mkMs s)[30]? = some (.inl (.int, 20, .inl (s.2.1 1234))) := gM_30 s.1 s.2.1
theorem gS_M31 (s : St) : (mkMs s)[31]? = some (.inl (.int, 128, .inl (s.2.1 1241))) := gM_31 s.1 s.2.1
theorem gS_M32 (s : St) : (mkMs s)[32]? = some (.inl (.int, 200, .inl (s.2.1 1242))) := gM_32 s.1 s.2.1
theorem gS_M33 (s : St) : (mkMs s)[33]? = some (.inl (.int, 480, .inl (s.2.1 1245))) := gM_33 s.1 s.2.1
theorem gS_M34 (s : St) : (mkMs s)[34]? = some (.inl (.int, 20, .inl (s.2.1 1246))) := gM_34 s.1 s.2.1
theorem gS_M35 (s : St) : (mkMs s)[35]? = some (.inl (.int, 24, .inl (s.2.1 1247))) := gM_35 s.1 s.2.1
theorem gS_M36 (s : St) : (mkMs s)[36]? = some (.inl (.int, 480, .inl (s.2.1 1248))) := gM_36 s.1 s.2.1
theorem gS_M37 (s : St) : (mkMs s)[37]? = some (.inl (.boolean, 480, .inl (s.2.1 1249))) := gM_37 s.1 s.2.1
theorem gS_M38 (s : St) : (mkMs s)[38]? = some (.inl (.int, 480, .inl (s.2.1 1250))) := gM_38 s.1 s.2.1
theorem gS_M39 (s : St) : (mkMs s)[39]? = some (.inl (.int, 20, .inl (s.2.1 1251))) := gM_39 s.1 s.2.1
theorem gS_M40 (s : St) : (mkMs s)[40]? = some (.inl (.int, 24, .inl (s.2.1 1252))) := gM_40 s.1 s.2.1
theorem gS_M41 (s : St) : (mkMs s)[41]? = some (.inl (.int, 20, .inl (s.2.1 1253))) := gM_41 s.1 s.2.1
theorem gS_M42 (s : St) : (mkMs s)[42]? = some (.inl (.int, 9, .inl (s.2.1 1254))) := gM_42 s.1 s.2.1
theorem gS_M43 (s : St) : (mkMs s)[43]? = some (.inl (.int, 24, .inl (s.2.1 1255))) := gM_43 s.1 s.2.1
theorem gS_M44 (s : St) : (mkMs s)[44]? = some (.inl (.int, 8, .inl (s.2.1 1257))) := gM_44 s.1 s.2.1
theorem gS_M45 (s : St) : (mkMs s)[45]? = some (.inl (.int, 8, .inl (s.2.1 1258))) := gM_45 s.1 s.2.1
theorem gS_M46 (s : St) : (mkMs s)[46]? = some (.inl (.int, 8, .inl (s.2.1 1259))) := gM_46 s.1 s.2.1
theorem gS_M47 (s : St) : (mkMs s)[47]? = some (.inl (.int, 8, .inl (s.2.1 1260))) := gM_47 s.1 s.2.1
theorem gS_M48 (s : St) : (mkMs s)[48]? = some (.inl (.int, 10, .inl (s.2.1 1261))) := gM_48 s.1 s.2.1
theorem gS_M49 (s : St) : (mkMs s)[49]? = some (.inl (.int, 5, .inl (s.2.1 1262))) := gM_49 s.1 s.2.1
theorem gS_M50 (s : St) : (mkMs s)[50]? = some (.inl (.int, 20, .inl (s.2.1 1265))) := gM_50 s.1 s.2.1
theorem gS_M51 (s : St) : (mkMs s)[51]? = some (.inl (.int, 480, .inl (s.2.1 1266))) := gM_51 s.1 s.2.1
theorem gS_M52 (s : St) : (mkMs s)[52]? = some (.inl (.int, 40, .inl (s.2.1 1268))) := gM_52 s.1 s.2.1
theorem gS_M53 (s : St) : (mkMs s)[53]? = some (.inl (.int, 40, .inl (s.2.1 1269))) := gM_53 s.1 s.2.1
theorem gS_M54 (s : St) : (mkMs s)[54]? = some (.inl (.int, 40, .inl (s.2.1 1270))) := gM_54 s.1 s.2.1
theorem gS_M55 (s : St) : (mkMs s)[55]? = some (.inl (.int, 40, .inl (s.2.1 1271))) := gM_55 s.1 s.2.1
theorem gS_M56 (s : St) : (mkMs s)[56]? = some (.inl (.int, 40, .inl (s.2.1 1272))) := gM_56 s.1 s.2.1
theorem gS_M57 (s : St) : (mkMs s)[57]? = some (.inl (.int, 40, .inl (s.2.1 1273))) := gM_57 s.1 s.2.1
theorem gS_M58 (s : St) : (mkMs s)[58]? = some (.inl (.int, 20, .inl (s.2.1 1274))) := gM_58 s.1 s.2.1
theorem gS_M59 (s : St) : (mkMs s)[59]? = some (.inl (.int, 60, .inl (s.2.1 1276))) := gM_59 s.1 s.2.1
theorem gS_M60 (s : St) : (mkMs s)[60]? = some (.inl (.int, 60, .inl (s.2.1 1277))) := gM_60 s.1 s.2.1
theorem gS_M61 (s : St) : (mkMs s)[61]? = some (.inl (.int, 60, .inl (s.2.1 1278))) := gM_61 s.1 s.2.1
theorem gS_M62 (s : St) : (mkMs s)[62]? = some (.inl (.int, 60, .inl (s.2.1 1279))) := gM_62 s.1 s.2.1
theorem gS_M63 (s : St) : (mkMs s)[63]? = some (.inl (.int, 5, .inl (s.2.1 1281))) := gM_63 s.1 s.2.1
theorem gS_M64 (s : St) : (mkMs s)[64]? = some (.inl (.int, 60, .inl (s.2.1 1282))) := gM_64 s.1 s.2.1
theorem gS_M65 (s : St) : (mkMs s)[65]? = some (.inl (.int, 60, .inl (s.2.1 1283))) := gM_65 s.1 s.2.1
theorem gS_M66 (s : St) : (mkMs s)[66]? = some (.inl (.int, 60, .inl (s.2.1 1284))) := gM_66 s.1 s.2.1
theorem gS_M67 (s : St) : (mkMs s)[67]? = some (.inl (.boolean, 60, .inl (s.2.1 1285))) := gM_67 s.1 s.2.1
theorem gS_M68 (s : St) : (mkMs s)[68]? = some (.inl (.int, 20, .inl (s.2.1 1286))) := gM_68 s.1 s.2.1
theorem gS_M69 (s : St) : (mkMs s)[69]? = some (.inl (.int, 24, .inl (s.2.1 1289))) := gM_69 s.1 s.2.1
theorem gS_M70 (s : St) : (mkMs s)[70]? = some (.inl (.int, 24, .inl (s.2.1 1290))) := gM_70 s.1 s.2.1
theorem gS_M71 (s : St) : (mkMs s)[71]? = some (.inl (.boolean, 24, .inl (s.2.1 1291))) := gM_71 s.1 s.2.1
theorem gS_M72 (s : St) : (mkMs s)[72]? = some (.inl (.int, 4, .inl (s.2.1 1292))) := gM_72 s.1 s.2.1
theorem gS_M73 (s : St) : (mkMs s)[73]? = some (.inl (.int, 4, .inl (s.2.1 1293))) := gM_73 s.1 s.2.1
theorem gS_M74 (s : St) : (mkMs s)[74]? = some (.inl (.int, 40, .inl (s.2.1 1294))) := gM_74 s.1 s.2.1
theorem gS_M75 (s : St) : (mkMs s)[75]? = some (.inl (.int, 40, .inl (s.2.1 1295))) := gM_75 s.1 s.2.1
theorem gS_M76 (s : St) : (mkMs s)[76]? = some (.inl (.int, 48, .inl (s.2.1 1298))) := gM_76 s.1 s.2.1
theorem sS_Mf_0 (s : St) (v : Int32) : (mkMs s).set 0 (.inr (12, (fM s.1).set 0 (.int v))) = mkMs (pI s 1200 v) := sMf_0 s.1 s.2.1 v
theorem sS_Mf_12 (s : St) (v : Int32) : (mkMs s).set 0 (.inr (12, (fM s.1).set 12 (.int v))) = mkMs (pI s 1212 v) := sMf_12 s.1 s.2.1 v
theorem sS_Mf_13 (s : St) (v : Int32) : (mkMs s).set 0 (.inr (12, (fM s.1).set 13 (.int v))) = mkMs (pI s 1213 v) := sMf_13 s.1 s.2.1 v
theorem sS_Mf_23 (s : St) (v : Int32) : (mkMs s).set 0 (.inr (12, (fM s.1).set 23 (.int v))) = mkMs (pI s 1223 v) := sMf_23 s.1 s.2.1 v
theorem sS_Mf_26 (s : St) (v : Int32) : (mkMs s).set 0 (.inr (12, (fM s.1).set 26 (.int v))) = mkMs (pI s 1226 v) := sMf_26 s.1 s.2.1 v
theorem sS_Mf_35 (s : St) (v : Int32) : (mkMs s).set 0 (.inr (12, (fM s.1).set 35 (.int v))) = mkMs (pI s 1235 v) := sMf_35 s.1 s.2.1 v
theorem sS_Mf_36 (s : St) (v : Int32) : (mkMs s).set 0 (.inr (12, (fM s.1).set 36 (.int v))) = mkMs (pI s 1236 v) := sMf_36 s.1 s.2.1 v
theorem sS_Mf_37 (s : St) (v : Int32) : (mkMs s).set 0 (.inr (12, (fM s.1).set 37 (.int v))) = mkMs (pI s 1237 v) := sMf_37 s.1 s.2.1 v
theorem sS_Mf_38 (s : St) (v : Int32) : (mkMs s).set 0 (.inr (12, (fM s.1).set 38 (.int v))) = mkMs (pI s 1238 v) := sMf_38 s.1 s.2.1 v
theorem sS_Mf_39 (s : St) (v : Int32) : (mkMs s).set 0 (.inr (12, (fM s.1).set 39 (.int v))) = mkMs (pI s 1239 v) := sMf_39 s.1 s.2.1 v
theorem sS_Mf_40 (s : St) (v : Int32) : (mkMs s).set 0 (.inr (12, (fM s.1).set 40 (.int v))) = mkMs (pI s 1240 v) := sMf_40 s.1 s.2.1 v
theorem sS_Mf_43 (s : St) (v : Int32) : (mkMs s).set 0 (.inr (12, (fM s.1).set 43 (.int v))) = mkMs (pI s 1243 v) := sMf_43 s.1 s.2.1 v
theorem sS_Mf_44 (s : St) (v : Int32) : (mkMs s).set 0 (.inr (12, (fM s.1).set 44 (.int v))) = mkMs (pI s 1244 v) := sMf_44 s.1 s.2.1 v
theorem sS_Mf_56 (s : St) (v : Int32) : (mkMs s).set 0 (.inr (12, (fM s.1).set 56 (.int v))) = mkMs (pI s 1256 v) := sMf_56 s.1 s.2.1 v
theorem sS_Mf_63 (s : St) (v : Int32) : (mkMs s).set 0 (.inr (12, (fM s.1).set 63 (.int v))) = mkMs (pI s 1263 v) := sMf_63 s.1 s.2.1 v
theorem sS_Mf_64 (s : St) (v : Int32) : (mkMs s).set 0 (.inr (12, (fM s.1).set 64 (.int v))) = mkMs (pI s 1264 v) := sMf_64 s.1 s.2.1 v
theorem sS_Mf_67 (s : St) (v : Int32) : (mkMs s).set 0 (.inr (12, (fM s.1).set 67 (.int v))) = mkMs (pI s 1267 v) := sMf_67 s.1 s.2.1 v
theorem sS_Mf_75 (s : St) (v : Int32) : (mkMs s).set 0 (.inr (12, (fM s.1).set 75 (.int v))) = mkMs (pI s 1275 v) := sMf_75 s.1 s.2.1 v
theorem sS_Mf_80 (s : St) (v : Int32) : (mkMs s).set 0 (.inr (12, (fM s.1).set 80 (.int v))) = mkMs (pI s 1280 v) := sMf_80 s.1 s.2.1 v
theorem sS_Mf_87 (s : St) (v : Int32) : (mkMs s).set 0 (.inr (12, (fM s.1).set 87 (.int v))) = mkMs (pI s 1287 v) := sMf_87 s.1 s.2.1 v
theorem sS_Mf_88 (s : St) (v : Int32) : (mkMs s).set 0 (.inr (12, (fM s.1).set 88 (.int v))) = mkMs (pI s 1288 v) := sMf_88 s.1 s.2.1 v
theorem sS_Mf_96 (s : St) (v : Int32) : (mkMs s).set 0 (.inr (12, (fM s.1).set 96 (.int v))) = mkMs (pI s 1296 v) := sMf_96 s.1 s.2.1 v
theorem sS_Mf_97 (s : St) (v : Int32) : (mkMs s).set 0 (.inr (12, (fM s.1).set 97 (.int v))) = mkMs (pI s 1297 v) := sMf_97 s.1 s.2.1 v
theorem sS_Mf_99 (s : St) (v : Int32) : (mkMs s).set 0 (.inr (12, (fM s.1).set 99 (.int v))) = mkMs (pI s 1299 v) := sMf_99 s.1 s.2.1 v
theorem sS_Ma_1 (s : St) (i v : Int32) : (mkMs s).set 1 (.inl (.int, 240, .inl (upd (s.2.1 1201) i.toNatClampNeg v))) = mkMs (pA s 1201 i v) := sMa_1 s.1 s.2.1 _
theorem sS_Ma_2 (s : St) (i v : Int32) : (mkMs s).set 2 (.inl (.boolean, 601, .inl (upd (s.2.1 1202) i.toNatClampNeg v))) = mkMs (pA s 1202 i v) := sMa_2 s.1 s.2.1 _
theorem sS_Ma_3 (s : St) (i v : Int32) : (mkMs s).set 3 (.inl (.int, 120, .inl (upd (s.2.1 1203) i.toNatClampNeg v))) = mkMs (pA s 1203 i v) := sMa_3 s.1 s.2.1 _
theorem sS_Ma_4 (s : St) (i v : Int32) : (mkMs s).set 4 (.inl (.int, 24, .inl (upd (s.2.1 1204) i.toNatClampNeg v))) = mkMs (pA s 1204 i v) := sMa_4 s.1 s.2.1 _
theorem sS_Ma_5 (s : St) (i v : Int32) : (mkMs s).set 5 (.inl (.int, 24, .inl (upd (s.2.1 1205) i.toNatClampNeg v))) = mkMs (pA s 1205 i v) := sMa_5 s.1 s.2.1 _
theorem sS_Ma_6 (s : St) (i v : Int32) : (mkMs s).set 6 (.inl (.int, 24, .inl (upd (s.2.1 1206) i.toNatClampNeg v))) = mkMs (pA s 1206 i v) := sMa_6 s.1 s.2.1 _
theorem sS_Ma_7 (s : St) (i v : Int32) : (mkMs s).set 7 (.inl (.int, 200, .inl (upd (s.2.1 1207) i.toNatClampNeg v))) = mkMs (pA s 1207 i v) := sMa_7 s.1 s.2.1 _
theorem sS_Ma_8 (s : St) (i v : Int32) : (mkMs s).set 8 (.inl (.int, 200, .inl (upd (s.2.1 1208) i.toNatClampNeg v))) = mkMs (pA s 1208 i v) := sMa_8 s.1 s.2.1 _
theorem sS_Ma_9 (s : St) (i v : Int32) : (mkMs s).set 9 (.inl (.int, 200, .inl (upd (s.2.1 1209) i.toNatClampNeg v))) = mkMs (pA s 1209 i v) := sMa_9 s.1 s.2.1 _
theorem sS_Ma_10 (s : St) (i v : Int32) : (mkMs s).set 10 (.inl (.int, 200, .inl (upd (s.2.1 1210) i.toNatClampNeg v))) = mkMs (pA s 1210 i v) := sMa_10 s.1 s.2.1 _
theorem sS_Ma_11 (s : St) (i v : Int32) : (mkMs s).set 11 (.inl (.int, 200, .inl (upd (s.2.1 1211) i.toNatClampNeg v))) = mkMs (pA s 1211 i v) := sMa_11 s.1 s.2.1 _
theorem sS_Ma_12 (s : St) (i v : Int32) : (mkMs s).set 12 (.inl (.int, 20, .inl (upd (s.2.1 1214) i.toNatClampNeg v))) = mkMs (pA s 1214 i v) := sMa_12 s.1 s.2.1 _
theorem sS_Ma_13 (s : St) (i v : Int32) : (mkMs s).set 13 (.inl (.int, 20, .inl (upd (s.2.1 1215) i.toNatClampNeg v))) = mkMs (pA s 1215 i v) := sMa_13 s.1 s.2.1 _
theorem sS_Ma_14 (s : St) (i v : Int32) : (mkMs s).set 14 (.inl (.int, 20, .inl (upd (s.2.1 1216) i.toNatClampNeg v))) = mkMs (pA s 1216 i v) := sMa_14 s.1 s.2.1 _
theorem sS_Ma_15 (s : St) (i v : Int32) : (mkMs s).set 15 (.inl (.int, 20, .inl (upd (s.2.1 1217) i.toNatClampNeg v))) = mkMs (pA s 1217 i v) := sMa_15 s.1 s.2.1 _
theorem sS_Ma_16 (s : St) (i v : Int32) : (mkMs s).set 16 (.inl (.int, 20, .inl (upd (s.2.1 1218) i.toNatClampNeg v))) = mkMs (pA s 1218 i v) := sMa_16 s.1 s.2.1 _
theorem sS_Ma_17 (s : St) (i v : Int32) : (mkMs s).set 17 (.inl (.int, 20, .inl (upd (s.2.1 1219) i.toNatClampNeg v))) = mkMs (pA s 1219 i v) := sMa_17 s.1 s.2.1 _
theorem sS_Ma_18 (s : St) (i v : Int32) : (mkMs s).set 18 (.inl (.int, 20, .inl (upd (s.2.1 1220) i.toNatClampNeg v))) = mkMs (pA s 1220 i v) := sMa_18 s.1 s.2.1 _
theorem sS_Ma_19 (s : St) (i v : Int32) : (mkMs s).set 19 (.inl (.boolean, 20, .inl (upd (s.2.1 1221) i.toNatClampNeg v))) = mkMs (pA s 1221 i v) := sMa_19 s.1 s.2.1 _
theorem sS_Ma_20 (s : St) (i v : Int32) : (mkMs s).set 20 (.inl (.int, 100, .inl (upd (s.2.1 1222) i.toNatClampNeg v))) = mkMs (pA s 1222 i v) := sMa_20 s.1 s.2.1 _
theorem sS_Ma_21 (s : St) (i v : Int32) : (mkMs s).set 21 (.inl (.int, 4096, .inl (upd (s.2.1 1224) i.toNatClampNeg v))) = mkMs (pA s 1224 i v) := sMa_21 s.1 s.2.1 _
theorem sS_Ma_22 (s : St) (i v : Int32) : (mkMs s).set 22 (.inl (.int, 4096, .inl (upd (s.2.1 1225) i.toNatClampNeg v))) = mkMs (pA s 1225 i v) := sMa_22 s.1 s.2.1 _
theorem sS_Ma_23 (s : St) (i v : Int32) : (mkMs s).set 23 (.inl (.boolean, 20, .inl (upd (s.2.1 1227) i.toNatClampNeg v))) = mkMs (pA s 1227 i v) := sMa_23 s.1 s.2.1 _
theorem sS_Ma_24 (s : St) (i v : Int32) : (mkMs s).set 24 (.inl (.int, 160, .inl (upd (s.2.1 1228) i.toNatClampNeg v))) = mkMs (pA s 1228 i v) := sMa_24 s.1 s.2.1 _
theorem sS_Ma_25 (s : St) (i v : Int32) : (mkMs s).set 25 (.inl (.int, 420, .inl (upd (s.2.1 1229) i.toNatClampNeg v))) = mkMs (pA s 1229 i v) := sMa_25 s.1 s.2.1 _
theorem sS_Ma_26 (s : St) (i v : Int32) : (mkMs s).set 26 (.inl (.int, 8400, .inl (upd (s.2.1 1230) i.toNatClampNeg v))) = mkMs (pA s 1230 i v) := sMa_26 s.1 s.2.1 _
theorem sS_Ma_27 (s : St) (i v : Int32) : (mkMs s).set 27 (.inl (.int, 20, .inl (upd (s.2.1 1231) i.toNatClampNeg v))) = mkMs (pA s 1231 i v) := sMa_27 s.1 s.2.1 _
theorem sS_Ma_28 (s : St) (i v : Int32) : (mkMs s).set 28 (.inl (.int, 20, .inl (upd (s.2.1 1232) i.toNatClampNeg v))) = mkMs (pA s 1232 i v) := sMa_28 s.1 s.2.1 _
theorem sS_Ma_29 (s : St) (i v : Int32) : (mkMs s).set 29 (.inl (.int, 20, .inl (upd (s.2.1 1233) i.toNatClampNeg v))) = mkMs (pA s 1233 i v) := sMa_29 s.1 s.2.1 _
theorem sS_Ma_30 (s : St) (i v : Int32) : (mkMs s).set 30 (.inl (.int, 20, .inl (upd (s.2.1 1234) i.toNatClampNeg v))) = mkMs (pA s 1234 i v) := sMa_30 s.1 s.2.1 _
theorem sS_Ma_31 (s : St) (i v : Int32) : (mkMs s).set 31 (.inl (.int, 128, .inl (upd (s.2.1 1241) i.toNatClampNeg v))) = mkMs (pA s 1241 i v) := sMa_31 s.1 s.2.1 _
theorem sS_Ma_32 (s : St) (i v : Int32) : (mkMs s).set 32 (.inl (.int, 200, .inl (upd (s.2.1 1242) i.toNatClampNeg v))) = mkMs (pA s 1242 i v) := sMa_32 s.1 s.2.1 _
theorem sS_Ma_33 (s : St) (i v : Int32) : (mkMs s).set 33 (.inl (.int, 480, .inl (upd (s.2.1 1245) i.toNatClampNeg v))) = mkMs (pA s 1245 i v) := sMa_33 s.1 s.2.1 _
theorem sS_Ma_34 (s : St) (i v : Int32) : (mkMs s).set 34 (.inl (.int, 20, .inl (upd (s.2.1 1246) i.toNatClampNeg v))) = mkMs (pA s 1246 i v) := sMa_34 s.1 s.2.1 _
theorem sS_Ma_35 (s : St) (i v : Int32) : (mkMs s).set 35 (.inl (.int, 24, .inl (upd (s.2.1 1247) i.toNatClampNeg v))) = mkMs (pA s 1247 i v) := sMa_35 s.1 s.2.1 _
theorem sS_Ma_36 (s : St) (i v : Int32) : (mkMs s).set 36 (.inl (.int, 480, .inl (upd (s.2.1 1248) i.toNatClampNeg v))) = mkMs (pA s 1248 i v) := sMa_36 s.1 s.2.1 _
theorem sS_Ma_37 (s : St) (i v : Int32) : (mkMs s).set 37 (.inl (.boolean, 480, .inl (upd (s.2.1 1249) i.toNatClampNeg v))) = mkMs (pA s 1249 i v) := sMa_37 s.1 s.2.1 _
theorem sS_Ma_38 (s : St) (i v : Int32) : (mkMs s).set 38 (.inl (.int, 480, .inl (upd (s.2.1 1250) i.toNatClampNeg v))) = mkMs (pA s 1250 i v) := sMa_38 s.1 s.2.1 _
theorem sS_Ma_39 (s : St) (i v : Int32) : (mkMs s).set 39 (.inl (.int, 20, .inl (upd (s.2.1 1251) i.toNatClampNeg v))) = mkMs (pA s 1251 i v) := sMa_39 s.1 s.2.1 _
theorem sS_Ma_40 (s : St) (i v : Int32) : (mkMs s).set 40 (.inl (.int, 24, .inl (upd (s.2.1 1252) i.toNatClampNeg v))) = mkMs (pA s 1252 i v) := sMa_40 s.1 s.2.1 _
theorem sS_Ma_41 (s : St) (i v : Int32) : (mkMs s).set 41 (.inl (.int, 20, .inl (upd (s.2.1 1253) i.toNatClampNeg v))) = mkMs (pA s 1253 i v) := sMa_41 s.1 s.2.1 _
theorem sS_Ma_42 (s : St) (i v : Int32) : (mkMs s).set 42 (.inl (.int, 9, .inl (upd (s.2.1 1254) i.toNatClampNeg v))) = mkMs (pA s 1254 i v) := sMa_42 s.1 s.2.1 _
theorem sS_Ma_43 (s : St) (i v : Int32) : (mkMs s).set 43 (.inl (.int, 24, .inl (upd (s.2.1 1255) i.toNatClampNeg v))) = mkMs (pA s 1255 i v) := sMa_43 s.1 s.2.1 _
theorem sS_Ma_44 (s : St) (i v : Int32) : (mkMs s).set 44 (.inl (.int, 8, .inl (upd (s.2.1 1257) i.toNatClampNeg v))) = mkMs (pA s 1257 i v) := sMa_44 s.1 s.2.1 _
theorem sS_Ma_45 (s : St) (i v : Int32) : (mkMs s).set 45 (.inl (.int, 8, .inl (upd (s.2.1 1258) i.toNatClampNeg v))) = mkMs (pA s 1258 i v) := sMa_45 s.1 s.2.1 _
theorem sS_Ma_46 (s : St) (i v : Int32) : (mkMs s).set 46 (.inl (.int, 8, .inl (upd (s.2.1 1259) i.toNatClampNeg v))) = mkMs (pA s 1259 i v) := sMa_46 s.1 s.2.1 _
theorem sS_Ma_47 (s : St) (i v : Int32) : (mkMs s).set 47 (.inl (.int, 8, .inl (upd (s.2.1 1260) i.toNatClampNeg v))) = mkMs (pA s 1260 i v) := sMa_47 s.1 s.2.1 _
theorem sS_Ma_48 (s : St) (i v : Int32) : (mkMs s).set 48 (.inl (.int, 10, .inl (upd (s.2.1 1261) i.toNatClampNeg v))) = mkMs (pA s 1261 i v) := sMa_48 s.1 s.2.1 _
theorem sS_Ma_49 (s : St) (i v : Int32) : (mkMs s).set 49 (.inl (.int, 5, .inl (upd (s.2.1 1262) i.toNatClampNeg v))) = mkMs (pA s 1262 i v) := sMa_49 s.1 s.2.1 _
theorem sS_Ma_50 (s : St) (i v : Int32) : (mkMs s).set 50 (.inl (.int, 20, .inl (upd (s.2.1 1265) i.toNatClampNeg v))) = mkMs (pA s 1265 i v) := sMa_50 s.1 s.2.1 _
theorem sS_Ma_51 (s : St) (i v : Int32) : (mkMs s).set 51 (.inl (.int, 480, .inl (upd (s.2.1 1266) i.toNatClampNeg v))) = mkMs (pA s 1266 i v) := sMa_51 s.1 s.2.1 _
theorem sS_Ma_52 (s : St) (i v : Int32) : (mkMs s).set 52 (.inl (.int, 40, .inl (upd (s.2.1 1268) i.toNatClampNeg v))) = mkMs (pA s 1268 i v) := sMa_52 s.1 s.2.1 _
theorem sS_Ma_53 (s : St) (i v : Int32) : (mkMs s).set 53 (.inl (.int, 40, .inl (upd (s.2.1 1269) i.toNatClampNeg v))) = mkMs (pA s 1269 i v) := sMa_53 s.1 s.2.1 _
theorem sS_Ma_54 (s : St) (i v : Int32) : (mkMs s).set 54 (.inl (.int, 40, .inl (upd (s.2.1 1270) i.toNatClampNeg v))) = mkMs (pA s 1270 i v) := sMa_54 s.1 s.2.1 _
theorem sS_Ma_55 (s : St) (i v : Int32) : (mkMs s).set 55 (.inl (.int, 40, .inl (upd (s.2.1 1271) i.toNatClampNeg v))) = mkMs (pA s 1271 i v) := sMa_55 s.1 s.2.1 _
theorem sS_Ma_56 (s : St) (i v : Int32) : (mkMs s).set 56 (.inl (.int, 40, .inl (upd (s.2.1 1272) i.toNatClampNeg v))) = mkMs (pA s 1272 i v) := sMa_56 s.1 s.2.1 _
theorem sS_Ma_57 (s : St) (i v : Int32) : (mkMs s).set 57 (.inl (.int, 40, .inl (upd (s.2.1 1273) i.toNatClampNeg v))) = mkMs (pA s 1273 i v) := sMa_57 s.1 s.2.1 _
theorem sS_Ma_58 (s : St) (i v : Int32) : (mkMs s).set 58 (.inl (.int, 20, .inl (upd (s.2.1 1274) i.toNatClampNeg v))) = mkMs (pA s 1274 i v) := sMa_58 s.1 s.2.1 _
theorem sS_Ma_59 (s : St) (i v : Int32) : (mkMs s).set 59 (.inl (.int, 60, .inl (upd (s.2.1 1276) i.toNatClampNeg v))) = mkMs (pA s 1276 i v) := sMa_59 s.1 s.2.1 _
theorem sS_Ma_60 (s : St) (i v : Int32) : (mkMs s).set 60 (.inl (.int, 60, .inl (upd (s.2.1 1277) i.toNatClampNeg v))) = mkMs (pA s 1277 i v) := sMa_60 s.1 s.2.1 _
theorem sS_Ma_61 (s : St) (i v : Int32) : (mkMs s).set 61 (.inl (.int, 60, .inl (upd (s.2.1 1278) i.toNatClampNeg v))) = mkMs (pA s 1278 i v) := sMa_61 s.1 s.2.1 _
theorem sS_Ma_62 (s : St) (i v : Int32) : (mkMs s).set 62 (.inl (.int, 60, .inl (upd (s.2.1 1279) i.toNatClampNeg v))) = mkMs (pA s 1279 i v) := sMa_62 s.1 s.2.1 _
theorem sS_Ma_63 (s : St) (i v : Int32) : (mkMs s).set 63 (.inl (.int, 5, .inl (upd (s.2.1 1281) i.toNatClampNeg v))) = mkMs (pA s 1281 i v) := sMa_63 s.1 s.2.1 _
theorem sS_Ma_64 (s : St) (i v : Int32) : (mkMs s).set 64 (.inl (.int, 60, .inl (upd (s.2.1 1282) i.toNatClampNeg v))) = mkMs (pA s 1282 i v) := sMa_64 s.1 s.2.1 _
theorem sS_Ma_65 (s : St) (i v : Int32) : (mkMs s).set 65 (.inl (.int, 60, .inl (upd (s.2.1 1283) i.toNatClampNeg v))) = mkMs (pA s 1283 i v) := sMa_65 s.1 s.2.1 _
theorem sS_Ma_66 (s : St) (i v : Int32) : (mkMs s).set 66 (.inl (.int, 60, .inl (upd (s.2.1 1284) i.toNatClampNeg v))) = mkMs (pA s 1284 i v) := sMa_66 s.1 s.2.1 _
theorem sS_Ma_67 (s : St) (i v : Int32) : (mkMs s).set 67 (.inl (.boolean, 60, .inl (upd (s.2.1 1285) i.toNatClampNeg v))) = mkMs (pA s 1285 i v) := sMa_67 s.1 s.2.1 _
theorem sS_Ma_68 (s : St) (i v : Int32) : (mkMs s).set 68 (.inl (.int, 20, .inl (upd (s.2.1 1286) i.toNatClampNeg v))) = mkMs (pA s 1286 i v) := sMa_68 s.1 s.2.1 _
theorem sS_Ma_69 (s : St) (i v : Int32) : (mkMs s).set 69 (.inl (.int, 24, .inl (upd (s.2.1 1289) i.toNatClampNeg v))) = mkMs (pA s 1289 i v) := sMa_69 s.1 s.2.1 _
theorem sS_Ma_70 (s : St) (i v : Int32) : (mkMs s).set 70 (.inl (.int, 24, .inl (upd (s.2.1 1290) i.toNatClampNeg v))) = mkMs (pA s 1290 i v) := sMa_70 s.1 s.2.1 _
theorem sS_Ma_71 (s : St) (i v : Int32) : (mkMs s).set 71 (.inl (.boolean, 24, .inl (upd (s.2.1 1291) i.toNatClampNeg v))) = mkMs (pA s 1291 i v) := sMa_71 s.1 s.2.1 _
theorem sS_Ma_72 (s : St) (i v : Int32) : (mkMs s).set 72 (.inl (.int, 4, .inl (upd (s.2.1 1292) i.toNatClampNeg v))) = mkMs (pA s 1292 i v) := sMa_72 s.1 s.2.1 _
theorem sS_Ma_73 (s : St) (i v : Int32) : (mkMs s).set 73 (.inl (.int, 4, .inl (upd (s.2.1 1293) i.toNatClampNeg v))) = mkMs (pA s 1293 i v) := sMa_73 s.1 s.2.1 _
theorem sS_Ma_74 (s : St) (i v : Int32) : (mkMs s).set 74 (.inl (.int, 40, .inl (upd (s.2.1 1294) i.toNatClampNeg v))) = mkMs (pA s 1294 i v) := sMa_74 s.1 s.2.1 _
theorem sS_Ma_75 (s : St) (i v : Int32) : (mkMs s).set 75 (.inl (.int, 40, .inl (upd (s.2.1 1295) i.toNatClampNeg v))) = mkMs (pA s 1295 i v) := sMa_75 s.1 s.2.1 _
theorem sS_Ma_76 (s : St) (i v : Int32) : (mkMs s).set 76 (.inl (.int, 48, .inl (upd (s.2.1 1298) i.toNatClampNeg v))) = mkMs (pA s 1298 i v) := sMa_76 s.1 s.2.1 _
theorem gS_C0 (s : St) : (mkCs s)[0]? = some (.inr (11, fC11 s.1)) := gC_0 s.1 s.2.1 s.2.2.1 s.2.2.2
theorem gS_C1 (s : St) : (mkCs s)[1]? = some (.inr (2, fC2 s.1)) := gC_1 s.1 s.2.1 s.2.2.1 s.2.2.2
theorem gS_C2 (s : St) : (mkCs s)[2]? = some (.inl (.int, 120, .inl (s.2.1 200))) := gC_2 s.1 s.2.1 s.2.2.1 s.2.2.2
theorem gS_C3 (s : St) : (mkCs s)[3]? = some (.inl (.int, 120, .inl (s.2.1 201))) := gC_3 s.1 s.2.1 s.2.2.1 s.2.2.2
theorem gS_C4 (s : St) : (mkCs s)[4]? = some (.inl (.boolean, 601, .inl (s.2.1 202))) := gC_4 s.1 s.2.1 s.2.2.1 s.2.2.2
theorem gS_C5 (s : St) : (mkCs s)[5]? = some (.inl (.array .int, 240, .inr (.inr (.inr (.inr (s.2.2.1 203)))))) := gC_5 s.1 s.2.1 s.2.2.1 s.2.2.2
theorem gS_C6 (s : St) : (mkCs s)[6]? = some (.inl (.boolean, 240, .inl (s.2.1 204))) := gC_6 s.1 s.2.1 s.2.2.1 s.2.2.2
theorem gS_C7 (s : St) : (mkCs s)[7]? = some (.inr (9, fC9 s.1)) := gC_7 s.1 s.2.1 s.2.2.1 s.2.2.2
theorem gS_C8 (s : St) : (mkCs s)[8]? = some (.inl (.int, 160, .inl (s.2.1 900))) := gC_8 s.1 s.2.1 s.2.2.1 s.2.2.2
theorem gS_C9 (s : St) : (mkCs s)[9]? = some (.inl (.int, 160, .inl (s.2.1 905))) := gC_9 s.1 s.2.1 s.2.2.1 s.2.2.2
theorem gS_C10 (s : St) : (mkCs s)[10]? = some (.inl (.int, 164, .inl (s.2.1 907))) := gC_10 s.1 s.2.1 s.2.2.1 s.2.2.2
theorem gS_C11 (s : St) : (mkCs s)[11]? = some (.inr (0, fC0 s.1)) := gC_11 s.1 s.2.1 s.2.2.1 s.2.2.2
theorem gS_C12 (s : St) : (mkCs s)[12]? = some (.inl (.int, 20, .inl (s.2.1 1))) := gC_12 s.1 s.2.1 s.2.2.1 s.2.2.2
theorem gS_C13 (s : St) : (mkCs s)[13]? = some (.inl (.int, 20, .inl (s.2.1 2))) := gC_13 s.1 s.2.1 s.2.2.1 s.2.2.2
theorem gS_C14 (s : St) : (mkCs s)[14]? = some (.inl (.int, 20, .inl (s.2.1 3))) := gC_14 s.1 s.2.1 s.2.2.1 s.2.2.2
theorem gS_C15 (s : St) : (mkCs s)[15]? = some (.inl (.int, 20, .inl (s.2.1 4))) := gC_15 s.1 s.2.1 s.2.2.1 s.2.2.2
theorem gS_C16 (s : St) : (mkCs s)[16]? = some (.inl (.array .int, 20, .inr (.inr (.inr (.inr (s.2.2.1 5)))))) := gC_16 s.1 s.2.1 s.2.2.1 s.2.2.2
theorem gS_C17 (s : St) : (mkCs s)[17]? = some (.inl (.array .int, 20, .inr (.inr (.inr (.inr (s.2.2.1 6)))))) := gC_17 s.1 s.2.1 s.2.2.1 s.2.2.2
theorem gS_C18 (s : St) : (mkCs s)[18]? = some (.inl (.int, 6, .inl (s.2.1 7))) := gC_18 s.1 s.2.1 s.2.2.1 s.2.2.2
theorem gS_C19 (s : St) : (mkCs s)[19]? = some (.inl (.int, 64, .inl (s.2.1 8))) := gC_19 s.1 s.2.1 s.2.2.1 s.2.2.2
theorem gS_C20 (s : St) : (mkCs s)[20]? = some (.inr (1, fC1 s.1)) := gC_20 s.1 s.2.1 s.2.2.1 s.2.2.2
theorem gS_C21 (s : St) : (mkCs s)[21]? = some (.inl (.int, 24, .inl (s.2.1 102))) := gC_21 s.1 s.2.1 s.2.2.1 s.2.2.2
theorem gS_C22 (s : St) : (mkCs s)[22]? = some (.inl (.int, 24, .inl (s.2.1 103))) := gC_22 s.1 s.2.1 s.2.2.1 s.2.2.2
theorem gS_C23 (s : St) : (mkCs s)[23]? = some (.inl (.int, 24, .inl (s.2.1 104))) := gC_23 s.1 s.2.1 s.2.2.1 s.2.2.2
theorem gS_C24 (s : St) : (mkCs s)[24]? = some (.inl (.int, 24, .inl (s.2.1 105))) := gC_24 s.1 s.2.1 s.2.2.1 s.2.2.2
theorem gS_C25 (s : St) : (mkCs s)[25]? = some (.inl (.int, 24, .inl (s.2.1 106))) := gC_25 s.1 s.2.1 s.2.2.1 s.2.2.2
theorem gS_C26 (s : St) : (mkCs s)[26]? = some (.inl (.int, 200, .inl (s.2.1 108))) := gC_26 s.1 s.2.1 s.2.2.1 s.2.2.2
theorem gS_C27 (s : St) : (mkCs s)[27]? = some (.inl (.int, 200, .inl (s.2.1 109))) := gC_27 s.1 s.2.1 s.2.2.1 s.2.2.2
theorem gS_C28 (s : St) : (mkCs s)[28]? = some (.inl (.int, 200, .inl (s.2.1 110))) := gC_28 s.1 s.2.1 s.2.2.1 s.2.2.2
theorem gS_C29 (s : St) : (mkCs s)[29]? = some (.inl (.int, 200, .inl (s.2.1 111))) := gC_29 s.1 s.2.1 s.2.2.1 s.2.2.2
theorem gS_C30 (s : St) : (mkCs s)[30]? = some (.inl (.int, 200, .inl (s.2.1 112))) := gC_30 s.1 s.2.1 s.2.2.1 s.2.2.2
theorem gS_C31 (s : St) : (mkCs s)[31]? = some (.inl (.int, 60, .inl (s.2.1 114))) := gC_31 s.1 s.2.1 s.2.2.1 s.2.2.2
theorem gS_C32 (s : St) : (mkCs s)[32]? = some (.inl (.int, 60, .inl (s.2.1 115))) := gC_32 s.1 s.2.1 s.2.2.1 s.2.2.2
theorem gS_C33 (s : St) : (mkCs s)[33]? = some (.inl (.int, 60, .inl (s.2.1 116))) := gC_33 s.1 s.2.1 s.2.2.1 s.2.2.2
theorem gS_C34 (s : St) : (mkCs s)[34]? = some (.inl (.int, 60, .inl (s.2.1 117))) := gC_34 s.1 s.2.1 s.2.2.1 s.2.2.2
theorem gS_C35 (s : St) : (mkCs s)[35]? = some (.inr (5, fC5 s.1)) := gC_35 s.1 s.2.1 s.2.2.1 s.2.2.2
theorem gS_C36 (s : St) : (mkCs s)[36]? = some (.inl (.int, 20, .inl (s.2.1 502))) := gC_36 s.1 s.2.1 s.2.2.1 s.2.2.2
theorem gS_C37 (s : St) : (mkCs s)[37]? = some (.inl (.int, 20, .inl (s.2.1 503))) := gC_37 s.1 s.2.1 s.2.2.1 s.2.2.2
theorem gS_C38 (s : St) : (mkCs s)[38]? = some (.inl (.int, 20, .inl (s.2.1 504))) := gC_38 s.1 s.2.1 s.2.2.1 s.2.2.2
theorem gS_C39 (s : St) : (mkCs s)[39]? = some (.inl (.int, 20, .inl (s.2.1 505))) := gC_39 s.1 s.2.1 s.2.2.1 s.2.2.2
theorem gS_C40 (s : St) : (mkCs s)[40]? = some (.inl (.int, 20, .inl (s.2.1 506))) := gC_40 s.1 s.2.1 s.2.2.1 s.2.2.2
theorem gS_C41 (s : St) : (mkCs s)[41]? = some (.inl (.int, 20, .inl (s.2.1 507))) := gC_41 s.1 s.2.1 s.2.2.1 s.2.2.2
theorem gS_C42 (s : St) : (mkCs s)[42]? = some (.inl (.int, 20, .inl (s.2.1 508))) := gC_42 s.1 s.2.1 s.2.2.1 s.2.2.2
theorem gS_C43 (s : St) : (mkCs s)[43]? = some (.inl (.boolean, 20, .inl (s.2.1 509))) := gC_43 s.1 s.2.1 s.2.2.1 s.2.2.2
theorem gS_C44 (s : St) : (mkCs s)[44]? = some (.inl (.int, 601, .inl (s.2.1 510))) := gC_44 s.1 s.2.1 s.2.2.1 s.2.2.2
theorem gS_C45 (s : St) : (mkCs s)[45]? = some (.inr (10, fC10 s.1)) := gC_45 s.1 s.2.1 s.2.2.1 s.2.2.2
theorem gS_C46 (s : St) : (mkCs s)[46]? = some (.inl (.int, 8, .inl (s.2.1 1005))) := gC_46 s.1 s.2.1 s.2.2.1 s.2.2.2
theorem gS_C47 (s : St) : (mkCs s)[47]? = some (.inl (.int, 8, .inl (s.2.1 1006))) := gC_47 s.1 s.2.1 s.2.2.1 s.2.2.2
theorem gS_C48 (s : St) : (mkCs s)[48]? = some (.inl (.int, 8, .inl (s.2.1 1007))) := gC_48 s.1 s.2.1 s.2.2.1 s.2.2.2
theorem gS_C49 (s : St) : (mkCs s)[49]? = some (.inl (.int, 8, .inl (s.2.1 1008))) := gC_49 s.1 s.2.1 s.2.2.1 s.2.2.2
theorem gS_C50 (s : St) : (mkCs s)[50]? = some (.inl (.int, 10, .inl (s.2.1 1010))) := gC_50 s.1 s.2.1 s.2.2.1 s.2.2.2
theorem gS_C51 (s : St) : (mkCs s)[51]? = some (.inl (.int, 5, .inl (s.2.1 1011))) := gC_51 s.1 s.2.1 s.2.2.1 s.2.2.2
theorem gS_C52 (s : St) : (mkCs s)[52]? = some (.inl (.int, 100, .inl (s.2.1 1012))) := gC_52 s.1 s.2.1 s.2.2.1 s.2.2.2
theorem gS_C53 (s : St) : (mkCs s)[53]? = some (.inl (.boolean, 480, .inl (s.2.1 1014))) := gC_53 s.1 s.2.1 s.2.2.1 s.2.2.2
theorem gS_C54 (s : St) : (mkCs s)[54]? = some (.inl (.int, 480, .inl (s.2.1 1015))) := gC_54 s.1 s.2.1 s.2.2.1 s.2.2.2
theorem gS_C55 (s : St) : (mkCs s)[55]? = some (.inr (6, fC6 s.1)) := gC_55 s.1 s.2.1 s.2.2.1 s.2.2.2
theorem gS_C56 (s : St) : (mkCs s)[56]? = some (.inl (.int, 480, .inl (s.2.1 604))) := gC_56 s.1 s.2.1 s.2.2.1 s.2.2.2
theorem gS_C57 (s : St) : (mkCs s)[57]? = some (.inl (.int, 480, .inl (s.2.1 605))) := gC_57 s.1 s.2.1 s.2.2.1 s.2.2.2
theorem gS_C58 (s : St) : (mkCs s)[58]? = some (.inl (.int, 24, .inl (s.2.1 606))) := gC_58 s.1 s.2.1 s.2.2.1 s.2.2.2
theorem gS_C59 (s : St) : (mkCs s)[59]? = some (.inl (.int, 20, .inl (s.2.1 607))) := gC_59 s.1 s.2.1 s.2.2.1 s.2.2.2
theorem gS_C60 (s : St) : (mkCs s)[60]? = some (.inl (.boolean, 20, .inl (s.2.1 608))) := gC_60 s.1 s.2.1 s.2.2.1 s.2.2.2
theorem gS_C61 (s : St) : (mkCs s)[61]? = some (.inl (.int, 24, .inl (s.2.1 609))) := gC_61 s.1 s.2.1 s.2.2.1 s.2.2.2
theorem gS_C62 (s : St) : (mkCs s)[62]? = some (.inl (.int, 20, .inl (s.2.1 610))) := gC_62 s.1 s.2.1 s.2.2.1 s.2.2.2
theorem gS_C63 (s : St) : (mkCs s)[63]? = some (.inl (.int, 24, .inl (s.2.1 611))) := gC_63 s.1 s.2.1 s.2.2.1 s.2.2.2
theorem gS_C64 (s : St) : (mkCs s)[64]? = some (.inr (8, fC8 s.1)) := gC_64 s.1 s.2.1 s.2.2.1 s.2.2.2
theorem gS_C65 (s : St) : (mkCs s)[65]? = some (.inl (.int, 40, .inl (s.2.1 803))) := gC_65 s.1 s.2.1 s.2.2.1 s.2.2.2
theorem gS_C66 (s : St) : (mkCs s)[66]? = some (.inl (.int, 40, .inl (s.2.1 804))) := gC_66 s.1 s.2.1 s.2.2.1 s.2.2.2
theorem gS_C67 (s : St) : (mkCs s)[67]? = some (.inl (.int, 40, .inl (s.2.1 805))) := gC_67 s.1 s.2.1 s.2.2.1 s.2.2.2
theorem gS_C68 (s : St) : (mkCs s)[68]? = some (.inl (.int, 40, .inl (s.2.1 806))) := gC_68 s.1 s.2.1 s.2.2.1 s.2.2.2
theorem gS_C69 (s : St) : (mkCs s)[69]? = some (.inl (.int, 40, .inl (s.2.1 807))) := gC_69 s.1 s.2.1 s.2.2.1 s.2.2.2
theorem gS_C70 (s : St) : (mkCs s)[70]? = some (.inl (.int, 40, .inl (s.2.1 808))) := gC_70 s.1 s.2.1 s.2.2.1 s.2.2.2
theorem gS_C71 (s : St) : (mkCs s)[71]? = some (.inl (.int, 20, .inl (s.2.1 809))) := gC_71 s.1 s.2.1 s.2.2.1 s.2.2.2
theorem gS_C72 (s : St) : (mkCs s)[72]? = some (.inl (.int, 4, .inl (s.2.1 810))) := gC_72 s.1 s.2.1 s.2.2.1 s.2.2.2
theorem gS_C73 (s : St) : (mkCs s)[73]? = some (.inr (4, fC4 s.1)) := gC_73 s.1 s.2.1 s.2.2.1 s.2.2.2
theorem gS_C74 (s : St) : (mkCs s)[74]? = some (.inl (.int, 5, .inl (s.2.1 401))) := gC_74 s.1 s.2.1 s.2.2.1 s.2.2.2
theorem gS_C75 (s : St) : (mkCs s)[75]? = some (.inl (.boolean, 20, .inl (s.2.1 402))) := gC_75 s.1 s.2.1 s.2.2.1 s.2.2.2
theorem gS_C76 (s : St) : (mkCs s)[76]? = some (.inl (.int, 20, .inl (s.2.1 403))) := gC_76 s.1 s.2.1 s.2.2.1 s.2.2.2
theorem gS_C77 (s : St) : (mkCs s)[77]? = some (.inl (.int, 20, .inl (s.2.1 404))) := gC_77 s.1 s.2.1 s.2.2.1 s.2.2.2
theorem gS_C78 (s : St) : (mkCs s)[78]? = some (.inl (.int, 20, .inl (s.2.1 405))) := gC_78 s.1 s.2.1 s.2.2.1 s.2.2.2
theorem gS_C79 (s : St) : (mkCs s)[79]? = some (.inl (.int, 8, .inl (s.2.1 406))) := gC_79 s.1 s.2.1 s.2.2.1 s.2.2.2
theorem gS_C80 (s : St) : (mkCs s)[80]? = some (.inl (.int, 8, .inl (s.2.1 407))) := gC_80 s.1 s.2.1 s.2.2.1 s.2.2.2
theorem gS_C81 (s : St) : (mkCs s)[81]? = some (.inr (7, fC7 s.1)) := gC_81 s.1 s.2.1 s.2.2.1 s.2.2.2
theorem gS_C82 (s : St) : (mkCs s)[82]? = some (.inl (.int, 9, .inl (s.2.1 703))) := gC_82 s.1 s.2.1 s.2.2.1 s.2.2.2
theorem gS_C83 (s : St) : (mkCs s)[83]? = some (.inl (.int, 24, .inl (s.2.1 704))) := gC_83 s.1 s.2.1 s.2.2.1 s.2.2.2
theorem gS_C84 (s : St) : (mkCs s)[84]? = some (.inl (.int, 48, .inl (s.2.1 706))) := gC_84 s.1 s.2.1 s.2.2.1 s.2.2.2
theorem gS_C85 (s : St) : (mkCs s)[85]? = some (.inr (3, fC3 s.1)) := gC_85 s.1 s.2.1 s.2.2.1 s.2.2.2
theorem gS_C86 (s : St) : (mkCs s)[86]? = some (.inl (.int, 4, .inl (s.2.1 302))) := gC_86 s.1 s.2.1 s.2.2.1 s.2.2.2
theorem gS_C87 (s : St) : (mkCs s)[87]? = some (.inl (.int, 8, .inl (s.2.1 304))) := gC_87 s.1 s.2.1 s.2.2.1 s.2.2.2
theorem gS_C88 (s : St) : (mkCs s)[88]? = some (.inl (.int, 8, .inl (s.2.1 305))) := gC_88 s.1 s.2.1 s.2.2.1 s.2.2.2
theorem sS_Cf_11_0 (s : St) (v : Int32) : (mkCs s).set 0 (.inr (11, (fC11 s.1).set 0 (.int v))) = mkCs (pI s 1100 v) := sCf_11_0 s.1 s.2.1 s.2.2.1 s.2.2.2 v
theorem sS_Cf_9_1 (s : St) (v : Int32) : (mkCs s).set 7 (.inr (9, (fC9 s.1).set 1 (.int v))) = mkCs (pI s 901 v) := sCf_9_1 s.1 s.2.1 s.2.2.1 s.2.2.2 v
theorem sS_Cf_9_2 (s : St) (v : Int32) : (mkCs s).set 7 (.inr (9, (fC9 s.1).set 2 (.int v))) = mkCs (pI s 902 v) := sCf_9_2 s.1 s.2.1 s.2.2.1 s.2.2.2 v
theorem sS_Cf_9_3 (s : St) (v : Int32) : (mkCs s).set 7 (.inr (9, (fC9 s.1).set 3 (.int v))) = mkCs (pI s 903 v) := sCf_9_3 s.1 s.2.1 s.2.2.1 s.2.2.2 v
theorem sS_Cf_9_4 (s : St) (v : Int32) : (mkCs s).set 7 (.inr (9, (fC9 s.1).set 4 (.int v))) = mkCs (pI s 904 v) := sCf_9_4 s.1 s.2.1 s.2.2.1 s.2.2.2 v
theorem sS_Cf_9_6 (s : St) (v : Int32) : (mkCs s).set 7 (.inr (9, (fC9 s.1).set 6 (.int v))) = mkCs (pI s 906 v) := sCf_9_6 s.1 s.2.1 s.2.2.1 s.2.2.2 v
theorem sS_Cf_9_8 (s : St) (v : Int32) : (mkCs s).set 7 (.inr (9, (fC9 s.1).set 8 (.int v))) = mkCs (pI s 908 v) := sCf_9_8 s.1 s.2.1 s.2.2.1 s.2.2.2 v
theorem sS_Cf_9_9 (s : St) (v : Int32) : (mkCs s).set 7 (.inr (9, (fC9 s.1).set 9 (.int v))) = mkCs (pI s 909 v) := sCf_9_9 s.1 s.2.1 s.2.2.1 s.2.2.2 v
theorem sS_Cf_0_0 (s : St) (v : Int32) : (mkCs s).set 11 (.inr (0, (fC0 s.1).set 0 (.int v))) = mkCs (pI s 0 v) := sCf_0_0 s.1 s.2.1 s.2.2.1 s.2.2.2 v
theorem sS_Cf_0_9 (s : St) (v : Int32) : (mkCs s).set 11 (.inr (0, (fC0 s.1).set 9 (.int v))) = mkCs (pI s 9 v) := sCf_0_9 s.1 s.2.1 s.2.2.1 s.2.2.2 v
theorem sS_Cf_1_1 (s : St) (v : Int32) : (mkCs s).set 20 (.inr (1, (fC1 s.1).set 1 (.int v))) = mkCs (pI s 101 v) := sCf_1_1 s.1 s.2.1 s.2.2.1 s.2.2.2 v
theorem sS_Cf_1_7 (s : St) (v : Int32) : (mkCs s).set 20 (.inr (1, (fC1 s.1).set 7 (.int v))) = mkCs (pI s 107 v) := sCf_1_7 s.1 s.2.1 s.2.2.1 s.2.2.2 v
theorem sS_Cf_1_13 (s : St) (v : Int32) : (mkCs s).set 20 (.inr (1, (fC1 s.1).set 13 (.int v))) = mkCs (pI s 113 v) := sCf_1_13 s.1 s.2.1 s.2.2.1 s.2.2.2 v
theorem sS_Cf_5_1 (s : St) (v : Int32) : (mkCs s).set 35 (.inr (5, (fC5 s.1).set 1 (.int v))) = mkCs (pI s 501 v) := sCf_5_1 s.1 s.2.1 s.2.2.1 s.2.2.2 v
theorem sS_Cf_10_4 (s : St) (v : Int32) : (mkCs s).set 45 (.inr (10, (fC10 s.1).set 4 (.int v))) = mkCs (pI s 1004 v) := sCf_10_4 s.1 s.2.1 s.2.2.1 s.2.2.2 v
theorem sS_Cf_10_9 (s : St) (v : Int32) : (mkCs s).set 45 (.inr (10, (fC10 s.1).set 9 (.int v))) = mkCs (pI s 1009 v) := sCf_10_9 s.1 s.2.1 s.2.2.1 s.2.2.2 v
theorem sS_Cf_10_13 (s : St) (v : Int32) : (mkCs s).set 45 (.inr (10, (fC10 s.1).set 13 (.int v))) = mkCs (pI s 1013 v) := sCf_10_13 s.1 s.2.1 s.2.2.1 s.2.2.2 v
theorem sS_Cf_8_2 (s : St) (v : Int32) : (mkCs s).set 64 (.inr (8, (fC8 s.1).set 2 (.int v))) = mkCs (pI s 802 v) := sCf_8_2 s.1 s.2.1 s.2.2.1 s.2.2.2 v
theorem sS_Cf_4_8 (s : St) (v : Int32) : (mkCs s).set 73 (.inr (4, (fC4 s.1).set 8 (.int v))) = mkCs (pI s 408 v) := sCf_4_8 s.1 s.2.1 s.2.2.1 s.2.2.2 v
theorem sS_Cf_4_9 (s : St) (v : Int32) : (mkCs s).set 73 (.inr (4, (fC4 s.1).set 9 (.int v))) = mkCs (pI s 409 v) := sCf_4_9 s.1 s.2.1 s.2.2.1 s.2.2.2 v
theorem sS_Cf_7_2 (s : St) (v : Int32) : (mkCs s).set 81 (.inr (7, (fC7 s.1).set 2 (.int v))) = mkCs (pI s 702 v) := sCf_7_2 s.1 s.2.1 s.2.2.1 s.2.2.2 v
theorem sS_Cf_7_5 (s : St) (v : Int32) : (mkCs s).set 81 (.inr (7, (fC7 s.1).set 5 (.int v))) = mkCs (pI s 705 v) := sCf_7_5 s.1 s.2.1 s.2.2.1 s.2.2.2 v
theorem sS_Cf_3_1 (s : St) (v : Int32) : (mkCs s).set 85 (.inr (3, (fC3 s.1).set 1 (.int v))) = mkCs (pI s 301 v) := sCf_3_1 s.1 s.2.1 s.2.2.1 s.2.2.2 v
theorem sS_Cf_3_3 (s : St) (v : Int32) : (mkCs s).set 85 (.inr (3, (fC3 s.1).set 3 (.int v))) = mkCs (pI s 303 v) := sCf_3_3 s.1 s.2.1 s.2.2.1 s.2.2.2 v
theorem sS_Ca_2 (s : St) (i v : Int32) : (mkCs s).set 2 (.inl (.int, 120, .inl (upd (s.2.1 200) i.toNatClampNeg v))) = mkCs (pA s 200 i v) := sCa_2 s.1 s.2.1 s.2.2.1 s.2.2.2 _
theorem sS_Ca_3 (s : St) (i v : Int32) : (mkCs s).set 3 (.inl (.int, 120, .inl (upd (s.2.1 201) i.toNatClampNeg v))) = mkCs (pA s 201 i v) := sCa_3 s.1 s.2.1 s.2.2.1 s.2.2.2 _
theorem sS_Ca_4 (s : St) (i v : Int32) : (mkCs s).set 4 (.inl (.boolean, 601, .inl (upd (s.2.1 202) i.toNatClampNeg v))) = mkCs (pA s 202 i v) := sCa_4 s.1 s.2.1 s.2.2.1 s.2.2.2 _
theorem sS_Ca_6 (s : St) (i v : Int32) : (mkCs s).set 6 (.inl (.boolean, 240, .inl (upd (s.2.1 204) i.toNatClampNeg v))) = mkCs (pA s 204 i v) := sCa_6 s.1 s.2.1 s.2.2.1 s.2.2.2 _
theorem sS_Ca_8 (s : St) (i v : Int32) : (mkCs s).set 8 (.inl (.int, 160, .inl (upd (s.2.1 900) i.toNatClampNeg v))) = mkCs (pA s 900 i v) := sCa_8 s.1 s.2.1 s.2.2.1 s.2.2.2 _
theorem sS_Ca_9 (s : St) (i v : Int32) : (mkCs s).set 9 (.inl (.int, 160, .inl (upd (s.2.1 905) i.toNatClampNeg v))) = mkCs (pA s 905 i v) := sCa_9 s.1 s.2.1 s.2.2.1 s.2.2.2 _
theorem sS_Ca_10 (s : St) (i v : Int32) : (mkCs s).set 10 (.inl (.int, 164, .inl (upd (s.2.1 907) i.toNatClampNeg v))) = mkCs (pA s 907 i v) := sCa_10 s.1 s.2.1 s.2.2.1 s.2.2.2 _
theorem sS_Ca_12 (s : St) (i v : Int32) : (mkCs s).set 12 (.inl (.int, 20, .inl (upd (s.2.1 1) i.toNatClampNeg v))) = mkCs (pA s 1 i v) := sCa_12 s.1 s.2.1 s.2.2.1 s.2.2.2 _
theorem sS_Ca_13 (s : St) (i v : Int32) : (mkCs s).set 13 (.inl (.int, 20, .inl (upd (s.2.1 2) i.toNatClampNeg v))) = mkCs (pA s 2 i v) := sCa_13 s.1 s.2.1 s.2.2.1 s.2.2.2 _
theorem sS_Ca_14 (s : St) (i v : Int32) : (mkCs s).set 14 (.inl (.int, 20, .inl (upd (s.2.1 3) i.toNatClampNeg v))) = mkCs (pA s 3 i v) := sCa_14 s.1 s.2.1 s.2.2.1 s.2.2.2 _
theorem sS_Ca_15 (s : St) (i v : Int32) : (mkCs s).set 15 (.inl (.int, 20, .inl (upd (s.2.1 4) i.toNatClampNeg v))) = mkCs (pA s 4 i v) := sCa_15 s.1 s.2.1 s.2.2.1 s.2.2.2 _
theorem sS_Ca_18 (s : St) (i v : Int32) : (mkCs s).set 18 (.inl (.int, 6, .inl (upd (s.2.1 7) i.toNatClampNeg v))) = mkCs (pA s 7 i v) := sCa_18 s.1 s.2.1 s.2.2.1 s.2.2.2 _
theorem sS_Ca_19 (s : St) (i v : Int32) : (mkCs s).set 19 (.inl (.int, 64, .inl (upd (s.2.1 8) i.toNatClampNeg v))) = mkCs (pA s 8 i v) := sCa_19 s.1 s.2.1 s.2.2.1 s.2.2.2 _
theorem sS_Ca_21 (s : St) (i v : Int32) : (mkCs s).set 21 (.inl (.int, 24, .inl (upd (s.2.1 102) i.toNatClampNeg v))) = mkCs (pA s 102 i v) := sCa_21 s.1 s.2.1 s.2.2.1 s.2.2.2 _
theorem sS_Ca_22 (s : St) (i v : Int32) : (mkCs s).set 22 (.inl (.int, 24, .inl (upd (s.2.1 103) i.toNatClampNeg v))) = mkCs (pA s 103 i v) := sCa_22 s.1 s.2.1 s.2.2.1 s.2.2.2 _
theorem sS_Ca_23 (s : St) (i v : Int32) : (mkCs s).set 23 (.inl (.int, 24, .inl (upd (s.2.1 104) i.toNatClampNeg v))) = mkCs (pA s 104 i v) := sCa_23 s.1 s.2.1 s.2.2.1 s.2.2.2 _
theorem sS_Ca_24 (s : St) (i v : Int32) : (mkCs s).set 24 (.inl (.int, 24, .inl (upd (s.2.1 105) i.toNatClampNeg v))) = mkCs (pA s 105 i v) := sCa_24 s.1 s.2.1 s.2.2.1 s.2.2.2 _
theorem sS_Ca_25 (s : St) (i v : Int32) : (mkCs s).set 25 (.inl (.int, 24, .inl (upd (s.2.1 106) i.toNatClampNeg v))) = mkCs (pA s 106 i v) := sCa_25 s.1 s.2.1 s.2.2.1 s.2.2.2 _
theorem sS_Ca_26 (s : St) (i v : Int32) : (mkCs s).set 26 (.inl (.int, 200, .inl (upd (s.2.1 108) i.toNatClampNeg v))) = mkCs (pA s 108 i v) := sCa_26 s.1 s.2.1 s.2.2.1 s.2.2.2 _
theorem sS_Ca_27 (s : St) (i v : Int32) : (mkCs s).set 27 (.inl (.int, 200, .inl (upd (s.2.1 109) i.toNatClampNeg v))) = mkCs (pA s 109 i v) := sCa_27 s.1 s.2.1 s.2.2.1 s.2.2.2 _
theorem sS_Ca_28 (s : St) (i v : Int32) : (mkCs s).set 28 (.inl (.int, 200, .inl (upd (s.2.1 110) i.toNatClampNeg v))) = mkCs (pA s 110 i v) := sCa_28 s.1 s.2.1 s.2.2.1 s.2.2.2 _
theorem sS_Ca_29 (s : St) (i v : Int32) : (mkCs s).set 29 (.inl (.int, 200, .inl (upd (s.2.1 111) i.toNatClampNeg v))) = mkCs (pA s 111 i v) := sCa_29 s.1 s.2.1 s.2.2.1 s.2.2.2 _
theorem sS_Ca_30 (s : St) (i v : Int32) : (mkCs s).set 30 (.inl (.int, 200, .inl (upd (s.2.1 112) i.toNatClampNeg v))) = mkCs (pA s 112 i v) := sCa_30 s.1 s.2.1 s.2.2.1 s.2.2.2 _
theorem sS_Ca_31 (s : St) (i v : Int32) : (mkCs s).set 31 (.inl (.int, 60, .inl (upd (s.2.1 114) i.toNatClampNeg v))) = mkCs (pA s 114 i v) := sCa_31 s.1 s.2.1 s.2.2.1 s.2.2.2 _
theorem sS_Ca_32 (s : St) (i v : Int32) : (mkCs s).set 32 (.inl (.int, 60, .inl (upd (s.2.1 115) i.toNatClampNeg v))) = mkCs (pA s 115 i v) := sCa_32 s.1 s.2.1 s.2.2.1 s.2.2.2 _
theorem sS_Ca_33 (s : St) (i v : Int32) : (mkCs s).set 33 (.inl (.int, 60, .inl (upd (s.2.1 116) i.toNatClampNeg v))) = mkCs (pA s 116 i v) := sCa_33 s.1 s.2.1 s.2.2.1 s.2.2.2 _
theorem sS_Ca_34 (s : St) (i v : Int32) : (mkCs s).set 34 (.inl (.int, 60, .inl (upd (s.2.1 117) i.toNatClampNeg v))) = mkCs (pA s 117 i v) := sCa_34 s.1 s.2.1 s.2.2.1 s.2.2.2 _
theorem sS_Ca_36 (s : St) (i v : Int32) : (mkCs s).set 36 (.inl (.int, 20, .inl (upd (s.2.1 502) i.toNatClampNeg v))) = mkCs (pA s 502 i v) := sCa_36 s.1 s.2.1 s.2.2.1 s.2.2.2 _
theorem sS_Ca_37 (s : St) (i v : Int32) : (mkCs s).set 37 (.inl (.int, 20, .inl (upd (s.2.1 503) i.toNatClampNeg v))) = mkCs (pA s 503 i v) := sCa_37 s.1 s.2.1 s.2.2.1 s.2.2.2 _
theorem sS_Ca_38 (s : St) (i v : Int32) : (mkCs s).set 38 (.inl (.int, 20, .inl (upd (s.2.1 504) i.toNatClampNeg v))) = mkCs (pA s 504 i v) := sCa_38 s.1 s.2.1 s.2.2.1 s.2.2.2 _
theorem sS_Ca_39 (s : St) (i v : Int32) : (mkCs s).set 39 (.inl (.int, 20, .inl (upd (s.2.1 505) i.toNatClampNeg v))) = mkCs (pA s 505 i v) := sCa_39 s.1 s.2.1 s.2.2.1 s.2.2.2 _
theorem sS_Ca_40 (s : St) (i v : Int32) : (mkCs s).set 40 (.inl (.int, 20, .inl (upd (s.2.1 506) i.toNatClampNeg v))) = mkCs (pA s 506 i v) := sCa_40 s.1 s.2.1 s.2.2.1 s.2.2.2 _
theorem sS_Ca_41 (s : St) (i v : Int32) : (mkCs s).set 41 (.inl (.int, 20, .inl (upd (s.2.1 507) i.toNatClampNeg v))) = mkCs (pA s 507 i v) := sCa_41 s.1 s.2.1 s.2.2.1 s.2.2.2 _
theorem sS_Ca_42 (s : St) (i v : Int32) : (mkCs s).set 42 (.inl (.int, 20, .inl (upd (s.2.1 508) i.toNatClampNeg v))) = mkCs (pA s 508 i v) := sCa_42 s.1 s.2.1 s.2.2.1 s.2.2.2 _
theorem sS_Ca_43 (s : St) (i v : Int32) : (mkCs s).set 43 (.inl (.boolean, 20, .inl (upd (s.2.1 509) i.toNatClampNeg v))) = mkCs (pA s 509 i v) := sCa_43 s.1 s.2.1 s.2.2.1 s.2.2.2 _
theorem sS_Ca_44 (s : St) (i v : Int32) : (mkCs s).set 44 (.inl (.int, 601, .inl (upd (s.2.1 510) i.toNatClampNeg v))) = mkCs (pA s 510 i v) := sCa_44 s.1 s.2.1 s.2.2.1 s.2.2.2 _
theorem sS_Ca_46 (s : St) (i v : Int32) : (mkCs s).set 46 (.inl (.int, 8, .inl (upd (s.2.1 1005) i.toNatClampNeg v))) = mkCs (pA s 1005 i v) := sCa_46 s.1 s.2.1 s.2.2.1 s.2.2.2 _
theorem sS_Ca_47 (s : St) (i v : Int32) : (mkCs s).set 47 (.inl (.int, 8, .inl (upd (s.2.1 1006) i.toNatClampNeg v))) = mkCs (pA s 1006 i v) := sCa_47 s.1 s.2.1 s.2.2.1 s.2.2.2 _
theorem sS_Ca_48 (s : St) (i v : Int32) : (mkCs s).set 48 (.inl (.int, 8, .inl (upd (s.2.1 1007) i.toNatClampNeg v))) = mkCs (pA s 1007 i v) := sCa_48 s.1 s.2.1 s.2.2.1 s.2.2.2 _
theorem sS_Ca_49 (s : St) (i v : Int32) : (mkCs s).set 49 (.inl (.int, 8, .inl (upd (s.2.1 1008) i.toNatClampNeg v))) = mkCs (pA s 1008 i v) := sCa_49 s.1 s.2.1 s.2.2.1 s.2.2.2 _
theorem sS_Ca_50 (s : St) (i v : Int32) : (mkCs s).set 50 (.inl (.int, 10, .inl (upd (s.2.1 1010) i.toNatClampNeg v))) = mkCs (pA s 1010 i v) := sCa_50 s.1 s.2.1 s.2.2.1 s.2.2.2 _
theorem sS_Ca_51 (s : St) (i v : Int32) : (mkCs s).set 51 (.inl (.int, 5, .inl (upd (s.2.1 1011) i.toNatClampNeg v))) = mkCs (pA s 1011 i v) := sCa_51 s.1 s.2.1 s.2.2.1 s.2.2.2 _
theorem sS_Ca_52 (s : St) (i v : Int32) : (mkCs s).set 52 (.inl (.int, 100, .inl (upd (s.2.1 1012) i.toNatClampNeg v))) = mkCs (pA s 1012 i v) := sCa_52 s.1 s.2.1 s.2.2.1 s.2.2.2 _
theorem sS_Ca_53 (s : St) (i v : Int32) : (mkCs s).set 53 (.inl (.boolean, 480, .inl (upd (s.2.1 1014) i.toNatClampNeg v))) = mkCs (pA s 1014 i v) := sCa_53 s.1 s.2.1 s.2.2.1 s.2.2.2 _
theorem sS_Ca_54 (s : St) (i v : Int32) : (mkCs s).set 54 (.inl (.int, 480, .inl (upd (s.2.1 1015) i.toNatClampNeg v))) = mkCs (pA s 1015 i v) := sCa_54 s.1 s.2.1 s.2.2.1 s.2.2.2 _
theorem sS_Ca_56 (s : St) (i v : Int32) : (mkCs s).set 56 (.inl (.int, 480, .inl (upd (s.2.1 604) i.toNatClampNeg v))) = mkCs (pA s 604 i v) := sCa_56 s.1 s.2.1 s.2.2.1 s.2.2.2 _
theorem sS_Ca_57 (s : St) (i v : Int32) : (mkCs s).set 57 (.inl (.int, 480, .inl (upd (s.2.1 605) i.toNatClampNeg v))) = mkCs (pA s 605 i v) := sCa_57 s.1 s.2.1 s.2.2.1 s.2.2.2 _
theorem sS_Ca_58 (s : St) (i v : Int32) : (mkCs s).set 58 (.inl (.int, 24, .inl (upd (s.2.1 606) i.toNatClampNeg v))) = mkCs (pA s 606 i v) := sCa_58 s.1 s.2.1 s.2.2.1 s.2.2.2 _
theorem sS_Ca_59 (s : St) (i v : Int32) : (mkCs s).set 59 (.inl (.int, 20, .inl (upd (s.2.1 607) i.toNatClampNeg v))) = mkCs (pA s 607 i v) := sCa_59 s.1 s.2.1 s.2.2.1 s.2.2.2 _
theorem sS_Ca_60 (s : St) (i v : Int32) : (mkCs s).set 60 (.inl (.boolean, 20, .inl (upd (s.2.1 608) i.toNatClampNeg v))) = mkCs (pA s 608 i v) := sCa_60 s.1 s.2.1 s.2.2.1 s.2.2.2 _
theorem sS_Ca_61 (s : St) (i v : Int32) : (mkCs s).set 61 (.inl (.int, 24, .inl (upd (s.2.1 609) i.toNatClampNeg v))) = mkCs (pA s 609 i v) := sCa_61 s.1 s.2.1 s.2.2.1 s.2.2.2 _
theorem sS_Ca_62 (s : St) (i v : Int32) : (mkCs s).set 62 (.inl (.int, 20, .inl (upd (s.2.1 610) i.toNatClampNeg v))) = mkCs (pA s 610 i v) := sCa_62 s.1 s.2.1 s.2.2.1 s.2.2.2 _
theorem sS_Ca_63 (s : St) (i v : Int32) : (mkCs s).set 63 (.inl (.int, 24, .inl (upd (s.2.1 611) i.toNatClampNeg v))) = mkCs (pA s 611 i v) := sCa_63 s.1 s.2.1 s.2.2.1 s.2.2.2 _
theorem sS_Ca_65 (s : St) (i v : Int32) : (mkCs s).set 65 (.inl (.int, 40, .inl (upd (s.2.1 803) i.toNatClampNeg v))) = mkCs (pA s 803 i v) := sCa_65 s.1 s.2.1 s.2.2.1 s.2.2.2 _
theorem sS_Ca_66 (s : St) (i v : Int32) : (mkCs s).set 66 (.inl (.int, 40, .inl (upd (s.2.1 804) i.toNatClampNeg v))) = mkCs (pA s 804 i v) := sCa_66 s.1 s.2.1 s.2.2.1 s.2.2.2 _
theorem sS_Ca_67 (s : St) (i v : Int32) : (mkCs s).set 67 (.inl (.int, 40, .inl (upd (s.2.1 805) i.toNatClampNeg v))) = mkCs (pA s 805 i v) := sCa_67 s.1 s.2.1 s.2.2.1 s.2.2.2 _
theorem sS_Ca_68 (s : St) (i v : Int32) : (mkCs s).set 68 (.inl (.int, 40, .inl (upd (s.2.1 806) i.toNatClampNeg v))) = mkCs (pA s 806 i v) := sCa_68 s.1 s.2.1 s.2.2.1 s.2.2.2 _
theorem sS_Ca_69 (s : St) (i v : Int32) : (mkCs s).set 69 (.inl (.int, 40, .inl (upd (s.2.1 807) i.toNatClampNeg v))) = mkCs (pA s 807 i v) := sCa_69 s.1 s.2.1 s.2.2.1 s.2.2.2 _
theorem sS_Ca_70 (s : St) (i v : Int32) : (mkCs s).set 70 (.inl (.int, 40, .inl (upd (s.2.1 808) i.toNatClampNeg v))) = mkCs (pA s 808 i v) := sCa_70 s.1 s.2.1 s.2.2.1 s.2.2.2 _
theorem sS_Ca_71 (s : St) (i v : Int32) : (mkCs s).set 71 (.inl (.int, 20, .inl (upd (s.2.1 809) i.toNatClampNeg v))) = mkCs (pA s 809 i v) := sCa_71 s.1 s.2.1 s.2.2.1 s.2.2.2 _
theorem sS_Ca_72 (s : St) (i v : Int32) : (mkCs s).set 72 (.inl (.int, 4, .inl (upd (s.2.1 810) i.toNatClampNeg v))) = mkCs (pA s 810 i v) := sCa_72 s.1 s.2.1 s.2.2.1 s.2.2.2 _
theorem sS_Ca_74 (s : St) (i v : Int32) : (mkCs s).set 74 (.inl (.int, 5, .inl (upd (s.2.1 401) i.toNatClampNeg v))) = mkCs (pA s 401 i v) := sCa_74 s.1 s.2.1 s.2.2.1 s.2.2.2 _
theorem sS_Ca_75 (s : St) (i v : Int32) : (mkCs s).set 75 (.inl (.boolean, 20, .inl (upd (s.2.1 402) i.toNatClampNeg v))) = mkCs (pA s 402 i v) := sCa_75 s.1 s.2.1 s.2.2.1 s.2.2.2 _
theorem sS_Ca_76 (s : St) (i v : Int32) : (mkCs s).set 76 (.inl (.int, 20, .inl (upd (s.2.1 403) i.toNatClampNeg v))) = mkCs (pA s 403 i v) := sCa_76 s.1 s.2.1 s.2.2.1 s.2.2.2 _
theorem sS_Ca_77 (s : St) (i v : Int32) : (mkCs s).set 77 (.inl (.int, 20, .inl (upd (s.2.1 404) i.toNatClampNeg v))) = mkCs (pA s 404 i v) := sCa_77 s.1 s.2.1 s.2.2.1 s.2.2.2 _
theorem sS_Ca_78 (s : St) (i v : Int32) : (mkCs s).set 78 (.inl (.int, 20, .inl (upd (s.2.1 405) i.toNatClampNeg v))) = mkCs (pA s 405 i v) := sCa_78 s.1 s.2.1 s.2.2.1 s.2.2.2 _
theorem sS_Ca_79 (s : St) (i v : Int32) : (mkCs s).set 79 (.inl (.int, 8, .inl (upd (s.2.1 406) i.toNatClampNeg v))) = mkCs (pA s 406 i v) := sCa_79 s.1 s.2.1 s.2.2.1 s.2.2.2 _
theorem sS_Ca_80 (s : St) (i v : Int32) : (mkCs s).set 80 (.inl (.int, 8, .inl (upd (s.2.1 407) i.toNatClampNeg v))) = mkCs (pA s 407 i v) := sCa_80 s.1 s.2.1 s.2.2.1 s.2.2.2 _
theorem sS_Ca_82 (s : St) (i v : Int32) : (mkCs s).set 82 (.inl (.int, 9, .inl (upd (s.2.1 703) i.toNatClampNeg v))) = mkCs (pA s 703 i v) := sCa_82 s.1 s.2.1 s.2.2.1 s.2.2.2 _
theorem sS_Ca_83 (s : St) (i v : Int32) : (mkCs s).set 83 (.inl (.int, 24, .inl (upd (s.2.1 704) i.toNatClampNeg v))) = mkCs (pA s 704 i v) := sCa_83 s.1 s.2.1 s.2.2.1 s.2.2.2 _
theorem sS_Ca_84 (s : St) (i v : Int32) : (mkCs s).set 84 (.inl (.int, 48, .inl (upd (s.2.1 706) i.toNatClampNeg v))) = mkCs (pA s 706 i v) := sCa_84 s.1 s.2.1 s.2.2.1 s.2.2.2 _
theorem sS_Ca_86 (s : St) (i v : Int32) : (mkCs s).set 86 (.inl (.int, 4, .inl (upd (s.2.1 302) i.toNatClampNeg v))) = mkCs (pA s 302 i v) := sCa_86 s.1 s.2.1 s.2.2.1 s.2.2.2 _
theorem sS_Ca_87 (s : St) (i v : Int32) : (mkCs s).set 87 (.inl (.int, 8, .inl (upd (s.2.1 304) i.toNatClampNeg v))) = mkCs (pA s 304 i v) := sCa_87 s.1 s.2.1 s.2.2.1 s.2.2.2 _
theorem sS_Ca_88 (s : St) (i v : Int32) : (mkCs s).set 88 (.inl (.int, 8, .inl (upd (s.2.1 305) i.toNatClampNeg v))) = mkCs (pA s 305 i v) := sCa_88 s.1 s.2.1 s.2.2.1 s.2.2.2 _
theorem mj_tsc {T : mj_T} {ret : Option Value → mj_H → Prop} {K : mj_K} {pc n : Nat} {l r : List Value} {h : mj_H} {bc bs : Nat} {d lo hi : Int} {offs : Array Int} {x : Int32} (j : Nat) (off : Int) (hx : x.toInt = lo + j) (hj : lo + j ≤ hi) (ho : offs[j]? = some off) (hp : 0 ≤ (pc : Int) + off) (hk : K (mj_t pc off) l r h bc bs) : (mj_sw (.tableswitch d lo hi offs) = true ∨ n = mj_len (.tableswitch d lo hi offs)) ∧ mj_I T ret K pc l (.int x :: r) h bc bs (.tableswitch d lo hi offs) := by
  refine ⟨Or.inl rfl, ?_⟩
  show (¬ x.toInt < lo → ¬ hi < x.toInt → match offs[(x.toInt - lo).toNat]? with
        | some off => mj_go pc off (K (mj_t pc off) l r h bc bs)
        | none => False) ∧ ((x.toInt < lo ∨ hi < x.toInt) → mj_go pc d (K (mj_t pc d) l r h bc bs))
  have e : (x.toInt - lo).toNat = j := by omega
  refine ⟨fun _ _ => ?_, fun z => by omega⟩
  rw [e, ho]
  exact ⟨hp, hk⟩
theorem mj_tsd {T : mj_T} {ret : Option Value → mj_H → Prop} {K : mj_K} {pc n : Nat} {l r : List Value} {h : mj_H} {bc bs : Nat} {d lo hi : Int} {offs : Array Int} {x : Int32} (hx : x.toInt < lo ∨ hi < x.toInt) (hp : 0 ≤ (pc : Int) + d) (hk : K (mj_t pc d) l r h bc bs) : (mj_sw (.tableswitch d lo hi offs) = true ∨ n = mj_len (.tableswitch d lo hi offs)) ∧ mj_I T ret K pc l (.int x :: r) h bc bs (.tableswitch d lo hi offs) := by
  refine ⟨Or.inl rfl, ?_⟩
  show (¬ x.toInt < lo → ¬ hi < x.toInt → match offs[(x.toInt - lo).toNat]? with
        | some off => mj_go pc off (K (mj_t pc off) l r h bc bs)
        | none => False) ∧ ((x.toInt < lo ∨ hi < x.toInt) → mj_go pc d (K (mj_t pc d) l r h bc bs))
  exact ⟨fun z1 z2 => by omega, fun _ => ⟨hp, hk⟩⟩
theorem mj_tsr {x lo hi : Int} (L : List Int) (hL : ∀ k ∈ L, x ≠ k) (hc : (List.range (hi + 1 - lo).toNat).all (fun j => L.contains (lo + (j : Int))) = true) : x < lo ∨ hi < x := by
  rcases Int.lt_or_le x lo with h1 | h1
  · exact Or.inl h1
  · rcases Int.lt_or_le hi x with h2 | h2
    · exact Or.inr h2
    · have h3 := List.all_eq_true.mp hc (x - lo).toNat (List.mem_range.mpr (by omega))
      rw [List.contains_iff_mem] at h3
      exact absurd (by omega) (hL _ h3)
theorem mj_nt {x k : Int32} {n : Int} (h : ¬ x = k) (hk : k.toInt = n) : x.toInt ≠ n := fun z => h (Int32.toInt_inj.mp (z.trans hk.symm))
theorem mj_lsw {T : mj_T} {ret : Option Value → mj_H → Prop} {K : mj_K} {pc n : Nat} {l r : List Value} {h : mj_H} {bc bs : Nat} {d : Int} {ps : Array (Int × Int)} {x : Int32} (off : Int) (ho : Op.lookupswitch.offset ps.toList d x.toInt = off) (hs : (ps.toList.zip (ps.toList.drop 1)).all (fun (a, next) => a.1 < next.1) = true) (hp : 0 ≤ (pc : Int) + off) (hk : K (mj_t pc off) l r h bc bs) : (mj_sw (.lookupswitch d ps) = true ∨ n = mj_len (.lookupswitch d ps)) ∧ mj_I T ret K pc l (.int x :: r) h bc bs (.lookupswitch d ps) := by
  refine ⟨Or.inl rfl, ?_⟩
  show (ps.toList.zip (ps.toList.drop 1)).all (fun (a, next) => a.1 < next.1) = true ∧ mj_go pc (Op.lookupswitch.offset ps.toList d x.toInt) (K (mj_t pc (Op.lookupswitch.offset ps.toList d x.toInt)) l r h bc bs)
  rw [ho]
  exact ⟨hs, hp, hk⟩
theorem mj_lsd {d x : Int} : ∀ {l : List (Int × Int)}, (∀ k ∈ l.map Prod.fst, x ≠ k) → Op.lookupswitch.offset l d x = d
  | [], _ => rfl
  | (a, b) :: l, h => by
    have h1 : x ≠ a := h a (by simp)
    have ih := mj_lsd (d := d) (x := x) (l := l) (fun k hk => h k (by simp only [List.map_cons, List.mem_cons]; exact Or.inr hk))
    unfold Op.lookupswitch.offset
    split <;> first | exact ih | (simp_all; done) | (exfalso; simp_all; done) | omega
/-! Math.min and Math.max are no methods of ours: a row of the kit each -/
def zmn (a b : Int32) : Int32 := if b < a then b else a
def zmx (a b : Int32) : Int32 := if a < b then b else a
def mx64 (a b : Int64) : Int64 := if b < a then a else b
def mn64 (a b : Int64) : Int64 := if b < a then b else a
def mj_mres : Nat → Value → Value → Option Value
  | 0, .int x, .int y => some (.int (zmn x y))
  | 1, .int x, .int y => some (.int (zmx x y))
  | 2, .long x, .long y => some (.long (mn64 x y))
  | 3, .long x, .long y => some (.long (mx64 x y))
  | _, _, _ => none
def mj_mname : Nat → MethodName
  | 0 => yJ9_min_7cf53
  | 1 => yJ9_max_7cf53
  | 2 => yJ9_min_f86c9
  | _ => yJ9_max_f86c9
def mj_ml (cc : ByteArray) (own : String) (G : mj_K) : Prop := ∀ (pc i b : Nat) (L r : List Value) (x y z : Value) (h : mj_H) (bc bs : Nat), decode cc pc = .ok (.invokestatic i, 3) → Cond.methodLink own i (mj_mname b) ∈ mj_tw → mj_mres b x y = some z → r.length ≤ 4 → G (pc + 3) L (z :: r) h bc bs → G pc L (y :: x :: r) h bc bs
theorem lkX10_115 : Cond.methodLink RX10 115 (mj_mname 0) ∈ mj_tw := mj_tw_in (List.mem_of_getElem? (i := 701) (by decide +kernel)) rfl
theorem lkX2_36 : Cond.methodLink RX2 36 (mj_mname 1) ∈ mj_tw := mj_tw_in (List.mem_of_getElem? (i := 766) (by decide +kernel)) rfl
theorem lkX2_59 : Cond.methodLink RX2 59 (mj_mname 0) ∈ mj_tw := mj_tw_in (List.mem_of_getElem? (i := 785) (by decide +kernel)) rfl
theorem lkX5_58 : Cond.methodLink RX5 58 (mj_mname 0) ∈ mj_tw := mj_tw_in (List.mem_of_getElem? (i := 1022) (by decide +kernel)) rfl
theorem lkX5_78 : Cond.methodLink RX5 78 (mj_mname 1) ∈ mj_tw := mj_tw_in (List.mem_of_getElem? (i := 1026) (by decide +kernel)) rfl
theorem lkX6_115 : Cond.methodLink RX6 115 (mj_mname 0) ∈ mj_tw := mj_tw_in (List.mem_of_getElem? (i := 1075) (by decide +kernel)) rfl
theorem lkX1_98 : Cond.methodLink RX1 98 (mj_mname 2) ∈ mj_tw := mj_tw_in (List.mem_of_getElem? (i := 1275) (by decide +kernel)) rfl
theorem lkX1_104 : Cond.methodLink RX1 104 (mj_mname 3) ∈ mj_tw := mj_tw_in (List.mem_of_getElem? (i := 1278) (by decide +kernel)) rfl
theorem lkX3_42 : Cond.methodLink RX3 42 (mj_mname 0) ∈ mj_tw := mj_tw_in (List.mem_of_getElem? (i := 1367) (by decide +kernel)) rfl
theorem lkX7_71 : Cond.methodLink RX7 71 (mj_mname 1) ∈ mj_tw := mj_tw_in (List.mem_of_getElem? (i := 1392) (by decide +kernel)) rfl
theorem lkX12_386 : Cond.methodLink RX12 386 (mj_mname 2) ∈ mj_tw := mj_tw_in (List.mem_of_getElem? (i := 1921) (by decide +kernel)) rfl
theorem lkX12_392 : Cond.methodLink RX12 392 (mj_mname 3) ∈ mj_tw := mj_tw_in (List.mem_of_getElem? (i := 1922) (by decide +kernel)) rfl
theorem lkX12_447 : Cond.methodLink RX12 447 (mj_mname 1) ∈ mj_tw := mj_tw_in (List.mem_of_getElem? (i := 2003) (by decide +kernel)) rfl
theorem lkX12_449 : Cond.methodLink RX12 449 (mj_mname 0) ∈ mj_tw := mj_tw_in (List.mem_of_getElem? (i := 2004) (by decide +kernel)) rfl
theorem sS_Cr_5 (s : St) (i : Int32) (a : Nat) : (mkCs s).set 5 (.inl (.array .int, 240, .inr (.inr (.inr (.inr (va_up (s.2.2.1 203) i.toNatClampNeg (some a))))))) = mkCs (pR s 203 i a) := sCr_5 s.1 s.2.1 s.2.2.1 s.2.2.2 _
theorem sS_Cr_16 (s : St) (i : Int32) (a : Nat) : (mkCs s).set 16 (.inl (.array .int, 20, .inr (.inr (.inr (.inr (va_up (s.2.2.1 5) i.toNatClampNeg (some a))))))) = mkCs (pR s 5 i a) := sCr_16 s.1 s.2.1 s.2.2.1 s.2.2.2 _
theorem sS_Cr_17 (s : St) (i : Int32) (a : Nat) : (mkCs s).set 17 (.inl (.array .int, 20, .inr (.inr (.inr (.inr (va_up (s.2.2.1 6) i.toNatClampNeg (some a))))))) = mkCs (pR s 6 i a) := sCr_17 s.1 s.2.1 s.2.2.1 s.2.2.2 _
theorem sS_MF_1 (s : St) (v : Int32) : (mkMs s).set 1 (.inl (.int, 240, .inl (flf (s.2.1 1201) 240 v))) = mkMs (pF s 1201 240 v) := sMa_1 s.1 s.2.1 _
theorem sS_MF_3 (s : St) (v : Int32) : (mkMs s).set 3 (.inl (.int, 120, .inl (flf (s.2.1 1203) 120 v))) = mkMs (pF s 1203 120 v) := sMa_3 s.1 s.2.1 _
theorem sS_MF_4 (s : St) (v : Int32) : (mkMs s).set 4 (.inl (.int, 24, .inl (flf (s.2.1 1204) 24 v))) = mkMs (pF s 1204 24 v) := sMa_4 s.1 s.2.1 _
theorem sS_MF_5 (s : St) (v : Int32) : (mkMs s).set 5 (.inl (.int, 24, .inl (flf (s.2.1 1205) 24 v))) = mkMs (pF s 1205 24 v) := sMa_5 s.1 s.2.1 _
theorem sS_MF_6 (s : St) (v : Int32) : (mkMs s).set 6 (.inl (.int, 24, .inl (flf (s.2.1 1206) 24 v))) = mkMs (pF s 1206 24 v) := sMa_6 s.1 s.2.1 _
theorem sS_MF_7 (s : St) (v : Int32) : (mkMs s).set 7 (.inl (.int, 200, .inl (flf (s.2.1 1207) 200 v))) = mkMs (pF s 1207 200 v) := sMa_7 s.1 s.2.1 _
theorem sS_MF_8 (s : St) (v : Int32) : (mkMs s).set 8 (.inl (.int, 200, .inl (flf (s.2.1 1208) 200 v))) = mkMs (pF s 1208 200 v) := sMa_8 s.1 s.2.1 _
theorem sS_MF_9 (s : St) (v : Int32) : (mkMs s).set 9 (.inl (.int, 200, .inl (flf (s.2.1 1209) 200 v))) = mkMs (pF s 1209 200 v) := sMa_9 s.1 s.2.1 _
theorem sS_MF_10 (s : St) (v : Int32) : (mkMs s).set 10 (.inl (.int, 200, .inl (flf (s.2.1 1210) 200 v))) = mkMs (pF s 1210 200 v) := sMa_10 s.1 s.2.1 _
theorem sS_MF_11 (s : St) (v : Int32) : (mkMs s).set 11 (.inl (.int, 200, .inl (flf (s.2.1 1211) 200 v))) = mkMs (pF s 1211 200 v) := sMa_11 s.1 s.2.1 _
theorem sS_MF_12 (s : St) (v : Int32) : (mkMs s).set 12 (.inl (.int, 20, .inl (flf (s.2.1 1214) 20 v))) = mkMs (pF s 1214 20 v) := sMa_12 s.1 s.2.1 _
theorem sS_MF_13 (s : St) (v : Int32) : (mkMs s).set 13 (.inl (.int, 20, .inl (flf (s.2.1 1215) 20 v))) = mkMs (pF s 1215 20 v) := sMa_13 s.1 s.2.1 _
theorem sS_MF_14 (s : St) (v : Int32) : (mkMs s).set 14 (.inl (.int, 20, .inl (flf (s.2.1 1216) 20 v))) = mkMs (pF s 1216 20 v) := sMa_14 s.1 s.2.1 _
theorem sS_MF_15 (s : St) (v : Int32) : (mkMs s).set 15 (.inl (.int, 20, .inl (flf (s.2.1 1217) 20 v))) = mkMs (pF s 1217 20 v) := sMa_15 s.1 s.2.1 _
theorem sS_MF_16 (s : St) (v : Int32) : (mkMs s).set 16 (.inl (.int, 20, .inl (flf (s.2.1 1218) 20 v))) = mkMs (pF s 1218 20 v) := sMa_16 s.1 s.2.1 _
theorem sS_MF_17 (s : St) (v : Int32) : (mkMs s).set 17 (.inl (.int, 20, .inl (flf (s.2.1 1219) 20 v))) = mkMs (pF s 1219 20 v) := sMa_17 s.1 s.2.1 _
theorem sS_MF_18 (s : St) (v : Int32) : (mkMs s).set 18 (.inl (.int, 20, .inl (flf (s.2.1 1220) 20 v))) = mkMs (pF s 1220 20 v) := sMa_18 s.1 s.2.1 _
theorem sS_MF_20 (s : St) (v : Int32) : (mkMs s).set 20 (.inl (.int, 100, .inl (flf (s.2.1 1222) 100 v))) = mkMs (pF s 1222 100 v) := sMa_20 s.1 s.2.1 _
theorem sS_MF_21 (s : St) (v : Int32) : (mkMs s).set 21 (.inl (.int, 4096, .inl (flf (s.2.1 1224) 4096 v))) = mkMs (pF s 1224 4096 v) := sMa_21 s.1 s.2.1 _
theorem sS_MF_22 (s : St) (v : Int32) : (mkMs s).set 22 (.inl (.int, 4096, .inl (flf (s.2.1 1225) 4096 v))) = mkMs (pF s 1225 4096 v) := sMa_22 s.1 s.2.1 _
theorem sS_MF_24 (s : St) (v : Int32) : (mkMs s).set 24 (.inl (.int, 160, .inl (flf (s.2.1 1228) 160 v))) = mkMs (pF s 1228 160 v) := sMa_24 s.1 s.2.1 _
theorem sS_MF_25 (s : St) (v : Int32) : (mkMs s).set 25 (.inl (.int, 420, .inl (flf (s.2.1 1229) 420 v))) = mkMs (pF s 1229 420 v) := sMa_25 s.1 s.2.1 _
theorem sS_MF_26 (s : St) (v : Int32) : (mkMs s).set 26 (.inl (.int, 8400, .inl (flf (s.2.1 1230) 8400 v))) = mkMs (pF s 1230 8400 v) := sMa_26 s.1 s.2.1 _
theorem sS_MF_27 (s : St) (v : Int32) : (mkMs s).set 27 (.inl (.int, 20, .inl (flf (s.2.1 1231) 20 v))) = mkMs (pF s 1231 20 v) := sMa_27 s.1 s.2.1 _
theorem sS_MF_28 (s : St) (v : Int32) : (mkMs s).set 28 (.inl (.int, 20, .inl (flf (s.2.1 1232) 20 v))) = mkMs (pF s 1232 20 v) := sMa_28 s.1 s.2.1 _
theorem sS_MF_29 (s : St) (v : Int32) : (mkMs s).set 29 (.inl (.int, 20, .inl (flf (s.2.1 1233) 20 v))) = mkMs (pF s 1233 20 v) := sMa_29 s.1 s.2.1 _
theorem sS_MF_30 (s : St) (v : Int32) : (mkMs s).set 30 (.inl (.int, 20, .inl (flf (s.2.1 1234) 20 v))) = mkMs (pF s 1234 20 v) := sMa_30 s.1 s.2.1 _
theorem sS_MF_31 (s : St) (v : Int32) : (mkMs s).set 31 (.inl (.int, 128, .inl (flf (s.2.1 1241) 128 v))) = mkMs (pF s 1241 128 v) := sMa_31 s.1 s.2.1 _
theorem sS_MF_32 (s : St) (v : Int32) : (mkMs s).set 32 (.inl (.int, 200, .inl (flf (s.2.1 1242) 200 v))) = mkMs (pF s 1242 200 v) := sMa_32 s.1 s.2.1 _
theorem sS_MF_33 (s : St) (v : Int32) : (mkMs s).set 33 (.inl (.int, 480, .inl (flf (s.2.1 1245) 480 v))) = mkMs (pF s 1245 480 v) := sMa_33 s.1 s.2.1 _
theorem sS_MF_34 (s : St) (v : Int32) : (mkMs s).set 34 (.inl (.int, 20, .inl (flf (s.2.1 1246) 20 v))) = mkMs (pF s 1246 20 v) := sMa_34 s.1 s.2.1 _
theorem sS_MF_35 (s : St) (v : Int32) : (mkMs s).set 35 (.inl (.int, 24, .inl (flf (s.2.1 1247) 24 v))) = mkMs (pF s 1247 24 v) := sMa_35 s.1 s.2.1 _
theorem sS_MF_36 (s : St) (v : Int32) : (mkMs s).set 36 (.inl (.int, 480, .inl (flf (s.2.1 1248) 480 v))) = mkMs (pF s 1248 480 v) := sMa_36 s.1 s.2.1 _
theorem sS_MF_38 (s : St) (v : Int32) : (mkMs s).set 38 (.inl (.int, 480, .inl (flf (s.2.1 1250) 480 v))) = mkMs (pF s 1250 480 v) := sMa_38 s.1 s.2.1 _
theorem sS_MF_39 (s : St) (v : Int32) : (mkMs s).set 39 (.inl (.int, 20, .inl (flf (s.2.1 1251) 20 v))) = mkMs (pF s 1251 20 v) := sMa_39 s.1 s.2.1 _
theorem sS_MF_40 (s : St) (v : Int32) : (mkMs s).set 40 (.inl (.int, 24, .inl (flf (s.2.1 1252) 24 v))) = mkMs (pF s 1252 24 v) := sMa_40 s.1 s.2.1 _
theorem sS_MF_41 (s : St) (v : Int32) : (mkMs s).set 41 (.inl (.int, 20, .inl (flf (s.2.1 1253) 20 v))) = mkMs (pF s 1253 20 v) := sMa_41 s.1 s.2.1 _
theorem sS_MF_42 (s : St) (v : Int32) : (mkMs s).set 42 (.inl (.int, 9, .inl (flf (s.2.1 1254) 9 v))) = mkMs (pF s 1254 9 v) := sMa_42 s.1 s.2.1 _
theorem sS_MF_43 (s : St) (v : Int32) : (mkMs s).set 43 (.inl (.int, 24, .inl (flf (s.2.1 1255) 24 v))) = mkMs (pF s 1255 24 v) := sMa_43 s.1 s.2.1 _
theorem sS_MF_44 (s : St) (v : Int32) : (mkMs s).set 44 (.inl (.int, 8, .inl (flf (s.2.1 1257) 8 v))) = mkMs (pF s 1257 8 v) := sMa_44 s.1 s.2.1 _
theorem sS_MF_45 (s : St) (v : Int32) : (mkMs s).set 45 (.inl (.int, 8, .inl (flf (s.2.1 1258) 8 v))) = mkMs (pF s 1258 8 v) := sMa_45 s.1 s.2.1 _
theorem sS_MF_46 (s : St) (v : Int32) : (mkMs s).set 46 (.inl (.int, 8, .inl (flf (s.2.1 1259) 8 v))) = mkMs (pF s 1259 8 v) := sMa_46 s.1 s.2.1 _
theorem sS_MF_47 (s : St) (v : Int32) : (mkMs s).set 47 (.inl (.int, 8, .inl (flf (s.2.1 1260) 8 v))) = mkMs (pF s 1260 8 v) := sMa_47 s.1 s.2.1 _
theorem sS_MF_48 (s : St) (v : Int32) : (mkMs s).set 48 (.inl (.int, 10, .inl (flf (s.2.1 1261) 10 v))) = mkMs (pF s 1261 10 v) := sMa_48 s.1 s.2.1 _
theorem sS_MF_49 (s : St) (v : Int32) : (mkMs s).set 49 (.inl (.int, 5, .inl (flf (s.2.1 1262) 5 v))) = mkMs (pF s 1262 5 v) := sMa_49 s.1 s.2.1 _
theorem sS_MF_50 (s : St) (v : Int32) : (mkMs s).set 50 (.inl (.int, 20, .inl (flf (s.2.1 1265) 20 v))) = mkMs (pF s 1265 20 v) := sMa_50 s.1 s.2.1 _
theorem sS_MF_51 (s : St) (v : Int32) : (mkMs s).set 51 (.inl (.int, 480, .inl (flf (s.2.1 1266) 480 v))) = mkMs (pF s 1266 480 v) := sMa_51 s.1 s.2.1 _
theorem sS_MF_52 (s : St) (v : Int32) : (mkMs s).set 52 (.inl (.int, 40, .inl (flf (s.2.1 1268) 40 v))) = mkMs (pF s 1268 40 v) := sMa_52 s.1 s.2.1 _
theorem sS_MF_53 (s : St) (v : Int32) : (mkMs s).set 53 (.inl (.int, 40, .inl (flf (s.2.1 1269) 40 v))) = mkMs (pF s 1269 40 v) := sMa_53 s.1 s.2.1 _
theorem sS_MF_54 (s : St) (v : Int32) : (mkMs s).set 54 (.inl (.int, 40, .inl (flf (s.2.1 1270) 40 v))) = mkMs (pF s 1270 40 v) := sMa_54 s.1 s.2.1 _
theorem sS_MF_55 (s : St) (v : Int32) : (mkMs s).set 55 (.inl (.int, 40, .inl (flf (s.2.1 1271) 40 v))) = mkMs (pF s 1271 40 v) := sMa_55 s.1 s.2.1 _
theorem sS_MF_56 (s : St) (v : Int32) : (mkMs s).set 56 (.inl (.int, 40, .inl (flf (s.2.1 1272) 40 v))) = mkMs (pF s 1272 40 v) := sMa_56 s.1 s.2.1 _
theorem sS_MF_57 (s : St) (v : Int32) : (mkMs s).set 57 (.inl (.int, 40, .inl (flf (s.2.1 1273) 40 v))) = mkMs (pF s 1273 40 v) := sMa_57 s.1 s.2.1 _
theorem sS_MF_58 (s : St) (v : Int32) : (mkMs s).set 58 (.inl (.int, 20, .inl (flf (s.2.1 1274) 20 v))) = mkMs (pF s 1274 20 v) := sMa_58 s.1 s.2.1 _
theorem sS_MF_59 (s : St) (v : Int32) : (mkMs s).set 59 (.inl (.int, 60, .inl (flf (s.2.1 1276) 60 v))) = mkMs (pF s 1276 60 v) := sMa_59 s.1 s.2.1 _
theorem sS_MF_60 (s : St) (v : Int32) : (mkMs s).set 60 (.inl (.int, 60, .inl (flf (s.2.1 1277) 60 v))) = mkMs (pF s 1277 60 v) := sMa_60 s.1 s.2.1 _
theorem sS_MF_61 (s : St) (v : Int32) : (mkMs s).set 61 (.inl (.int, 60, .inl (flf (s.2.1 1278) 60 v))) = mkMs (pF s 1278 60 v) := sMa_61 s.1 s.2.1 _
theorem sS_MF_62 (s : St) (v : Int32) : (mkMs s).set 62 (.inl (.int, 60, .inl (flf (s.2.1 1279) 60 v))) = mkMs (pF s 1279 60 v) := sMa_62 s.1 s.2.1 _
theorem sS_MF_63 (s : St) (v : Int32) : (mkMs s).set 63 (.inl (.int, 5, .inl (flf (s.2.1 1281) 5 v))) = mkMs (pF s 1281 5 v) := sMa_63 s.1 s.2.1 _
theorem sS_MF_64 (s : St) (v : Int32) : (mkMs s).set 64 (.inl (.int, 60, .inl (flf (s.2.1 1282) 60 v))) = mkMs (pF s 1282 60 v) := sMa_64 s.1 s.2.1 _
theorem sS_MF_65 (s : St) (v : Int32) : (mkMs s).set 65 (.inl (.int, 60, .inl (flf (s.2.1 1283) 60 v))) = mkMs (pF s 1283 60 v) := sMa_65 s.1 s.2.1 _
theorem sS_MF_66 (s : St) (v : Int32) : (mkMs s).set 66 (.inl (.int, 60, .inl (flf (s.2.1 1284) 60 v))) = mkMs (pF s 1284 60 v) := sMa_66 s.1 s.2.1 _
theorem sS_MF_68 (s : St) (v : Int32) : (mkMs s).set 68 (.inl (.int, 20, .inl (flf (s.2.1 1286) 20 v))) = mkMs (pF s 1286 20 v) := sMa_68 s.1 s.2.1 _
theorem sS_MF_69 (s : St) (v : Int32) : (mkMs s).set 69 (.inl (.int, 24, .inl (flf (s.2.1 1289) 24 v))) = mkMs (pF s 1289 24 v) := sMa_69 s.1 s.2.1 _
theorem sS_MF_70 (s : St) (v : Int32) : (mkMs s).set 70 (.inl (.int, 24, .inl (flf (s.2.1 1290) 24 v))) = mkMs (pF s 1290 24 v) := sMa_70 s.1 s.2.1 _
theorem sS_MF_72 (s : St) (v : Int32) : (mkMs s).set 72 (.inl (.int, 4, .inl (flf (s.2.1 1292) 4 v))) = mkMs (pF s 1292 4 v) := sMa_72 s.1 s.2.1 _
theorem sS_MF_73 (s : St) (v : Int32) : (mkMs s).set 73 (.inl (.int, 4, .inl (flf (s.2.1 1293) 4 v))) = mkMs (pF s 1293 4 v) := sMa_73 s.1 s.2.1 _
theorem sS_MF_74 (s : St) (v : Int32) : (mkMs s).set 74 (.inl (.int, 40, .inl (flf (s.2.1 1294) 40 v))) = mkMs (pF s 1294 40 v) := sMa_74 s.1 s.2.1 _
theorem sS_MF_75 (s : St) (v : Int32) : (mkMs s).set 75 (.inl (.int, 40, .inl (flf (s.2.1 1295) 40 v))) = mkMs (pF s 1295 40 v) := sMa_75 s.1 s.2.1 _
theorem sS_MF_76 (s : St) (v : Int32) : (mkMs s).set 76 (.inl (.int, 48, .inl (flf (s.2.1 1298) 48 v))) = mkMs (pF s 1298 48 v) := sMa_76 s.1 s.2.1 _
theorem sS_CF_2 (s : St) (v : Int32) : (mkCs s).set 2 (.inl (.int, 120, .inl (flf (s.2.1 200) 120 v))) = mkCs (pF s 200 120 v) := sCa_2 s.1 s.2.1 s.2.2.1 s.2.2.2 _
theorem sS_CF_3 (s : St) (v : Int32) : (mkCs s).set 3 (.inl (.int, 120, .inl (flf (s.2.1 201) 120 v))) = mkCs (pF s 201 120 v) := sCa_3 s.1 s.2.1 s.2.2.1 s.2.2.2 _
theorem sS_CF_8 (s : St) (v : Int32) : (mkCs s).set 8 (.inl (.int, 160, .inl (flf (s.2.1 900) 160 v))) = mkCs (pF s 900 160 v) := sCa_8 s.1 s.2.1 s.2.2.1 s.2.2.2 _
theorem sS_CF_9 (s : St) (v : Int32) : (mkCs s).set 9 (.inl (.int, 160, .inl (flf (s.2.1 905) 160 v))) = mkCs (pF s 905 160 v) := sCa_9 s.1 s.2.1 s.2.2.1 s.2.2.2 _
theorem sS_CF_10 (s : St) (v : Int32) : (mkCs s).set 10 (.inl (.int, 164, .inl (flf (s.2.1 907) 164 v))) = mkCs (pF s 907 164 v) := sCa_10 s.1 s.2.1 s.2.2.1 s.2.2.2 _
theorem sS_CF_12 (s : St) (v : Int32) : (mkCs s).set 12 (.inl (.int, 20, .inl (flf (s.2.1 1) 20 v))) = mkCs (pF s 1 20 v) := sCa_12 s.1 s.2.1 s.2.2.1 s.2.2.2 _
theorem sS_CF_13 (s : St) (v : Int32) : (mkCs s).set 13 (.inl (.int, 20, .inl (flf (s.2.1 2) 20 v))) = mkCs (pF s 2 20 v) := sCa_13 s.1 s.2.1 s.2.2.1 s.2.2.2 _
theorem sS_CF_14 (s : St) (v : Int32) : (mkCs s).set 14 (.inl (.int, 20, .inl (flf (s.2.1 3) 20 v))) = mkCs (pF s 3 20 v) := sCa_14 s.1 s.2.1 s.2.2.1 s.2.2.2 _
theorem sS_CF_15 (s : St) (v : Int32) : (mkCs s).set 15 (.inl (.int, 20, .inl (flf (s.2.1 4) 20 v))) = mkCs (pF s 4 20 v) := sCa_15 s.1 s.2.1 s.2.2.1 s.2.2.2 _
theorem sS_CF_18 (s : St) (v : Int32) : (mkCs s).set 18 (.inl (.int, 6, .inl (flf (s.2.1 7) 6 v))) = mkCs (pF s 7 6 v) := sCa_18 s.1 s.2.1 s.2.2.1 s.2.2.2 _
theorem sS_CF_19 (s : St) (v : Int32) : (mkCs s).set 19 (.inl (.int, 64, .inl (flf (s.2.1 8) 64 v))) = mkCs (pF s 8 64 v) := sCa_19 s.1 s.2.1 s.2.2.1 s.2.2.2 _
theorem sS_CF_21 (s : St) (v : Int32) : (mkCs s).set 21 (.inl (.int, 24, .inl (flf (s.2.1 102) 24 v))) = mkCs (pF s 102 24 v) := sCa_21 s.1 s.2.1 s.2.2.1 s.2.2.2 _
theorem sS_CF_22 (s : St) (v : Int32) : (mkCs s).set 22 (.inl (.int, 24, .inl (flf (s.2.1 103) 24 v))) = mkCs (pF s 103 24 v) := sCa_22 s.1 s.2.1 s.2.2.1 s.2.2.2 _
theorem sS_CF_23 (s : St) (v : Int32) : (mkCs s).set 23 (.inl (.int, 24, .inl (flf (s.2.1 104) 24 v))) = mkCs (pF s 104 24 v) := sCa_23 s.1 s.2.1 s.2.2.1 s.2.2.2 _
theorem sS_CF_24 (s : St) (v : Int32) : (mkCs s).set 24 (.inl (.int, 24, .inl (flf (s.2.1 105) 24 v))) = mkCs (pF s 105 24 v) := sCa_24 s.1 s.2.1 s.2.2.1 s.2.2.2 _
theorem sS_CF_25 (s : St) (v : Int32) : (mkCs s).set 25 (.inl (.int, 24, .inl (flf (s.2.1 106) 24 v))) = mkCs (pF s 106 24 v) := sCa_25 s.1 s.2.1 s.2.2.1 s.2.2.2 _
theorem sS_CF_26 (s : St) (v : Int32) : (mkCs s).set 26 (.inl (.int, 200, .inl (flf (s.2.1 108) 200 v))) = mkCs (pF s 108 200 v) := sCa_26 s.1 s.2.1 s.2.2.1 s.2.2.2 _
theorem sS_CF_27 (s : St) (v : Int32) : (mkCs s).set 27 (.inl (.int, 200, .inl (flf (s.2.1 109) 200 v))) = mkCs (pF s 109 200 v) := sCa_27 s.1 s.2.1 s.2.2.1 s.2.2.2 _
theorem sS_CF_28 (s : St) (v : Int32) : (mkCs s).set 28 (.inl (.int, 200, .inl (flf (s.2.1 110) 200 v))) = mkCs (pF s 110 200 v) := sCa_28 s.1 s.2.1 s.2.2.1 s.2.2.2 _
theorem sS_CF_29 (s : St) (v : Int32) : (mkCs s).set 29 (.inl (.int, 200, .inl (flf (s.2.1 111) 200 v))) = mkCs (pF s 111 200 v) := sCa_29 s.1 s.2.1 s.2.2.1 s.2.2.2 _
theorem sS_CF_30 (s : St) (v : Int32) : (mkCs s).set 30 (.inl (.int, 200, .inl (flf (s.2.1 112) 200 v))) = mkCs (pF s 112 200 v) := sCa_30 s.1 s.2.1 s.2.2.1 s.2.2.2 _
theorem sS_CF_31 (s : St) (v : Int32) : (mkCs s).set 31 (.inl (.int, 60, .inl (flf (s.2.1 114) 60 v))) = mkCs (pF s 114 60 v) := sCa_31 s.1 s.2.1 s.2.2.1 s.2.2.2 _
theorem sS_CF_32 (s : St) (v : Int32) : (mkCs s).set 32 (.inl (.int, 60, .inl (flf (s.2.1 115) 60 v))) = mkCs (pF s 115 60 v) := sCa_32 s.1 s.2.1 s.2.2.1 s.2.2.2 _
theorem sS_CF_33 (s : St) (v : Int32) : (mkCs s).set 33 (.inl (.int, 60, .inl (flf (s.2.1 116) 60 v))) = mkCs (pF s 116 60 v) := sCa_33 s.1 s.2.1 s.2.2.1 s.2.2.2 _
theorem sS_CF_34 (s : St) (v : Int32) : (mkCs s).set 34 (.inl (.int, 60, .inl (flf (s.2.1 117) 60 v))) = mkCs (pF s 117 60 v) := sCa_34 s.1 s.2.1 s.2.2.1 s.2.2.2 _
theorem sS_CF_36 (s : St) (v : Int32) : (mkCs s).set 36 (.inl (.int, 20, .inl (flf (s.2.1 502) 20 v))) = mkCs (pF s 502 20 v) := sCa_36 s.1 s.2.1 s.2.2.1 s.2.2.2 _
theorem sS_CF_37 (s : St) (v : Int32) : (mkCs s).set 37 (.inl (.int, 20, .inl (flf (s.2.1 503) 20 v))) = mkCs (pF s 503 20 v) := sCa_37 s.1 s.2.1 s.2.2.1 s.2.2.2 _
theorem sS_CF_38 (s : St) (v : Int32) : (mkCs s).set 38 (.inl (.int, 20, .inl (flf (s.2.1 504) 20 v))) = mkCs (pF s 504 20 v) := sCa_38 s.1 s.2.1 s.2.2.1 s.2.2.2 _
theorem sS_CF_39 (s : St) (v : Int32) : (mkCs s).set 39 (.inl (.int, 20, .inl (flf (s.2.1 505) 20 v))) = mkCs (pF s 505 20 v) := sCa_39 s.1 s.2.1 s.2.2.1 s.2.2.2 _
theorem sS_CF_40 (s : St) (v : Int32) : (mkCs s).set 40 (.inl (.int, 20, .inl (flf (s.2.1 506) 20 v))) = mkCs (pF s 506 20 v) := sCa_40 s.1 s.2.1 s.2.2.1 s.2.2.2 _
theorem sS_CF_41 (s : St) (v : Int32) : (mkCs s).set 41 (.inl (.int, 20, .inl (flf (s.2.1 507) 20 v))) = mkCs (pF s 507 20 v) := sCa_41 s.1 s.2.1 s.2.2.1 s.2.2.2 _
theorem sS_CF_42 (s : St) (v : Int32) : (mkCs s).set 42 (.inl (.int, 20, .inl (flf (s.2.1 508) 20 v))) = mkCs (pF s 508 20 v) := sCa_42 s.1 s.2.1 s.2.2.1 s.2.2.2 _
theorem sS_CF_44 (s : St) (v : Int32) : (mkCs s).set 44 (.inl (.int, 601, .inl (flf (s.2.1 510) 601 v))) = mkCs (pF s 510 601 v) := sCa_44 s.1 s.2.1 s.2.2.1 s.2.2.2 _
theorem sS_CF_46 (s : St) (v : Int32) : (mkCs s).set 46 (.inl (.int, 8, .inl (flf (s.2.1 1005) 8 v))) = mkCs (pF s 1005 8 v) := sCa_46 s.1 s.2.1 s.2.2.1 s.2.2.2 _
theorem sS_CF_47 (s : St) (v : Int32) : (mkCs s).set 47 (.inl (.int, 8, .inl (flf (s.2.1 1006) 8 v))) = mkCs (pF s 1006 8 v) := sCa_47 s.1 s.2.1 s.2.2.1 s.2.2.2 _
theorem sS_CF_48 (s : St) (v : Int32) : (mkCs s).set 48 (.inl (.int, 8, .inl (flf (s.2.1 1007) 8 v))) = mkCs (pF s 1007 8 v) := sCa_48 s.1 s.2.1 s.2.2.1 s.2.2.2 _
theorem sS_CF_49 (s : St) (v : Int32) : (mkCs s).set 49 (.inl (.int, 8, .inl (flf (s.2.1 1008) 8 v))) = mkCs (pF s 1008 8 v) := sCa_49 s.1 s.2.1 s.2.2.1 s.2.2.2 _
theorem sS_CF_50 (s : St) (v : Int32) : (mkCs s).set 50 (.inl (.int, 10, .inl (flf (s.2.1 1010) 10 v))) = mkCs (pF s 1010 10 v) := sCa_50 s.1 s.2.1 s.2.2.1 s.2.2.2 _
theorem sS_CF_51 (s : St) (v : Int32) : (mkCs s).set 51 (.inl (.int, 5, .inl (flf (s.2.1 1011) 5 v))) = mkCs (pF s 1011 5 v) := sCa_51 s.1 s.2.1 s.2.2.1 s.2.2.2 _
theorem sS_CF_52 (s : St) (v : Int32) : (mkCs s).set 52 (.inl (.int, 100, .inl (flf (s.2.1 1012) 100 v))) = mkCs (pF s 1012 100 v) := sCa_52 s.1 s.2.1 s.2.2.1 s.2.2.2 _
theorem sS_CF_54 (s : St) (v : Int32) : (mkCs s).set 54 (.inl (.int, 480, .inl (flf (s.2.1 1015) 480 v))) = mkCs (pF s 1015 480 v) := sCa_54 s.1 s.2.1 s.2.2.1 s.2.2.2 _
theorem sS_CF_56 (s : St) (v : Int32) : (mkCs s).set 56 (.inl (.int, 480, .inl (flf (s.2.1 604) 480 v))) = mkCs (pF s 604 480 v) := sCa_56 s.1 s.2.1 s.2.2.1 s.2.2.2 _
theorem sS_CF_57 (s : St) (v : Int32) : (mkCs s).set 57 (.inl (.int, 480, .inl (flf (s.2.1 605) 480 v))) = mkCs (pF s 605 480 v) := sCa_57 s.1 s.2.1 s.2.2.1 s.2.2.2 _
theorem sS_CF_58 (s : St) (v : Int32) : (mkCs s).set 58 (.inl (.int, 24, .inl (flf (s.2.1 606) 24 v))) = mkCs (pF s 606 24 v) := sCa_58 s.1 s.2.1 s.2.2.1 s.2.2.2 _
theorem sS_CF_59 (s : St) (v : Int32) : (mkCs s).set 59 (.inl (.int, 20, .inl (flf (s.2.1 607) 20 v))) = mkCs (pF s 607 20 v) := sCa_59 s.1 s.2.1 s.2.2.1 s.2.2.2 _
theorem sS_CF_61 (s : St) (v : Int32) : (mkCs s).set 61 (.inl (.int, 24, .inl (flf (s.2.1 609) 24 v))) = mkCs (pF s 609 24 v) := sCa_61 s.1 s.2.1 s.2.2.1 s.2.2.2 _
theorem sS_CF_62 (s : St) (v : Int32) : (mkCs s).set 62 (.inl (.int, 20, .inl (flf (s.2.1 610) 20 v))) = mkCs (pF s 610 20 v) := sCa_62 s.1 s.2.1 s.2.2.1 s.2.2.2 _
theorem sS_CF_63 (s : St) (v : Int32) : (mkCs s).set 63 (.inl (.int, 24, .inl (flf (s.2.1 611) 24 v))) = mkCs (pF s 611 24 v) := sCa_63 s.1 s.2.1 s.2.2.1 s.2.2.2 _
theorem sS_CF_65 (s : St) (v : Int32) : (mkCs s).set 65 (.inl (.int, 40, .inl (flf (s.2.1 803) 40 v))) = mkCs (pF s 803 40 v) := sCa_65 s.1 s.2.1 s.2.2.1 s.2.2.2 _
theorem sS_CF_66 (s : St) (v : Int32) : (mkCs s).set 66 (.inl (.int, 40, .inl (flf (s.2.1 804) 40 v))) = mkCs (pF s 804 40 v) := sCa_66 s.1 s.2.1 s.2.2.1 s.2.2.2 _
theorem sS_CF_67 (s : St) (v : Int32) : (mkCs s).set 67 (.inl (.int, 40, .inl (flf (s.2.1 805) 40 v))) = mkCs (pF s 805 40 v) := sCa_67 s.1 s.2.1 s.2.2.1 s.2.2.2 _
theorem sS_CF_68 (s : St) (v : Int32) : (mkCs s).set 68 (.inl (.int, 40, .inl (flf (s.2.1 806) 40 v))) = mkCs (pF s 806 40 v) := sCa_68 s.1 s.2.1 s.2.2.1 s.2.2.2 _
theorem sS_CF_69 (s : St) (v : Int32) : (mkCs s).set 69 (.inl (.int, 40, .inl (flf (s.2.1 807) 40 v))) = mkCs (pF s 807 40 v) := sCa_69 s.1 s.2.1 s.2.2.1 s.2.2.2 _
theorem sS_CF_70 (s : St) (v : Int32) : (mkCs s).set 70 (.inl (.int, 40, .inl (flf (s.2.1 808) 40 v))) = mkCs (pF s 808 40 v) := sCa_70 s.1 s.2.1 s.2.2.1 s.2.2.2 _
theorem sS_CF_71 (s : St) (v : Int32) : (mkCs s).set 71 (.inl (.int, 20, .inl (flf (s.2.1 809) 20 v))) = mkCs (pF s 809 20 v) := sCa_71 s.1 s.2.1 s.2.2.1 s.2.2.2 _
theorem sS_CF_72 (s : St) (v : Int32) : (mkCs s).set 72 (.inl (.int, 4, .inl (flf (s.2.1 810) 4 v))) = mkCs (pF s 810 4 v) := sCa_72 s.1 s.2.1 s.2.2.1 s.2.2.2 _
theorem sS_CF_74 (s : St) (v : Int32) : (mkCs s).set 74 (.inl (.int, 5, .inl (flf (s.2.1 401) 5 v))) = mkCs (pF s 401 5 v) := sCa_74 s.1 s.2.1 s.2.2.1 s.2.2.2 _
theorem sS_CF_76 (s : St) (v : Int32) : (mkCs s).set 76 (.inl (.int, 20, .inl (flf (s.2.1 403) 20 v))) = mkCs (pF s 403 20 v) := sCa_76 s.1 s.2.1 s.2.2.1 s.2.2.2 _
theorem sS_CF_77 (s : St) (v : Int32) : (mkCs s).set 77 (.inl (.int, 20, .inl (flf (s.2.1 404) 20 v))) = mkCs (pF s 404 20 v) := sCa_77 s.1 s.2.1 s.2.2.1 s.2.2.2 _
theorem sS_CF_78 (s : St) (v : Int32) : (mkCs s).set 78 (.inl (.int, 20, .inl (flf (s.2.1 405) 20 v))) = mkCs (pF s 405 20 v) := sCa_78 s.1 s.2.1 s.2.2.1 s.2.2.2 _
theorem sS_CF_79 (s : St) (v : Int32) : (mkCs s).set 79 (.inl (.int, 8, .inl (flf (s.2.1 406) 8 v))) = mkCs (pF s 406 8 v) := sCa_79 s.1 s.2.1 s.2.2.1 s.2.2.2 _
theorem sS_CF_80 (s : St) (v : Int32) : (mkCs s).set 80 (.inl (.int, 8, .inl (flf (s.2.1 407) 8 v))) = mkCs (pF s 407 8 v) := sCa_80 s.1 s.2.1 s.2.2.1 s.2.2.2 _
theorem sS_CF_82 (s : St) (v : Int32) : (mkCs s).set 82 (.inl (.int, 9, .inl (flf (s.2.1 703) 9 v))) = mkCs (pF s 703 9 v) := sCa_82 s.1 s.2.1 s.2.2.1 s.2.2.2 _
theorem sS_CF_83 (s : St) (v : Int32) : (mkCs s).set 83 (.inl (.int, 24, .inl (flf (s.2.1 704) 24 v))) = mkCs (pF s 704 24 v) := sCa_83 s.1 s.2.1 s.2.2.1 s.2.2.2 _
theorem sS_CF_84 (s : St) (v : Int32) : (mkCs s).set 84 (.inl (.int, 48, .inl (flf (s.2.1 706) 48 v))) = mkCs (pF s 706 48 v) := sCa_84 s.1 s.2.1 s.2.2.1 s.2.2.2 _
theorem sS_CF_86 (s : St) (v : Int32) : (mkCs s).set 86 (.inl (.int, 4, .inl (flf (s.2.1 302) 4 v))) = mkCs (pF s 302 4 v) := sCa_86 s.1 s.2.1 s.2.2.1 s.2.2.2 _
theorem sS_CF_87 (s : St) (v : Int32) : (mkCs s).set 87 (.inl (.int, 8, .inl (flf (s.2.1 304) 8 v))) = mkCs (pF s 304 8 v) := sCa_87 s.1 s.2.1 s.2.2.1 s.2.2.2 _
theorem sS_CF_88 (s : St) (v : Int32) : (mkCs s).set 88 (.inl (.int, 8, .inl (flf (s.2.1 305) 8 v))) = mkCs (pF s 305 8 v) := sCa_88 s.1 s.2.1 s.2.2.1 s.2.2.2 _
def c_in : mj_S := fun as h k => match as with
  | [.int a, .int b, .int c] => k (some (.int (bI (inb a b c)))) h
  | _ => False
theorem c_in_eq (a b c : Int32) (h : mj_H) (k : Option Value → mj_H → Prop) : c_in [.int a, .int b, .int c] h k = k (some (.int (bI (inb a b c)))) h := rfl
theorem J_X12_in : mj_t 2 12 = 14 ∧ mj_t 7 7 = 14 ∧ mj_t 11 4 = 15 ∧ (0 ≤ ((2 : Nat) : Int) + 12) = True ∧ (0 ≤ ((7 : Nat) : Int) + 7) = True ∧ (0 ≤ ((11 : Nat) : Int) + 4) = True := by and_intros <;> first | rfl | exact eq_true (by decide)
set_option maxHeartbeats 4000000 in
set_option maxRecDepth 20000 in
theorem m_X12_in (l : Launch) : mj_Met l yX12_in cX12_in 3 ((some FieldType.boolean)) 0 0 0 c_in := by
  refine mj_body2 false (TbX12 3 ((some FieldType.boolean)) []) (by decide) rfl rfl (fun h => nomatch h) (tfX12 _ (fun _ h => nomatch h)) ?_
  intro as h k hk
  unfold c_in at hk
  split at hk
  · next a b c =>
    refine ⟨rfl, fun G hG => ?_⟩
    show G 0 [.int a, .int b, .int c] [] h 0 0
    refine mj_run hG.1 (fun _ => false) 4000 ?_
    simp only [mj_step, mj_W_s, mj_fin, List.getElem?_cons_zero, List.getElem?_cons_succ, mj_go, Nat.reduceAdd, Nat.reduceSub, Nat.reduceLT, Nat.reduceLeDiff, Nat.zero_add, Nat.reduceEqDiff, Nat.reduceBEq, ↓reduceIte, Bool.false_eq_true, List.append_nil, List.nil_append, List.cons_append, Option.toList, and_true, true_and, true_or, or_true, reduceCtorEq, List.map_nil, bI_eq0, bI_eq1, bool_ft, pk_us, vnar0, vnar1, Bool.or_false, Bool.or_true, Bool.false_or, Bool.true_or, mj_kne, eq_self, Int32.reduceLT, Int32.reduceLE, Int32.reduceAdd, Int32.reduceSub, Int32.reduceMul, not_true_eq_false, not_false_eq_true, false_implies, true_implies, D_X12_in, mj_F_goto_off, mj_F_iconst_n, mj_F_if_icmp_gt_off, mj_F_if_icmp_lt_off, mj_F_iload_n_k, mj_F_ireturn, mj_kc, J_X12_in]
    refine ⟨fun h1 => ?_, fun h1 => ⟨fun h2 => ?_, fun h2 => ?_⟩⟩
    · rw [inb_f1 h1] at hk; exact hk
    · rw [inb_f2 h2] at hk; exact hk
    · rw [inb_t h1 h2] at hk; exact hk
  · exact hk.elim
theorem J_X11_within : mj_t 2 12 = 14 ∧ mj_t 7 7 = 14 ∧ mj_t 11 4 = 15 ∧ (0 ≤ ((2 : Nat) : Int) + 12) = True ∧ (0 ≤ ((7 : Nat) : Int) + 7) = True ∧ (0 ≤ ((11 : Nat) : Int) + 4) = True := by and_intros <;> first | rfl | exact eq_true (by decide)
set_option maxHeartbeats 4000000 in
set_option maxRecDepth 20000 in
theorem m_X11_within (l : Launch) : mj_Met l yX11_within cX11_within 3 ((some FieldType.boolean)) 0 0 0 c_in := by
  refine mj_body2 false (TbX11 3 ((some FieldType.boolean)) []) (by decide) rfl rfl (fun h => nomatch h) (tfX11 _ (fun _ h => nomatch h)) ?_
  intro as h k hk
  unfold c_in at hk
  split at hk
  · next a b c =>
    refine ⟨rfl, fun G hG => ?_⟩
    show G 0 [.int a, .int b, .int c] [] h 0 0
    refine mj_run hG.1 (fun _ => false) 4000 ?_
    simp only [mj_step, mj_W_s, mj_fin, List.getElem?_cons_zero, List.getElem?_cons_succ, mj_go, Nat.reduceAdd, Nat.reduceSub, Nat.reduceLT, Nat.reduceLeDiff, Nat.zero_add, Nat.reduceEqDiff, Nat.reduceBEq, ↓reduceIte, Bool.false_eq_true, List.append_nil, List.nil_append, List.cons_append, Option.toList, and_true, true_and, true_or, or_true, reduceCtorEq, List.map_nil, bI_eq0, bI_eq1, bool_ft, pk_us, vnar0, vnar1, Bool.or_false, Bool.or_true, Bool.false_or, Bool.true_or, mj_kne, eq_self, Int32.reduceLT, Int32.reduceLE, Int32.reduceAdd, Int32.reduceSub, Int32.reduceMul, not_true_eq_false, not_false_eq_true, false_implies, true_implies, D_X11_within, mj_F_goto_off, mj_F_iconst_n, mj_F_if_icmp_gt_off, mj_F_if_icmp_lt_off, mj_F_iload_n_k, mj_F_ireturn, mj_kc, J_X11_within]
    refine ⟨fun h1 => ?_, fun h1 => ⟨fun h2 => ?_, fun h2 => ?_⟩⟩
    · rw [inb_f1 h1] at hk; exact hk
    · rw [inb_f2 h2] at hk; exact hk
    · rw [inb_t h1 h2] at hk; exact hk
  · exact hk.elim
def c_isCell : mj_S := fun as h k => match as with
  | [.int a] => k (some (.int (bI (inb a 0 119)))) h
  | _ => False
theorem c_isCell_eq (a : Int32) (h : mj_H) (k : Option Value → mj_H → Prop) : c_isCell [.int a] h k = k (some (.int (bI (inb a 0 119)))) h := rfl
def ct_X12_isCell : List (Nat × mj_Cs) := [(243, 2, 3, 12, 0, 0, c_in)]
theorem L_X12_isCell : mj_lk ct_X12_isCell 243 = some (2, 3, 12, 0, 0, c_in) := rfl
set_option maxHeartbeats 4000000 in
set_option maxRecDepth 20000 in
theorem m_X12_isCell (l : Launch) : mj_Met l yX12_isCell cX12_isCell 1 ((some FieldType.boolean)) 1 0 0 c_isCell := by
  refine mj_body2 false (TbX12 1 ((some FieldType.boolean)) ct_X12_isCell) (by decide) rfl rfl (fun h => nomatch h) (tfX12 _ (List.forall_mem_cons.mpr ⟨cfX12_243 (m_X12_in l) (by decide), fun _ h => nomatch h⟩)) ?_
  intro as h k hk
  unfold c_isCell at hk
  split at hk
  · next a =>
    refine ⟨rfl, fun G hG => ?_⟩
    show G 0 [.int a] [] h 0 0
    refine mj_run hG.1 (fun _ => false) 4000 ?_
    simp only [mj_step, mj_W_s, mj_fin, List.getElem?_cons_zero, List.getElem?_cons_succ, mj_go, Nat.reduceAdd, Nat.reduceSub, Nat.reduceLT, Nat.reduceLeDiff, Nat.zero_add, Nat.reduceEqDiff, Nat.reduceBEq, ↓reduceIte, Bool.false_eq_true, List.append_nil, List.nil_append, List.cons_append, Option.toList, and_true, true_and, true_or, or_true, reduceCtorEq, List.map_nil, bI_eq0, bI_eq1, bool_ft, pk_us, vnar0, vnar1, Bool.or_false, Bool.or_true, Bool.false_or, Bool.true_or, mj_kne, eq_self, Int32.reduceLT, Int32.reduceLE, Int32.reduceAdd, Int32.reduceSub, Int32.reduceMul, not_true_eq_false, not_false_eq_true, false_implies, true_implies, D_X12_isCell, mj_F_bipush_n, mj_F_iconst_n, mj_F_iload_n_k, mj_F_invokestatic_i, mj_F_ireturn, mj_kc, L_X12_isCell, List.take_succ_cons, List.take_zero, List.drop_succ_cons, List.drop_zero, List.reverse_cons, List.reverse_nil, List.length_cons, List.length_nil, c_in_eq]
    exact hk
  · exact hk.elim
def ct_X11_isCell : List (Nat × mj_Cs) := [(96, 2, 3, 11, 0, 0, c_in)]
theorem L_X11_isCell : mj_lk ct_X11_isCell 96 = some (2, 3, 11, 0, 0, c_in) := rfl
set_option maxHeartbeats 4000000 in
set_option maxRecDepth 20000 in
theorem m_X11_isCell (l : Launch) : mj_Met l yX11_isCell cX11_isCell 1 ((some FieldType.boolean)) 1 0 0 c_isCell := by
  refine mj_body2 false (TbX11 1 ((some FieldType.boolean)) ct_X11_isCell) (by decide) rfl rfl (fun h => nomatch h) (tfX11 _ (List.forall_mem_cons.mpr ⟨cfX11_96 (m_X11_within l) (by decide), fun _ h => nomatch h⟩)) ?_
  intro as h k hk
  unfold c_isCell at hk
  split at hk
  · next a =>
    refine ⟨rfl, fun G hG => ?_⟩
    show G 0 [.int a] [] h 0 0
    refine mj_run hG.1 (fun _ => false) 4000 ?_
    simp only [mj_step, mj_W_s, mj_fin, List.getElem?_cons_zero, List.getElem?_cons_succ, mj_go, Nat.reduceAdd, Nat.reduceSub, Nat.reduceLT, Nat.reduceLeDiff, Nat.zero_add, Nat.reduceEqDiff, Nat.reduceBEq, ↓reduceIte, Bool.false_eq_true, List.append_nil, List.nil_append, List.cons_append, Option.toList, and_true, true_and, true_or, or_true, reduceCtorEq, List.map_nil, bI_eq0, bI_eq1, bool_ft, pk_us, vnar0, vnar1, Bool.or_false, Bool.or_true, Bool.false_or, Bool.true_or, mj_kne, eq_self, Int32.reduceLT, Int32.reduceLE, Int32.reduceAdd, Int32.reduceSub, Int32.reduceMul, not_true_eq_false, not_false_eq_true, false_implies, true_implies, D_X11_isCell, mj_F_bipush_n, mj_F_iconst_n, mj_F_iload_n_k, mj_F_invokestatic_i, mj_F_ireturn, mj_kc, L_X11_isCell, List.take_succ_cons, List.take_zero, List.drop_succ_cons, List.drop_zero, List.reverse_cons, List.reverse_nil, List.length_cons, List.length_nil, c_in_eq]
    exact hk
  · exact hk.elim
def c_isShire : mj_S := fun as h k => match as with
  | [.int a] => k (some (.int (bI (inb a 0 3)))) h
  | _ => False
theorem c_isShire_eq (a : Int32) (h : mj_H) (k : Option Value → mj_H → Prop) : c_isShire [.int a] h k = k (some (.int (bI (inb a 0 3)))) h := rfl
def ct_X12_isShire : List (Nat × mj_Cs) := [(243, 2, 3, 12, 0, 0, c_in)]
theorem L_X12_isShire : mj_lk ct_X12_isShire 243 = some (2, 3, 12, 0, 0, c_in) := rfl
set_option maxHeartbeats 4000000 in
set_option maxRecDepth 20000 in
theorem m_X12_isShire (l : Launch) : mj_Met l yX12_isShire cX12_isShire 1 ((some FieldType.boolean)) 1 0 0 c_isShire := by
  refine mj_body2 false (TbX12 1 ((some FieldType.boolean)) ct_X12_isShire) (by decide) rfl rfl (fun h => nomatch h) (tfX12 _ (List.forall_mem_cons.mpr ⟨cfX12_243 (m_X12_in l) (by decide), fun _ h => nomatch h⟩)) ?_
  intro as h k hk
  unfold c_isShire at hk
  split at hk
  · next a =>
    refine ⟨rfl, fun G hG => ?_⟩
    show G 0 [.int a] [] h 0 0
    refine mj_run hG.1 (fun _ => false) 4000 ?_
    simp only [mj_step, mj_W_s, mj_fin, List.getElem?_cons_zero, List.getElem?_cons_succ, mj_go, Nat.reduceAdd, Nat.reduceSub, Nat.reduceLT, Nat.reduceLeDiff, Nat.zero_add, Nat.reduceEqDiff, Nat.reduceBEq, ↓reduceIte, Bool.false_eq_true, List.append_nil, List.nil_append, List.cons_append, Option.toList, and_true, true_and, true_or, or_true, reduceCtorEq, List.map_nil, bI_eq0, bI_eq1, bool_ft, pk_us, vnar0, vnar1, Bool.or_false, Bool.or_true, Bool.false_or, Bool.true_or, mj_kne, eq_self, Int32.reduceLT, Int32.reduceLE, Int32.reduceAdd, Int32.reduceSub, Int32.reduceMul, not_true_eq_false, not_false_eq_true, false_implies, true_implies, D_X12_isShire, mj_F_iconst_n, mj_F_iload_n_k, mj_F_invokestatic_i, mj_F_ireturn, mj_kc, L_X12_isShire, List.take_succ_cons, List.take_zero, List.drop_succ_cons, List.drop_zero, List.reverse_cons, List.reverse_nil, List.length_cons, List.length_nil, c_in_eq]
    exact hk
  · exact hk.elim
def ct_X11_isShire : List (Nat × mj_Cs) := [(96, 2, 3, 11, 0, 0, c_in)]
theorem L_X11_isShire : mj_lk ct_X11_isShire 96 = some (2, 3, 11, 0, 0, c_in) := rfl
set_option maxHeartbeats 4000000 in
set_option maxRecDepth 20000 in
theorem m_X11_isShire (l : Launch) : mj_Met l yX11_isShire cX11_isShire 1 ((some FieldType.boolean)) 1 0 0 c_isShire := by
  refine mj_body2 false (TbX11 1 ((some FieldType.boolean)) ct_X11_isShire) (by decide) rfl rfl (fun h => nomatch h) (tfX11 _ (List.forall_mem_cons.mpr ⟨cfX11_96 (m_X11_within l) (by decide), fun _ h => nomatch h⟩)) ?_
  intro as h k hk
  unfold c_isShire at hk
  split at hk
  · next a =>
    refine ⟨rfl, fun G hG => ?_⟩
    show G 0 [.int a] [] h 0 0
    refine mj_run hG.1 (fun _ => false) 4000 ?_
    simp only [mj_step, mj_W_s, mj_fin, List.getElem?_cons_zero, List.getElem?_cons_succ, mj_go, Nat.reduceAdd, Nat.reduceSub, Nat.reduceLT, Nat.reduceLeDiff, Nat.zero_add, Nat.reduceEqDiff, Nat.reduceBEq, ↓reduceIte, Bool.false_eq_true, List.append_nil, List.nil_append, List.cons_append, Option.toList, and_true, true_and, true_or, or_true, reduceCtorEq, List.map_nil, bI_eq0, bI_eq1, bool_ft, pk_us, vnar0, vnar1, Bool.or_false, Bool.or_true, Bool.false_or, Bool.true_or, mj_kne, eq_self, Int32.reduceLT, Int32.reduceLE, Int32.reduceAdd, Int32.reduceSub, Int32.reduceMul, not_true_eq_false, not_false_eq_true, false_implies, true_implies, D_X11_isShire, mj_F_iconst_n, mj_F_iload_n_k, mj_F_invokestatic_i, mj_F_ireturn, mj_kc, L_X11_isShire, List.take_succ_cons, List.take_zero, List.drop_succ_cons, List.drop_zero, List.reverse_cons, List.reverse_nil, List.length_cons, List.length_nil, c_in_eq]
    exact hk
  · exact hk.elim
def c_isYear : mj_S := fun as h k => match as with
  | [.int a] => k (some (.int (bI (inb a 0 11)))) h
  | _ => False
theorem c_isYear_eq (a : Int32) (h : mj_H) (k : Option Value → mj_H → Prop) : c_isYear [.int a] h k = k (some (.int (bI (inb a 0 11)))) h := rfl
def ct_X12_isYear : List (Nat × mj_Cs) := [(243, 2, 3, 12, 0, 0, c_in)]
theorem L_X12_isYear : mj_lk ct_X12_isYear 243 = some (2, 3, 12, 0, 0, c_in) := rfl
set_option maxHeartbeats 4000000 in
set_option maxRecDepth 20000 in
theorem m_X12_isYear (l : Launch) : mj_Met l yX12_isYear cX12_isYear 1 ((some FieldType.boolean)) 1 0 0 c_isYear := by
  refine mj_body2 false (TbX12 1 ((some FieldType.boolean)) ct_X12_isYear) (by decide) rfl rfl (fun h => nomatch h) (tfX12 _ (List.forall_mem_cons.mpr ⟨cfX12_243 (m_X12_in l) (by decide), fun _ h => nomatch h⟩)) ?_
  intro as h k hk
  unfold c_isYear at hk
  split at hk
  · next a =>
    refine ⟨rfl, fun G hG => ?_⟩
    show G 0 [.int a] [] h 0 0
    refine mj_run hG.1 (fun _ => false) 4000 ?_
    simp only [mj_step, mj_W_s, mj_fin, List.getElem?_cons_zero, List.getElem?_cons_succ, mj_go, Nat.reduceAdd, Nat.reduceSub, Nat.reduceLT, Nat.reduceLeDiff, Nat.zero_add, Nat.reduceEqDiff, Nat.reduceBEq, ↓reduceIte, Bool.false_eq_true, List.append_nil, List.nil_append, List.cons_append, Option.toList, and_true, true_and, true_or, or_true, reduceCtorEq, List.map_nil, bI_eq0, bI_eq1, bool_ft, pk_us, vnar0, vnar1, Bool.or_false, Bool.or_true, Bool.false_or, Bool.true_or, mj_kne, eq_self, Int32.reduceLT, Int32.reduceLE, Int32.reduceAdd, Int32.reduceSub, Int32.reduceMul, not_true_eq_false, not_false_eq_true, false_implies, true_implies, D_X12_isYear, mj_F_bipush_n, mj_F_iconst_n, mj_F_iload_n_k, mj_F_invokestatic_i, mj_F_ireturn, mj_kc, L_X12_isYear, List.take_succ_cons, List.take_zero, List.drop_succ_cons, List.drop_zero, List.reverse_cons, List.reverse_nil, List.length_cons, List.length_nil, c_in_eq]
    exact hk
  · exact hk.elim
def ct_X11_isYear : List (Nat × mj_Cs) := [(96, 2, 3, 11, 0, 0, c_in)]
theorem L_X11_isYear : mj_lk ct_X11_isYear 96 = some (2, 3, 11, 0, 0, c_in) := rfl
set_option maxHeartbeats 4000000 in
set_option maxRecDepth 20000 in
theorem m_X11_isYear (l : Launch) : mj_Met l yX11_isYear cX11_isYear 1 ((some FieldType.boolean)) 1 0 0 c_isYear := by
  refine mj_body2 false (TbX11 1 ((some FieldType.boolean)) ct_X11_isYear) (by decide) rfl rfl (fun h => nomatch h) (tfX11 _ (List.forall_mem_cons.mpr ⟨cfX11_96 (m_X11_within l) (by decide), fun _ h => nomatch h⟩)) ?_
  intro as h k hk
  unfold c_isYear at hk
  split at hk
  · next a =>
    refine ⟨rfl, fun G hG => ?_⟩
    show G 0 [.int a] [] h 0 0
    refine mj_run hG.1 (fun _ => false) 4000 ?_
    simp only [mj_step, mj_W_s, mj_fin, List.getElem?_cons_zero, List.getElem?_cons_succ, mj_go, Nat.reduceAdd, Nat.reduceSub, Nat.reduceLT, Nat.reduceLeDiff, Nat.zero_add, Nat.reduceEqDiff, Nat.reduceBEq, ↓reduceIte, Bool.false_eq_true, List.append_nil, List.nil_append, List.cons_append, Option.toList, and_true, true_and, true_or, or_true, reduceCtorEq, List.map_nil, bI_eq0, bI_eq1, bool_ft, pk_us, vnar0, vnar1, Bool.or_false, Bool.or_true, Bool.false_or, Bool.true_or, mj_kne, eq_self, Int32.reduceLT, Int32.reduceLE, Int32.reduceAdd, Int32.reduceSub, Int32.reduceMul, not_true_eq_false, not_false_eq_true, false_implies, true_implies, D_X11_isYear, mj_F_bipush_n, mj_F_iconst_n, mj_F_iload_n_k, mj_F_invokestatic_i, mj_F_ireturn, mj_kc, L_X11_isYear, List.take_succ_cons, List.take_zero, List.drop_succ_cons, List.drop_zero, List.reverse_cons, List.reverse_nil, List.length_cons, List.length_nil, c_in_eq]
    exact hk
  · exact hk.elim
def c_isKind : mj_S := fun as h k => match as with
  | [.int a] => k (some (.int (bI (inb a 0 4)))) h
  | _ => False
theorem c_isKind_eq (a : Int32) (h : mj_H) (k : Option Value → mj_H → Prop) : c_isKind [.int a] h k = k (some (.int (bI (inb a 0 4)))) h := rfl
def ct_X11_isKind : List (Nat × mj_Cs) := [(96, 2, 3, 11, 0, 0, c_in)]
theorem L_X11_isKind : mj_lk ct_X11_isKind 96 = some (2, 3, 11, 0, 0, c_in) := rfl
set_option maxHeartbeats 4000000 in
set_option maxRecDepth 20000 in
theorem m_X11_isKind (l : Launch) : mj_Met l yX11_isKind cX11_isKind 1 ((some FieldType.boolean)) 1 0 0 c_isKind := by
  refine mj_body2 false (TbX11 1 ((some FieldType.boolean)) ct_X11_isKind) (by decide) rfl rfl (fun h => nomatch h) (tfX11 _ (List.forall_mem_cons.mpr ⟨cfX11_96 (m_X11_within l) (by decide), fun _ h => nomatch h⟩)) ?_
  intro as h k hk
  unfold c_isKind at hk
  split at hk
  · next a =>
    refine ⟨rfl, fun G hG => ?_⟩
    show G 0 [.int a] [] h 0 0
    refine mj_run hG.1 (fun _ => false) 4000 ?_
    simp only [mj_step, mj_W_s, mj_fin, List.getElem?_cons_zero, List.getElem?_cons_succ, mj_go, Nat.reduceAdd, Nat.reduceSub, Nat.reduceLT, Nat.reduceLeDiff, Nat.zero_add, Nat.reduceEqDiff, Nat.reduceBEq, ↓reduceIte, Bool.false_eq_true, List.append_nil, List.nil_append, List.cons_append, Option.toList, and_true, true_and, true_or, or_true, reduceCtorEq, List.map_nil, bI_eq0, bI_eq1, bool_ft, pk_us, vnar0, vnar1, Bool.or_false, Bool.or_true, Bool.false_or, Bool.true_or, mj_kne, eq_self, Int32.reduceLT, Int32.reduceLE, Int32.reduceAdd, Int32.reduceSub, Int32.reduceMul, not_true_eq_false, not_false_eq_true, false_implies, true_implies, D_X11_isKind, mj_F_iconst_n, mj_F_iload_n_k, mj_F_invokestatic_i, mj_F_ireturn, mj_kc, L_X11_isKind, List.take_succ_cons, List.take_zero, List.drop_succ_cons, List.drop_zero, List.reverse_cons, List.reverse_nil, List.length_cons, List.length_nil, c_in_eq]
    exact hk
  · exact hk.elim
def c_isDigit : mj_S := fun as h k => match as with
  | [.int a] => k (some (.int (bI (inb a 48 57)))) h
  | _ => False
theorem c_isDigit_eq (a : Int32) (h : mj_H) (k : Option Value → mj_H → Prop) : c_isDigit [.int a] h k = k (some (.int (bI (inb a 48 57)))) h := rfl
theorem J_X12_isDigit : mj_t 3 13 = 16 ∧ mj_t 9 7 = 16 ∧ mj_t 13 4 = 17 ∧ (0 ≤ ((3 : Nat) : Int) + 13) = True ∧ (0 ≤ ((9 : Nat) : Int) + 7) = True ∧ (0 ≤ ((13 : Nat) : Int) + 4) = True := by and_intros <;> first | rfl | exact eq_true (by decide)
set_option maxHeartbeats 4000000 in
set_option maxRecDepth 20000 in
theorem m_X12_isDigit (l : Launch) : mj_Met l yX12_isDigit cX12_isDigit 1 ((some FieldType.boolean)) 0 0 0 c_isDigit := by
  refine mj_body2 false (TbX12 1 ((some FieldType.boolean)) []) (by decide) rfl rfl (fun h => nomatch h) (tfX12 _ (fun _ h => nomatch h)) ?_
  intro as h k hk
  unfold c_isDigit at hk
  split at hk
  · next a =>
    refine ⟨rfl, fun G hG => ?_⟩
    show G 0 [.int a] [] h 0 0
    refine mj_run hG.1 (fun _ => false) 4000 ?_
    simp only [mj_step, mj_W_s, mj_fin, List.getElem?_cons_zero, List.getElem?_cons_succ, mj_go, Nat.reduceAdd, Nat.reduceSub, Nat.reduceLT, Nat.reduceLeDiff, Nat.zero_add, Nat.reduceEqDiff, Nat.reduceBEq, ↓reduceIte, Bool.false_eq_true, List.append_nil, List.nil_append, List.cons_append, Option.toList, and_true, true_and, true_or, or_true, reduceCtorEq, List.map_nil, bI_eq0, bI_eq1, bool_ft, pk_us, vnar0, vnar1, Bool.or_false, Bool.or_true, Bool.false_or, Bool.true_or, mj_kne, eq_self, Int32.reduceLT, Int32.reduceLE, Int32.reduceAdd, Int32.reduceSub, Int32.reduceMul, not_true_eq_false, not_false_eq_true, false_implies, true_implies, D_X12_isDigit, mj_F_bipush_n, mj_F_goto_off, mj_F_iconst_n, mj_F_if_icmp_gt_off, mj_F_if_icmp_lt_off, mj_F_iload_n_k, mj_F_ireturn, mj_kc, J_X12_isDigit]
    refine ⟨fun h1 => ?_, fun h1 => ⟨fun h2 => ?_, fun h2 => ?_⟩⟩
    · rw [inb_f1 h1] at hk; exact hk
    · rw [inb_f2 h2] at hk; exact hk
    · rw [inb_t h1 h2] at hk; exact hk
  · exact hk.elim
theorem J_X9_isDigit : mj_t 3 13 = 16 ∧ mj_t 9 7 = 16 ∧ mj_t 13 4 = 17 ∧ (0 ≤ ((3 : Nat) : Int) + 13) = True ∧ (0 ≤ ((9 : Nat) : Int) + 7) = True ∧ (0 ≤ ((13 : Nat) : Int) + 4) = True := by and_intros <;> first | rfl | exact eq_true (by decide)
set_option maxHeartbeats 4000000 in
set_option maxRecDepth 20000 in
theorem m_X9_isDigit (l : Launch) : mj_Met l yX9_isDigit cX9_isDigit 1 ((some FieldType.boolean)) 0 0 0 c_isDigit := by
  refine mj_body2 false (TbX9 1 ((some FieldType.boolean)) []) (by decide) rfl rfl (fun h => nomatch h) (tfX9 _ (fun _ h => nomatch h)) ?_
  intro as h k hk
  unfold c_isDigit at hk
  split at hk
  · next a =>
    refine ⟨rfl, fun G hG => ?_⟩
    show G 0 [.int a] [] h 0 0
    refine mj_run hG.1 (fun _ => false) 4000 ?_
    simp only [mj_step, mj_W_s, mj_fin, List.getElem?_cons_zero, List.getElem?_cons_succ, mj_go, Nat.reduceAdd, Nat.reduceSub, Nat.reduceLT, Nat.reduceLeDiff, Nat.zero_add, Nat.reduceEqDiff, Nat.reduceBEq, ↓reduceIte, Bool.false_eq_true, List.append_nil, List.nil_append, List.cons_append, Option.toList, and_true, true_and, true_or, or_true, reduceCtorEq, List.map_nil, bI_eq0, bI_eq1, bool_ft, pk_us, vnar0, vnar1, Bool.or_false, Bool.or_true, Bool.false_or, Bool.true_or, mj_kne, eq_self, Int32.reduceLT, Int32.reduceLE, Int32.reduceAdd, Int32.reduceSub, Int32.reduceMul, not_true_eq_false, not_false_eq_true, false_implies, true_implies, D_X9_isDigit, mj_F_bipush_n, mj_F_goto_off, mj_F_iconst_n, mj_F_if_icmp_gt_off, mj_F_if_icmp_lt_off, mj_F_iload_n_k, mj_F_ireturn, mj_kc, J_X9_isDigit]
    refine ⟨fun h1 => ?_, fun h1 => ⟨fun h2 => ?_, fun h2 => ?_⟩⟩
    · rw [inb_f1 h1] at hk; exact hk
    · rw [inb_f2 h2] at hk; exact hk
    · rw [inb_t h1 h2] at hk; exact hk
  · exact hk.elim
def isRel (c : Int32) : Bool := decide (c = 61) || decide (c = 60) || decide (c = 62)
def c_isRel : mj_S := fun as h k => match as with
  | [.int a] => k (some (.int (bI (isRel a)))) h
  | _ => False
theorem c_isRel_eq (a : Int32) (h : mj_H) (k : Option Value → mj_H → Prop) : c_isRel [.int a] h k = k (some (.int (bI (isRel a)))) h := rfl
theorem J_X12_isSign : mj_t 3 15 = 18 ∧ mj_t 9 9 = 18 ∧ mj_t 15 7 = 22 ∧ mj_t 19 4 = 23 ∧ (0 ≤ ((3 : Nat) : Int) + 15) = True ∧ (0 ≤ ((9 : Nat) : Int) + 9) = True ∧ (0 ≤ ((15 : Nat) : Int) + 7) = True ∧ (0 ≤ ((19 : Nat) : Int) + 4) = True := by and_intros <;> first | rfl | exact eq_true (by decide)
set_option maxHeartbeats 4000000 in
set_option maxRecDepth 20000 in
theorem m_X12_isSign (l : Launch) : mj_Met l yX12_isSign cX12_isSign 1 ((some FieldType.boolean)) 0 0 0 c_isRel := by
  refine mj_body2 false (TbX12 1 ((some FieldType.boolean)) []) (by decide) rfl rfl (fun h => nomatch h) (tfX12 _ (fun _ h => nomatch h)) ?_
  intro as h k hk
  unfold c_isRel at hk
  split at hk
  · next a =>
    refine ⟨rfl, fun G hG => ?_⟩
    show G 0 [.int a] [] h 0 0
    refine mj_run hG.1 (fun _ => false) 4000 ?_
    simp only [mj_step, mj_W_s, mj_fin, List.getElem?_cons_zero, List.getElem?_cons_succ, mj_go, Nat.reduceAdd, Nat.reduceSub, Nat.reduceLT, Nat.reduceLeDiff, Nat.zero_add, Nat.reduceEqDiff, Nat.reduceBEq, ↓reduceIte, Bool.false_eq_true, List.append_nil, List.nil_append, List.cons_append, Option.toList, and_true, true_and, true_or, or_true, reduceCtorEq, List.map_nil, bI_eq0, bI_eq1, bool_ft, pk_us, vnar0, vnar1, Bool.or_false, Bool.or_true, Bool.false_or, Bool.true_or, mj_kne, eq_self, Int32.reduceLT, Int32.reduceLE, Int32.reduceAdd, Int32.reduceSub, Int32.reduceMul, not_true_eq_false, not_false_eq_true, false_implies, true_implies, D_X12_isSign, mj_F_bipush_n, mj_F_goto_off, mj_F_iconst_n, mj_F_if_icmp_eq_off, mj_F_if_icmp_ne_off, mj_F_iload_n_k, mj_F_ireturn, mj_kc, J_X12_isSign]
    simp only [isRel] at hk
    by_cases h1 : a = 61
    · subst h1; simpa [bI] using hk
    · by_cases h2 : a = 60
      · subst h2; simpa [bI] using hk
      · by_cases h3 : a = 62
        · subst h3; simpa [bI] using hk
        · simpa [bI, h1, h2, h3] using hk
  · exact hk.elim
theorem J_X9_isRelation : mj_t 3 15 = 18 ∧ mj_t 9 9 = 18 ∧ mj_t 15 7 = 22 ∧ mj_t 19 4 = 23 ∧ (0 ≤ ((3 : Nat) : Int) + 15) = True ∧ (0 ≤ ((9 : Nat) : Int) + 9) = True ∧ (0 ≤ ((15 : Nat) : Int) + 7) = True ∧ (0 ≤ ((19 : Nat) : Int) + 4) = True := by and_intros <;> first | rfl | exact eq_true (by decide)
set_option maxHeartbeats 4000000 in
set_option maxRecDepth 20000 in
theorem m_X9_isRelation (l : Launch) : mj_Met l yX9_isRelation cX9_isRelation 1 ((some FieldType.boolean)) 0 0 0 c_isRel := by
  refine mj_body2 false (TbX9 1 ((some FieldType.boolean)) []) (by decide) rfl rfl (fun h => nomatch h) (tfX9 _ (fun _ h => nomatch h)) ?_
  intro as h k hk
  unfold c_isRel at hk
  split at hk
  · next a =>
    refine ⟨rfl, fun G hG => ?_⟩
    show G 0 [.int a] [] h 0 0
    refine mj_run hG.1 (fun _ => false) 4000 ?_
    simp only [mj_step, mj_W_s, mj_fin, List.getElem?_cons_zero, List.getElem?_cons_succ, mj_go, Nat.reduceAdd, Nat.reduceSub, Nat.reduceLT, Nat.reduceLeDiff, Nat.zero_add, Nat.reduceEqDiff, Nat.reduceBEq, ↓reduceIte, Bool.false_eq_true, List.append_nil, List.nil_append, List.cons_append, Option.toList, and_true, true_and, true_or, or_true, reduceCtorEq, List.map_nil, bI_eq0, bI_eq1, bool_ft, pk_us, vnar0, vnar1, Bool.or_false, Bool.or_true, Bool.false_or, Bool.true_or, mj_kne, eq_self, Int32.reduceLT, Int32.reduceLE, Int32.reduceAdd, Int32.reduceSub, Int32.reduceMul, not_true_eq_false, not_false_eq_true, false_implies, true_implies, D_X9_isRelation, mj_F_bipush_n, mj_F_goto_off, mj_F_iconst_n, mj_F_if_icmp_eq_off, mj_F_if_icmp_ne_off, mj_F_iload_n_k, mj_F_ireturn, mj_kc, J_X9_isRelation]
    simp only [isRel] at hk
    by_cases h1 : a = 61
    · subst h1; simpa [bI] using hk
    · by_cases h2 : a = 60
      · subst h2; simpa [bI] using hk
      · by_cases h3 : a = 62
        · subst h3; simpa [bI] using hk
        · simpa [bI, h1, h2, h3] using hk
  · exact hk.elim
def c_yearOf : mj_S := fun as h k => match as with
  | [.int a] => k (some (.int (a / 52))) h
  | _ => False
theorem c_yearOf_eq (a : Int32) (h : mj_H) (k : Option Value → mj_H → Prop) : c_yearOf [.int a] h k = k (some (.int (a / 52))) h := rfl
set_option maxHeartbeats 4000000 in
set_option maxRecDepth 20000 in
theorem m_X12_yearOf (l : Launch) : mj_Met l yX12_yearOf cX12_yearOf 1 ((some FieldType.int)) 0 0 0 c_yearOf := by
  refine mj_body2 false (TbX12 1 ((some FieldType.int)) []) (by decide) rfl rfl (fun h => nomatch h) (tfX12 _ (fun _ h => nomatch h)) ?_
  intro as h k hk
  unfold c_yearOf at hk
  split at hk
  · next a =>
    refine ⟨rfl, fun G hG => ?_⟩
    show G 0 [.int a] [] h 0 0
    refine mj_run hG.1 (fun _ => false) 4000 ?_
    simp only [mj_step, mj_W_s, mj_fin, List.getElem?_cons_zero, List.getElem?_cons_succ, mj_go, Nat.reduceAdd, Nat.reduceSub, Nat.reduceLT, Nat.reduceLeDiff, Nat.zero_add, Nat.reduceEqDiff, Nat.reduceBEq, ↓reduceIte, Bool.false_eq_true, List.append_nil, List.nil_append, List.cons_append, Option.toList, and_true, true_and, true_or, or_true, reduceCtorEq, List.map_nil, bI_eq0, bI_eq1, bool_ft, pk_us, vnar0, vnar1, Bool.or_false, Bool.or_true, Bool.false_or, Bool.true_or, mj_kne, eq_self, Int32.reduceLT, Int32.reduceLE, Int32.reduceAdd, Int32.reduceSub, Int32.reduceMul, not_true_eq_false, not_false_eq_true, false_implies, true_implies, D_X12_yearOf, mj_F_bipush_n, mj_F_idiv, mj_F_iload_n_k, mj_F_ireturn, mj_kc]
    exact hk
  · exact hk.elim
section ML
variable {p : Program} {l : Launch} {e : Env} {R : Room} {s : State} {m : MethodId} {args : Array Value} {below : List Frame} {meth : Method} {c : Code} {Q : State → Prop} {cc : ByteArray} {own : String} {ini : Bool} {lev : Nat} {D : va_G} {cA : FieldType → ClassId} {sd adK adV : Nat → Nat} {A : Nat → Prop} {n0 : Nat} {ad0 : Nat → Nat} {mc ms : Nat} {T : mj_T} {ret : Option Value → mj_H → Prop} {pc : Nat} {L st : List Value} {h : mj_H} {bc bs : Nat}
theorem mj_Go_ml {Q2 : State → Prop} {nL : Nat} (hnL : T.1 = nL) (hlev : 1 ≤ lev) (X : mj_Cx p l R s m args meth c cc own ini lev D cA sd adK adV A mc ms T) : mj_ml cc own (mj_Go p l e R s m args below meth c Q2 D cA sd A n0 ad0 mc ms nL) := by
  subst hnL
  obtain ⟨hx, hb, hml, hown, hts, hK, hA, hX, hR, hin, hTF⟩ := X
  intro pc i b L r x y z h bc bs hdg hlk hres h4 hg
  intro ad H locs cells slots ls e1 e2 e3 e4 e5 hP hD hS hl b1 b2
  have hr : ∀ v ∈ r, mj_sv h.length v := mj_tl (mj_tl e3)
  have hm := mj_len4 (m := m) (pc := pc) (ad := ad) (sd := sd) (ls := ls) (g := []) h4
  have hm2 : ((r.map (mj_tv ad sd)).map fun v => v.category).sum ≤ 8 := by omega
  have f1 : 1 ≤ R.frames := by rw [hR]; exact hlev
  have f2 : 40 ≤ R.locals := by rw [hR]; show 40 ≤ 40 * lev; omega
  have f3 : cells ≤ R.cells := by rw [hR]; show cells ≤ mc; omega
  have f4 : slots ≤ R.slots := by rw [hR]; show slots ≤ ms; omega
  have f5 : c.maxLocals = ls.size := by rw [hml]; first | exact hl.1 | exact hl.1.symm
  match b, x, y, hlk, hres with
  | 0, .int x, .int y, hlk, hres =>
    cases hres
    exact va_mmin hx hb f5 hown (hts _ hlk) (hts _ s_J9_min_7cf53) (hts _ ii_RJ9) (hts _ (mj_tw_in k_J9_min_7cf53 rfl)) f1 (by omega) f3 f4 hdg (hg ad H locs cells slots ls e1 e2 (mj_cn trivial hr) e4 e5 hP hD hS hl b1 b2)
  | 1, .int x, .int y, hlk, hres =>
    cases hres
    exact va_mmax hx hb f5 hown (hts _ hlk) (hts _ s_J9_max_7cf53) (hts _ ii_RJ9) (hts _ (mj_tw_in k_J9_max_7cf53 rfl)) f1 (by omega) f3 f4 hdg (hg ad H locs cells slots ls e1 e2 (mj_cn trivial hr) e4 e5 hP hD hS hl b1 b2)
  | 2, .long x, .long y, hlk, hres =>
    cases hres
    exact va_mmin_long hx hb f5 hown (hts _ hlk) (hts _ s_J9_min_f86c9) (hts _ ii_RJ9) (hts _ (mj_tw_in k_J9_min_f86c9 rfl)) f1 (by omega) f3 f4 hdg (hg ad H locs cells slots ls e1 e2 (mj_cn trivial hr) e4 e5 hP hD hS hl b1 b2)
  | 3, .long x, .long y, hlk, hres =>
    cases hres
    exact va_mmax_long hx hb f5 hown (hts _ hlk) (hts _ s_J9_max_f86c9) (hts _ ii_RJ9) (hts _ (mj_tw_in k_J9_max_f86c9 rfl)) f1 (by omega) f3 f4 hdg (hg ad H locs cells slots ls e1 e2 (mj_cn trivial hr) e4 e5 hP hD hS hl b1 b2)
theorem mj_body3 {y : MethodName} {cc : ByteArray} {maxL : Nat} {rt : Option FieldType} {cs : mj_S} (ini : Bool) (T : mj_T) (hlev : 1 ≤ lev) (hy : plainName y.cls = true) (hT : T.1 = maxL) (hr : T.2.1 = rt) (hini : ini = true → y.name = "<init>") (hTF : mj_TF l y.cls ini lev T)
    (hmain : ∀ (as : List Value) (h : mj_H) (k : Option Value → mj_H → Prop), cs as h k → mj_aok maxL as = true ∧ ∀ G : mj_K, mj_cl2 cc T k G → mj_ml cc y.cls G → G 0 (mj_al as) [] h mc ms) : mj_Met l y cc maxL rt lev mc ms cs := by
  intro D cA sd adK adV ad as h k sz hc
  subst hT; subst hr
  refine Met.ofW (cc := cc) (maxL := T.1) (ret := T.2.1) hy rfl ?_
  intro p e s m args below meth c s₁ B hml hv
  obtain ⟨rfl, hsz, ⟨hP, hK, hD0, h5⟩, hX, hsv⟩ := hv
  have hts : ∀ w ∈ mj_tw, w.before (as.map (mj_tv ad sd)).toArray s = true := fun w hw => atoms_spec (ws := Cond.code y cc T.1 T.2.1 :: mj_tw) B.pre w (List.mem_cons_of_mem _ hw)
  have hown : s.vm.findClass y.cls = some m.cls := findClass_of_methodNamed B.named
  subst hsz
  obtain ⟨hok, hG⟩ := hmain as h k hc
  unfold mj_aok at hok
  rw [Bool.and_eq_true, decide_eq_true_eq] at hok
  have hkn : ∀ v ∈ as, mj_kn v = true ∧ ∀ x, v ≠ .double x := by
    intro v hv
    have := List.all_eq_true.mp hok.2 v hv
    rw [Bool.and_eq_true] at this
    refine ⟨this.1, fun x hx => ?_⟩
    rw [hx] at this
    exact Bool.false_ne_true this.2
  have hlen := mj_al_len ad sd as hkn
  have hl := lv_entry (as.map (mj_tv ad sd)) (n := T.1) (by rw [hlen]; exact hok.1)
  have X : mj_Cx p l (headSpec (Cond.code y cc T.1 T.2.1 :: mj_tw) (mj_rm lev mc ms)).room s m (as.map (mj_tv ad sd)).toArray meth c cc y.cls ini lev D cA sd adK adV (va_A (mj_ws cA ad sd h) s.heap.size) mc ms T :=
    ⟨B.exec, B.bytes, hml, hown, hts, hK, fun q hq => Or.inr hq, hX, rfl, fun hi => (name_of_methodNamed B.named B.method).1.trans (hini hi), hTF⟩
  have h9 := hG (mj_Go p l e (headSpec (Cond.code y cc T.1 T.2.1 :: mj_tw) (mj_rm lev mc ms)).room s m (as.map (mj_tv ad sd)).toArray below meth c (MQ below (mj_Q D cA sd ad h k (va_A (mj_ws cA ad sd h) s.heap.size)) (as.map (mj_tv ad sd)).toArray s mc ms (va_A (mj_ws cA ad sd h) s.heap.size)) D cA sd (va_A (mj_ws cA ad sd h) s.heap.size) h.length ad mc ms T.1)
    ⟨fun K hKG pc L st h' bc bs hI => mj_true hKG B.returns B.notSynchronized X hI, fun _ _ _ _ _ _ _ _ _ hw h1 h2 hg => mj_Go_wk hw h1 h2 hg⟩ (mj_Go_ml rfl hlev X)
  rw [lg_entry_eq]
  refine h9 ad s.heap [] 0 0 _ (fun _ _ => rfl) (Nat.le_refl _) (fun v hv => by cases hv) (fun v hv => ?_) h5 hP hD0.self va_S.rf (mj_lv_mono hl (mj_al_lm ad sd as 0 hkn)) (by omega) (by omega)
  have hgo : ∀ x : List Value, (∀ v ∈ x, mj_sv h.length v) → ∀ v ∈ mj_al x, mj_sv h.length v := by
    intro x
    induction x with
    | nil => intro _ v hv; cases hv
    | cons w x ih =>
      intro hx v hv
      have ih := ih (fun v hv => hx v (List.mem_cons_of_mem _ hv))
      have hw := hx w List.mem_cons_self
      cases w <;> simp only [mj_al, List.mem_cons] at hv <;> first
        | (rcases hv with rfl | rfl | hv
           · exact trivial
           · exact trivial
           · exact ih v hv)
        | (rcases hv with rfl | hv
           · exact hw
           · exact ih v hv)
  exact hgo as hsv v hv

end ML
theorem J_J7_fill_53178 : mj_t 7 13 = 20 ∧ mj_t 17 (-12) = 5 ∧ (0 ≤ ((7 : Nat) : Int) + 13) = True ∧ (0 ≤ ((17 : Nat) : Int) + (-12)) = True := by and_intros <;> first | rfl | exact eq_true (by decide)
theorem flf_0 (f : Nat → Int32) (v : Int32) : flf f 0 v = f := by funext j; simp [flf]
theorem flf_s (f : Nat → Int32) (j : Nat) (v : Int32) : upd (flf f j v) j v = flf f (j + 1) v := by
  funext t
  unfold upd flf
  by_cases h1 : t = j
  · subst h1; simp
  · by_cases h2 : t < j
    · have : t < j + 1 := by omega
      simp [h1, h2, this]
    · have : ¬ t < j + 1 := by omega
      simp [h1, h2, this]
theorem set_same {α : Type} {h : List α} {a : Nat} {c : α} (ha : h[a]? = some c) : h.set a c = h := by
  apply List.ext_getElem?
  intro j
  rw [List.getElem?_set]
  split
  · next e => subst e; rw [if_pos (List.getElem?_eq_some_iff.mp ha).1, ha]
  · rfl
def c_fill : mj_S := fun as h k => ∃ (a n : Nat) (f : Nat → Int32) (v : Int32), as = [.ref a, .int v] ∧ h[a]? = some (.inl (.int, n, .inl f)) ∧ n ≤ 100000 ∧ k none (h.set a (.inl (.int, n, .inl (flf f n v))))
theorem c_fill_in {a n : Nat} {f : Nat → Int32} {v : Int32} {h : mj_H} {k : Option Value → mj_H → Prop} (ha : h[a]? = some (.inl (.int, n, .inl f))) (hn : n ≤ 100000) (hk : k none (h.set a (.inl (.int, n, .inl (flf f n v))))) : c_fill [.ref a, .int v] h k := ⟨a, n, f, v, rfl, ha, hn, hk⟩
set_option maxHeartbeats 4000000 in
theorem m_J7_fill_53178 (l : Launch) : mj_Met l yJ7_fill_53178 cJ7_fill_53178 4 (none) 0 0 0 c_fill := by
  refine mj_body2 false (mj_T0 4 none) (by decide) rfl rfl (fun h => nomatch h) mj_tf0 ?_
  rintro as h k ⟨a, n, f, v, rfl, ha, hn, hk⟩
  refine ⟨rfl, fun G hG => ?_⟩
  have hl : ∀ m j, j + m = n → G 5 [.ref a, .int v, .int (nI j), .int (nI n)] [] (h.set a (.inl (.int, n, .inl (flf f j v)))) 0 0 := by
    intro m
    induction m with
    | zero =>
      intro j hj
      refine mj_run hG.1 (fun pc => pc == 5) 4000 ?_
      simp only [mj_step, mj_W_s, mj_fin, List.getElem?_cons_zero, List.getElem?_cons_succ, mj_go, Nat.reduceAdd, Nat.reduceSub, Nat.reduceLT, Nat.reduceLeDiff, Nat.zero_add, Nat.reduceEqDiff, Nat.reduceBEq, ↓reduceIte, Bool.false_eq_true, List.append_nil, List.nil_append, List.cons_append, Option.toList, and_true, true_and, true_or, or_true, reduceCtorEq, List.map_nil, bI_eq0, bI_eq1, bool_ft, pk_us, vnar0, vnar1, Bool.or_false, Bool.or_true, Bool.false_or, Bool.true_or, mj_kne, eq_self, Int32.reduceLT, Int32.reduceLE, Int32.reduceAdd, Int32.reduceSub, Int32.reduceMul, not_true_eq_false, not_false_eq_true, false_implies, true_implies, D_J7_fill_53178, mj_F_aload_n_k, mj_F_arraylength, mj_F_goto_off, mj_F_iastore, mj_F_iconst_n, mj_F_if_icmp_ge_off, mj_F_iinc_k_n, mj_F_iload_n_k, mj_F_istore_n_k, mj_F_return_, mj_set, mj_set0, mj_unk, mj_c2, mj_kc, mj_nk, mj_isA, J_J7_fill_53178]
      refine ⟨fun c => ?_, fun c => absurd (nI_le (by omega) (by omega)) c⟩
      have e : j = n := by omega
      subst e
      exact hk
    | succ m ih =>
      intro j hj
      refine mj_run hG.1 (fun pc => pc == 5) 4000 ?_
      have hget : (h.set a (.inl (.int, n, .inl (flf f j v))))[a]? = some (.inl (.int, n, .inl (flf f j v))) := by
        rw [List.getElem?_set, if_pos rfl, if_pos (List.getElem?_eq_some_iff.mp ha).1]
      simp only [hget, mj_step, mj_W_s, mj_fin, List.getElem?_cons_zero, List.getElem?_cons_succ, mj_go, Nat.reduceAdd, Nat.reduceSub, Nat.reduceLT, Nat.reduceLeDiff, Nat.zero_add, Nat.reduceEqDiff, Nat.reduceBEq, ↓reduceIte, Bool.false_eq_true, List.append_nil, List.nil_append, List.cons_append, Option.toList, and_true, true_and, true_or, or_true, reduceCtorEq, List.map_nil, bI_eq0, bI_eq1, bool_ft, pk_us, vnar0, vnar1, Bool.or_false, Bool.or_true, Bool.false_or, Bool.true_or, mj_kne, eq_self, Int32.reduceLT, Int32.reduceLE, Int32.reduceAdd, Int32.reduceSub, Int32.reduceMul, not_true_eq_false, not_false_eq_true, false_implies, true_implies, D_J7_fill_53178, mj_F_aload_n_k, mj_F_arraylength, mj_F_goto_off, mj_F_iastore, mj_F_iconst_n, mj_F_if_icmp_ge_off, mj_F_iinc_k_n, mj_F_iload_n_k, mj_F_istore_n_k, mj_F_return_, mj_set, mj_set0, mj_unk, mj_c2, mj_kc, mj_nk, mj_isA, J_J7_fill_53178]
      refine ⟨fun c => absurd c (nI_ge (by omega) (by omega)), fun c => ⟨vp_in_nI (by omega) (by omega), ?_⟩⟩
      rw [List.set_set, nI_clamp (by omega), flf_s, nI_1]
      exact ih (j + 1) (by omega)
  show G 0 [.ref a, .int v] [] h 0 0
  refine mj_run hG.1 (fun pc => pc == 5) 4000 ?_
  simp only [ha, mj_isA, mj_step, mj_W_s, mj_fin, List.getElem?_cons_zero, List.getElem?_cons_succ, mj_go, Nat.reduceAdd, Nat.reduceSub, Nat.reduceLT, Nat.reduceLeDiff, Nat.zero_add, Nat.reduceEqDiff, Nat.reduceBEq, ↓reduceIte, Bool.false_eq_true, List.append_nil, List.nil_append, List.cons_append, Option.toList, and_true, true_and, true_or, or_true, reduceCtorEq, List.map_nil, bI_eq0, bI_eq1, bool_ft, pk_us, vnar0, vnar1, Bool.or_false, Bool.or_true, Bool.false_or, Bool.true_or, mj_kne, eq_self, Int32.reduceLT, Int32.reduceLE, Int32.reduceAdd, Int32.reduceSub, Int32.reduceMul, not_true_eq_false, not_false_eq_true, false_implies, true_implies, D_J7_fill_53178, mj_F_aload_n_k, mj_F_arraylength, mj_F_goto_off, mj_F_iastore, mj_F_iconst_n, mj_F_if_icmp_ge_off, mj_F_iinc_k_n, mj_F_iload_n_k, mj_F_istore_n_k, mj_F_return_, mj_set, mj_set0, mj_unk, mj_c2, mj_kc, mj_nk, mj_isA, J_J7_fill_53178]
  have h0 := hl n 0 (by omega)
  rw [flf_0, set_same ha] at h0
  exact h0
def klJ6 : List (Nat × Value × Nat) := [(265, .int 1431655765, 1157), (266, .int 858993459, 1158), (267, .int 252645135, 1159)]
theorem klJ6_ok : klJ6.all (mj_kfb RJ6) = true := by decide +kernel
theorem KT_J6 : mj_kt klJ6 265 = some (.int 1431655765) ∧ mj_kt klJ6 266 = some (.int 858993459) ∧ mj_kt klJ6 267 = some (.int 252645135) := by and_intros <;> rfl
abbrev mj_TJ6 (nL : Nat) (rt : Option FieldType) : mj_T := (nL, rt, fun _ => none, fun _ => none, mj_kt klJ6, fun _ => none, fun _ => none, fun _ => none)
theorem tfJ6 {l : Launch} {ini : Bool} {lev nL : Nat} {rt : Option FieldType} : mj_TF l RJ6 ini lev (mj_TJ6 nL rt) := ⟨fun _ _ _ h => (nomatch h), fun _ _ _ _ h => (nomatch h), fun _ _ h => mj_kt_ok klJ6_ok h, fun _ _ h => (nomatch h), fun _ _ h => (nomatch h), fun _ _ h => (nomatch h)⟩
