/-! the first clause of a label that holds, on both sides -/
def ev (L : Nat → Int32) (l : List Int32) : Int32 := (evS L l (fun _ => 0) 0).1 0
theorem ev_eq {L L2 : Nat → Int32} (hL : ∀ i, i < 6 → L i = L2 i) {l : List Int32} (ht : tkH l 0 = some 1) (f : Nat → Int32) : (evS L l f 0).1 0 = ev L2 l :=
  (evS_agree hL ht (f := f) (g := fun _ => 0) (fun i hi => absurd hi (by omega))).2.2 0 (by omega)
/-- the first clause of a label that holds: its place -/
def fcl (L : Nat → Int32) (k : Nat) : List Cla → Nat → Option Nat
  | [], _ => none
  | c :: cl, i => if c.1 = k ∧ (c.2.1 = [] ∨ ¬ ev L c.2.1 = 0) then some i else fcl L k cl (i + 1)
theorem fcl_ge {L : Nat → Int32} {k : Nat} : ∀ {cl : List Cla} {i j : Nat}, fcl L k cl i = some j → ∃ c, cl[j - i]? = some c ∧ i ≤ j ∧ c.1 = k
  | [], i, j, h => by cases h
  | c :: cl, i, j, h => by
    unfold fcl at h
    split at h
    · next hc =>
      cases h
      exact ⟨c, by rw [Nat.sub_self]; rfl, Nat.le_refl _, hc.1⟩
    · obtain ⟨c', h1, h2, h3⟩ := fcl_ge h
      refine ⟨c', ?_, by omega, h3⟩
      obtain ⟨d, hd⟩ : ∃ d, j - i = d + 1 := ⟨j - i - 1, by omega⟩
      rw [hd, List.getElem?_cons_succ, ← h1]
      congr 1
      omega
theorem seg_ne {P : Nat → Int32} {x y : Nat} (h : x < y) : ¬ seg P x y = [] := by
  rw [seg_cons h]
  intro z
  cases z
theorem setA_set (s : St) (k : Nat) (f g : Nat → Int32) : setA (setA s k f) k g = setA s k g := by
  unfold setA
  simp only [va_upup]
theorem rr_ok {β : Type} {s : St} {k n j a : Nat} {A : Option β} {B : Nat → Option β} (hj : j < n) (hn : n ≤ 1000) (h : s.2.2.1 k j = some a) : rr s k n (nI j) A B = B a := by
  have e := nI_toInt (n := j) (by omega)
  unfold rr
  rw [if_pos (vb_iff.mpr ⟨by omega, by omega⟩), nI_clamp (by omega), h]
theorem C_clauseLoop {s : St} {a b m j k : Nat} {P Q : Nat → Int32} {all : List Cla} (hj : j < 20) (ha : 89 ≤ a) (hb : 89 ≤ b) (h5 : s.2.2.1 5 j = some a) (hP : s.2.2.2[a - 89]? = some (m, P)) (hQ : s.2.2.2[b - 89]? = some (4 * all.length, Q)) (hm : m ≤ 160) (hal : all.length ≤ 41) (hk : k < 7) (hc : ∀ (i : Nat) (c : Cla), all[i]? = some c → ∃ x y z : Nat, Q (4 * i) = nI c.1 ∧ Q (4 * i + 1) = nI x ∧ Q (4 * i + 2) = nI y ∧ Q (4 * i + 3) = nI z ∧ x ≤ y ∧ y ≤ z ∧ z ≤ m ∧ c.2.1 = seg P x y ∧ c.2.2 = seg P y z) (hW : clW all) : ∀ (cl : List Cla) (i : Nat) (f : Nat → Int32) (F : Nat), (∀ d, cl[d]? = all[i + d]?) → cl.length + i = all.length → cl.length < F → ∃ f2, lp (B_X0_clauseThatHolds_16 (nI j) (nI k) b) F (nI (4 * i), setA s 8 f) = some (match fcl (s.2.1 7) k cl i with
    | none => .inl (setA s 8 f2)
    | some i2 => .inr (nI (4 * i2), setA s 8 f2)) := by
  intro cl
  induction cl with
  | nil =>
    intro i f F hd hl hF
    obtain ⟨F, rfl⟩ : ∃ F', F = F' + 1 := ⟨F - 1, by simp only [List.length_nil] at hF; omega⟩
    refine ⟨f, lp_r ?_⟩
    have hla : la (setA s 8 f) b = some (nI (4 * all.length)) := la_ok (s := setA s 8 f) hb hQ
    simp only [List.length_nil] at hl
    have e3 : nI (4 * i) + 3 = nI (4 * i + 3) := nI_add (4 * i) 3
    simp (disch := omega) only [B_X0_clauseThatHolds_16, hla, bind_some, e3, nI_leI, fcl]
    rw [if_pos (by omega)]
  | cons c cl ih =>
    intro i f F hd hl hF
    obtain ⟨F, rfl⟩ : ∃ F', F = F' + 1 := ⟨F - 1, by rw [List.length_cons] at hF; omega⟩
    rw [List.length_cons] at hl hF
    have hci : all[i]? = some c := by have := hd 0; simpa using this.symm
    have hcm : c ∈ all := List.mem_of_getElem? hci
    obtain ⟨x, y, z, q0, q1, q2, q3, l1, l2, l3, g1, g2⟩ := hc i c hci
    obtain ⟨w1, w2, w3⟩ := hW c hcm
    have hla : la (setA s 8 f) b = some (nI (4 * all.length)) := la_ok (s := setA s 8 f) hb hQ
    have hr0 : ra (setA s 8 f) b (nI (4 * i)) = some (Q (4 * i)) := ra_ok (s := setA s 8 f) hb hQ (by omega) (by omega)
    have hr1 : ra (setA s 8 f) b (nI (4 * i + 1)) = some (Q (4 * i + 1)) := ra_ok (s := setA s 8 f) hb hQ (by omega) (by omega)
    have hr2 : ra (setA s 8 f) b (nI (4 * i + 2)) = some (Q (4 * i + 2)) := ra_ok (s := setA s 8 f) hb hQ (by omega) (by omega)
    have e1 : nI (4 * i) + 1 = nI (4 * i + 1) := nI_add (4 * i) 1
    have e2 : nI (4 * i) + 2 = nI (4 * i + 2) := nI_add (4 * i) 2
    have e3 : nI (4 * i) + 3 = nI (4 * i + 3) := nI_add (4 * i) 3
    have e4 : nI (4 * i) + 4 = nI (4 * (i + 1)) := nI_add (4 * i) 4
    have c0 : ¬ 4 * all.length ≤ 4 * i + 3 := by omega
    have hxy : nI x = nI y ↔ x = y := nI_eq (by omega) (by omega)
    have hck : nI c.1 = nI k ↔ c.1 = k := nI_eq (by omega) (by omega)
    have hn : ∀ d, cl[d]? = all[i + 1 + d]? := fun d => by
      have := hd (d + 1)
      rw [List.getElem?_cons_succ] at this
      rw [this]
      congr 1
      omega
    have ihn := fun f2 => ih (i + 1) f2 F hn (by omega) (by omega)
    unfold fcl
    by_cases cx : x = y
    · have hnil : c.2.1 = [] := by rw [g1, cx, seg_nil]
      by_cases ck : c.1 = k
      · rw [if_pos ⟨ck, Or.inl hnil⟩]
        refine ⟨f, lp_r ?_⟩
        simp (disch := omega) only [B_X0_clauseThatHolds_16, hla, bind_some, e3, nI_leI, c0, if_false, e1, e2, hr1, hr2, q1, q2, hxy, cx, if_true, hr0, q0, hck, ck]
      · rw [if_neg (fun z => ck z.1)]
        obtain ⟨f2, h2⟩ := ihn f
        refine ⟨f2, ?_⟩
        rw [← h2]
        refine lp_l ?_
        simp (disch := omega) only [B_X0_clauseThatHolds_16, hla, bind_some, e3, nI_leI, c0, if_false, e1, e2, hr1, hr2, q1, q2, hxy, cx, if_true, hr0, q0, hck, ck, e4]
    · have hne : ¬ c.2.1 = [] := by rw [g1]; exact seg_ne (by omega)
      have htk : tkH (seg P x y) 0 = some 1 := by rw [← g1]; exact w2.resolve_left hne
      have hrr : ∀ {β : Type} (A : Option β) (B : Nat → Option β), rr (setA s 8 f) 5 20 (nI j) A B = B a := fun A B => rr_ok (s := setA s 8 f) hj (by omega) h5
      have hrun := C_run (s := setA s 8 f) ha hP (by omega) l1 (by omega) htk
      have hv : (evS ((setA s 8 f).2.1 7) (seg P x y) ((setA s 8 f).2.1 8) 0).1 0 = ev (s.2.1 7) c.2.1 := by
        rw [g1]
        exact ev_eq (fun i _ => rfl) htk _
      rw [hv, setA_set] at hrun
      by_cases ck : c.1 = k
      · by_cases cv : ev (s.2.1 7) c.2.1 = 0
        · rw [if_neg (fun z => z.2.elim hne (fun z2 => z2 cv))]
          obtain ⟨f2, h2⟩ := ihn (evS ((setA s 8 f).2.1 7) (seg P x y) ((setA s 8 f).2.1 8) 0).1
          refine ⟨f2, ?_⟩
          rw [← h2]
          refine lp_l ?_
          simp (disch := omega) only [B_X0_clauseThatHolds_16, hla, bind_some, e3, nI_leI, c0, if_false, e1, e2, hr1, hr2, q1, q2, hxy, cx, hr0, q0, hck, ck, if_true, hrr, hrun, cv, e4]
        · rw [if_pos ⟨ck, Or.inr cv⟩]
          refine ⟨(evS ((setA s 8 f).2.1 7) (seg P x y) ((setA s 8 f).2.1 8) 0).1, lp_r ?_⟩
          simp (disch := omega) only [B_X0_clauseThatHolds_16, hla, bind_some, e3, nI_leI, c0, if_false, e1, e2, hr1, hr2, q1, q2, hxy, cx, hr0, q0, hck, ck, if_true, hrr, hrun, cv]
      · rw [if_neg (fun z => ck z.1)]
        obtain ⟨f2, h2⟩ := ihn f
        refine ⟨f2, ?_⟩
        rw [← h2]
        refine lp_l ?_
        simp (disch := omega) only [B_X0_clauseThatHolds_16, hla, bind_some, e3, nI_leI, c0, if_false, e1, e2, hr1, hr2, q1, q2, hxy, cx, hr0, q0, hck, ck, e4]
/-- the class finds it -/
theorem C_clause {s : St} {j k : Nat} {cl : List Cla} (hR : RRef s s) (hj : j < 20) (hk : k < 7) (hc : clC s j cl) (hW : clW cl) : ∃ f2, F_X0_clauseThatHolds (nI j) (nI k) s = some (oI ((fcl (s.2.1 7) k cl 0).map (fun i => 4 * i)), setA s 8 f2) := by
  obtain ⟨a, b, m, P, Q, h5, hP, h6, hQ, hm, hal, hcc⟩ := hc
  have ha := (hR.2 5 j a (Or.inr ⟨Or.inl rfl, hj⟩) h5).1
  have hb := (hR.2 6 j b (Or.inr ⟨Or.inr rfl, hj⟩) h6).1
  unfold F_X0_clauseThatHolds
  rw [rr_ok hj (by omega) h6]
  obtain ⟨f2, h2⟩ := C_clauseLoop (s := s) hj ha hb h5 hP hQ hm hal hk hcc hW cl 0 (s.2.1 8) FU (fun d => by rw [Nat.zero_add]) (by omega) (FU_lt (by omega))
  refine ⟨f2, ?_⟩
  unfold F_X0_clauseThatHolds_16
  rw [setA_self] at h2
  have e0 : (0 : Int32) = nI (4 * 0) := rfl
  rw [e0, h2]
  cases fcl (s.2.1 7) k cl 0 with
  | none => rfl
  | some i => rfl
