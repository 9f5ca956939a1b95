/-! what a law is worth: one number for both sides -/
theorem clC_uniq {s : St} {j : Nat} {c1 c2 : List Cla} (h1 : clC s j c1) (h2 : clC s j c2) (w1 : clW c1) (w2 : clW c2) : c1 = c2 := by
  obtain ⟨a, b, m, P, Q, p1, p2, p3, p4, p5, p6, p7⟩ := h1
  obtain ⟨a', b', m', P', Q', q1, q2, q3, q4, q5, q6, q7⟩ := h2
  have ea : a = a' := by rw [p1] at q1; exact Option.some.inj q1
  have eb : b = b' := by rw [p3] at q3; exact Option.some.inj q3
  subst ea eb
  have eP : (m, P) = (m', P') := by rw [p2] at q2; exact Option.some.inj q2
  have eQ : (4 * c1.length, Q) = (4 * c2.length, Q') := by rw [p4] at q4; exact Option.some.inj q4
  cases eP
  have eQ1 : Q = Q' := congrArg Prod.snd eQ
  have eQ2 : 4 * c1.length = 4 * c2.length := congrArg Prod.fst eQ
  subst eQ1
  apply List.ext_getElem?
  intro i
  by_cases hi : i < c1.length
  · have hi2 : i < c2.length := by omega
    obtain ⟨x, y, z, f0, f1, f2, f3, f4, f5, f6, f7, f8⟩ := p7 i c1[i] (List.getElem?_eq_getElem hi)
    obtain ⟨x', y', z', g0, g1, g2, g3, g4, g5, g6, g7, g8⟩ := q7 i c2[i] (List.getElem?_eq_getElem hi2)
    have v1 := (w1 c1[i] (List.getElem_mem hi)).1
    have v2 := (w2 c2[i] (List.getElem_mem hi2)).1
    have e0 : c1[i].1 = c2[i].1 := (nI_eq (by omega) (by omega)).mp (f0.symm.trans g0)
    have ex : x = x' := (nI_eq (by omega) (by omega)).mp (f1.symm.trans g1)
    have ey : y = y' := (nI_eq (by omega) (by omega)).mp (f2.symm.trans g2)
    have ez : z = z' := (nI_eq (by omega) (by omega)).mp (f3.symm.trans g3)
    subst ex ey ez
    rw [List.getElem?_eq_getElem hi, List.getElem?_eq_getElem hi2]
    refine congrArg some (Prod.ext e0 (Prod.ext ?_ ?_))
    · rw [f7, g7]
    · rw [f8, g8]
  · rw [List.getElem?_eq_none (by omega), List.getElem?_eq_none (by omega)]
/-- the clauses of a law -/
noncomputable def lcl (s : St) (j : Nat) : List Cla := Classical.epsilon (fun cl => clC s j cl ∧ clW cl)
theorem lcl_eq {s : St} {j : Nat} {cl : List Cla} (h1 : clC s j cl) (w1 : clW cl) : lcl s j = cl := by
  have h := Classical.epsilon_spec (p := fun cl => clC s j cl ∧ clW cl) ⟨cl, h1, w1⟩
  exact clC_uniq h.1 h1 h.2 w1
theorem lcl_of {s t : St} (h : RLaw s t) : ∀ j : Nat, (j : Int) < (t.1 1240).toInt → clC s j (lcl s j) ∧ clM t j (lcl s j) ∧ clW (lcl s j) ∧ ∀ k : Nat, k < 7 → (bt (s.2.1 4 j) k = true ↔ ∃ c ∈ lcl s j, c.1 = k) := by
  intro j hj
  obtain ⟨cl, h1, h2, h3, h4⟩ := h.2.2.2.2.2.2.2 j hj
  rw [lcl_eq h1 h3]
  exact ⟨h1, h2, h3, h4⟩
def wv (k : Nat) (B : Option (Nat × Int32)) : Int32 := match B with
  | some (_, v) => v
  | none => stA 1 k
theorem worth_two {s t : St} (h : RLaw s t) (hR : RRef s s) {k : Nat} (hk : k < 7) {shire year q whose : Int32} (hsh : 0 ≤ shire.toInt) {l : Nat → Int32} (hl : l = upd (upd (s.2.1 7) 0 year) 1 shire) (hL : ∀ i, i < 6 → l i = t.2.1 1241 (lch i)) : ∃ f g p v, F_X0_worthOf (nI k) shire year q whose s = some (wv k (lawB t (lcl s) l shire year q k whose (t.1 1240).toInt.toNat), CL s l f (lawI (lawB t (lcl s) l shire year q k whose (t.1 1240).toInt.toNat))) ∧ F_X12_lawFor shire year q (stA 0 k) whose t = some (lawI (lawB t (lcl s) l shire year q k whose (t.1 1240).toInt.toNat), MS t g p v) ∧ v = lawV (lawB t (lcl s) l shire year q k whose (t.1 1240).toInt.toNat) := by
  have hz := h
  obtain ⟨z0, z1, z2, z3, z4, z5, z6, z7⟩ := h
  obtain ⟨n, en, en2, _⟩ := i32_nat z1.1
  have hn : n ≤ 20 := by have := z1.2; omega
  have en3 : (t.1 1240).toInt.toNat = n := by omega
  rw [en3]
  have hcls := lcl_of hz
  obtain ⟨y, w, h1, h2, ⟨f, h3⟩, h4, h5, h6, g, p, v, h7⟩ := law_loop (s := s) (t := t) hz hR hk (shire := shire) (year := year) (q := q) (whose := whose) hsh hL hcls en hn (s.2.1 8)
  obtain ⟨y1, y2⟩ := y
  obtain ⟨w1, w2, w3⟩ := w
  dsimp only at h3 h4 h5 h6 h7
  subst h3 h5 h6 h7
  have e0 : (0 : Int32) = nI 0 := rfl
  have e1 : (1 : Int32) = nI 1 := rfl
  have hst : pI (sA (sA s 7 0 year) 7 1 shire) 9 (-1) = CL s l (s.2.1 8) (-1) := by
    subst hl
    unfold pI sA CL
    have : va_up (va_up s.2.1 7 (upd (s.2.1 7) 0 year)) 7 (upd (va_up s.2.1 7 (upd (s.2.1 7) 0 year) 7) 1 shire) = va_up (va_up s.2.1 7 (upd (upd (s.2.1 7) 0 year) 1 shire)) 8 (s.2.1 8) := by
      funext j
      unfold va_up
      by_cases e : j = 7
      · subst e; rfl
      · by_cases e2 : j = 8
        · subst e2; rfl
        · simp [e, e2]
    exact congrArg (fun A => (upd s.1 9 (-1), A, s.2.2)) this
  have hC : F_X0_worthOf (nI k) shire year q whose s = F_X0_worthOf_154 (nI k) y1 (CL s l f (lawI (lawB t (lcl s) l shire year q k whose n))) := by
    unfold F_X0_worthOf F_X0_worthOf_28
    rw [show wr s 7 6 0 year = some (sA s 7 0 year) from wr_nI (s := s) (k := 7) (n := 6) (j := 0) (v := year) (by omega) (by omega), bind_some, show wr (sA s 7 0 year) 7 6 1 shire = some (sA (sA s 7 0 year) 7 1 shire) from wr_nI (s := sA s 7 0 year) (k := 7) (n := 6) (j := 1) (v := shire) (by omega) (by omega), bind_some, wI_ok, bind_some, hst, h1, bind_some]
  have hM : F_X12_lawFor shire year q (stA 0 k) whose t = some (lawI (lawB t (lcl s) l shire year q k whose n), MS t g p (lawV (lawB t (lcl s) l shire year q k whose n))) := by
    unfold F_X12_lawFor F_X12_lawFor_9
    rw [h2, bind_some]
    show (wI (MS t g p v) 1244 (lawV (lawB t (lcl s) l shire year q k whose n))).bind _ = _
    rw [wI_ok, bind_some, MS_I]
  have h09 : (CL s l f (lawI (lawB t (lcl s) l shire year q k whose n))).1 9 = lawI (lawB t (lcl s) l shire year q k whose n) := rfl
  have hk6 : ¬ inb (nI k) 0 6 = false := by
    rw [inb_no]
    unfold inR
    rw [nI_toInt (by omega)]
    simp only [Int32.reduceToInt]
    omega
  cases hB : lawB t (lcl s) l shire year q k whose n with
  | none =>
    refine ⟨f, g, p, lawV (lawB t (lcl s) l shire year q k whose n), ?_, by rw [hM, hB], by rw [hB]⟩
    rw [hC]
    unfold F_X0_worthOf_154
    rw [h09, hB, if_pos (show lawI none = -1 from rfl), if_neg hk6]
    simp (disch := omega) only [rs_nI, bind_some]
    rfl
  | some o =>
    obtain ⟨b, vv⟩ := o
    rw [hB] at h4
    obtain ⟨i, c, i1, i2, i3⟩ := h4
    have hbn := lawB_lt hB
    have hb20 : b < 20 := by omega
    obtain ⟨k1, k2, k3, _⟩ := hcls b (by rw [en, nI_toInt (by omega)]; omega)
    obtain ⟨a, ba, m, P, Q, p1, p2, p3, p4, p5, p6, p7⟩ := k1
    have ha := (hR.2 5 b a (Or.inr ⟨Or.inl rfl, hb20⟩) p1).1
    have hba := (hR.2 6 b ba (Or.inr ⟨Or.inr rfl, hb20⟩) p3).1
    obtain ⟨x, y, z, f0, f1, f2, f3, f4, f5, f6, f7, f8⟩ := p7 i c i2
    have hil : i < (lcl s b).length := (List.getElem?_eq_some_iff.mp i2).1
    have hcm : c ∈ lcl s b := List.mem_of_getElem? i2
    have htk := (k3 c hcm).2.2
    rw [f8] at htk
    refine ⟨(evS l (seg P y z) f 0).1, g, p, lawV (lawB t (lcl s) l shire year q k whose n), ?_, by rw [hM, hB], by rw [hB]⟩
    rw [hC]
    unfold F_X0_worthOf_154
    rw [h09, hB, if_neg (show ¬ lawI (some (b, vv)) = -1 from nI_neg1 (by omega))]
    have hS : ∀ {β : Type} (A : Option β) (C : Nat → Option β), rr (CL s l f (lawI (some (b, vv)))) 6 20 (nI b) A C = C ba := fun A C => rr_ok (s := CL s l f (lawI (some (b, vv)))) hb20 (by omega) p3
    have hS5 : ∀ {β : Type} (A : Option β) (C : Nat → Option β), rr (CL s l f (lawI (some (b, vv)))) 5 20 (nI b) A C = C a := fun A C => rr_ok (s := CL s l f (lawI (some (b, vv)))) hb20 (by omega) p1
    have hla : la (CL s l f (lawI (some (b, vv)))) ba = some (nI (4 * (lcl s b).length)) := la_ok (s := CL s l f (lawI (some (b, vv)))) hba p4
    have e4 : nI (4 * (lcl s b).length) - 4 = nI (4 * (lcl s b).length - 4) := by
      obtain ⟨d, hd⟩ : ∃ d, 4 * (lcl s b).length = d + 4 := ⟨4 * (lcl s b).length - 4, by omega⟩
      rw [hd]
      have : nI (d + 4) = nI d + 4 := (nI_add d 4).symm
      rw [this, Int32.add_sub_cancel]
      rfl
    have hin : ¬ inb y1 0 (nI (4 * (lcl s b).length) - 4) = false := by
      rw [e4, i1, inb_no]
      unfold inR
      rw [nI_toInt (by omega), nI_toInt (by omega)]
      simp only [Int32.reduceToInt]
      omega
    have e2 : nI (4 * i) + 2 = nI (4 * i + 2) := nI_add (4 * i) 2
    have e3 : nI (4 * i) + 3 = nI (4 * i + 3) := nI_add (4 * i) 3
    have hr2 : ra (CL s l f (lawI (some (b, vv)))) ba (nI (4 * i + 2)) = some (Q (4 * i + 2)) := ra_ok (s := CL s l f (lawI (some (b, vv)))) hba p4 (by omega) (by omega)
    have hr3 : ra (CL s l f (lawI (some (b, vv)))) ba (nI (4 * i + 3)) = some (Q (4 * i + 3)) := ra_ok (s := CL s l f (lawI (some (b, vv)))) hba p4 (by omega) (by omega)
    have hrun := C_run (s := CL s l f (lawI (some (b, vv)))) ha p2 (by omega) f5 f6 htk
    show rr (CL s l f (lawI (some (b, vv)))) 6 20 (nI b) _ _ = _
    rw [hS, hla, bind_some, if_neg hin]
    show rr (CL s l f (lawI (some (b, vv)))) 5 20 (nI b) _ _ = _
    rw [hS5, i1, e2, e3, hr2, bind_some, hr3, bind_some, f2, f3, hrun, bind_some, CL_set]
    have hev : (evS ((CL s l f (lawI (some (b, vv)))).2.1 7) (seg P y z) ((CL s l f (lawI (some (b, vv)))).2.1 8) 0).1 0 = vv := by
      rw [i3, f8]
      exact ev_eq (fun i _ => rfl) htk _
    rw [hev]
    rfl
