/-! the rows that are kept; walk -/
def nL (s : St) : St := (s.1, fun k => bif Nat.beq k 204 then fun _ => 0 else s.2.1 k, fun _ _ => none, [])
theorem RX.rows {N : Int} {s t s' : St} (h : RX N s t) (e : nL s' = nL s) (hlaw : RLaw s' t) (href : RRef s' t) (hrow : RRow s' t) : RX N s' t := by
  have q : RNow (nL s') t ∧ RFolk (nL s') t ∧ RCnt (nL s') t ∧ RRec (nL s') t ∧ RTrt (nL s') t ∧ RSch (nL s') t ∧ RBlt (nL s') t ∧ RShut N (nL s') t ∧ RTape (nL s') t ∧ RYard (nL s') t ∧ RProm (nL s') t ∧ RGiven (nL s') t ∧ RStaff (nL s') t ∧ RRoof (nL s') t ∧ RSite (nL s') t ∧ RPurse (nL s') t ∧ RLand (nL s') t := by
    rw [e]
    exact ⟨h.now, h.folk, h.cnt, h.rec, h.trt, h.sch, h.blt, h.shut, h.tape, h.yard, h.prom, h.given, h.staff, h.roof, h.site, h.purse, h.land⟩
  obtain ⟨a1, a2, a3, a4, a5, a6, a7, a8, a9, b1, b2, b3, b4, b5, b6, b7, b8⟩ := q
  exact ⟨a1, a2, a3, a4, a5, a6, a7, a8, a9, b1, b2, b3, b4, b5, b6, b7, b8, hlaw, href, hrow⟩
theorem clC_keep {s s' : St} {j : Nat} {cl : List Cla} (h5 : s'.2.2.1 5 j = s.2.2.1 5 j) (h6 : s'.2.2.1 6 j = s.2.2.1 6 j) (ha : ∀ a, s.2.2.1 5 j = some a → s'.2.2.2[a - 89]? = s.2.2.2[a - 89]?) (hb : ∀ a, s.2.2.1 6 j = some a → s'.2.2.2[a - 89]? = s.2.2.2[a - 89]?) (h : clC s j cl) : clC s' j cl := by
  obtain ⟨a, b, m, P, Q, p1, p2, p3, p4, p5⟩ := h
  exact ⟨a, b, m, P, Q, by rw [h5, p1], by rw [ha a p1, p2], by rw [h6, p3], by rw [hb b p3, p4], p5⟩
/-- one row more is right -/
theorem rows_keep {N : Int} {s t s' : St} (h : RX N s t) {n a : Nat} {f : Nat → Int32} (hn : n < 240) (e : nL s' = nL s) (hk : ∀ k i, rfk k i → ¬ (k = 203 ∧ i = n) → s'.2.2.1 k i = s.2.2.1 k i) (hself : s'.2.2.1 203 n = some a) (ha : 89 ≤ a ∧ a < 89 + s'.2.2.2.length) (hlen : s.2.2.2.length ≤ s'.2.2.2.length) (hoth : ∀ k i a', rfk k i → ¬ (k = 203 ∧ i = n) → s.2.2.1 k i = some a' → a' ≠ a ∧ s'.2.2.2[a' - 89]? = s.2.2.2[a' - 89]?) (hget : s'.2.2.2[a - 89]? = some (120, f)) (h204 : s'.2.1 204 = upd (s.2.1 204) n 1) (hD : isD (s.2.1 200) (s.2.1 201) n f) : RX N s' t ∧ ∀ k shire year q whose x y z : Int32, ∀ kk, wq s' t kk shire year q whose x y z = wq s t kk shire year q whose x y z := by
  have eA : ∀ k, ¬ k = 204 → s'.2.1 k = s.2.1 k := by
    intro k hk
    have h1 : (nL s').2.1 k = (nL s).2.1 k := by rw [e]
    have h2 : Nat.beq k 204 = false := by
      cases hb : Nat.beq k 204
      · rfl
      · exact absurd (Nat.eq_of_beq_eq_true hb) hk
    simp only [nL, h2, cond_false] at h1
    exact h1
  have e1 : s'.1 = s.1 := by
    have h1 : (nL s').1 = (nL s).1 := by rw [e]
    exact h1
  have hcl : ∀ j, j < 20 → ∀ cl, clC s j cl → clC s' j cl := by
    intro j hj cl hc
    have f5 : rfk 5 j := Or.inr ⟨Or.inl rfl, hj⟩
    have f6 : rfk 6 j := Or.inr ⟨Or.inr rfl, hj⟩
    have n5 : ¬ (5 = 203 ∧ j = n) := fun z => absurd z.1 (by omega)
    have n6 : ¬ (6 = 203 ∧ j = n) := fun z => absurd z.1 (by omega)
    exact clC_keep (hk 5 j f5 n5) (hk 6 j f6 n6) (fun a' ha' => (hoth 5 j a' f5 n5 ha').2) (fun a' ha' => (hoth 6 j a' f6 n6 ha').2) hc
  have hlaw : RLaw s' t := by
    obtain ⟨l0, l1, l2, l3, l4, l5, l6, l7⟩ := h.law
    refine ⟨by rw [e1]; exact l0, l1, by rw [eA 1 (by omega)]; exact l2, by rw [eA 2 (by omega)]; exact l3, by rw [eA 3 (by omega)]; exact l4, l5, l6, fun j hj => ?_⟩
    obtain ⟨cl, c1, c2, c3, c4⟩ := l7 j hj
    have hj20 : j < 20 := by have := l1.2; omega
    exact ⟨cl, hcl j hj20 cl c1, c2, c3, by rw [eA 4 (by omega)]; exact c4⟩
  have href : RRef s' t := by
    obtain ⟨r1, r2⟩ := h.ref
    have get : ∀ k i a', rfk k i → s'.2.2.1 k i = some a' → (k = 203 ∧ i = n ∧ a' = a) ∨ (¬ (k = 203 ∧ i = n) ∧ s.2.2.1 k i = some a' ∧ a' ≠ a) := by
      intro k i a' hr hs
      by_cases c : k = 203 ∧ i = n
      · obtain ⟨rfl, rfl⟩ := c
        rw [hself] at hs
        exact Or.inl ⟨rfl, rfl, (Option.some.inj hs).symm⟩
      · rw [hk k i hr c] at hs
        exact Or.inr ⟨c, hs, (hoth k i a' hr c hs).1⟩
    refine ⟨fun k i k2 i2 a' f1 f2 s1 s2 => ?_, fun k i a' f1 s1 => ?_⟩
    · rcases get k i a' f1 s1 with ⟨a1, a2, a3⟩ | ⟨a1, a2, a3⟩
      · rcases get k2 i2 a' f2 s2 with ⟨b1, b2, b3⟩ | ⟨b1, b2, b3⟩
        · exact ⟨a1.trans b1.symm, a2.trans b2.symm⟩
        · exact absurd a3 b3
      · rcases get k2 i2 a' f2 s2 with ⟨b1, b2, b3⟩ | ⟨b1, b2, b3⟩
        · exact absurd b3 a3
        · exact r1 k i k2 i2 a' f1 f2 a2 b2
    · rcases get k i a' f1 s1 with ⟨a1, a2, a3⟩ | ⟨a1, a2, a3⟩
      · rw [a3]
        exact ha
      · have := r2 k i a' f1 a2
        omega
  have hrow : RRow s' t := by
    intro i hi
    obtain ⟨r1, r2, r3⟩ := h.row i hi
    have f1 : rfk 203 i := Or.inl ⟨rfl, hi⟩
    rw [h204, eA 200 (by omega), eA 201 (by omega)]
    by_cases c : i = n
    · subst c
      rw [upd_at, hself]
      refine ⟨⟨by decide, by decide⟩, fun a' ha' => ⟨f, ?_, fun _ => hD⟩, fun z => by cases z⟩
      rw [← Option.some.inj ha']
      exact hget
    · have nc : ¬ (203 = 203 ∧ i = n) := fun z => c z.2
      rw [upd_ne _ _ c, hk 203 i f1 nc]
      refine ⟨r1, fun a' ha' => ?_, r3⟩
      obtain ⟨g, g1, g2⟩ := r2 a' ha'
      exact ⟨g, by rw [(hoth 203 i a' f1 nc ha').2]; exact g1, g2⟩
  refine ⟨h.rows e hlaw href hrow, fun _ shire year q whose x y z kk => ?_⟩
  unfold wq wo
  have e2 : ∀ L : Nat → Int32, lawB t (lcl s') L shire year q kk 0 (t.1 1240).toInt.toNat = lawB t (lcl s) L shire year q kk 0 (t.1 1240).toInt.toNat := by
    intro L
    have hl : ∀ j : Nat, (j : Int) < (t.1 1240).toInt → lcl s' j = lcl s j := by
      intro j hj
      obtain ⟨cl, c1, c2, c3, c4⟩ := h.law.2.2.2.2.2.2.2 j hj
      have hj20 : j < 20 := by have := h.law.2.1.2; omega
      rw [lcl_eq c1 c3, lcl_eq (hcl j hj20 cl c1) c3]
    have go : ∀ m : Nat, (m : Int) ≤ (t.1 1240).toInt → lawB t (lcl s') L shire year q kk 0 m = lawB t (lcl s) L shire year q kk 0 m := by
      intro m
      induction m with
      | zero => intro _; rfl
      | succ m ih =>
        intro hm
        unfold lawB
        rw [ih (by omega), hl m (by omega)]
    have h0 := h.law.2.1.1
    exact go _ (by omega)
  rw [e2]
theorem weights {N : Int} {s t : St} (h : RX N s t) {e : Nat} (he : e = 0 ∨ e = 1) : wM (fun c => (t.2.1 1201 (120 * e + c)).toInt) ∧ (e = 0 → ∀ c, c < 120 → (t.2.1 1201 (120 * e + c)).toInt ≠ 0) := by
  obtain ⟨l0, l1, l2⟩ := h.land
  rcases he with rfl | rfl
  · refine ⟨fun c hc => ?_, fun _ c hc => ?_⟩
    · have := (l2 c hc).2.2.1
      have e1 : 120 * 0 + c = c := by omega
      show 0 ≤ (t.2.1 1201 (120 * 0 + c)).toInt ∧ (t.2.1 1201 (120 * 0 + c)).toInt ≤ 99
      rw [e1]
      exact ⟨by have := this.1; omega, this.2⟩
    · have := (l2 c hc).2.2.1
      have e1 : 120 * 0 + c = c := by omega
      rw [e1]
      have := this.1
      omega
  · exact ⟨fun c hc => (l2 c hc).2.2.2, fun z => absurd z (by omega)⟩
/-- the least ways from a cell, dry or wet -/
def isW (t : St) (e b : Nat) (F : Nat → Option Nat) : Prop := isF (fun c => (t.2.1 1201 (120 * e + c)).toInt) b F ∧ ∀ c, c < 120 → ∀ x, F c = some x → x ≤ 11880
theorem M_far {N : Int} {s t : St} (h : RX N s t) {e b : Nat} (he : e = 0 ∨ e = 1) (hb : b < 120) : ∃ (D : Nat → Int32) (F : Nat → Option Nat), F_X12_spread (nI b) (nI e) t = some (setA t 1203 D) ∧ isW t e b F ∧ ∀ c, c < 120 → D c = wN F 1000000 c := by
  obtain ⟨w1, w2⟩ := weights h he
  obtain ⟨D, F, h1, h2, h3, h4⟩ := M_spread w1 hb t he (fun _ _ => rfl) w2
  exact ⟨D, F, h1, ⟨h2, h3⟩, h4⟩
theorem isW_D {N : Int} {s t : St} (h : RX N s t) {e b : Nat} (he : e = 0 ∨ e = 1) (hb : b < 120) {F : Nat → Option Nat} (hF : isW t e b F) {f : Nat → Int32} (hf : ∀ c, c < 120 → f c = wN F 100000000 c) : isD (s.2.1 200) (s.2.1 201) (120 * e + b) f := by
  obtain ⟨l0, l1, l2⟩ := h.land
  have em : (120 * e + b) % 120 = b := by omega
  refine ⟨F, ?_, fun c hc => hf c hc⟩
  rw [em]
  refine isF_cong (fun c hc => ?_) hF.1
  rcases he with rfl | rfl
  · rw [if_pos (by omega), (l2 c hc).1]
    show (t.2.1 1201 (120 * 0 + c)).toInt = _
    rw [show 120 * 0 + c = c by omega]
  · rw [if_neg (by omega), (l2 c hc).2.1]
theorem D_isW {N : Int} {s t : St} (h : RX N s t) {e b : Nat} (he : e = 0 ∨ e = 1) (hb : b < 120) {F : Nat → Option Nat} (hF : isW t e b F) {f : Nat → Int32} (hD : isD (s.2.1 200) (s.2.1 201) (120 * e + b) f) : ∀ c, c < 120 → f c = wN F 100000000 c := by
  obtain ⟨l0, l1, l2⟩ := h.land
  have em : (120 * e + b) % 120 = b := by omega
  obtain ⟨G, g1, g2⟩ := hD
  rw [em] at g1
  have g3 : isF (fun c => (t.2.1 1201 (120 * e + c)).toInt) b G := by
    refine isF_cong (fun c hc => ?_) g1
    rcases he with rfl | rfl
    · rw [if_pos (by omega), (l2 c hc).1]
      show _ = (t.2.1 1201 (120 * 0 + c)).toInt
      rw [show 120 * 0 + c = c by omega]
    · rw [if_neg (by omega), (l2 c hc).2.1]
  intro c hc
  have := isF_one (weights h he).1 hb g3 hF.1 hc
  unfold wN
  rw [← this]
  exact g2 c hc
/-- a kept row, spread -/
theorem C_fill {N : Int} {s t s1 : St} (h : RX N s t) {e b a : Nat} (he : e = 0 ∨ e = 1) (hb : b < 120) {F : Nat → Option Nat} (hF : isW t e b F) (e2 : s1.2.1 = s.2.1) {f0 : Nat → Int32} (ha : 89 ≤ a) (hget : s1.2.2.2[a - 89]? = some (120, f0)) (v : Int32) (hv : v = nI e) (h204 : s.2.1 204 (120 * e + b) = 0) (hself : s1.2.2.1 203 (120 * e + b) = some a) : ∃ D, F_X2_rowFrom_48 v (nI b) (nI (120 * e + b)) s1 = some (a, sA (pD s1 a 120 D) 204 (120 * e + b) 1) ∧ ∀ c, c < 120 → D c = wN F 100000000 c := by
  obtain ⟨l0, l1, l2⟩ := h.land
  obtain ⟨w1, w2⟩ := weights h he
  have hn : 120 * e + b < 240 := by omega
  have en := nI_toInt (n := 120 * e + b) (by omega)
  have hvb : vb (nI (120 * e + b)) 240 = true := vb_iff.mpr ⟨by omega, by omega⟩
  have hc : (nI (120 * e + b)).toNatClampNeg = 120 * e + b := nI_clamp (by omega)
  have r1 : rd s1 204 240 (nI (120 * e + b)) = some 0 := by rw [rd_nI hn (by omega), e2, h204]
  have r2 : ∀ (β : Type) (s2 : St) (A : Option β) (B : Nat → Option β), s2.2.2.1 203 (120 * e + b) = some a → rr s2 203 240 (nI (120 * e + b)) A B = B a := by
    intro β s2 A B hs2
    unfold rr
    rw [if_pos hvb, hc, hs2]
  rcases he with rfl | rfl
  · have hM : ∀ D c, c < 120 → ra (pD s1 a 120 D) 2 (nI c) = some (s.2.1 200 c) := by
      intro D c hc
      rw [ra_dyn (dyn_2 (pD s1 a 120 D)) hc (by omega)]
      show some (s1.2.1 200 c) = _
      rw [e2]
    obtain ⟨D, d1, d2⟩ := C_spread w1 hb s1 ha hget hM (fun c hc => by
      show _ = (t.2.1 1201 (120 * 0 + c)).toInt
      rw [(l2 c hc).1, show 120 * 0 + c = c by omega]) hF.1 hF.2
    refine ⟨D, ?_, d2⟩
    unfold F_X2_rowFrom_48
    rw [r1, bind_some, if_pos rfl, hv, if_pos (show nI 0 = 0 from rfl), r2 _ s1 _ _ hself, d1, bind_some, wr_nI hn (by omega), bind_some, r2 _ (sA (pD s1 a 120 D) 204 (120 * 0 + b) 1) _ _ hself]
  · have hM : ∀ D c, c < 120 → ra (pD s1 a 120 D) 3 (nI c) = some (s.2.1 201 c) := by
      intro D c hc
      rw [ra_dyn (dyn_3 (pD s1 a 120 D)) hc (by omega)]
      show some (s1.2.1 201 c) = _
      rw [e2]
    obtain ⟨D, d1, d2⟩ := C_spread w1 hb s1 ha hget hM (fun c hc => by rw [(l2 c hc).2.1]) hF.1 hF.2
    refine ⟨D, ?_, d2⟩
    unfold F_X2_rowFrom_48
    rw [r1, bind_some, if_pos rfl, hv, if_neg (show ¬ nI 1 = 0 by decide), r2 _ s1 _ _ hself, d1, bind_some, wr_nI hn (by omega), bind_some, r2 _ (sA (pD s1 a 120 D) 204 (120 * 1 + b) 1) _ _ hself]
/-- what a row's asking leaves -/
def RW (s s' t : St) : Prop := s'.1 = s.1 ∧ (∀ k, ¬ k = 204 → s'.2.1 k = s.2.1 k) ∧ ∀ (kk : Nat) (shire year q whose x y z : Int32), wq s' t kk shire year q whose x y z = wq s t kk shire year q whose x y z
theorem nL_sA (s : St) (n : Nat) (v : Int32) : nL (sA s 204 n v) = nL s := by
  refine congrArg (fun z => ((s.1, z, fun _ _ => none, []) : St)) ?_
  funext k
  cases hb : Nat.beq k 204
  · have : ¬ k = 204 := fun z => by rw [z] at hb; cases hb
    show (bif false then _ else va_up s.2.1 204 _ k) = bif false then _ else s.2.1 k
    exact if_neg this
  · rfl
theorem C_rowFrom {N : Int} {s t : St} (h : RX N s t) {e b : Nat} (he : e = 0 ∨ e = 1) (hb : b < 120) {F : Nat → Option Nat} (hF : isW t e b F) : ∃ (a : Nat) (s' : St) (f : Nat → Int32), F_X2_rowFrom (nI b) (nI e) s = some (a, s') ∧ RX N s' t ∧ (89 ≤ a ∧ s'.2.2.2[a - 89]? = some (120, f)) ∧ (∀ c, c < 120 → f c = wN F 100000000 c) ∧ RW s s' t := by
  have e0 : (0 : Int32).toInt = 0 := rfl
  have e119 : (119 : Int32).toInt = 119 := rfl
  have hn : 120 * e + b < 240 := by omega
  have en := nI_toInt (n := 120 * e + b) (by omega)
  have hin : ¬ inb (nI b) 0 119 = false := by
    rw [inb_no]
    exact fun z => z ⟨by rw [nI_toInt (by omega)]; omega, by rw [nI_toInt (by omega)]; omega⟩
  have h1 : F_X2_rowFrom (nI b) (nI e) s = F_X2_rowFrom_25 (nI e) (nI b) (nI (120 * e + b)) s := by
    unfold F_X2_rowFrom F_X2_rowFrom_12
    rw [if_neg hin]
    rcases he with rfl | rfl
    · rw [if_pos (show nI 0 = 0 from rfl), show 120 * 0 + b = b by omega]
    · rw [if_neg (show ¬ nI 1 = 0 by decide), show (120 : Int32) + nI b = nI (120 + b) from nI_add 120 b]
  have hvb : vb (nI (120 * e + b)) 240 = true := vb_iff.mpr ⟨by omega, by omega⟩
  have hc : (nI (120 * e + b)).toNatClampNeg = 120 * e + b := nI_clamp (by omega)
  have r2 : ∀ (β : Type) (s2 : St) (A : Option β) (B : Nat → Option β) (a : Nat), s2.2.2.1 203 (120 * e + b) = some a → rr s2 203 240 (nI (120 * e + b)) A B = B a := by
    intro β s2 A B a hs2
    unfold rr
    rw [if_pos hvb, hc, hs2]
  obtain ⟨q1, q2, q3⟩ := h.row (120 * e + b) hn
  have frk : rfk 203 (120 * e + b) := Or.inl ⟨rfl, hn⟩
  rw [h1]
  cases hs : s.2.2.1 203 (120 * e + b) with
  | some a =>
    obtain ⟨f0, f1, f2⟩ := q2 a hs
    obtain ⟨ra1, ra2⟩ := h.ref.2 203 _ a frk hs
    by_cases hfr : s.2.1 204 (120 * e + b) = 0
    · obtain ⟨D, d1, d2⟩ := C_fill h he hb hF rfl ra1 f1 (nI e) rfl hfr hs
      have hl : a - 89 < s.2.2.2.length := by omega
      obtain ⟨k1, k2⟩ := rows_keep (s' := sA (pD s a 120 D) 204 (120 * e + b) 1) h hn (nL_sA (pD s a 120 D) _ _) (fun _ _ _ _ => rfl) hs ⟨ra1, by
          show a < 89 + (s.2.2.2.set (a - 89) (120, D)).length
          rw [List.length_set]
          exact ra2⟩ (by
          show _ ≤ (s.2.2.2.set (a - 89) (120, D)).length
          rw [List.length_set]
          exact Nat.le_refl _) (fun k i a' g1 g2 g3 => by
          have hne : a' ≠ a := fun z => by
            rw [z] at g3
            exact g2 (h.ref.1 k i 203 _ a g1 frk g3 hs)
          have h9 := h.ref.2 k i a' g1 g3
          refine ⟨hne, ?_⟩
          show (s.2.2.2.set (a - 89) (120, D))[a' - 89]? = _
          rw [List.getElem?_set_ne (by omega)]) (pD_get hl D) (sA_at _ _ _ _) (isW_D h he hb hF d2)
      refine ⟨a, sA (pD s a 120 D) 204 (120 * e + b) 1, D, ?_, k1, ⟨ra1, pD_get hl D⟩, d2, rfl, fun k hk => if_neg hk, fun kk shire year q whose x y z => k2 0 shire year q whose x y z kk⟩
      unfold F_X2_rowFrom_25
      rw [r2 _ s _ _ a hs, d1]
    · have hfr1 : s.2.1 204 (120 * e + b) = 1 := by
        refine Int32.toInt_inj.mp ?_
        have e1 : (1 : Int32).toInt = 1 := rfl
        have : ¬ (s.2.1 204 (120 * e + b)).toInt = 0 := fun z => hfr (Int32.toInt_inj.mp (z.trans e0.symm))
        have := q1.1
        have := q1.2
        omega
      refine ⟨a, s, f0, ?_, h, ⟨ra1, f1⟩, D_isW h he hb hF (f2 hfr1), rfl, fun _ _ => rfl, fun _ _ _ _ _ _ _ _ => rfl⟩
      unfold F_X2_rowFrom_25
      rw [r2 _ s _ _ a hs]
      unfold F_X2_rowFrom_48
      rw [rd_nI hn (by omega), bind_some, if_neg hfr, r2 _ s _ _ a hs]
  | none =>
    have hfr := q3 hs
    -- the new row
    have s1e : ∃ s1 : St, wR (pN s 120) 203 240 (nI (120 * e + b)) (aL s) = some s1 ∧ s1.1 = s.1 ∧ s1.2.1 = s.2.1 ∧ s1.2.2.2 = s.2.2.2 ++ [(120, fun _ => 0)] ∧ s1.2.2.1 203 (120 * e + b) = some (aL s) ∧ ∀ k i, ¬ (k = 203 ∧ i = 120 * e + b) → s1.2.2.1 k i = s.2.2.1 k i := by
      have g1 : dyn (pN s 120) (aL s) = some (120, fun _ => 0) := by
        refine dyn_hi (by unfold aL; omega) ?_
        show (s.2.2.2 ++ [(120, fun _ => 0)])[aL s - 89]? = _
        have : aL s - 89 = s.2.2.2.length := by unfold aL; omega
        rw [this, List.getElem?_append_right (Nat.le_refl _), Nat.sub_self]
        rfl
      refine ⟨pR (pN s 120) 203 (nI (120 * e + b)) (aL s), ?_, rfl, rfl, rfl, ?_, fun k i hki => ?_⟩
      · unfold wR
        rw [g1]
        dsimp only
        rw [if_pos hvb]
      · show va_up s.2.2.1 203 (va_up (s.2.2.1 203) (nI (120 * e + b)).toNatClampNeg (some (aL s))) 203 (120 * e + b) = _
        rw [hc, va_up_s, va_up_s]
      · show va_up s.2.2.1 203 (va_up (s.2.2.1 203) (nI (120 * e + b)).toNatClampNeg (some (aL s))) k i = _
        rw [hc]
        unfold va_up
        by_cases c : k = 203
        · subst c
          rw [if_pos rfl]
          exact if_neg (fun z => hki ⟨rfl, z⟩)
        · rw [if_neg c]
    obtain ⟨s1, g1, g2, g3, g4, g5, g6⟩ := s1e
    have ea : aL s - 89 = s.2.2.2.length := by unfold aL; omega
    have ga : 89 ≤ aL s := by unfold aL; omega
    have g7 : s1.2.2.2[aL s - 89]? = some (120, fun _ => 0) := by
      rw [g4, ea, List.getElem?_append_right (Nat.le_refl _), Nat.sub_self]
      rfl
    have hlen : s1.2.2.2.length = s.2.2.2.length + 1 := by rw [g4, List.length_append]; rfl
    obtain ⟨D, d1, d2⟩ := C_fill h he hb hF g3 ga g7 (nI e) rfl hfr g5
    have hl : aL s - 89 < s1.2.2.2.length := by omega
    have hlen2 : (sA (pD s1 (aL s) 120 D) 204 (120 * e + b) 1).2.2.2.length = s1.2.2.2.length := List.length_set
    obtain ⟨k1, k2⟩ := rows_keep (s' := sA (pD s1 (aL s) 120 D) 204 (120 * e + b) 1) h hn (by
        rw [nL_sA]
        show ((s1.1, fun k => bif Nat.beq k 204 then fun _ => 0 else s1.2.1 k, fun _ _ => none, []) : St) = nL s
        rw [g2, g3]
        rfl) (fun k i _ hki => g6 k i hki) g5 ⟨ga, by rw [hlen2]; omega⟩ (by rw [hlen2]; omega) (fun k i a' j1 j2 j3 => by
        have h9 := h.ref.2 k i a' j1 j3
        have hne : a' ≠ aL s := by unfold aL; omega
        refine ⟨hne, ?_⟩
        show (s1.2.2.2.set (aL s - 89) (120, D))[a' - 89]? = _
        rw [List.getElem?_set_ne (by omega), g4, List.getElem?_append_left (by omega)]) (pD_get hl D) (by
        rw [sA_at]
        show upd (s1.2.1 204) _ 1 = _
        rw [g3]) (isW_D h he hb hF d2)
    refine ⟨aL s, sA (pD s1 (aL s) 120 D) 204 (120 * e + b) 1, D, ?_, k1, ⟨ga, pD_get hl D⟩, d2, g2, fun k hk => ?_, fun kk shire year q whose x y z => k2 0 shire year q whose x y z kk⟩
    · unfold F_X2_rowFrom_25
      have : rr s 203 240 (nI (120 * e + b)) ((nA s 120).bind fun s2 => (wR s2 203 240 (nI (120 * e + b)) (aL s)).bind fun s3 => F_X2_rowFrom_48 (nI e) (nI b) (nI (120 * e + b)) s3) (fun _ => F_X2_rowFrom_48 (nI e) (nI b) (nI (120 * e + b)) s) = ((nA s 120).bind fun s2 => (wR s2 203 240 (nI (120 * e + b)) (aL s)).bind fun s3 => F_X2_rowFrom_48 (nI e) (nI b) (nI (120 * e + b)) s3) := by
        unfold rr
        rw [if_pos hvb, hc, hs]
      rw [this]
      show ((some (pN s 120)).bind _) = _
      rw [bind_some, g1, bind_some, d1]
    · show va_up s1.2.1 204 _ k = _
      rw [show va_up s1.2.1 204 _ k = s1.2.1 k from if_neg hk, g3]
/-- a walk's answer -/
theorem wN_two {F : Nat → Option Nat} {c : Nat} (hF : ∀ x, F c = some x → x ≤ 11880) : ∃ r, (if (100000000 : Int32) ≤ wN F 100000000 c then (-1 : Int32) else wN F 100000000 c) = r ∧ (if wN F 1000000 c < 1000000 then wN F 1000000 c else (-1 : Int32)) = r := by
  have e1 : (100000000 : Int32).toInt = 100000000 := rfl
  have e2 : (1000000 : Int32).toInt = 1000000 := rfl
  unfold wN
  cases h : F c with
  | none =>
    dsimp only
    exact ⟨-1, if_pos (Int32.le_refl _), if_neg (by decide)⟩
  | some x =>
    have := hF x h
    dsimp only
    refine ⟨nI x, if_neg ?_, if_pos ?_⟩
    · rw [i32_le, nI_toInt (by omega)]
      omega
    · rw [i32_lt, nI_toInt (by omega)]
      omega
theorem M_walkedTo (t : St) (D : Nat → Int32) {c : Nat} (hc : c < 120) : F_X12_walkedTo (nI c) (setA t 1203 D) = some (if D c < 1000000 then D c else -1) := by
  unfold F_X12_walkedTo
  rw [rd_1203 _ _ hc, bind_some]
  by_cases k : D c < 1000000
  · rw [if_pos k, if_pos k, bind_some]
  · rw [if_neg k, if_neg k]
theorem cell_nat {v : Int32} (h : ¬ inb v 0 119 = false) : ∃ c : Nat, c < 120 ∧ v = nI c := by
  have e0 : (0 : Int32).toInt = 0 := rfl
  have e119 : (119 : Int32).toInt = 119 := rfl
  obtain ⟨a, b⟩ := inb_R h
  obtain ⟨c, e1, e2, _⟩ := i32_nat (x := v) (by omega)
  exact ⟨c, by omega, e1⟩
theorem P_walk {N : Int} {s t : St} (h : RX N s t) (v1 v2 v3 : Int32) : Two (RX (N + 1)) (F_X11_walk v1 v2 v3 s) (F_X12_walk v1 v2 v3 t) := by
  have e0 : (0 : Int32).toInt = 0 := rfl
  have e1 : (1 : Int32).toInt = 1 := rfl
  unfold F_X11_walk F_X12_walk
  refine Two_ite (fun _ => Two_ret _ h.up) (fun c1 => ?_)
  refine Two_ite (fun _ => Two_ret _ h.up) (fun c2 => ?_)
  refine Two_ite (fun _ => Two_ret _ h.up) (fun c3 => ?_)
  obtain ⟨b, hb, rfl⟩ := cell_nat c1
  obtain ⟨c, hc, rfl⟩ := cell_nat c2
  obtain ⟨q1, q2⟩ := inb_R c3
  obtain ⟨e, ee, ee2, _⟩ := i32_nat (x := v3) (by omega)
  have he : e = 0 ∨ e = 1 := by omega
  subst ee
  obtain ⟨D, F, m1, m2, m3⟩ := M_far h he hb
  obtain ⟨a, s', f, k1, k2, k3, k4, _⟩ := C_rowFrom h he hb m2
  obtain ⟨r, w1, w2⟩ := wN_two (F := F) (c := c) (m2.2 c hc)
  have hM : F_X12_walkOf (nI b) (nI c) (nI e) t = some (r, setA t 1203 D) := by
    unfold F_X12_walkOf
    rw [m1, bind_some, M_walkedTo t D hc, bind_some, m3 c hc, w2]
  rw [hM, bind_some]
  have hC : ((F_X2_rowFrom (nI b) (nI e) s).bind fun r3 => (ra r3.2 r3.1 (nI c)).bind fun x4 => if (100000000 : Int32) ≤ x4 then some ((-1 : Int32), r3.2) else some (x4, r3.2)) = some (r, s') := by
    rw [k1, bind_some]
    dsimp only
    rw [ra_dyn (dyn_hi k3.1 k3.2) hc (by omega), bind_some, k4 c hc, ← w1]
    split <;> rfl
  have hR : RX N s' (setA t 1203 D) := k2.ss (SS.refl s') (SS_setA t (k := 1203) D rfl)
  rcases he with rfl | rfl
  · rw [if_neg (show ¬ nI 0 = 1 by decide)]
    have hC' := hC
    rw [show nI 0 = (0 : Int32) from rfl] at hC'
    rw [hC']
    exact Two_ret r hR.up
  · rw [if_pos (show nI 1 = 1 from rfl)]
    have hC' := hC
    rw [show nI 1 = (1 : Int32) from rfl] at hC'
    rw [hC']
    exact Two_ret r hR.up
