/-! the reference's search -/
theorem PC_school {nn V : Nat} {ok : Nat → Nat → Prop} {S ps pv : Nat → Int32} {rt : Nat → Prop} {c i : Nat} (hc : c < nn) (hps : ps c = -1) (hi : i < 2 ^ 31) {l : List (Nat × Nat)} (h : PC nn V ok S ps pv rt l) : PC nn V ok S (upd ps c (nI i)) pv rt l := by
  obtain ⟨h1, h2, h3⟩ := h
  have hcn := visB_upd (nn := nn) hc hps (i := i) hi
  have hne : ∀ p ∈ l, ¬ p.1 = c := fun p hp e => (h2 p hp).2 (by rw [e]; exact hps)
  refine ⟨PT_keep (fun p hp => ⟨upd_ne _ _ (hne p hp), rfl⟩) h1, fun p hp => ⟨(h2 p hp).1, ?_⟩, by omega⟩
  rw [upd_ne _ _ (hne p hp)]
  exact (h2 p hp).2
theorem PC_village {nn V : Nat} {ok : Nat → Nat → Prop} {S ps pv : Nat → Int32} {rt : Nat → Prop} {c j : Nat} (hrj : ¬ rt j) (hpv : pv j = -1) {l : List (Nat × Nat)} (h : PC nn V ok S ps pv rt l) : PC nn V ok S ps (upd pv j (nI c)) rt l := by
  obtain ⟨h1, h2, h3⟩ := h
  have hnv : ¬ visV rt pv j := fun z => z.elim hrj (fun w => w hpv)
  have hne : ∀ p ∈ l, ¬ p.2 = j := fun p hp e => hnv (by rw [← e]; exact (h2 p hp).1)
  refine ⟨PT_keep (fun p hp => ⟨rfl, upd_ne _ _ (hne p hp)⟩) h1, fun p hp => ⟨?_, (h2 p hp).2⟩, h3⟩
  unfold visV
  rw [upd_ne _ _ (hne p hp)]
  exact (h2 p hp).1
/-- the tree, with a chain for each school -/
def T3 (nn V : Nat) (ok : Nat → Nat → Prop) (S ps pv : Nat → Int32) (rt : Nat → Prop) : Prop := TR nn V ok S ps pv rt ∧ ∀ k, k < nn → ¬ ps k = -1 → ∃ i P, PC nn V ok S ps pv rt ((k, i) :: P)
theorem T3_school {nn V : Nat} {ok : Nat → Nat → Prop} {S ps pv : Nat → Int32} {rt : Nat → Prop} (h : T3 nn V ok S ps pv rt) {c i : Nat} (hc : c < nn) (hps : ps c = -1) (hi : i < V) (hV : V ≤ 24) (hv : visV rt pv i) (hok : ok i c) : T3 nn V ok S (upd ps c (nI i)) pv rt := by
  obtain ⟨t1, P, t2⟩ := TR_school h.1 hc hps hi hV hv hok
  refine ⟨t1, fun k hk hp => ?_⟩
  by_cases e : k = c
  · rw [e]
    exact ⟨i, P, t2⟩
  · rw [upd_ne _ _ e] at hp
    obtain ⟨i', P', h'⟩ := h.2 k hk hp
    exact ⟨i', P', PC_school hc hps (by omega) h'⟩
theorem T3_village {nn V : Nat} {ok : Nat → Nat → Prop} {S ps pv : Nat → Int32} {rt : Nat → Prop} (h : T3 nn V ok S ps pv rt) {c j : Nat} (hc : c < nn) (hnn : nn ≤ 20) (hcp : ¬ ps c = -1) (hrj : ¬ rt j) (hpv : pv j = -1) (hS : 0 < (S (20 * j + c)).toInt) : T3 nn V ok S ps (upd pv j (nI c)) rt ∧ ∀ i, visV rt pv i → visV rt (upd pv j (nI c)) i := by
  obtain ⟨i, P, hP⟩ := h.2 c hc hcp
  obtain ⟨t1, t2, t3⟩ := TR_village h.1 hc hnn hP hrj hpv hS
  refine ⟨⟨t1, fun k hk hp => ?_⟩, t3⟩
  obtain ⟨i', P', h'⟩ := h.2 k hk hp
  exact ⟨i', P', PC_village hrj hpv h'⟩
def QT (t t' : St) : Prop := SS t t' ∧ t'.2.1 1246 = t.2.1 1246 ∧ t'.2.1 1247 = t.2.1 1247 ∧ t'.2.1 1249 = t.2.1 1249 ∧ t'.2.1 1250 = t.2.1 1250
theorem QT.refl (t : St) : QT t t := ⟨SS.refl t, rfl, rfl, rfl, rfl⟩
theorem QT.trans {t t' t'' : St} (h : QT t t') (h2 : QT t' t'') : QT t t'' := ⟨h.1.trans h2.1, h2.2.1.trans h.2.1, h2.2.2.1.trans h.2.2.1, h2.2.2.2.1.trans h.2.2.2.1, h2.2.2.2.2.trans h.2.2.2.2⟩
/-- the queue of schools -/
def QM (nn : Nat) (ps q : Nat → Int32) (n : Nat) : Prop := n = cn (visB ps) nn ∧ (∀ b, b < n → ∃ k, k < nn ∧ q b = nI k ∧ ¬ ps k = -1) ∧ ∀ k, k < nn → ¬ ps k = -1 → ∃ b, b < n ∧ q b = nI k
theorem QM_add {nn : Nat} {ps q : Nat → Int32} {n c i : Nat} (h : QM nn ps q n) (hc : c < nn) (hps : ps c = -1) (hi : i < 24) : QM nn (upd ps c (nI i)) (upd q n (nI c)) (n + 1) ∧ n < nn := by
  obtain ⟨h1, h2, h3⟩ := h
  have hlt : n < nn := by
    rw [h1]
    exact cn_less hc (by unfold visB; rw [hps]; rfl)
  have ni : ¬ nI i = -1 := nI_neg1 (by omega)
  refine ⟨⟨by rw [visB_upd hc hps (by omega), h1], fun b hb => ?_, fun k hk hp => ?_⟩, hlt⟩
  · by_cases e : b = n
    · rw [e, upd_at]
      exact ⟨c, hc, rfl, by rw [upd_at]; exact ni⟩
    · rw [upd_ne _ _ e]
      obtain ⟨k, k1, k2, k3⟩ := h2 b (by omega)
      have : ¬ k = c := fun z => by rw [z] at k3; exact k3 hps
      exact ⟨k, k1, k2, by rw [upd_ne _ _ this]; exact k3⟩
  · by_cases e : k = c
    · exact ⟨n, by omega, by rw [upd_at, e]⟩
    · rw [upd_ne _ _ e] at hp
      obtain ⟨b, b1, b2⟩ := h3 k hk hp
      exact ⟨b, by omega, by rw [upd_ne _ _ (by omega)]; exact b2⟩
/-- within the search from village v: a schools are done -/
def SM (nn V : Nat) (ok : Nat → Nat → Prop) (v : Nat) (t t' : St) (n a : Nat) : Prop := QT t t' ∧ QM nn (t'.2.1 1251) (t'.2.1 1253) n ∧ T3 nn V ok (t.2.1 1250) (t'.2.1 1251) (t'.2.1 1252) (fun i => i = v) ∧ ∀ b, b < a → ∀ k, k < nn → t'.2.1 1253 b = nI k → (t.2.1 1246 k).toInt ≤ 0 ∧ ∀ i, i < V → ¬ (t.2.1 1250 (20 * i + k)).toInt = 0 → visV (fun i => i = v) (t'.2.1 1252) i
/-- a village's schools come to the queue -/
theorem M_expand {W : Nat → Nat → Int32} {nn V : Nat} {t : St} (hnn : nn ≤ 20) (hV : V ≤ 24) (iN : t.1 1223 = nI nn) (hG : ∀ i, i < V → ∀ k, k < nn → t.2.1 1249 (20 * i + k) = bI (decide (¬ W i k = -1))) {v o n a : Nat} {t1 : St} (ho : o < V) (hE : SM nn V (fun i k => ¬ W i k = -1) v t t1 n a) (hvo : visV (fun i => i = v) (t1.2.1 1252) o) (han : a ≤ n) (v1 v3 v4 : Int32) : ∃ n' t2, lp (B_X12_push_199 v1 v3 v4 (nI o)) FU (nI n, 0, t1) = some (nI n', t2) ∧ SM nn V (fun i k => ¬ W i k = -1) v t t2 n' a ∧ t2.2.1 1252 = t1.2.1 1252 ∧ (∀ k, ¬ t1.2.1 1251 k = -1 → ¬ t2.2.1 1251 k = -1) ∧ (∀ b, b < n → t2.2.1 1253 b = t1.2.1 1253 b) ∧ n ≤ n' ∧ ∀ k, k < nn → ¬ W o k = -1 → ¬ t2.2.1 1251 k = -1 := by
  obtain ⟨Y, h1, n', t2, rfl, h2⟩ := lp_inv (B := B_X12_push_199 v1 v3 v4 (nI o))
    (fun m X => ∃ (n' c : Nat) (t2 : St), X = (nI n', nI c, t2) ∧ c + m = nn ∧ SM nn V (fun i k => ¬ W i k = -1) v t t2 n' a ∧ t2.2.1 1252 = t1.2.1 1252 ∧ (∀ k, ¬ t1.2.1 1251 k = -1 → ¬ t2.2.1 1251 k = -1) ∧ (∀ b, b < n → t2.2.1 1253 b = t1.2.1 1253 b) ∧ n ≤ n' ∧ ∀ k, k < c → ¬ W o k = -1 → ¬ t2.2.1 1251 k = -1)
    (fun Y => ∃ (n' : Nat) (t2 : St), Y = (nI n', t2) ∧ SM nn V (fun i k => ¬ W i k = -1) v t t2 n' a ∧ t2.2.1 1252 = t1.2.1 1252 ∧ (∀ k, ¬ t1.2.1 1251 k = -1 → ¬ t2.2.1 1251 k = -1) ∧ (∀ b, b < n → t2.2.1 1253 b = t1.2.1 1253 b) ∧ n ≤ n' ∧ ∀ k, k < nn → ¬ W o k = -1 → ¬ t2.2.1 1251 k = -1) (by
      rintro m _ ⟨n', c, t2, rfl, hcm, hE2, e52, mono, keep, hnn', hk⟩
      have hE0 := hE2
      obtain ⟨q1, q2, q3, q4⟩ := hE2
      have i1 : t2.1 1223 = nI nn := by rw [q1.1.i (k := 1223) rfl, iN]
      by_cases e : c = nn
      · right
        subst e
        refine ⟨(nI n', t2), ?_, n', t2, rfl, hE0, e52, mono, keep, hnn', hk⟩
        unfold B_X12_push_199
        dsimp only
        rw [i1, if_pos (Int32.le_refl _)]
      · left
        have h9 : ¬ nI nn ≤ nI c := by
          rw [i32_le, nI_toInt (by omega), nI_toInt (by omega)]
          omega
        have hcn : c < nn := by omega
        have ix : 20 * nI o + nI c = nI (20 * o + c) := idxN2 (k := 20) (by omega) (by omega) (by omega)
        have k1 : rd t2 1249 480 (nI (20 * o + c)) = some (bI (decide (¬ W o c = -1))) := by rw [rd_nI (by omega) (by omega), q1.2.2.2.1, hG o ho c hcn]
        have k2 : rd t2 1251 20 (nI c) = some (t2.2.1 1251 c) := rd_nI (by omega) (by omega)
        have stay : (¬ W o c = -1 → ¬ t2.2.1 1251 c = -1) → ∀ k, k < c + 1 → ¬ W o k = -1 → ¬ t2.2.1 1251 k = -1 := by
          intro h0 k hk2
          by_cases e2 : k = c
          · rw [e2]; exact h0
          · exact hk k (by omega)
        by_cases d1 : W o c = -1
        · refine ⟨(nI n', nI (c + 1), t2), m - 1, ?_, by omega, n', c + 1, t2, rfl, by omega, hE0, e52, mono, keep, hnn', stay (fun z => absurd d1 z)⟩
          unfold B_X12_push_199
          dsimp only
          rw [i1, if_neg h9, ix, k1, bind_some, decide_eq_false (fun z => z d1), if_pos (show bI false = 0 from rfl), nI_1]
        rw [decide_eq_true d1] at k1
        by_cases d2 : t2.2.1 1251 c = -1
        · have hvo2 : visV (fun i => i = v) (t2.2.1 1252) o := by rw [e52]; exact hvo
          have t3 := T3_school q3 hcn d2 ho hV hvo2 d1
          obtain ⟨u1, u2⟩ := QM_add q2 hcn d2 (i := o) (by omega)
          have s3e : ∃ s3, wr t2 1251 20 (nI c) (nI o) = some s3 ∧ QT t2 s3 ∧ s3.2.1 1251 = upd (t2.2.1 1251) c (nI o) ∧ s3.2.1 1252 = t2.2.1 1252 ∧ s3.2.1 1253 = t2.2.1 1253 := ⟨_, wr_nI (by omega) (by omega), ⟨SS_sA _ _ _ rfl, rfl, rfl, rfl, rfl⟩, sA_at _ _ _ _, rfl, rfl⟩
          obtain ⟨s3, a1, a2, a3, a4, a5⟩ := s3e
          have s4e : ∃ s4, wr s3 1253 20 (nI n') (nI c) = some s4 ∧ QT s3 s4 ∧ s4.2.1 1251 = s3.2.1 1251 ∧ s4.2.1 1252 = s3.2.1 1252 ∧ s4.2.1 1253 = upd (s3.2.1 1253) n' (nI c) := ⟨_, wr_nI (by omega) (by omega), ⟨SS_sA _ _ _ rfl, rfl, rfl, rfl, rfl⟩, rfl, rfl, sA_at _ _ _ _⟩
          obtain ⟨s4, b1, b2, b3, b4, b5⟩ := s4e
          have x51 : s4.2.1 1251 = upd (t2.2.1 1251) c (nI o) := b3.trans a3
          have x52 : s4.2.1 1252 = t2.2.1 1252 := b4.trans a4
          have x53 : s4.2.1 1253 = upd (t2.2.1 1253) n' (nI c) := by rw [b5, a5]
          have ni : ¬ nI o = -1 := nI_neg1 (by omega)
          have mono2 : ∀ k, ¬ t2.2.1 1251 k = -1 → ¬ s4.2.1 1251 k = -1 := by
            intro k hk2
            rw [x51]
            by_cases e2 : k = c
            · rw [e2, upd_at]; exact ni
            · rw [upd_ne _ _ e2]; exact hk2
          refine ⟨(nI (n' + 1), nI (c + 1), s4), m - 1, ?_, by omega, n' + 1, c + 1, s4, rfl, by omega, ⟨q1.trans (a2.trans b2), by rw [x51, x53]; exact u1, by rw [x51, x52]; exact t3, fun b hb k hk2 hqb => ?_⟩, x52.trans e52, fun k hk2 => mono2 k (mono k hk2), fun b hb => ?_, by omega, fun k hk2 hok => ?_⟩
          · unfold B_X12_push_199
            dsimp only
            rw [i1, if_neg h9, ix, k1, bind_some, if_neg (show ¬ bI true = 0 by decide), k2, bind_some, if_pos d2, a1, bind_some, b1, bind_some, nI_1, nI_1]
          · rw [x53, upd_ne _ _ (by omega)] at hqb
            rw [x52]
            exact q4 b hb k hk2 hqb
          · rw [x53, upd_ne _ _ (by omega)]
            exact keep b hb
          · by_cases e2 : k = c
            · rw [x51, e2, upd_at]; exact ni
            · exact mono2 k (hk k (by omega) hok)
        · refine ⟨(nI n', nI (c + 1), t2), m - 1, ?_, by omega, n', c + 1, t2, rfl, by omega, hE0, e52, mono, keep, hnn', stay (fun _ => d2)⟩
          unfold B_X12_push_199
          dsimp only
          rw [i1, if_neg h9, ix, k1, bind_some, if_neg (show ¬ bI true = 0 by decide), k2, bind_some, if_neg d2, nI_1]) FU nn (nI n, 0, t1) ⟨n, 0, t1, rfl, by omega, hE, rfl, fun _ z => z, fun _ _ => rfl, Nat.le_refl _, fun k hk => absurd hk (by omega)⟩ (FU_lt (by omega))
  exact ⟨n', t2, h1, h2⟩
