/-! a new law: both states -/
/-- the class with one law more -/
def CE (s : St) (n z l : Nat) (v1 v2 : Int32) (P Q : Nat → Int32) : St := (upd (upd s.1 0 (nI (n + 1))) 901 0, va_up (va_up (va_up (va_up s.2.1 1 (upd (s.2.1 1) n v1)) 2 (upd (s.2.1 2) n v2)) 3 (upd (s.2.1 3) n (s.1 1100))) 4 (upd (s.2.1 4) n (s.1 909)), va_up (va_up s.2.2.1 5 (va_up (s.2.2.1 5) n (some (89 + s.2.2.2.length)))) 6 (va_up (s.2.2.1 6) n (some (89 + s.2.2.2.length + 1))), s.2.2.2 ++ [(z, P), (4 * l, Q)])
theorem vaU_at {α : Type} (f : Nat → α) (k : Nat) (v : α) : va_up f k v k = v := if_pos rfl
theorem vaU_ne {α : Type} (f : Nat → α) {k j : Nat} (v : α) (h : ¬ j = k) : va_up f k v j = f j := if_neg h
theorem lawrel {N : Int} {s t : St} (h : RX N s t) {n z m : Nat} {cl : List Cla} {v1 v2 : Int32} {P Q : Nat → Int32} (hn : n < 20) (en : t.1 1240 = nI n) (hv1 : inR v1 (-1) 3) (hv2 : inR v2 0 11) (hK : KR cl z m s t) (hz : z ≤ 160) (hm : m ≤ 420) (hl : cl.length ≤ 41) (hP : ∀ i, i < z → P i = s.2.1 905 i) (hQ : ∀ i, i < 4 * cl.length → Q i = s.2.1 907 i) : RX N (CE s n z cl.length v1 v2 P Q) (ME t n m v1 v2) := by
  obtain ⟨k1, k2, k3, k4, k5, k6⟩ := hK
  obtain ⟨r1, r2⟩ := h.ref
  obtain ⟨l0, l1, l2, l3, l4, l5, l6, l7⟩ := h.law
  obtain ⟨t0, t1, t2, t3, t4⟩ := h.tape
  obtain ⟨w0, w1⟩ := h.now
  have eC : (CE s n z cl.length v1 v2 P Q).2.2.2 = s.2.2.2 ++ [(z, P), (4 * cl.length, Q)] := rfl
  have e5 : (CE s n z cl.length v1 v2 P Q).2.2.1 5 = va_up (s.2.2.1 5) n (some (89 + s.2.2.2.length)) := rfl
  have e6 : (CE s n z cl.length v1 v2 P Q).2.2.1 6 = va_up (s.2.2.1 6) n (some (89 + s.2.2.2.length + 1)) := rfl
  have e203 : (CE s n z cl.length v1 v2 P Q).2.2.1 203 = s.2.2.1 203 := rfl
  have old : ∀ k i a, rfk k i → s.2.2.1 k i = some a → (CE s n z cl.length v1 v2 P Q).2.2.2[a - 89]? = s.2.2.2[a - 89]? := by
    intro k i a hr ha
    have := r2 k i a hr ha
    rw [eC, List.getElem?_append_left (by omega)]
  have m1230 : (ME t n m v1 v2).2.1 1230 = cpy (t.2.1 1230) (t.2.1 1229) (420 * n) m := rfl
  have m1231 : (ME t n m v1 v2).2.1 1231 = upd (t.2.1 1231) n (nI m) := rfl
  have m1232 : (ME t n m v1 v2).2.1 1232 = upd (t.2.1 1232) n v1 := rfl
  have m1233 : (ME t n m v1 v2).2.1 1233 = upd (t.2.1 1233) n v2 := rfl
  have m1234 : (ME t n m v1 v2).2.1 1234 = upd (t.2.1 1234) n (t.1 1200) := rfl
  have m1240 : (ME t n m v1 v2).1 1240 = nI (n + 1) := rfl
  have c1 : (CE s n z cl.length v1 v2 P Q).2.1 1 = upd (s.2.1 1) n v1 := rfl
  have c2 : (CE s n z cl.length v1 v2 P Q).2.1 2 = upd (s.2.1 2) n v2 := rfl
  have c3 : (CE s n z cl.length v1 v2 P Q).2.1 3 = upd (s.2.1 3) n (s.1 1100) := rfl
  have c4 : (CE s n z cl.length v1 v2 P Q).2.1 4 = upd (s.2.1 4) n (s.1 909) := rfl
  have hupd : ∀ (f : Nat → Int32) (v : Int32) (lo hi : Int), (∀ j, inR (f j) lo hi) → inR v lo hi → ∀ j, inR (upd f n v j) lo hi := by
    intro f v lo hi hf hv j
    by_cases c : j = n
    · rw [c, upd_at]
      exact hv
    · rw [upd_ne _ _ c]
      exact hf j
  have hlaw : RLaw (CE s n z cl.length v1 v2 P Q) (ME t n m v1 v2) := by
    refine ⟨rfl, ?_, by rw [c1, m1232, l2], by rw [c2, m1233, l3], by rw [c3, m1234, l4, w0], ?_, ?_, fun j hj => ?_⟩
    · rw [m1240]
      unfold inR
      rw [nI_toInt (by omega)]
      omega
    · rw [m1232]
      exact hupd _ _ _ _ l5 hv1
    · rw [m1233]
      exact hupd _ _ _ _ l6 hv2
    · rw [m1240, nI_toInt (by omega)] at hj
      by_cases cj : j = n
      · subst cj
        refine ⟨cl, ⟨89 + s.2.2.2.length, 89 + s.2.2.2.length + 1, z, P, Q, ?_, ?_, ?_, ?_, hz, hl, fun i c hi => ?_⟩, ⟨?_, ?_, fun i x hi => ?_⟩, k4, fun k hk => ?_⟩
        · rw [e5, vaU_at]
        · rw [eC, List.getElem?_append_right (by omega), show 89 + s.2.2.2.length - 89 - s.2.2.2.length = 0 by omega]
          rfl
        · rw [e6, vaU_at]
        · rw [eC, List.getElem?_append_right (by omega), show 89 + s.2.2.2.length + 1 - 89 - s.2.2.2.length = 1 by omega]
          rfl
        · obtain ⟨x, y, w, q1, q2, q3, q4, q5, q6, q7, q8, q9⟩ := k6 i c hi
          have hic : i < cl.length := (List.getElem?_eq_some_iff.mp hi).1
          refine ⟨x, y, w, by rw [hQ _ (by omega), q1], by rw [hQ _ (by omega), q2], by rw [hQ _ (by omega), q3], by rw [hQ _ (by omega), q4], q5, q6, q7, ?_, ?_⟩
          · rw [q8]
            exact (seg_congr fun j hj => hP j (by omega)).symm
          · rw [q9]
            exact (seg_congr fun j hj => hP j (by omega)).symm
        · rw [m1231, upd_at, k2]
        · rw [← k2]
          exact hm
        · have hil : i < (cl.flatMap caM).length := (List.getElem?_eq_some_iff.mp hi).1
          rw [m1230]
          unfold cpy
          rw [if_pos (by omega), show 420 * j + i - 420 * j = i by omega, k3 i hil, List.getD_eq_getElem?_getD, hi]
          rfl
        · rw [c4, upd_at]
          exact k5 k hk
      · obtain ⟨cl', ⟨a, b, mm, P', Q', p1, p2, p3, p4, p5⟩, ⟨g1, g2, g3⟩, d3, d4⟩ := l7 j (by rw [en, nI_toInt (by omega)]; omega)
        have hj20 : j < 20 := by omega
        refine ⟨cl', ⟨a, b, mm, P', Q', ?_, ?_, ?_, ?_, p5⟩, ⟨?_, g2, fun i x hi => ?_⟩, d3, ?_⟩
        · rw [e5, vaU_ne _ _ cj, p1]
        · rw [old 5 j a (Or.inr ⟨Or.inl rfl, hj20⟩) p1, p2]
        · rw [e6, vaU_ne _ _ cj, p3]
        · rw [old 6 j b (Or.inr ⟨Or.inr rfl, hj20⟩) p3, p4]
        · rw [m1231, upd_ne _ _ cj, g1]
        · have hil : i < (cl'.flatMap caM).length := (List.getElem?_eq_some_iff.mp hi).1
          rw [m1230]
          unfold cpy
          rw [if_neg (by omega)]
          exact g3 i x hi
        · rw [c4, upd_ne _ _ cj]
          exact d4
  have get : ∀ k i a, rfk k i → (CE s n z cl.length v1 v2 P Q).2.2.1 k i = some a → (k = 5 ∧ i = n ∧ a = 89 + s.2.2.2.length) ∨ (k = 6 ∧ i = n ∧ a = 89 + s.2.2.2.length + 1) ∨ (s.2.2.1 k i = some a) := by
    intro k i a hr ha
    rcases hr with ⟨rfl, hi⟩ | ⟨rfl | rfl, hi⟩
    · exact Or.inr (Or.inr ha)
    · rw [e5] at ha
      by_cases c : i = n
      · rw [c, vaU_at] at ha
        exact Or.inl ⟨rfl, c, (Option.some.inj ha).symm⟩
      · rw [vaU_ne _ _ c] at ha
        exact Or.inr (Or.inr ha)
    · rw [e6] at ha
      by_cases c : i = n
      · rw [c, vaU_at] at ha
        exact Or.inr (Or.inl ⟨rfl, c, (Option.some.inj ha).symm⟩)
      · rw [vaU_ne _ _ c] at ha
        exact Or.inr (Or.inr ha)
  have href : RRef (CE s n z cl.length v1 v2 P Q) (ME t n m v1 v2) := by
    refine ⟨fun k i k' i' a f1 f2 s1 s2 => ?_, fun k i a f1 s1 => ?_⟩
    · rcases get k i a f1 s1 with ⟨a1, a2, a3⟩ | ⟨a1, a2, a3⟩ | a1
      · rcases get k' i' a f2 s2 with ⟨b1, b2, b3⟩ | ⟨b1, b2, b3⟩ | b1
        · exact ⟨a1.trans b1.symm, a2.trans b2.symm⟩
        · omega
        · have := r2 k' i' a f2 b1
          omega
      · rcases get k' i' a f2 s2 with ⟨b1, b2, b3⟩ | ⟨b1, b2, b3⟩ | b1
        · omega
        · exact ⟨a1.trans b1.symm, a2.trans b2.symm⟩
        · have := r2 k' i' a f2 b1
          omega
      · have q1 := r2 k i a f1 a1
        rcases get k' i' a f2 s2 with ⟨b1, b2, b3⟩ | ⟨b1, b2, b3⟩ | b1
        · omega
        · omega
        · exact r1 k i k' i' a f1 f2 a1 b1
    · have ll : (CE s n z cl.length v1 v2 P Q).2.2.2.length = s.2.2.2.length + 2 := by
        rw [eC, List.length_append]
        rfl
      rcases get k i a f1 s1 with ⟨a1, a2, a3⟩ | ⟨a1, a2, a3⟩ | a1
      · omega
      · omega
      · have := r2 k i a f1 a1
        omega
  have hrow : RRow (CE s n z cl.length v1 v2 P Q) (ME t n m v1 v2) := by
    intro i hi
    obtain ⟨q1, q2, q3⟩ := h.row i hi
    have f1 : rfk 203 i := Or.inl ⟨rfl, hi⟩
    refine ⟨q1, fun a ha => ?_, q3⟩
    obtain ⟨g, g1, g2⟩ := q2 a ha
    exact ⟨g, by rw [old 203 i a f1 ha]; exact g1, g2⟩
  have htape : RTape (CE s n z cl.length v1 v2 P Q) (ME t n m v1 v2) := by
    refine ⟨rfl, (⟨by decide, by decide⟩ : inR 0 0 160), t2, t3, fun j hj => ?_⟩
    have : ((ME t n m v1 v2).1 1235).toInt = 0 := rfl
    omega
  exact ⟨h.now, h.folk, h.cnt, h.rec, h.trt, h.sch, h.blt, h.shut, htape, h.yard, h.prom, h.given, h.staff, h.roof, h.site, h.purse, h.land, hlaw, href, hrow⟩
