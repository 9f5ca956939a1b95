/-! the reference's search: a full school -/
/-- all visited villages have had their schools looked at -/
def CV (nn V : Nat) (ok : Nat → Nat → Prop) (v : Nat) (t' : St) : Prop := ∀ i, i < V → visV (fun i => i = v) (t'.2.1 1252) i → ∀ k, k < nn → ok i k → ¬ t'.2.1 1251 k = -1
/-- a full school: the villages in it -/
theorem M_full {W : Nat → Nat → Int32} {nn V : Nat} {t : St} (hnn : nn ≤ 20) (hV : V ≤ 24) (iN : t.1 1223 = nI nn) (iV : t.1 1212 = nI V) (hG : ∀ i, i < V → ∀ k, k < nn → t.2.1 1249 (20 * i + k) = bI (decide (¬ W i k = -1))) (hS : ∀ i, i < V → ∀ k, k < nn → 0 ≤ (t.2.1 1250 (20 * i + k)).toInt) {v s n a : Nat} {t1 : St} (hv : v < V) (hs : s < nn) (hE : SM nn V (fun i k => ¬ W i k = -1) v t t1 n a) (hC : CV nn V (fun i k => ¬ W i k = -1) v t1) (han : a < n) (hqa : t1.2.1 1253 a = nI s) (hsv : ¬ t1.2.1 1251 s = -1) (hL : (t.2.1 1246 s).toInt ≤ 0) : ∃ n' t2, F_X12_push_142 (nI v) (nI n) (nI a) (nI s) 0 t1 = some (.inl (nI n', nI (a + 1), t2)) ∧ SM nn V (fun i k => ¬ W i k = -1) v t t2 n' (a + 1) ∧ CV nn V (fun i k => ¬ W i k = -1) v t2 ∧ n ≤ n' := by
  have e0 : (0 : Int32).toInt = 0 := rfl
  obtain ⟨Y, h1, n', t2, rfl, b1, b2, b3⟩ := lp_inv (B := B_X12_push_142 (nI v) (nI a) (nI s))
    (fun m X => ∃ (n' o : Nat) (t2 : St), X = (nI n', nI o, t2) ∧ o + m = V ∧ SM nn V (fun i k => ¬ W i k = -1) v t t2 n' a ∧ CV nn V (fun i k => ¬ W i k = -1) v t2 ∧ t2.2.1 1253 a = nI s ∧ ¬ t2.2.1 1251 s = -1 ∧ n ≤ n' ∧ ∀ i, i < o → ¬ (t.2.1 1250 (20 * i + s)).toInt = 0 → visV (fun i => i = v) (t2.2.1 1252) i)
    (fun Y => ∃ (n' : Nat) (t2 : St), Y = (nI n', t2) ∧ SM nn V (fun i k => ¬ W i k = -1) v t t2 n' (a + 1) ∧ CV nn V (fun i k => ¬ W i k = -1) v t2 ∧ n ≤ n') (by
      rintro m _ ⟨n', o, t2, rfl, hom, hE2, hC2, hq2, hs2, hn2, hk⟩
      have hE0 := hE2
      obtain ⟨q1, q2, q3, q4⟩ := hE2
      have i1 : t2.1 1212 = nI V := by rw [q1.1.i (k := 1212) rfl, iV]
      by_cases e : o = V
      · right
        subst e
        refine ⟨(nI n', t2), ?_, n', t2, rfl, ⟨q1, q2, q3, fun b hb k hk2 hqb => ?_⟩, hC2, hn2⟩
        · unfold B_X12_push_142
          dsimp only
          rw [i1, if_pos (Int32.le_refl _)]
        · by_cases e2 : b = a
          · rw [e2, hq2] at hqb
            have : k = s := ((nI_eq (by omega) (by omega)).mp hqb).symm
            rw [this]
            exact ⟨hL, hk⟩
          · exact q4 b (by omega) k hk2 hqb
      · left
        have h9 : ¬ nI V ≤ nI o := by
          rw [i32_le, nI_toInt (by omega), nI_toInt (by omega)]
          omega
        have hoV : o < V := by omega
        have stay : (¬ (t.2.1 1250 (20 * o + s)).toInt = 0 → visV (fun i => i = v) (t2.2.1 1252) o) → ∀ i, i < o + 1 → ¬ (t.2.1 1250 (20 * i + s)).toInt = 0 → visV (fun i => i = v) (t2.2.1 1252) i := by
          intro h0 i hi
          by_cases e2 : i = o
          · rw [e2]; exact h0
          · exact hk i (by omega)
        have skip : ∀ x, x = (some (.inl (nI n', nI o + 1, t2)) : Option ((Int32 × Int32 × St) ⊕ (Int32 × St))) → (¬ (t.2.1 1250 (20 * o + s)).toInt = 0 → visV (fun i => i = v) (t2.2.1 1252) o) → ∃ x' j', x = some (.inl x') ∧ j' < m ∧ ∃ (n' o : Nat) (t2 : St), x' = (nI n', nI o, t2) ∧ o + j' = V ∧ SM nn V (fun i k => ¬ W i k = -1) v t t2 n' a ∧ CV nn V (fun i k => ¬ W i k = -1) v t2 ∧ t2.2.1 1253 a = nI s ∧ ¬ t2.2.1 1251 s = -1 ∧ n ≤ n' ∧ ∀ i, i < o → ¬ (t.2.1 1250 (20 * i + s)).toInt = 0 → visV (fun i => i = v) (t2.2.1 1252) i := by
          intro x hx h0
          exact ⟨_, m - 1, hx, by omega, n', o + 1, t2, by rw [nI_1], by omega, hE0, hC2, hq2, hs2, hn2, stay h0⟩
        by_cases d0 : o = v
        · refine skip _ ?_ (fun _ => Or.inl d0)
          unfold B_X12_push_142
          dsimp only
          rw [i1, if_neg h9, d0, if_pos rfl]
          rfl
        have d0' : ¬ nI o = nI v := fun z => d0 ((nI_eq (by omega) (by omega)).mp z)
        have k1 : rd t2 1252 24 (nI o) = some (t2.2.1 1252 o) := rd_nI (by omega) (by omega)
        have ix : 20 * nI o + nI s = nI (20 * o + s) := idxN2 (k := 20) (by omega) (by omega) (by omega)
        have k2 : rd t2 1250 480 (nI (20 * o + s)) = some (t.2.1 1250 (20 * o + s)) := by rw [rd_nI (by omega) (by omega), q1.2.2.2.2]
        by_cases d1 : t2.2.1 1252 o = -1
        · by_cases d2 : t.2.1 1250 (20 * o + s) = 0
          · refine skip _ ?_ (fun z => absurd (by rw [d2]; rfl) z)
            unfold B_X12_push_142
            dsimp only
            rw [i1, if_neg h9, if_neg d0', k1, bind_some, if_pos d1, ix, k2, bind_some, if_pos d2]
            rfl
          · have hSp : 0 < (t.2.1 1250 (20 * o + s)).toInt := by
              have h1 := hS o hoV s hs
              have h2 : ¬ (t.2.1 1250 (20 * o + s)).toInt = 0 := fun z => d2 (Int32.toInt_inj.mp (z.trans e0.symm))
              omega
            obtain ⟨u1, u2⟩ := T3_village q3 hs hnn hs2 (rt := fun i => i = v) d0 d1 hSp
            have s3e : ∃ s3, wr t2 1252 24 (nI o) (nI s) = some s3 ∧ QT t2 s3 ∧ s3.2.1 1251 = t2.2.1 1251 ∧ s3.2.1 1252 = upd (t2.2.1 1252) o (nI s) ∧ s3.2.1 1253 = t2.2.1 1253 := ⟨_, wr_nI (by omega) (by omega), ⟨SS_sA _ _ _ rfl, rfl, rfl, rfl, rfl⟩, rfl, sA_at _ _ _ _, rfl⟩
            obtain ⟨s3, a1, a2, a3, a4, a5⟩ := s3e
            have hE3 : SM nn V (fun i k => ¬ W i k = -1) v t s3 n' a := ⟨q1.trans a2, by rw [a3, a5]; exact q2, by rw [a3, a4]; exact u1, fun b hb k hk2 hqb => by
              rw [a5] at hqb
              obtain ⟨x1, x2⟩ := q4 b hb k hk2 hqb
              exact ⟨x1, fun i hi hz => by rw [a4]; exact u2 i (x2 i hi hz)⟩⟩
            have hvo : visV (fun i => i = v) (s3.2.1 1252) o := by
              rw [a4]
              refine Or.inr ?_
              rw [upd_at]
              exact nI_neg1 (by omega)
            have han' : a ≤ n' := by omega
            obtain ⟨n2, t4, f1, f2, f3, f4, f5, f6, f7⟩ := M_expand hnn hV iN hG hoV hE3 hvo han' (nI v) (nI a) (nI s)
            refine ⟨(nI n2, nI (o + 1), t4), m - 1, ?_, by omega, n2, o + 1, t4, rfl, by omega, f2, fun i hi hvi k hk2 hok => ?_, by rw [f5 a (by omega), a5]; exact hq2, f4 s (by rw [a3]; exact hs2), by omega, fun i hi hz => ?_⟩
            · unfold B_X12_push_142
              dsimp only
              rw [i1, if_neg h9, if_neg d0', k1, bind_some, if_pos d1, ix, k2, bind_some, if_neg d2, a1, bind_some]
              unfold F_X12_push_199
              rw [f1, bind_some]
              unfold F_X12_push_261
              rw [nI_1]
            · rw [f3, a4] at hvi
              by_cases e2 : i = o
              · rw [e2] at hok
                exact f7 k hk2 hok
              · have hvi2 : visV (fun i => i = v) (t2.2.1 1252) i := by
                  unfold visV at hvi ⊢
                  rw [upd_ne _ _ e2] at hvi
                  exact hvi
                exact f4 k (by rw [a3]; exact hC2 i hi hvi2 k hk2 hok)
            · rw [f3]
              by_cases e2 : i = o
              · rw [e2]; exact hvo
              · rw [a4]
                exact u2 i (hk i (by omega) hz)
        · refine skip _ ?_ (fun _ => Or.inr d1)
          unfold B_X12_push_142
          dsimp only
          rw [i1, if_neg h9, if_neg d0', k1, bind_some, if_neg d1]
          rfl) FU V (nI n, 0, t1) ⟨n, 0, t1, rfl, by omega, hE, hC, hqa, hsv, Nat.le_refl _, fun i hi => absurd hi (by omega)⟩ (FU_lt (by omega))
  exact ⟨n', t2, by
    unfold F_X12_push_142
    rw [h1, bind_some]
    unfold F_X12_push_267
    rw [nI_1], b1, b2, b3⟩
