/-! what is paid -/
noncomputable def payB (s t : St) (y q : Int32) (j l : Nat) : Bool := decide (¬ wq s t 5 0 y q (nI l) 0 (nI j) 0 = 0)
theorem payB_ss {N : Int} {s t s' t' : St} (h : RX N s t) (e1 : SS s s') (e2 : SS t t') (y q : Int32) (j l : Nat) : payB s' t' y q j l = payB s t y q j l := by
  unfold payB
  rw [wq_ss h e1 e2]
theorem bits_step {r r2 : Int32} {n : Nat} {b : Nat → Bool} (hr : ∀ i, i < 32 → bt r i = (decide (i < n) && b i)) (h2 : ∀ i, i < 32 → bt r2 i = (bt r i || (b n && decide (i = n)))) : ∀ i, i < 32 → bt r2 i = (decide (i < n + 1) && b i) := by
  intro i hi
  rw [h2 i hi, hr i hi]
  by_cases e : i = n
  · subst e
    simp
  · have : decide (i < n + 1) = decide (i < n) := by
      by_cases e2 : i < n
      · rw [decide_eq_true e2, decide_eq_true (by omega)]
      · rw [decide_eq_false e2, decide_eq_false (by omega)]
    rw [this, decide_eq_false e]
    simp
theorem C_ask_in {N : Int} {s t : St} (h : RX N s t) {L : Nat} (eL : t.1 1296 = nI L) (hL : L ≤ 4) (y q : Int32) {j : Nat} (hj : j < 8) {s0 : St} (h0 : SS s s0) (hz : s0.2.1 305 j = 0) : ∃ s', lp (B_X3_ask_18 y q (nI j)) FU (0, s0) = some s' ∧ SS s s' ∧ (∀ k, k ≠ j → s'.2.1 305 k = s0.2.1 305 k) ∧ ∀ i, i < 32 → bt (s'.2.1 305 j) i = (decide (i < L) && payB s t y q j i) := by
  obtain ⟨p0, p1, _⟩ := h.purse
  have e0 : (0 : Int32).toInt = 0 := rfl
  refine lp_inv (B := B_X3_ask_18 y q (nI j))
    (fun m X => ∃ (n : Nat) (s' : St), X = (nI n, s') ∧ n + m = L ∧ SS s s' ∧ (∀ k, k ≠ j → s'.2.1 305 k = s0.2.1 305 k) ∧ ∀ i, i < 32 → bt (s'.2.1 305 j) i = (decide (i < n) && payB s t y q j i))
    (fun s' => SS s s' ∧ (∀ k, k ≠ j → s'.2.1 305 k = s0.2.1 305 k) ∧ ∀ i, i < 32 → bt (s'.2.1 305 j) i = (decide (i < L) && payB s t y q j i)) (by
      rintro m _ ⟨n, s', rfl, hn, hs, hk, hb⟩
      have i1 : s'.1 301 = nI L := by rw [hs.i (k := 301) rfl, p0, eL]
      by_cases c : n = L
      · right
        subst c
        refine ⟨s', ?_, hs, hk, hb⟩
        unfold B_X3_ask_18
        dsimp only
        rw [i1, if_pos (Int32.le_refl _)]
      · left
        have h9 : ¬ nI L ≤ nI n := by
          rw [i32_le, nI_toInt (by omega), nI_toInt (by omega)]
          omega
        obtain ⟨s3, t3, l, f, l2, g, x, p, v, a1, a2, a3, a4, _⟩ := askS (h.ss hs (SS.refl t)) (k := 5) (by omega) (shire := 0) (year := y) (q := q) (a := nI n) (b := 0) (c := nI j) (d := 0) (by omega)
        rw [wq_ss h hs (SS.refl t)] at a3
        have a3' : F_X0_worthOf 5 0 y q 0 s3 = some (wq s t 5 0 y q (nI n) 0 (nI j) 0, CL s' l f x) := a3
        by_cases d : wq s t 5 0 y q (nI n) 0 (nI j) 0 = 0
        · have hp : payB s t y q j n = false := decide_eq_false (fun e => e d)
          refine ⟨(nI (n + 1), CL s' l f x), m - 1, ?_, by omega, n + 1, _, rfl, by omega, hs.trans (SS_CL _ _ _ _), hk, bits_step (b := fun i => payB s t y q j i) hb (fun i hi => ?_)⟩
          · unfold B_X3_ask_18
            dsimp only
            rw [i1, if_neg h9, a1, bind_some, a3', bind_some, if_pos d, nI_1]
          · show bt (s'.2.1 305 j) i = _
            rw [hp]
            simp
        · have hp : payB s t y q j n = true := decide_eq_true d
          have a9 : (sA (CL s' l f x) 305 j (s'.2.1 305 j ||| (1 <<< (nI n &&& 31)))).2.1 305 = upd (s'.2.1 305) j (s'.2.1 305 j ||| (1 <<< (nI n &&& 31))) := sA_at _ _ _ _
          have k1 : rd (CL s' l f x) 305 8 (nI j) = some (s'.2.1 305 j) := rd_nI hj (by omega)
          refine ⟨(nI (n + 1), sA (CL s' l f x) 305 j (s'.2.1 305 j ||| (1 <<< (nI n &&& 31)))), m - 1, ?_, by omega, n + 1, _, rfl, by omega, hs.trans ((SS_CL _ _ _ _).trans (SS_sA _ _ _ rfl)), fun k hk2 => ?_, bits_step (b := fun i => payB s t y q j i) hb (fun i hi => ?_)⟩
          · unfold B_X3_ask_18
            dsimp only
            rw [i1, if_neg h9, a1, bind_some, a3', bind_some, if_neg d, k1, bind_some, wr_nI hj (by omega), bind_some, nI_1]
          · rw [a9, upd_ne _ _ hk2]
            exact hk k hk2
          · rw [a9, upd_at, bt_on _ (by omega) hi, hp]
            simp) FU L (0, s0) ⟨0, s0, rfl, by omega, h0, fun _ _ => rfl, fun i hi => by rw [hz, b_0]; simp⟩ (FU_lt (by omega))
theorem C_ask {N : Int} {s t : St} (h : RX N s t) {L : Nat} (eL : t.1 1296 = nI L) (hL : L ≤ 4) (y q : Int32) : ∃ s', F_X3_ask y q s = some s' ∧ SS s s' ∧ ∀ j, j < 8 → ∀ i, i < 32 → bt (s'.2.1 305 j) i = (decide (i < L) && payB s t y q j i) := by
  have e8 : (8 : Int32).toInt = 8 := rfl
  obtain ⟨s', h1, h2⟩ := lp_inv (B := B_X3_ask_2 y q)
    (fun m X => ∃ (n : Nat) (s' : St), X = (nI n, s') ∧ n + m = 8 ∧ SS s s' ∧ ∀ j, j < n → ∀ i, i < 32 → bt (s'.2.1 305 j) i = (decide (i < L) && payB s t y q j i))
    (fun s' => SS s s' ∧ ∀ j, j < 8 → ∀ i, i < 32 → bt (s'.2.1 305 j) i = (decide (i < L) && payB s t y q j i)) (by
      rintro m _ ⟨n, s', rfl, hn, hs, hb⟩
      by_cases c : n = 8
      · right
        subst c
        refine ⟨s', ?_, hs, hb⟩
        unfold B_X3_ask_2
        dsimp only
        exact if_pos (by decide)
      · left
        have h9 : ¬ (8 : Int32) ≤ nI n := by
          rw [i32_le, nI_toInt (by omega)]
          omega
        have a9 : (sA s' 305 n 0).2.1 305 = upd (s'.2.1 305) n 0 := sA_at _ _ _ _
        obtain ⟨s2, g1, g2, g3, g4⟩ := C_ask_in h eL hL y q (j := n) (by omega) (s0 := sA s' 305 n 0) (hs.trans (SS_sA _ _ _ rfl)) (by rw [a9, upd_at])
        refine ⟨(nI (n + 1), s2), m - 1, ?_, by omega, n + 1, s2, rfl, by omega, g2, fun j hj => ?_⟩
        · unfold B_X3_ask_2
          dsimp only
          rw [if_neg h9, wr_nI (by omega) (by omega), bind_some]
          unfold F_X3_ask_18
          rw [g1, bind_some]
          unfold F_X3_ask_73
          rw [nI_1]
        · by_cases e : j = n
          · rw [e]; exact g4
          · rw [g3 j e, a9, upd_ne _ _ e]
            exact hb j (by omega)) FU 8 (0, s) ⟨0, s, rfl, by omega, SS.refl s, fun j hj => absurd hj (by omega)⟩ (FU_lt (by omega))
  refine ⟨s', ?_, h2⟩
  unfold F_X3_ask F_X3_ask_2
  rw [h1]
  rfl
theorem M_payers {N : Int} {s t t0 : St} (h : RX N s t) (h0 : SS t t0) {L : Nat} (eL : t.1 1296 = nI L) (hL : L ≤ 4) (y : Int32) {j : Nat} (hj : j < 8) : ∃ r t', F_X12_payers (nI j) y t0 = some (r, t') ∧ SS t t' ∧ ∀ i, i < 32 → bt r i = (decide (i < L) && payB s t y (t.1 1200) j i) := by
  have e0 : (0 : Int32).toInt = 0 := rfl
  obtain ⟨Y, h1, r, t', rfl, h2, h3⟩ := lp_inv (B := B_X12_payers_5 (nI j) y)
    (fun m X => ∃ (n : Nat) (r : Int32) (t' : St), X = (r, nI n, t') ∧ n + m = L ∧ SS t t' ∧ ∀ i, i < 32 → bt r i = (decide (i < n) && payB s t y (t.1 1200) j i))
    (fun Y => ∃ (r : Int32) (t' : St), Y = (r, t') ∧ SS t t' ∧ ∀ i, i < 32 → bt r i = (decide (i < L) && payB s t y (t.1 1200) j i)) (by
      rintro m _ ⟨n, r, t', rfl, hn, hs, hb⟩
      have i1 : t'.1 1296 = nI L := by rw [hs.i (k := 1296) rfl, eL]
      by_cases c : n = L
      · right
        subst c
        refine ⟨(r, t'), ?_, r, t', rfl, hs, hb⟩
        unfold B_X12_payers_5
        dsimp only
        rw [i1, if_pos (Int32.le_refl _)]
      · left
        have h9 : ¬ nI L ≤ nI n := by
          rw [i32_le, nI_toInt (by omega), nI_toInt (by omega)]
          omega
        obtain ⟨s3, t3, l, f, l2, g, x, p, v, a1, a2, a3, a4, _, ⟨l0, g0, p0, w0, a5⟩, _⟩ := askS (h.ss (SS.refl s) hs) (k := 5) (by omega) (shire := 0) (year := y) (q := t.1 1200) (a := nI n) (b := 0) (c := nI j) (d := 0) (by omega)
        rw [wq_ss h (SS.refl s) hs] at a4
        have a4' : F_X12_worthOf 0 y (t.1 1200) 99 t3 = some (wq s t 5 0 y (t.1 1200) (nI n) 0 (nI j) 0, ML t' l2 g p v) := a4
        have i2 : t3.1 1200 = t.1 1200 := by rw [a5]; exact hs.i (k := 1200) rfl
        by_cases d : wq s t 5 0 y (t.1 1200) (nI n) 0 (nI j) 0 = 0
        · have hp : payB s t y (t.1 1200) j n = false := decide_eq_false (fun e => e d)
          refine ⟨(r ||| 0, nI (n + 1), ML t' l2 g p v), m - 1, ?_, by omega, n + 1, _, _, rfl, by omega, hs.trans (SS_ML _ _ _ _ _), bits_step (b := fun i => payB s t y (t.1 1200) j i) hb (fun i hi => ?_)⟩
          · unfold B_X12_payers_5
            dsimp only
            rw [i1, if_neg h9, a2, bind_some, i2, a4', bind_some, if_pos d, nI_1]
          · rw [hp, b_or, b_0]
            simp
        · have hp : payB s t y (t.1 1200) j n = true := decide_eq_true d
          refine ⟨(r ||| (1 <<< (nI n &&& 31)), nI (n + 1), ML t' l2 g p v), m - 1, ?_, by omega, n + 1, _, _, rfl, by omega, hs.trans (SS_ML _ _ _ _ _), bits_step (b := fun i => payB s t y (t.1 1200) j i) hb (fun i hi => ?_)⟩
          · unfold B_X12_payers_5
            dsimp only
            rw [i1, if_neg h9, a2, bind_some, i2, a4', bind_some, if_neg d, nI_1]
          · rw [bt_on _ (by omega) hi, hp]
            simp) FU L (0, 0, t0) ⟨0, 0, t0, rfl, by omega, h0, fun i hi => by rw [b_0]; simp⟩ (FU_lt (by omega))
  refine ⟨r, t', ?_, h2, h3⟩
  unfold F_X12_payers F_X12_payers_5
  rw [h1]
  rfl
/-! sums by sorts, sums by bills -/
def suS (Z : Nat → Bool) (O : Nat → Int32) : Nat → Int32
  | 0 => 0
  | k + 1 => suS Z O k + if Z k = true then O k else 0
def suB (Z : Nat → Bool) (f g : Nat → Int32) : Nat → Int32
  | 0 => 0
  | n + 1 => suB Z f g n + if Z (f n).toInt.toNat = true then g n else 0
theorem suS_add (Z : Nat → Bool) (O P : Nat → Int32) : ∀ k, suS Z (fun j => O j + P j) k = suS Z O k + suS Z P k
  | 0 => (Int32.add_zero 0).symm
  | k + 1 => by
    unfold suS
    rw [suS_add Z O P k]
    by_cases c : Z k = true
    · rw [if_pos c, if_pos c, if_pos c]
      rw [Int32.add_assoc, Int32.add_assoc, ← Int32.add_assoc (suS Z P k), Int32.add_comm (suS Z P k) (O k), Int32.add_assoc]
    · rw [if_neg c, if_neg c, if_neg c, Int32.add_zero, Int32.add_zero, Int32.add_zero]
theorem suS_one (Z : Nat → Bool) (v : Int32) {i : Nat} (hi : i < 2 ^ 31) : ∀ k, k < 2 ^ 31 → suS Z (fun j => if nI i = nI j then v else 0) k = if i < k ∧ Z i = true then v else 0
  | 0, _ => by
    rw [if_neg (fun e => absurd e.1 (by omega))]
    rfl
  | k + 1, hk => by
    unfold suS
    rw [suS_one Z v hi k (by omega)]
    by_cases e : i = k
    · subst e
      rw [if_neg (fun e => absurd e.1 (by omega)), Int32.zero_add, if_pos rfl]
      by_cases c : Z i = true
      · rw [if_pos c, if_pos ⟨by omega, c⟩]
      · rw [if_neg c, if_neg (fun e => c e.2)]
    · have e' : ¬ nI i = nI k := fun z => e ((nI_eq hi (by omega)).mp z)
      rw [if_neg e', ite_self, Int32.add_zero]
      by_cases c : i < k ∧ Z i = true
      · rw [if_pos c, if_pos ⟨by omega, c.2⟩]
      · rw [if_neg c, if_neg (fun d => c ⟨by omega, d.2⟩)]
theorem suS_0 (Z : Nat → Bool) : ∀ k, suS Z (fun _ => 0) k = 0
  | 0 => rfl
  | k + 1 => by
    unfold suS
    rw [suS_0 Z k, ite_self, Int32.add_zero]
theorem suS_owd (Z : Nat → Bool) {f g : Nat → Int32} (hf : ∀ j, inR (f j) 0 7) : ∀ n, suS Z (fun j => owd f g (nI j) n) 8 = suB Z f g n
  | 0 => suS_0 Z 8
  | n + 1 => by
    obtain ⟨i, ei, ei2, _⟩ := i32_nat (hf n).1
    have hi := (hf n).2
    have e : (fun j => owd f g (nI j) (n + 1)) = fun j => owd f g (nI j) n + if nI i = nI j then g n else 0 := by
      funext j
      rw [← ei]
      rfl
    rw [e, suS_add, suS_owd Z hf n, suS_one Z (g n) (by omega) 8 (by omega)]
    have e2 : (f n).toInt.toNat = i := by omega
    have e3 : suB Z f g (n + 1) = suB Z f g n + if Z (f n).toInt.toNat = true then g n else 0 := rfl
    rw [e3, e2]
    by_cases c : Z i = true
    · rw [if_pos c, if_pos ⟨by omega, c⟩]
    · rw [if_neg c, if_neg (fun d => c d.2)]
theorem suS_cong {Z : Nat → Bool} {O P : Nat → Int32} : ∀ {k : Nat}, (∀ j, j < k → O j = P j) → suS Z O k = suS Z P k
  | 0, _ => rfl
  | k + 1, h => by
    unfold suS
    rw [suS_cong (fun j hj => h j (by omega)), h k (by omega)]
theorem M_nobody {N : Int} {s t : St} (h : RX N s t) {L : Nat} (eL : t.1 1296 = nI L) (hL : L ≤ 4) (y v2 : Int32) {P : Nat → Int32} (hP : ∀ j, j < 8 → ∀ i, i < 32 → bt (P j) i = (decide (i < L) && payB s t y (t.1 1200) j i)) : ∃ t', lp (B_X12_paid_23 y v2) FU (0, 0, t) = some (suB (fun j => decide (P j = 0)) (t.2.1 1294) (t.2.1 1295) (t.1 1297).toInt.toNat, t') ∧ SS t t' := by
  obtain ⟨p0, p1, p2, p3, p4, p5, p6, p7, p8⟩ := h.purse
  obtain ⟨n, en, en2, _⟩ := i32_nat p4.1
  have hn : n ≤ 40 := by have := p4.2; omega
  have en3 : (t.1 1297).toInt.toNat = n := by omega
  obtain ⟨Y, h1, t', rfl, h2⟩ := lp_inv (B := B_X12_paid_23 y v2)
    (fun m X => ∃ (i : Nat) (t' : St), X = (suB (fun j => decide (P j = 0)) (t.2.1 1294) (t.2.1 1295) i, nI i, t') ∧ i + m = n ∧ SS t t')
    (fun Y => ∃ t', Y = (suB (fun j => decide (P j = 0)) (t.2.1 1294) (t.2.1 1295) n, t') ∧ SS t t') (by
      rintro m _ ⟨i, t', rfl, hi, hs⟩
      have i1 : t'.1 1297 = nI n := by rw [hs.i (k := 1297) rfl, en]
      by_cases c : i = n
      · right
        subst c
        refine ⟨(_, t'), ?_, t', rfl, hs⟩
        unfold B_X12_paid_23
        dsimp only
        rw [i1, if_pos (Int32.le_refl _)]
      · left
        have h9 : ¬ nI n ≤ nI i := by
          rw [i32_le, nI_toInt (by omega), nI_toInt (by omega)]
          omega
        obtain ⟨j, ej, ej2, _⟩ := i32_nat (p5 i).1
        have hj : j < 8 := by have := (p5 i).2; omega
        obtain ⟨r, t2, g1, g2, g3⟩ := M_payers h hs eL hL y hj
        have er : r = P j := b_ext (fun k hk => by rw [g3 k hk, hP j hj k hk])
        have k1 : rd t' 1294 40 (nI i) = some (nI j) := by rw [rd_nI (by omega) (by omega), hs.a (k := 1294) rfl, ej]
        have k2 : rd t2 1295 40 (nI i) = some (t.2.1 1295 i) := by rw [rd_nI (by omega) (by omega), g2.a (k := 1295) rfl]
        have e2 : (t.2.1 1294 i).toInt.toNat = j := by omega
        refine ⟨(suB (fun j => decide (P j = 0)) (t.2.1 1294) (t.2.1 1295) (i + 1), nI (i + 1), t2), m - 1, ?_, by omega, i + 1, t2, rfl, by omega, g2⟩
        unfold B_X12_paid_23
        dsimp only
        rw [i1, if_neg h9, k1, bind_some, g1, bind_some, er]
        by_cases d : P j = 0
        · rw [if_pos d, k2, bind_some, nI_1]
          simp only [suB, e2, d, decide_true, if_true]
        · rw [if_neg d, nI_1]
          simp only [suB, e2, d, decide_false, Bool.false_eq_true, if_false]) FU n (0, 0, t) ⟨0, t, rfl, by omega, SS.refl t⟩ (FU_lt (by omega))
  rw [en3]
  exact ⟨t', h1, h2⟩
theorem M_owed {N : Int} {s t t0 : St} (h : RX N s t) (h0 : SS t t0) {L : Nat} (eL : t.1 1296 = nI L) (hL : L ≤ 4) (y v4 cut A : Int32) {P : Nat → Int32} (hP : ∀ j, j < 8 → ∀ i, i < 32 → bt (P j) i = (decide (i < L) && payB s t y (t.1 1200) j i)) : ∃ t', lp (B_X12_paid_142 y v4 cut) FU (A, 0, t0) = some (A + suB (fun j => decide (¬ P j &&& (cut ^^^ (-1)) = 0)) (t.2.1 1294) (t.2.1 1295) (t.1 1297).toInt.toNat, t') ∧ SS t t' := by
  obtain ⟨p0, p1, p2, p3, p4, p5, p6, p7, p8⟩ := h.purse
  obtain ⟨n, en, en2, _⟩ := i32_nat p4.1
  have hn : n ≤ 40 := by have := p4.2; omega
  have en3 : (t.1 1297).toInt.toNat = n := by omega
  obtain ⟨Y, h1, t', rfl, h2⟩ := lp_inv (B := B_X12_paid_142 y v4 cut)
    (fun m X => ∃ (i : Nat) (t' : St), X = (A + suB (fun j => decide (¬ P j &&& (cut ^^^ (-1)) = 0)) (t.2.1 1294) (t.2.1 1295) i, nI i, t') ∧ i + m = n ∧ SS t t')
    (fun Y => ∃ t', Y = (A + suB (fun j => decide (¬ P j &&& (cut ^^^ (-1)) = 0)) (t.2.1 1294) (t.2.1 1295) n, t') ∧ SS t t') (by
      rintro m _ ⟨i, t', rfl, hi, hs⟩
      have i1 : t'.1 1297 = nI n := by rw [hs.i (k := 1297) rfl, en]
      by_cases c : i = n
      · right
        subst c
        refine ⟨(_, t'), ?_, t', rfl, hs⟩
        unfold B_X12_paid_142
        dsimp only
        rw [i1, if_pos (Int32.le_refl _)]
      · left
        have h9 : ¬ nI n ≤ nI i := by
          rw [i32_le, nI_toInt (by omega), nI_toInt (by omega)]
          omega
        obtain ⟨j, ej, ej2, _⟩ := i32_nat (p5 i).1
        have hj : j < 8 := by have := (p5 i).2; omega
        obtain ⟨r, t2, g1, g2, g3⟩ := M_payers h hs eL hL y hj
        have er : r = P j := b_ext (fun k hk => by rw [g3 k hk, hP j hj k hk])
        have k1 : rd t' 1294 40 (nI i) = some (nI j) := by rw [rd_nI (by omega) (by omega), hs.a (k := 1294) rfl, ej]
        have k2 : rd t2 1295 40 (nI i) = some (t.2.1 1295 i) := by rw [rd_nI (by omega) (by omega), g2.a (k := 1295) rfl]
        have e2 : (t.2.1 1294 i).toInt.toNat = j := by omega
        refine ⟨(A + suB (fun j => decide (¬ P j &&& (cut ^^^ (-1)) = 0)) (t.2.1 1294) (t.2.1 1295) (i + 1), nI (i + 1), t2), m - 1, ?_, by omega, i + 1, t2, rfl, by omega, g2⟩
        unfold B_X12_paid_142
        dsimp only
        rw [i1, if_neg h9, k1, bind_some, g1, bind_some, er]
        by_cases d : P j &&& (cut ^^^ (-1)) = 0
        · rw [if_pos d, nI_1]
          simp only [suB, e2, d, not_true_eq_false, decide_false, Bool.false_eq_true, if_false, Int32.add_zero]
        · rw [if_neg d, k2, bind_some, nI_1]
          simp only [suB, e2, d, not_false_eq_true, decide_true, if_true, Int32.add_assoc]) FU n (A, 0, t0) ⟨0, t0, by show _ = (A + 0, _); rw [Int32.add_zero]; rfl, by omega, h0⟩ (FU_lt (by omega))
  rw [en3]
  exact ⟨t', h1, h2⟩
theorem C_nobody {s : St} : lp (B_X3_paidByNobody_4 s) FU (0, 0) = some (suS (fun j => decide (s.2.1 305 j = 0)) (s.2.1 304) 8) := by
  have e8 : (8 : Int32).toInt = 8 := rfl
  refine lp_cnt (fun m => (suS (fun j => decide (s.2.1 305 j = 0)) (s.2.1 304) m, nI m)) 8 rfl ?_ ?_ (FU_lt (by omega))
  · intro m hm
    have h9 : ¬ (8 : Int32) ≤ nI m := by
      rw [i32_le, nI_toInt (by omega)]
      omega
    unfold B_X3_paidByNobody_4
    dsimp only
    rw [if_neg h9, rd_nI (by omega) (by omega), bind_some]
    by_cases d : s.2.1 305 m = 0
    · rw [if_pos d, rd_nI (by omega) (by omega), bind_some, nI_1]
      simp only [suS, d, decide_true, if_true]
    · rw [if_neg d, nI_1]
      simp only [suS, d, decide_false, Bool.false_eq_true, if_false]
  · unfold B_X3_paidByNobody_4
    dsimp only
    exact if_pos (by decide)
theorem C_owed {s : St} (v1 cut A : Int32) : lp (B_X3_mostPaid_61 v1 cut s) FU (A, 0) = some (A + suS (fun j => decide (¬ s.2.1 305 j &&& (cut ^^^ (-1)) = 0)) (s.2.1 304) 8) := by
  have e8 : (8 : Int32).toInt = 8 := rfl
  refine lp_cnt (fun m => (A + suS (fun j => decide (¬ s.2.1 305 j &&& (cut ^^^ (-1)) = 0)) (s.2.1 304) m, nI m)) 8 (by show _ = (A + 0, _); rw [Int32.add_zero]; rfl) ?_ ?_ (FU_lt (by omega))
  · intro m hm
    have h9 : ¬ (8 : Int32) ≤ nI m := by
      rw [i32_le, nI_toInt (by omega)]
      omega
    unfold B_X3_mostPaid_61
    dsimp only
    rw [if_neg h9, rd_nI (by omega) (by omega), bind_some]
    by_cases d : s.2.1 305 m &&& (cut ^^^ (-1)) = 0
    · rw [if_pos d, nI_1]
      simp only [suS, d, not_true_eq_false, decide_false, Bool.false_eq_true, if_false, Int32.add_zero]
    · rw [if_neg d, rd_nI (by omega) (by omega), bind_some, nI_1]
      simp only [suS, d, not_false_eq_true, decide_true, if_true, Int32.add_assoc]
  · unfold B_X3_mostPaid_61
    dsimp only
    exact if_pos (by decide)
theorem lend_two {s t : St} (h1 : s.1 301 = t.1 1296) (h2 : s.2.1 302 = t.2.1 1293) {L : Nat} (eL : t.1 1296 = nI L) (hL : L ≤ 4) (y v v' cut : Int32) : ∃ A, lp (B_X3_mostPaid_19 v cut s) FU (0, 0) = some A ∧ lp (B_X12_paid_97 y v' cut t) FU (0, 0) = some A := by
  have hB : B_X3_mostPaid_19 v cut s = B_X12_paid_97 y v' cut t := by
    funext x
    unfold B_X3_mostPaid_19 B_X12_paid_97
    dsimp only
    rw [h1, rd_same h2]
  rw [hB]
  obtain ⟨A, h3, _⟩ := lp_inv (B := B_X12_paid_97 y v' cut t) (fun m X => ∃ (i : Nat) (a : Int32), X = (a, nI i) ∧ i + m = L) (fun _ => True) (by
    rintro m _ ⟨i, a, rfl, hi⟩
    by_cases c : i = L
    · right
      refine ⟨a, ?_, trivial⟩
      unfold B_X12_paid_97
      dsimp only
      rw [eL, c, if_pos (Int32.le_refl _)]
    · left
      have h9 : ¬ nI L ≤ nI i := by
        rw [i32_le, nI_toInt (by omega), nI_toInt (by omega)]
        omega
      by_cases d : (cut >>> (nI i &&& 31)) &&& 1 = 1
      · refine ⟨(a + t.2.1 1293 i, nI (i + 1)), m - 1, ?_, by omega, i + 1, _, rfl, by omega⟩
        unfold B_X12_paid_97
        dsimp only
        rw [eL, if_neg h9, if_pos d, rd_nI (by omega) (by omega), bind_some, nI_1]
      · refine ⟨(a + 0, nI (i + 1)), m - 1, ?_, by omega, i + 1, _, rfl, by omega⟩
        unfold B_X12_paid_97
        dsimp only
        rw [eL, if_neg h9, if_neg d, nI_1]) FU L (0, 0) ⟨0, 0, rfl, by omega⟩ (FU_lt (by omega))
  exact ⟨A, h3, h3⟩
theorem P_paid {N : Int} {s t : St} (h : RX N s t) (a b : Int32) : Two (RX (N + 1)) (F_X11_paid a b s) (F_X12_paid a b t) := by
  obtain ⟨p0, p1, p2, p3, p4, p5, p6, p7, p8⟩ := h.purse
  obtain ⟨L, eL, eL2, _⟩ := i32_nat p1.1
  have hL : L ≤ 4 := by have := p1.2; omega
  unfold F_X11_paid F_X12_paid
  refine Two_ite (fun _ => Two_ret _ h.up) (fun c1 => ?_)
  refine Two_ite (fun _ => Two_ret _ h.up) (fun c2 => ?_)
  rw [h.now.1]
  obtain ⟨s1, a1, a2, a3⟩ := C_ask h eL hL a (t.1 1200)
  obtain ⟨t1, b1, b2⟩ := M_nobody h eL hL a b a3
  have hO : ∀ Z : Nat → Bool, suS Z (s1.2.1 304) 8 = suB Z (t.2.1 1294) (t.2.1 1295) (t.1 1297).toInt.toNat := by
    intro Z
    rw [← suS_owd Z p5, a2.a (k := 304) rfl]
    exact suS_cong (fun j hj => p8 j hj)
  rw [a1, bind_some]
  unfold F_X12_paid_23
  rw [b1, bind_some]
  unfold F_X12_paid_67
  have q2 := inb_R c2
  have e0 : (0 : Int32).toInt = 0 := rfl
  have e1 : (1 : Int32).toInt = 1 := rfl
  obtain ⟨q3, q4⟩ := q2
  by_cases c3 : b = 0
  · have c4 : ¬ b = 1 := fun e => by rw [c3] at e; exact absurd e (by decide)
    rw [if_pos c3, if_neg c4]
    unfold F_X3_mostPaid F_X3_mostPaid_4 F_X12_paid_80
    have i1 : s1.1 301 = nI L := by rw [a2.i (k := 301) rfl, p0, eL]
    have hK : ∃ K : Nat, (1 : Int32) <<< (nI L &&& 31) = nI K ∧ K ≤ 16 := by
      have : L = 0 ∨ L = 1 ∨ L = 2 ∨ L = 3 ∨ L = 4 := by omega
      rcases this with r | r | r | r | r <;> subst r
      · exact ⟨1, by decide, by omega⟩
      · exact ⟨2, by decide, by omega⟩
      · exact ⟨4, by decide, by omega⟩
      · exact ⟨8, by decide, by omega⟩
      · exact ⟨16, by decide, by omega⟩
    obtain ⟨K, eK, hK⟩ := hK
    obtain ⟨y, w, d1, d2, t2, rfl, d3⟩ := lp_two (B := B_X3_mostPaid_4 s1) (B2 := B_X12_paid_80 a)
      (fun m X Z => ∃ (n : Nat) (v : Int32) (t' : St), X = (v, nI n) ∧ Z = (v, nI n, t') ∧ n + m = K ∧ SS t t')
      (fun y w => ∃ t', w = (y, t') ∧ SS t t') (by
        rintro m _ _ ⟨n, v, t', rfl, rfl, hn, hs⟩
        have i2 : t'.1 1296 = nI L := by rw [hs.i (k := 1296) rfl, eL]
        by_cases c : n = K
        · right
          subst c
          refine ⟨v, (v, t'), ?_, ?_, t', rfl, hs⟩
          · unfold B_X3_mostPaid_4
            dsimp only
            rw [i1, eK, if_pos (Int32.le_refl _)]
          · unfold B_X12_paid_80
            dsimp only
            rw [i2, eK, if_pos (Int32.le_refl _)]
        · left
          have h9 : ¬ nI K ≤ nI n := by
            rw [i32_le, nI_toInt (by omega), nI_toInt (by omega)]
            omega
          obtain ⟨A, g1, g2⟩ := lend_two (s := s1) (t := t') (by rw [i1, i2]) (by rw [a2.a (k := 302) rfl, hs.a (k := 1293) rfl, p2]) i2 hL a v v (nI n)
          have g3 := C_owed (s := s1) v (nI n) A
          obtain ⟨t3, g4, g5⟩ := M_owed h hs eL hL a v (nI n) A a3
          rw [hO] at g3
          have hC : B_X3_mostPaid_4 s1 (v, nI n) = F_X3_mostPaid_102 v (nI n) (A + suB (fun j => decide (¬ s1.2.1 305 j &&& (nI n ^^^ (-1)) = 0)) (t.2.1 1294) (t.2.1 1295) (t.1 1297).toInt.toNat) s1 := by
            unfold B_X3_mostPaid_4
            dsimp only
            rw [i1, eK, if_neg h9]
            unfold F_X3_mostPaid_19
            rw [g1, bind_some]
            unfold F_X3_mostPaid_58 F_X3_mostPaid_61
            rw [g3, bind_some]
          have hM : B_X12_paid_80 a (v, nI n, t') = F_X12_paid_193 a v (nI n) (A + suB (fun j => decide (¬ s1.2.1 305 j &&& (nI n ^^^ (-1)) = 0)) (t.2.1 1294) (t.2.1 1295) (t.1 1297).toInt.toNat) t3 := by
            unfold B_X12_paid_80
            dsimp only
            rw [i2, eK, if_neg h9]
            unfold F_X12_paid_97
            rw [g2, bind_some]
            unfold F_X12_paid_139 F_X12_paid_142
            rw [g4, bind_some]
          rw [hC, hM]
          unfold F_X3_mostPaid_102 F_X12_paid_193
          clear hC hM g3 g4
          generalize A + suB (fun j => decide (¬ s1.2.1 305 j &&& (nI n ^^^ (-1)) = 0)) (t.2.1 1294) (t.2.1 1295) (t.1 1297).toInt.toNat = W
          by_cases e : v = -1
          · refine ⟨(W, nI (n + 1)), (W, nI (n + 1), t3), m - 1, ?_, ?_, by omega, n + 1, _, t3, rfl, rfl, by omega, g5⟩
            · rw [if_pos e, nI_1]
            · rw [if_pos e, nI_1]
          · refine ⟨(zmn v W, nI (n + 1)), (zmn v W, nI (n + 1), t3), m - 1, ?_, ?_, by omega, n + 1, _, t3, rfl, rfl, by omega, g5⟩
            · rw [if_neg e, nI_1]
            · rw [if_neg e, nI_1]) FU FU K (-1, 0) (-1, 0, t1) ⟨0, -1, t1, rfl, rfl, by omega, b2⟩ (FU_lt (by omega)) (FU_lt (by omega))
    rw [d1, d2]
    exact Two_ret y (h.ss a2 d3).up
  · have c4 : b = 1 := by
      refine Int32.toInt_inj.mp ?_
      have : ¬ b.toInt = 0 := fun e => c3 (Int32.toInt_inj.mp (e.trans e0.symm))
      omega
    rw [if_neg c3, if_pos c4]
    unfold F_X3_paidByNobody F_X3_paidByNobody_4
    rw [C_nobody, hO]
    exact Two_ret _ (h.ss a2 b2).up
