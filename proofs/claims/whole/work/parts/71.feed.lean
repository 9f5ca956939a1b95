/-! feed -/
def bw (v : Int32) (i : Nat) : Int32 := (v >>> (nI (24 - 8 * i) &&& 31)) &&& 255
def wd (a b c d e : Int32) (j : Nat) : Int32 := if j = 0 then a else if j = 1 then b else if j = 2 then c else if j = 3 then d else e
def byt (a b c d e : Int32) (k : Nat) : Int32 := bw (wd a b c d e (k / 4)) (k % 4)
def cb (b : Int32) : Nat := if b = 0 then 0 else 1
def cB (f : Nat → Int32) : Nat → Nat
  | 0 => 0
  | n + 1 => cB f n + cb (f n)
def sb (b : Int32) (p : Nat × (Nat → Int32)) : Nat × (Nat → Int32) := if b = 0 then p else (p.1 + 1, upd p.2 p.1 b)
def fB (f : Nat → Int32) (p : Nat × (Nat → Int32)) : Nat → Nat × (Nat → Int32)
  | 0 => p
  | n + 1 => sb (f n) (fB f p n)
theorem fB_1 (f : Nat → Int32) (p : Nat × (Nat → Int32)) : ∀ n, (fB f p n).1 = p.1 + cB f n
  | 0 => rfl
  | n + 1 => by
    have ih := fB_1 f p n
    unfold fB cB sb cb
    by_cases c : f n = 0
    · rw [if_pos c, if_pos c, ih]
      rfl
    · rw [if_neg c, if_neg c]
      show (fB f p n).1 + 1 = _
      rw [ih]
      omega
theorem cB_mono (f : Nat → Int32) {n : Nat} : ∀ {m : Nat}, n ≤ m → cB f n ≤ cB f m
  | 0, h => by
    have : n = 0 := by omega
    rw [this]
    exact Nat.le_refl _
  | m + 1, h => by
    by_cases e : n = m + 1
    · rw [e]
      exact Nat.le_refl _
    · have := cB_mono f (n := n) (m := m) (by omega)
      have e2 : cB f (m + 1) = cB f m + cb (f m) := rfl
      omega
theorem byt_R (a b c d e : Int32) (k : Nat) : inR (byt a b c d e k) 0 255 := by
  have hz : ∀ y : Int32, (y &&& 255).toInt ≤ 255 := by
    intro y
    have h1 : (y &&& 255).toBitVec = y.toBitVec &&& 255#32 := rfl
    have h2 : (y &&& 255).toInt = (y &&& 255).toBitVec.toInt := rfl
    rw [h2, h1, BitVec.toInt_eq_toNat_bmod, BitVec.toNat_and]
    have h3 : y.toBitVec.toNat &&& (255#32).toNat ≤ (255#32).toNat := Nat.and_le_right
    have h4 : (255#32).toNat = 255 := rfl
    rw [h4] at h3 ⊢
    rw [Int.bmod_eq_of_le (by omega) (by omega)]
    omega
  exact ⟨hand0 _, hz _⟩
/-- states with another tape -/
def TP (s : St) (k1 k2 : Nat) (p : Nat × (Nat → Int32)) : St := (upd s.1 k1 (nI p.1), va_up s.2.1 k2 p.2, s.2.2)
theorem TP_I (s : St) (k1 k2 : Nat) (p : Nat × (Nat → Int32)) : (TP s k1 k2 p).1 k1 = nI p.1 := if_pos rfl
theorem TP_self {s : St} {k1 k2 n : Nat} (h : s.1 k1 = nI n) : TP s k1 k2 (n, s.2.1 k2) = s := by
  unfold TP
  have h1 : upd s.1 k1 (nI n) = s.1 := upd_eq h
  have h2 : va_up s.2.1 k2 (s.2.1 k2) = s.2.1 := by
    funext j; unfold va_up; split
    · next e => rw [e]
    · rfl
  dsimp only
  rw [h1, h2]
theorem TP_wr {s : St} {k1 k2 m : Nat} {p : Nat × (Nat → Int32)} (b : Int32) (hp : p.1 < m) (hm : m < 2 ^ 31) : ((wr (TP s k1 k2 p) k2 m (nI p.1) b).bind fun s1 => wI s1 k1 (s1.1 k1 + 1)) = some (TP s k1 k2 (p.1 + 1, upd p.2 p.1 b)) := by
  rw [wr_nI hp hm, bind_some]
  show some _ = _
  refine congrArg some ?_
  have e1 : (sA (TP s k1 k2 p) k2 p.1 b).1 k1 = nI p.1 := if_pos rfl
  rw [e1, nI_1]
  unfold pI sA TP
  dsimp only
  have h1 : upd (upd s.1 k1 (nI p.1)) k1 (nI (p.1 + 1)) = upd s.1 k1 (nI (p.1 + 1)) := by funext j; unfold upd; split <;> rfl
  rw [h1, va_upup, va_up_s]
theorem C_bytesOf (v : Int32) : F_X9_bytesOf v = some (nI (cb (bw v 0) + cb (bw v 1) + cb (bw v 2) + cb (bw v 3))) := by
  have step : ∀ (i n : Nat), i < 4 → B_X9_bytesOf_5 v (nI n, nI (24 - 8 * i)) = some (.inl (nI (n + cb (bw v i)), nI (24 - 8 * i) + (-8))) := by
    intro i n hi
    have e0 : (0 : Int32).toInt = 0 := rfl
    have h9 : ¬ nI (24 - 8 * i) < 0 := by
      rw [i32_lt, nI_toInt (by omega)]
      omega
    unfold B_X9_bytesOf_5 cb
    dsimp only
    rw [if_neg h9]
    by_cases c : bw v i = 0
    · rw [if_pos (show (v >>> (nI (24 - 8 * i) &&& 31)) &&& 255 = 0 from c), if_pos c, Nat.add_zero]
    · rw [if_neg (show ¬ (v >>> (nI (24 - 8 * i) &&& 31)) &&& 255 = 0 from c), if_neg c, nI_1]
  have fin : B_X9_bytesOf_5 v (nI (0 + cb (bw v 0) + cb (bw v 1) + cb (bw v 2) + cb (bw v 3)), nI (24 - 8 * 3) + (-8)) = some (.inr (nI (0 + cb (bw v 0) + cb (bw v 1) + cb (bw v 2) + cb (bw v 3)))) := by
    unfold B_X9_bytesOf_5
    dsimp only
    rw [if_pos (show nI (24 - 8 * 3) + (-8) < 0 by decide)]
  have s0 := step 0 0 (by omega)
  have s1 := step 1 (0 + cb (bw v 0)) (by omega)
  have s2 := step 2 (0 + cb (bw v 0) + cb (bw v 1)) (by omega)
  have s3 := step 3 (0 + cb (bw v 0) + cb (bw v 1) + cb (bw v 2)) (by omega)
  unfold F_X9_bytesOf F_X9_bytesOf_5
  rw [show FU = 999999999995 + 5 from rfl, show ((0 : Int32), (24 : Int32)) = (nI 0, nI (24 - 8 * 0)) from rfl, lp_l s0, show nI (24 - 8 * 0) + (-8) = nI (24 - 8 * 1) by decide, lp_l s1, show nI (24 - 8 * 1) + (-8) = nI (24 - 8 * 2) by decide, lp_l s2, show nI (24 - 8 * 2) + (-8) = nI (24 - 8 * 3) by decide, lp_l s3, lp_r fin, Nat.zero_add]
  rfl
theorem C_write (s : St) (v : Int32) (p : Nat × (Nat → Int32)) (hp : p.1 + (cb (bw v 0) + cb (bw v 1) + cb (bw v 2) + cb (bw v 3)) ≤ 160) : F_X9_write v (TP s 901 900 p) = some (TP s 901 900 (sb (bw v 3) (sb (bw v 2) (sb (bw v 1) (sb (bw v 0) p))))) := by
  have e0 : (0 : Int32).toInt = 0 := rfl
  have e160 : (160 : Int32).toInt = 160 := rfl
  have step : ∀ (i : Nat) (p : Nat × (Nat → Int32)), i < 4 → p.1 + cb (bw v i) ≤ 160 → B_X9_write_3 v (nI (24 - 8 * i), TP s 901 900 p) = some (.inl (nI (24 - 8 * i) + (-8), TP s 901 900 (sb (bw v i) p))) := by
    intro i p hi hl
    have h9 : ¬ nI (24 - 8 * i) < 0 := by
      rw [i32_lt, nI_toInt (by omega)]
      omega
    unfold B_X9_write_3 sb
    dsimp only
    rw [if_neg h9]
    by_cases c : bw v i = 0
    · rw [if_pos (show (v >>> (nI (24 - 8 * i) &&& 31)) &&& 255 = 0 from c), if_pos c]
    · have hl2 : p.1 < 160 := by
        unfold cb at hl
        rw [if_neg c] at hl
        omega
      have h8 : ¬ (160 : Int32) ≤ nI p.1 := by
        rw [i32_le, nI_toInt (by omega)]
        omega
      have hw := TP_wr (s := s) (k1 := 901) (k2 := 900) (m := 160) (p := p) (bw v i) hl2 (by omega)
      rw [if_neg (show ¬ (v >>> (nI (24 - 8 * i) &&& 31)) &&& 255 = 0 from c), if_neg c, TP_I, if_neg h8]
      show ((wr (TP s 901 900 p) 900 160 (nI p.1) (bw v i)).bind fun s1 => (wI s1 901 (s1.1 901 + 1)).bind fun s2 => _) = _
      rw [wr_nI hl2 (by omega), bind_some] at hw ⊢
      rw [hw, bind_some]
  have l1 : (sb (bw v 0) p).1 = p.1 + cb (bw v 0) := by
    unfold sb cb
    split <;> rfl
  have l2 : (sb (bw v 1) (sb (bw v 0) p)).1 = p.1 + cb (bw v 0) + cb (bw v 1) := by
    rw [← l1]
    unfold sb cb
    split <;> rfl
  have l3 : (sb (bw v 2) (sb (bw v 1) (sb (bw v 0) p))).1 = p.1 + cb (bw v 0) + cb (bw v 1) + cb (bw v 2) := by
    rw [← l2]
    generalize sb (bw v 1) (sb (bw v 0) p) = x
    unfold sb cb
    split <;> rfl
  have s0 := step 0 p (by omega) (by omega)
  have s1 := step 1 (sb (bw v 0) p) (by omega) (by omega)
  have s2 := step 2 (sb (bw v 1) (sb (bw v 0) p)) (by omega) (by omega)
  have s3 := step 3 (sb (bw v 2) (sb (bw v 1) (sb (bw v 0) p))) (by omega) (by omega)
  have fin : ∀ s', B_X9_write_3 v (nI (24 - 8 * 3) + (-8), s') = some (.inr s') := by
    intro s'
    unfold B_X9_write_3
    dsimp only
    rw [if_pos (show nI (24 - 8 * 3) + (-8) < 0 by decide)]
  unfold F_X9_write F_X9_write_3
  rw [show FU = 999999999995 + 5 from rfl, show (24 : Int32) = nI (24 - 8 * 0) from rfl, lp_l s0, show nI (24 - 8 * 0) + (-8) = nI (24 - 8 * 1) by decide, lp_l s1, show nI (24 - 8 * 1) + (-8) = nI (24 - 8 * 2) by decide, lp_l s2, show nI (24 - 8 * 2) + (-8) = nI (24 - 8 * 3) by decide, lp_l s3, lp_r (fin _)]
  rfl
theorem sh_ok : ∀ k, k < 20 → (24 : Int32) - 8 * (nI k - nI k / 4 * 4) = nI (24 - 8 * (k % 4)) := by decide +kernel
theorem M_byteOf (a b c d e : Int32) {k : Nat} (hk : k < 20) : F_X12_byteOf a b c d e (nI k) = some (byt a b c d e k) := by
  have le : ∀ n, n < 100 → ((nI n ≤ nI k) ↔ n ≤ k) := by
    intro n hn
    rw [i32_le, nI_toInt (by omega), nI_toInt (by omega)]
    omega
  have l4 : (4 : Int32) ≤ nI k ↔ 4 ≤ k := le 4 (by omega)
  have l8 : (8 : Int32) ≤ nI k ↔ 8 ≤ k := le 8 (by omega)
  have l12 : (12 : Int32) ≤ nI k ↔ 12 ≤ k := le 12 (by omega)
  have l16 : (16 : Int32) ≤ nI k ↔ 16 ≤ k := le 16 (by omega)
  unfold F_X12_byteOf byt bw wd
  rw [sh_ok k hk]
  by_cases c4 : 4 ≤ k
  · rw [if_pos (l4.mpr c4), if_neg (show ¬ k / 4 = 0 by omega)]
    by_cases c8 : 8 ≤ k
    · rw [if_pos (l8.mpr c8), if_neg (show ¬ k / 4 = 1 by omega)]
      by_cases c12 : 12 ≤ k
      · rw [if_pos (l12.mpr c12), if_neg (show ¬ k / 4 = 2 by omega)]
        by_cases c16 : 16 ≤ k
        · rw [if_pos (l16.mpr c16), if_neg (show ¬ k / 4 = 3 by omega)]
        · rw [if_neg (fun z => c16 (l16.mp z)), if_pos (show k / 4 = 3 by omega)]
      · rw [if_neg (fun z => c12 (l12.mp z)), if_pos (show k / 4 = 2 by omega)]
    · rw [if_neg (fun z => c8 (l8.mp z)), if_pos (show k / 4 = 1 by omega)]
  · rw [if_neg (fun z => c4 (l4.mp z)), if_pos (show k / 4 = 0 by omega)]
theorem P_feed {N : Int} {s t : St} (h : RX N s t) (a b c d e : Int32) : Two (RX (N + 1)) (F_X11_feed a b c d e s) (F_X12_feed a b c d e t) := by
  obtain ⟨t0, t1, t2, t3, t4⟩ := h.tape
  obtain ⟨L, eL, eL2, _⟩ := i32_nat t1.1
  have hL : L ≤ 160 := by have := t1.2; omega
  have e160 : (160 : Int32).toInt = 160 := rfl
  have e20 : (20 : Int32).toInt = 20 := rfl
  have hs0 : TP s 901 900 (L, s.2.1 900) = s := TP_self (by rw [t0, eL])
  have ht0 : TP t 1235 1228 (L, t.2.1 1228) = t := TP_self eL
  generalize hf : byt a b c d e = f
  -- the numbers of bytes
  have hcnt : cB f 20 = (((cb (bw a 0) + cb (bw a 1) + cb (bw a 2) + cb (bw a 3)) + (cb (bw b 0) + cb (bw b 1) + cb (bw b 2) + cb (bw b 3))) + (cb (bw c 0) + cb (bw c 1) + cb (bw c 2) + cb (bw c 3))) + (cb (bw d 0) + cb (bw d 1) + cb (bw d 2) + cb (bw d 3)) + (cb (bw e 0) + cb (bw e 1) + cb (bw e 2) + cb (bw e 3)) := by
    rw [← hf]
    have e' : cB (byt a b c d e) 20 = 0 + cb (bw a 0) + cb (bw a 1) + cb (bw a 2) + cb (bw a 3) + cb (bw b 0) + cb (bw b 1) + cb (bw b 2) + cb (bw b 3) + cb (bw c 0) + cb (bw c 1) + cb (bw c 2) + cb (bw c 3) + cb (bw d 0) + cb (bw d 1) + cb (bw d 2) + cb (bw d 3) + cb (bw e 0) + cb (bw e 1) + cb (bw e 2) + cb (bw e 3) := rfl
    rw [e']
    omega
  have hcb : ∀ x, cb x ≤ 1 := fun x => by unfold cb; split <;> omega
  have hmax : ∀ n, cB f n ≤ n := by
    intro n
    induction n with
    | zero => exact Nat.le_refl _
    | succ n ih =>
      have := hcb (f n)
      unfold cB
      omega
  have hM1 : lp (B_X12_feed_6 a b c d e t) FU (0, 0) = some (nI (cB f 20)) := by
    refine lp_cnt (fun m => (nI (cB f m), nI m)) 20 rfl ?_ ?_ (FU_lt (by omega))
    · intro m hm
      have h9 : ¬ (20 : Int32) ≤ nI m := by
        rw [i32_le, nI_toInt (by omega)]
        omega
      unfold B_X12_feed_6
      dsimp only
      rw [if_neg h9, M_byteOf a b c d e hm, bind_some, hf]
      have ec : cB f (m + 1) = cB f m + cb (f m) := rfl
      by_cases z : f m = 0
      · have : cb (f m) = 0 := if_pos z
        rw [if_pos z, ec, this, Nat.add_zero, Int32.add_zero, nI_1]
      · have : cb (f m) = 1 := if_neg z
        rw [if_neg z, ec, this, nI_1, nI_1]
    · unfold B_X12_feed_6
      dsimp only
      exact if_pos (by decide)
  have hadd : nI L + nI (cB f 20) = nI (L + cB f 20) := nI_add _ _
  have h20 := hmax 20
  unfold F_X11_feed F_X12_feed F_X12_feed_6
  rw [hM1, bind_some]
  unfold F_X12_feed_44
  rw [C_bytesOf, C_bytesOf, C_bytesOf, C_bytesOf, C_bytesOf, bind_some, bind_some, bind_some, bind_some, bind_some, t0, eL, nI_add, nI_add, nI_add, nI_add, ← hcnt, hadd]
  by_cases k : nI (L + cB f 20) ≤ 160
  · rw [if_pos k, if_pos k]
    rw [i32_le, nI_toInt (by omega)] at k
    have hk : L + cB f 20 ≤ 160 := by omega
    -- the writing
    have hM2 : lp (B_X12_feed_62 a b c d e) FU (0, t) = some (TP t 1235 1228 (fB f (L, t.2.1 1228) 20)) := by
      refine lp_cnt (fun m => (nI m, TP t 1235 1228 (fB f (L, t.2.1 1228) m))) 20 (by show _ = (nI 0, TP t 1235 1228 (L, t.2.1 1228)); rw [ht0]; rfl) ?_ ?_ (FU_lt (by omega))
      · intro m hm
        have h9 : ¬ (20 : Int32) ≤ nI m := by
          rw [i32_le, nI_toInt (by omega)]
          omega
        have el := fB_1 f (L, t.2.1 1228) m
        have em : fB f (L, t.2.1 1228) (m + 1) = sb (f m) (fB f (L, t.2.1 1228) m) := rfl
        unfold B_X12_feed_62
        dsimp only
        rw [if_neg h9, M_byteOf a b c d e hm, bind_some, hf, em]
        unfold sb
        by_cases z : f m = 0
        · rw [if_pos z, if_pos z, nI_1]
        · have ec : cB f (m + 1) = cB f m + cb (f m) := rfl
          have ec1 : cb (f m) = 1 := if_neg z
          have hmm := cB_mono f (n := m + 1) (m := 20) (by omega)
          have hl2 : (fB f (L, t.2.1 1228) m).1 < 160 := by
            rw [el]
            show L + _ < _
            omega
          have hw := TP_wr (s := t) (k1 := 1235) (k2 := 1228) (m := 160) (p := fB f (L, t.2.1 1228) m) (f m) hl2 (by omega)
          rw [if_neg z, if_neg z, TP_I]
          rw [wr_nI hl2 (by omega), bind_some] at hw ⊢
          rw [hw, bind_some, nI_1]
      · unfold B_X12_feed_62
        dsimp only
        exact if_pos (by decide)
    unfold F_X12_feed_62
    rw [hM2, bind_some]
    unfold F_X12_feed_115
    -- the class
    have hfA : ∀ n, (fB f (L, s.2.1 900) n).1 = L + cB f n := fun n => fB_1 f (L, s.2.1 900) n
    have c4 : cB f 4 = cb (bw a 0) + cb (bw a 1) + cb (bw a 2) + cb (bw a 3) := by
      rw [← hf]
      show 0 + cb (bw a 0) + cb (bw a 1) + cb (bw a 2) + cb (bw a 3) = _
      omega
    have c8 : cB f 8 = cB f 4 + (cb (bw b 0) + cb (bw b 1) + cb (bw b 2) + cb (bw b 3)) := by
      rw [← hf]
      show cB (byt a b c d e) 4 + cb (bw b 0) + cb (bw b 1) + cb (bw b 2) + cb (bw b 3) = _
      omega
    have c12 : cB f 12 = cB f 8 + (cb (bw c 0) + cb (bw c 1) + cb (bw c 2) + cb (bw c 3)) := by
      rw [← hf]
      show cB (byt a b c d e) 8 + cb (bw c 0) + cb (bw c 1) + cb (bw c 2) + cb (bw c 3) = _
      omega
    have c16 : cB f 16 = cB f 12 + (cb (bw d 0) + cb (bw d 1) + cb (bw d 2) + cb (bw d 3)) := by
      rw [← hf]
      show cB (byt a b c d e) 12 + cb (bw d 0) + cb (bw d 1) + cb (bw d 2) + cb (bw d 3) = _
      omega
    have c20 : cB f 20 = cB f 16 + (cb (bw e 0) + cb (bw e 1) + cb (bw e 2) + cb (bw e 3)) := by
      rw [← hf]
      show cB (byt a b c d e) 16 + cb (bw e 0) + cb (bw e 1) + cb (bw e 2) + cb (bw e 3) = _
      omega
    have g1 := C_write s a (fB f (L, s.2.1 900) 0) (by rw [hfA]; show L + cB f 0 + _ ≤ _; have : cB f 0 = 0 := rfl; omega)
    have g2 := C_write s b (fB f (L, s.2.1 900) 4) (by rw [hfA]; omega)
    have g3 := C_write s c (fB f (L, s.2.1 900) 8) (by rw [hfA]; omega)
    have g4 := C_write s d (fB f (L, s.2.1 900) 12) (by rw [hfA]; omega)
    have g5 := C_write s e (fB f (L, s.2.1 900) 16) (by rw [hfA]; omega)
    have r1 : sb (bw a 3) (sb (bw a 2) (sb (bw a 1) (sb (bw a 0) (fB f (L, s.2.1 900) 0)))) = fB f (L, s.2.1 900) 4 := by rw [← hf]; rfl
    have r2 : sb (bw b 3) (sb (bw b 2) (sb (bw b 1) (sb (bw b 0) (fB f (L, s.2.1 900) 4)))) = fB f (L, s.2.1 900) 8 := by rw [← hf]; rfl
    have r3 : sb (bw c 3) (sb (bw c 2) (sb (bw c 1) (sb (bw c 0) (fB f (L, s.2.1 900) 8)))) = fB f (L, s.2.1 900) 12 := by rw [← hf]; rfl
    have r4 : sb (bw d 3) (sb (bw d 2) (sb (bw d 1) (sb (bw d 0) (fB f (L, s.2.1 900) 12)))) = fB f (L, s.2.1 900) 16 := by rw [← hf]; rfl
    have r5 : sb (bw e 3) (sb (bw e 2) (sb (bw e 1) (sb (bw e 0) (fB f (L, s.2.1 900) 16)))) = fB f (L, s.2.1 900) 20 := by rw [← hf]; rfl
    rw [r1, show TP s 901 900 (fB f (L, s.2.1 900) 0) = s from hs0] at g1
    rw [r2] at g2
    rw [r3] at g3
    rw [r4] at g4
    rw [r5] at g5
    rw [g1, bind_some, g2, bind_some, g3, bind_some, g4, bind_some, g5, bind_some, TP_I, TP_I, t2]
    -- the relation
    have inv : ∀ n, (∀ j, inR ((fB f (L, t.2.1 1228) n).2 j) 0 255) ∧ ∀ j : Nat, j < (fB f (L, t.2.1 1228) n).1 → 1 ≤ ((fB f (L, t.2.1 1228) n).2 j).toInt := by
      intro n
      induction n with
      | zero => exact ⟨t3, fun j hj => t4 j (by show (j : Int) < _; have : j < L := hj; omega)⟩
      | succ n ih =>
        have em : fB f (L, t.2.1 1228) (n + 1) = sb (f n) (fB f (L, t.2.1 1228) n) := rfl
        rw [em]
        unfold sb
        by_cases z : f n = 0
        · rw [if_pos z]
          exact ih
        · rw [if_neg z]
          have hR : inR (f n) 0 255 := by rw [← hf]; exact byt_R a b c d e n
          refine ⟨inR_upd ih.1 hR, fun j hj => ?_⟩
          by_cases e2 : j = (fB f (L, t.2.1 1228) n).1
          · show 1 ≤ (upd _ _ _ j).toInt
            rw [e2, upd_at]
            have e0 : (0 : Int32).toInt = 0 := rfl
            have := hR.1
            have : ¬ (f n).toInt = 0 := fun y => z (Int32.toInt_inj.mp (y.trans e0.symm))
            omega
          · show 1 ≤ (upd _ _ _ j).toInt
            rw [upd_ne _ _ e2]
            have hj' : j < (fB f (L, t.2.1 1228) n).1 + 1 := hj
            exact ih.2 j (by omega)
    have hlen : (fB f (L, t.2.1 1228) 20).1 = L + cB f 20 := fB_1 f (L, t.2.1 1228) 20
    obtain ⟨i1, i2⟩ := inv 20
    generalize fB f (L, t.2.1 1228) 20 = q at *
    have en : (nI q.1).toInt = (q.1 : Int) := nI_toInt (by omega)
    have hT : RTape (TP s 901 900 q) (TP t 1235 1228 q) := by
      refine ⟨rfl, ?_, rfl, i1, fun j hj => i2 j ?_⟩
      · show inR (nI q.1) 0 160
        exact ⟨by omega, by omega⟩
      · have hj' : (j : Int) < (nI q.1).toInt := hj
        omega
    have hR : RX N (TP s 901 900 q) (TP t 1235 1228 q) := ⟨h.now, h.folk, h.cnt, h.rec, h.trt, h.sch, h.blt, h.shut, hT, h.yard, h.prom, h.given, h.staff, h.roof, h.site, h.purse, h.land, h.law, h.ref, h.row⟩
    exact Two_ret _ hR.up
  · rw [if_neg k, if_neg k]
    exact Two_ret _ h.up
