/-! THE PURE SIDE: rules for loops, arrays, ints -/
theorem lp_l {X Y : Type} {B : X → Option (X ⊕ Y)} {n : Nat} {x x' : X} (h : B x = some (.inl x')) : lp B (n + 1) x = lp B n x' := by simp only [lp, h]
theorem lp_r {X Y : Type} {B : X → Option (X ⊕ Y)} {n : Nat} {x : X} {y : Y} (h : B x = some (.inr y)) : lp B (n + 1) x = some y := by simp only [lp, h]
theorem lp_cntF {X Y : Type} {B : X → Option (X ⊕ Y)} (st : Nat → X) (y : Y) : ∀ (m n j : Nat), j + m = n → (∀ j, j < n → B (st j) = some (.inl (st (j + 1)))) → B (st n) = some (.inr y) → ∀ F, m < F → lp B F (st j) = some y
  | 0, n, j, e, hs, he, F, hF => by
    obtain ⟨F, rfl⟩ : ∃ F', F = F' + 1 := ⟨F - 1, by omega⟩
    have : j = n := by omega
    subst this
    exact lp_r he
  | m + 1, n, j, e, hs, he, F, hF => by
    obtain ⟨F, rfl⟩ : ∃ F', F = F' + 1 := ⟨F - 1, by omega⟩
    rw [lp_l (hs j (by omega))]
    exact lp_cntF st y m n (j + 1) (by omega) hs he F (by omega)
/-- a loop that goes through known states -/
theorem lp_cnt {X Y : Type} {B : X → Option (X ⊕ Y)} (st : Nat → X) (n : Nat) {y : Y} {x : X} (hx : x = st 0) (hs : ∀ j, j < n → B (st j) = some (.inl (st (j + 1)))) (he : B (st n) = some (.inr y)) {F : Nat} (hF : n < F) : lp B F x = some y := by
  subst hx
  exact lp_cntF st y n n 0 (by omega) hs he F hF
/-- a loop with a measure -/
theorem lp_inv {X Y : Type} {B : X → Option (X ⊕ Y)} (I : Nat → X → Prop) (Q : Y → Prop) (h : ∀ j x, I j x → (∃ x' j', B x = some (.inl x') ∧ j' < j ∧ I j' x') ∨ ∃ y, B x = some (.inr y) ∧ Q y) : ∀ (F j : Nat) (x : X), I j x → j < F → ∃ y, lp B F x = some y ∧ Q y
  | 0, j, x, _, hF => absurd hF (by omega)
  | F + 1, j, x, hI, hF => by
    rcases h j x hI with ⟨x', j', h1, h2, h3⟩ | ⟨y, h1, h2⟩
    · rw [lp_l h1]
      exact lp_inv I Q h F j' x' h3 (by omega)
    · exact ⟨y, lp_r h1, h2⟩
/-- two loops side by side -/
theorem lp_two {X Y X2 Y2 : Type} {B : X → Option (X ⊕ Y)} {B2 : X2 → Option (X2 ⊕ Y2)} (I : Nat → X → X2 → Prop) (Q : Y → Y2 → Prop) (h : ∀ j x z, I j x z → (∃ x' z' j', B x = some (.inl x') ∧ B2 z = some (.inl z') ∧ j' < j ∧ I j' x' z') ∨ ∃ y w, B x = some (.inr y) ∧ B2 z = some (.inr w) ∧ Q y w) : ∀ (F F2 j : Nat) (x : X) (z : X2), I j x z → j < F → j < F2 → ∃ y w, lp B F x = some y ∧ lp B2 F2 z = some w ∧ Q y w
  | 0, _, j, x, _, _, hF, _ => absurd hF (by omega)
  | _, 0, j, x, _, _, _, hF => absurd hF (by omega)
  | F + 1, F2 + 1, j, x, z, hI, hF, hF2 => by
    rcases h j x z hI with ⟨x', z', j', h1, h2, h3, h4⟩ | ⟨y, w, h1, h2, h3⟩
    · rw [lp_l h1, lp_l h2]
      exact lp_two I Q h F F2 j' x' z' h4 (by omega) (by omega)
    · exact ⟨y, w, lp_r h1, lp_r h2, h3⟩
theorem FU_lt {n : Nat} (h : n < 1000000000000) : n < FU := h
theorem bind_some {α β : Type} (a : α) (f : α → Option β) : (some a).bind f = f a := rfl
/-! ints -/
theorem i32_of {x : Int32} {n : Nat} (h : x.toInt = (n : Int)) : x = nI n := by
  refine Int32.toInt_inj.mp ?_
  have h1 := Int32.toInt_lt x
  have h2 : n < 2 ^ 31 := by omega
  rw [nI_toInt h2, h]
theorem i32_nat {x : Int32} (h : 0 ≤ x.toInt) : ∃ n : Nat, x = nI n ∧ x.toInt = (n : Int) ∧ n < 2 ^ 31 := by
  have h1 := Int32.toInt_lt x
  exact ⟨x.toInt.toNat, i32_of (by omega), by omega, by omega⟩
theorem i32_clamp {x : Int32} : x.toNatClampNeg = x.toInt.toNat := rfl
theorem i32_add {x y : Int32} (h1 : -2147483648 ≤ x.toInt + y.toInt) (h2 : x.toInt + y.toInt < 2147483648) : (x + y).toInt = x.toInt + y.toInt := by
  rw [Int32.toInt_add]
  exact Int.bmod_eq_of_le (by omega) (by omega)
theorem i32_sub {x y : Int32} (h1 : -2147483648 ≤ x.toInt - y.toInt) (h2 : x.toInt - y.toInt < 2147483648) : (x - y).toInt = x.toInt - y.toInt := by
  rw [Int32.toInt_sub]
  exact Int.bmod_eq_of_le (by omega) (by omega)
theorem i32_mul {x y : Int32} (h1 : -2147483648 ≤ x.toInt * y.toInt) (h2 : x.toInt * y.toInt < 2147483648) : (x * y).toInt = x.toInt * y.toInt := by
  rw [Int32.toInt_mul]
  exact Int.bmod_eq_of_le (by omega) (by omega)
theorem i32_lt {x y : Int32} : x < y ↔ x.toInt < y.toInt := Int32.lt_iff_toInt_lt
theorem i32_le {x y : Int32} : x ≤ y ↔ x.toInt ≤ y.toInt := Int32.le_iff_toInt_le
theorem i32_eq {x y : Int32} : x = y ↔ x.toInt = y.toInt := Int32.toInt_inj.symm
def inR (x : Int32) (lo hi : Int) : Prop := lo ≤ x.toInt ∧ x.toInt ≤ hi
theorem inb_iff {x a b : Int32} : inb x a b = true ↔ inR x a.toInt b.toInt := by
  unfold inb inR
  rw [Bool.and_eq_true, decide_eq_true_eq, decide_eq_true_eq, i32_le, i32_le]
theorem inb_no {x a b : Int32} : inb x a b = false ↔ ¬ inR x a.toInt b.toInt := by
  rw [← inb_iff, Bool.not_eq_true]
theorem vb_iff {i : Int32} {n : Nat} : vb i n = true ↔ 0 ≤ i.toInt ∧ i.toInt < n := by
  unfold vb; rw [decide_eq_true_eq]
/-! arrays -/
theorem rd_ok {s : St} {k n : Nat} {i : Int32} (h1 : 0 ≤ i.toInt) (h2 : i.toInt < n) : rd s k n i = some (s.2.1 k i.toInt.toNat) := by
  unfold rd
  rw [if_pos (vb_iff.mpr ⟨h1, h2⟩)]
  rfl
theorem rs_ok {k n : Nat} {i : Int32} (h1 : 0 ≤ i.toInt) (h2 : i.toInt < n) : rs k n i = some (stA k i.toInt.toNat) := by
  unfold rs
  rw [if_pos (vb_iff.mpr ⟨h1, h2⟩)]
  rfl
theorem wr_ok {s : St} {k n : Nat} {i v : Int32} (h1 : 0 ≤ i.toInt) (h2 : i.toInt < n) : wr s k n i v = some (pA s k i v) := by
  unfold wr
  rw [if_pos (vb_iff.mpr ⟨h1, h2⟩)]
theorem rd_nI {s : St} {k n j : Nat} (h : j < n) (hn : n < 2 ^ 31) : rd s k n (nI j) = some (s.2.1 k j) := by
  have e := nI_toInt (n := j) (by omega)
  rw [rd_ok (by omega) (by omega), e]
  rfl
theorem rs_nI {k n j : Nat} (h : j < n) (hn : n < 2 ^ 31) : rs k n (nI j) = some (stA k j) := by
  have e := nI_toInt (n := j) (by omega)
  rw [rs_ok (by omega) (by omega), e]
  rfl
/-- an array's element by its place -/
def sA (s : St) (k j : Nat) (v : Int32) : St := (s.1, va_up s.2.1 k (upd (s.2.1 k) j v), s.2.2)
theorem pA_nI {s : St} {k j : Nat} {v : Int32} (h : j < 2 ^ 31) : pA s k (nI j) v = sA s k j v := by
  unfold pA sA
  rw [nI_clamp h]
theorem wr_nI {s : St} {k n j : Nat} {v : Int32} (h : j < n) (hn : n < 2 ^ 31) : wr s k n (nI j) v = some (sA s k j v) := by
  have e := nI_toInt (n := j) (by omega)
  rw [wr_ok (by omega) (by omega), pA_nI (by omega)]
theorem pI_1 (s : St) (k : Nat) (v : Int32) : (pI s k v).1 = upd s.1 k v := rfl
theorem pI_2 (s : St) (k : Nat) (v : Int32) : (pI s k v).2 = s.2 := rfl
theorem pA_1 (s : St) (k : Nat) (i v : Int32) : (pA s k i v).1 = s.1 := rfl
theorem pA_21 (s : St) (k : Nat) (i v : Int32) : (pA s k i v).2.1 = va_up s.2.1 k (upd (s.2.1 k) i.toInt.toNat v) := rfl
theorem pA_22 (s : St) (k : Nat) (i v : Int32) : (pA s k i v).2.2 = s.2.2 := rfl
theorem sA_1 (s : St) (k j : Nat) (v : Int32) : (sA s k j v).1 = s.1 := rfl
theorem sA_21 (s : St) (k j : Nat) (v : Int32) : (sA s k j v).2.1 = va_up s.2.1 k (upd (s.2.1 k) j v) := rfl
theorem sA_22 (s : St) (k j : Nat) (v : Int32) : (sA s k j v).2.2 = s.2.2 := rfl
theorem wI_ok (s : St) (k : Nat) (v : Int32) : wI s k v = some (pI s k v) := rfl
theorem nz_ok {y : Int32} (h : ¬ y = 0) : nz y = some () := by unfold nz; rw [if_neg h]
theorem nzl_ok {y : Int64} (h : ¬ y = 0) : nzl y = some () := by unfold nzl; rw [if_neg h]
theorem bz_ok {x : Int32} (h : x = 0 ∨ x = 1) : bz x = some () := by unfold bz; rw [if_pos h]
theorem pF_1 (s : St) (k n : Nat) (v : Int32) : (pF s k n v).1 = s.1 := rfl
theorem pF_21 (s : St) (k n : Nat) (v : Int32) : (pF s k n v).2.1 = va_up s.2.1 k (flf (s.2.1 k) n v) := rfl
theorem pF_22 (s : St) (k n : Nat) (v : Int32) : (pF s k n v).2.2 = s.2.2 := rfl
theorem wF_ok (s : St) (k n : Nat) (v : Int32) : wF s k n v = some (pF s k n v) := rfl
/-- a place or none -/
def oI : Option Nat → Int32
  | none => -1
  | some j => nI j
theorem oI_none : oI none = -1 := rfl
theorem oI_some (j : Nat) : oI (some j) = nI j := rfl
theorem nI_neg1 {j : Nat} (h : j < 2 ^ 31) : ¬ nI j = -1 := by
  intro z
  have := congrArg Int32.toInt z
  rw [nI_toInt h] at this
  have e : (-1 : Int32).toInt = -1 := rfl
  omega
theorem oI_no {o : Option Nat} (h : ∀ j, o = some j → j < 2 ^ 31) : oI o = -1 ↔ o = none := by
  cases o with
  | none => exact ⟨fun _ => rfl, fun _ => rfl⟩
  | some j => exact ⟨fun z => absurd z (nI_neg1 (h j rfl)), fun z => by cases z⟩
/-! bits (begun from kit/laws/BITS) -/
def bt (x : Int32) (i : Nat) : Bool := x.toBitVec.getLsbD i
theorem b_ext {x y : Int32} (h : ∀ i, i < 32 → bt x i = bt y i) : x = y := Int32.toBitVec_inj.mp (BitVec.eq_of_getLsbD_eq (fun i hi => h i hi))
theorem b_or (x y : Int32) (i : Nat) : bt (x ||| y) i = (bt x i || bt y i) := by unfold bt; rw [Int32.toBitVec_or, BitVec.getLsbD_or]
theorem b_and (x y : Int32) (i : Nat) : bt (x &&& y) i = (bt x i && bt y i) := by unfold bt; rw [Int32.toBitVec_and, BitVec.getLsbD_and]
theorem b_xor (x y : Int32) (i : Nat) : bt (x ^^^ y) i = (bt x i ^^ bt y i) := by unfold bt; rw [Int32.toBitVec_xor, BitVec.getLsbD_xor]
theorem b_big {x : Int32} {i : Nat} (h : 32 ≤ i) : bt x i = false := BitVec.getLsbD_of_ge _ _ h
theorem b_255 (i : Nat) : bt 255 i = decide (i < 8) := by
  rcases Nat.lt_or_ge i 32 with h | h
  · exact (by decide +kernel : ∀ i, i < 32 → bt 255 i = decide (i < 8)) i h
  · rw [b_big h, decide_eq_false (by omega)]
theorem b_65535 (i : Nat) : bt 65535 i = decide (i < 16) := by
  rcases Nat.lt_or_ge i 32 with h | h
  · exact (by decide +kernel : ∀ i, i < 32 → bt 65535 i = decide (i < 16)) i h
  · rw [b_big h, decide_eq_false (by omega)]
theorem b_m1 : ∀ i, i < 32 → bt (-1) i = true := by decide +kernel
theorem b_0 (i : Nat) : bt 0 i = false := BitVec.getLsbD_zero
theorem s_l : ∀ n, n < 32 → ((nI n &&& 31).toBitVec.smod 32).toNat = n := by decide +kernel
theorem s_u : ∀ n, n < 32 → (((nI n).toUInt32 &&& Int32.toUInt32 31).toBitVec % 32).toNat = n := by decide +kernel
theorem b_shl (n : Nat) (hn : n < 32) (x : Int32) {i : Nat} (hi : i < 32) : bt (x <<< (nI n &&& 31)) i = (decide (n ≤ i) && bt x (i - n)) := by
  unfold bt
  rw [Int32.toBitVec_shiftLeft]
  show (x.toBitVec <<< ((nI n &&& 31).toBitVec.smod 32).toNat).getLsbD i = _
  rw [s_l n hn, BitVec.getLsbD_shiftLeft]
  rcases Nat.lt_or_ge i n with h | h
  · simp [h, Nat.not_le.mpr h]
  · simp [hi, h, Nat.not_lt.mpr h]
theorem b_ushr (n : Nat) (hn : n < 32) (x : Int32) (i : Nat) : bt ((x.toUInt32 >>> ((nI n).toUInt32 &&& Int32.toUInt32 31)).toInt32) i = bt x (n + i) := by
  show (x.toUInt32 >>> ((nI n).toUInt32 &&& Int32.toUInt32 31)).toBitVec.getLsbD i = x.toUInt32.toBitVec.getLsbD (n + i)
  rw [UInt32.toBitVec_shiftRight]
  show (x.toUInt32.toBitVec >>> (((nI n).toUInt32 &&& Int32.toUInt32 31).toBitVec % 32).toNat).getLsbD i = _
  rw [s_u n hn, BitVec.getLsbD_ushiftRight]
theorem b_sshr (n : Nat) (hn : n < 32) (x : Int32) {i : Nat} (hi : i < 32) : bt (x >>> (nI n &&& 31)) i = if n + i < 32 then bt x (n + i) else bt x 31 := by
  unfold bt
  rw [Int32.toBitVec_shiftRight]
  show (x.toBitVec.sshiftRight ((nI n &&& 31).toBitVec.smod 32).toNat).getLsbD i = _
  rw [s_l n hn, BitVec.getLsbD_sshiftRight, BitVec.msb_eq_getLsbD_last]
  simp [hi]
theorem b_shl8 (x : Int32) {i : Nat} (hi : i < 32) : bt (x <<< ((8 : Int32) &&& 31)) i = (decide (8 ≤ i) && bt x (i - 8)) := b_shl 8 (by omega) x hi
theorem b_shl16 (x : Int32) {i : Nat} (hi : i < 32) : bt (x <<< ((16 : Int32) &&& 31)) i = (decide (16 ≤ i) && bt x (i - 16)) := b_shl 16 (by omega) x hi
theorem b_shl24 (x : Int32) {i : Nat} (hi : i < 32) : bt (x <<< ((24 : Int32) &&& 31)) i = (decide (24 ≤ i) && bt x (i - 24)) := b_shl 24 (by omega) x hi
theorem b_sshr8 (x : Int32) {i : Nat} (hi : i < 32) : bt (x >>> ((8 : Int32) &&& 31)) i = if 8 + i < 32 then bt x (8 + i) else bt x 31 := b_sshr 8 (by omega) x hi
/-! ===== nI under and, xor, >>>, one bit, 65535 ===== -/
theorem nx_and (a b : Nat) : nI a &&& nI b = nI (a &&& b) := by
  apply Int32.toBitVec_inj.1
  show BitVec.ofNat 32 a &&& BitVec.ofNat 32 b = BitVec.ofNat 32 (a &&& b)
  apply BitVec.eq_of_getLsbD_eq
  intro i hi
  simp [hi]
theorem nx_xor (a b : Nat) : nI a ^^^ nI b = nI (a ^^^ b) := by
  apply Int32.toBitVec_inj.1
  show BitVec.ofNat 32 a ^^^ BitVec.ofNat 32 b = BitVec.ofNat 32 (a ^^^ b)
  apply BitVec.eq_of_getLsbD_eq
  intro i hi
  simp [hi]
theorem b_1 (i : Nat) : bt 1 i = decide (i = 0) := by
  unfold bt
  rcases Nat.lt_or_ge i 32 with h | h
  · revert i; decide +kernel
  · rw [BitVec.getLsbD_of_ge _ _ h]
    have : ¬ i = 0 := by omega
    simp [this]
/-- a bit is looked at -/
theorem bt_is (x : Int32) {n : Nat} (hn : n < 31) : ((x >>> (nI n &&& 31)) &&& 1) = 1 ↔ bt x n = true := by
  have h0 : ∀ i, i < 32 → bt ((x >>> (nI n &&& 31)) &&& 1) i = (decide (i = 0) && bt x n) := by
    intro i hi
    rw [b_and, b_1, b_sshr n (by omega) x hi]
    by_cases h : i = 0
    · subst h
      have : n + 0 < 32 := by omega
      rw [if_pos this]
      simp
    · simp [h]
  constructor
  · intro h
    have := h0 0 (by decide)
    rw [h, b_1] at this
    simpa using this.symm
  · intro h
    refine b_ext (fun i hi => ?_)
    rw [h0 i hi, h, b_1]
    simp
theorem bt_is0 (x : Int32) {n : Nat} (hn : n < 31) : ((x >>> (nI n &&& 31)) &&& 1) = 0 ↔ bt x n = false := by
  have h0 : ∀ i, i < 32 → bt ((x >>> (nI n &&& 31)) &&& 1) i = (decide (i = 0) && bt x n) := by
    intro i hi
    rw [b_and, b_1, b_sshr n (by omega) x hi]
    by_cases h : i = 0
    · subst h
      have : n + 0 < 32 := by omega
      rw [if_pos this]
      simp
    · simp [h]
  constructor
  · intro h
    have := h0 0 (by decide)
    rw [h, b_0] at this
    simpa using this.symm
  · intro h
    refine b_ext (fun i hi => ?_)
    rw [h0 i hi, h, b_0]
    simp
/-- a bit is set -/
theorem bt_on (x : Int32) {n i : Nat} (hn : n < 32) (hi : i < 32) : bt (x ||| ((1 : Int32) <<< (nI n &&& 31))) i = (bt x i || decide (i = n)) := by
  rw [b_or, b_shl n hn 1 hi, b_1]
  congr 1
  by_cases h : i = n
  · subst h; simp
  · simp only [h, decide_false]
    rcases Nat.lt_or_ge i n with h1 | h1
    · have : ¬ n ≤ i := by omega
      simp [this]
    · have : ¬ i - n = 0 := by omega
      simp [this]
theorem bt_not (x : Int32) {i : Nat} (hi : i < 32) : bt (x ^^^ (-1)) i = !(bt x i) := by
  rw [b_xor, b_m1 i hi]
  cases bt x i <;> rfl
/-- a bit is cleared -/
theorem bt_off (x : Int32) {n i : Nat} (hn : n < 32) (hi : i < 32) : bt (x &&& (((1 : Int32) <<< (nI n &&& 31)) ^^^ (-1))) i = (bt x i && !decide (i = n)) := by
  rw [b_and, bt_not _ hi, b_shl n hn 1 hi, b_1]
  congr 1
  congr 1
  by_cases h : i = n
  · subst h; simp
  · simp only [h, decide_false]
    rcases Nat.lt_or_ge i n with h1 | h1
    · have : ¬ n ≤ i := by omega
      simp [this]
    · have : ¬ i - n = 0 := by omega
      simp [this]
