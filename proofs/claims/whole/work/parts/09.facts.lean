/-! rules by which simp walks; what a call needs of the tables -/
theorem mj_E_iconst_n (T : mj_T) (ret : Option Value → mj_H → Prop) (K : mj_K) (pc : Nat) (l st : List Value) (h : mj_H) (bc bs : Nat) (n : Int) : mj_I T ret K pc l st h bc bs (.iconst n) = (K (pc + 1) l (.int (Int32.ofInt n) :: st) h bc bs) := rfl
theorem mj_E_bipush_n (T : mj_T) (ret : Option Value → mj_H → Prop) (K : mj_K) (pc : Nat) (l st : List Value) (h : mj_H) (bc bs : Nat) (n : Int) : mj_I T ret K pc l st h bc bs (.bipush n) = (K (pc + 2) l (.int (Int8.ofInt n).toInt32 :: st) h bc bs) := rfl
theorem mj_E_sipush_n (T : mj_T) (ret : Option Value → mj_H → Prop) (K : mj_K) (pc : Nat) (l st : List Value) (h : mj_H) (bc bs : Nat) (n : Int) : mj_I T ret K pc l st h bc bs (.sipush n) = (K (pc + 3) l (.int (Int16.ofInt n).toInt32 :: st) h bc bs) := rfl
theorem mj_E_lconst_n (T : mj_T) (ret : Option Value → mj_H → Prop) (K : mj_K) (pc : Nat) (l st : List Value) (h : mj_H) (bc bs : Nat) (n : Fin 2) : mj_I T ret K pc l st h bc bs (.lconst n) = (K (pc + 1) l (.long (Int64.ofNat n.val) :: st) h bc bs) := rfl
theorem mj_E_aconst_null (T : mj_T) (ret : Option Value → mj_H → Prop) (K : mj_K) (pc : Nat) (l st : List Value) (h : mj_H) (bc bs : Nat) : mj_I T ret K pc l st h bc bs .aconst_null = (K (pc + 1) l (.null :: st) h bc bs) := rfl
theorem mj_E_iload_n_k (T : mj_T) (ret : Option Value → mj_H → Prop) (K : mj_K) (pc : Nat) (l st : List Value) (h : mj_H) (bc bs : Nat) (k : Fin 4) : mj_I T ret K pc l st h bc bs (.iload_n k) = (match l[k.val]? with
    | some (.int x) => K (pc + 1) l (.int x :: st) h bc bs
    | _ => False) := rfl
theorem mj_E_iload_k (T : mj_T) (ret : Option Value → mj_H → Prop) (K : mj_K) (pc : Nat) (l st : List Value) (h : mj_H) (bc bs : Nat) (k : Nat) : mj_I T ret K pc l st h bc bs (.iload k) = (match l[k]? with
    | some (.int x) => K (pc + 2) l (.int x :: st) h bc bs
    | _ => False) := rfl
theorem mj_E_lload_n_k (T : mj_T) (ret : Option Value → mj_H → Prop) (K : mj_K) (pc : Nat) (l st : List Value) (h : mj_H) (bc bs : Nat) (k : Fin 4) : mj_I T ret K pc l st h bc bs (.lload_n k) = (match l[k.val]? with
    | some (.long x) => K (pc + 1) l (.long x :: st) h bc bs
    | _ => False) := rfl
theorem mj_E_lload_k (T : mj_T) (ret : Option Value → mj_H → Prop) (K : mj_K) (pc : Nat) (l st : List Value) (h : mj_H) (bc bs : Nat) (k : Nat) : mj_I T ret K pc l st h bc bs (.lload k) = (match l[k]? with
    | some (.long x) => K (pc + 2) l (.long x :: st) h bc bs
    | _ => False) := rfl
theorem mj_E_aload_n_k (T : mj_T) (ret : Option Value → mj_H → Prop) (K : mj_K) (pc : Nat) (l st : List Value) (h : mj_H) (bc bs : Nat) (k : Fin 4) : mj_I T ret K pc l st h bc bs (.aload_n k) = (match l[k.val]? with
    | some (.ref x) => K (pc + 1) l (.ref x :: st) h bc bs
    | some .null => K (pc + 1) l (.null :: st) h bc bs
    | _ => False) := rfl
theorem mj_E_aload_k (T : mj_T) (ret : Option Value → mj_H → Prop) (K : mj_K) (pc : Nat) (l st : List Value) (h : mj_H) (bc bs : Nat) (k : Nat) : mj_I T ret K pc l st h bc bs (.aload k) = (match l[k]? with
    | some (.ref x) => K (pc + 2) l (.ref x :: st) h bc bs
    | some .null => K (pc + 2) l (.null :: st) h bc bs
    | _ => False) := rfl
theorem mj_E_istore_n_k (T : mj_T) (ret : Option Value → mj_H → Prop) (K : mj_K) (pc : Nat) (l st : List Value) (h : mj_H) (bc bs : Nat) (k : Fin 4) : mj_I T ret K pc l st h bc bs (.istore_n k) = (match st with
    | .int x :: r => k.val < T.1 ∧ K (pc + 1) (mj_set l k.val (.int x)) r h bc bs
    | _ => False) := rfl
theorem mj_E_istore_k (T : mj_T) (ret : Option Value → mj_H → Prop) (K : mj_K) (pc : Nat) (l st : List Value) (h : mj_H) (bc bs : Nat) (k : Nat) : mj_I T ret K pc l st h bc bs (.istore k) = (match st with
    | .int x :: r => k < T.1 ∧ K (pc + 2) (mj_set l k (.int x)) r h bc bs
    | _ => False) := rfl
theorem mj_E_lstore_n_k (T : mj_T) (ret : Option Value → mj_H → Prop) (K : mj_K) (pc : Nat) (l st : List Value) (h : mj_H) (bc bs : Nat) (k : Fin 4) : mj_I T ret K pc l st h bc bs (.lstore_n k) = (match st with
    | .long x :: r => k.val + 1 < T.1 ∧ K (pc + 1) (mj_set (mj_set l (k.val + 1) mj_unk) k.val (.long x)) r h bc bs
    | _ => False) := rfl
theorem mj_E_lstore_k (T : mj_T) (ret : Option Value → mj_H → Prop) (K : mj_K) (pc : Nat) (l st : List Value) (h : mj_H) (bc bs : Nat) (k : Nat) : mj_I T ret K pc l st h bc bs (.lstore k) = (match st with
    | .long x :: r => k + 1 < T.1 ∧ K (pc + 2) (mj_set (mj_set l (k + 1) mj_unk) k (.long x)) r h bc bs
    | _ => False) := rfl
theorem mj_E_astore_n_k (T : mj_T) (ret : Option Value → mj_H → Prop) (K : mj_K) (pc : Nat) (l st : List Value) (h : mj_H) (bc bs : Nat) (k : Fin 4) : mj_I T ret K pc l st h bc bs (.astore_n k) = (match st with
    | .ref x :: r => k.val < T.1 ∧ K (pc + 1) (mj_set l k.val (.ref x)) r h bc bs
    | .null :: r => k.val < T.1 ∧ K (pc + 1) (mj_set l k.val .null) r h bc bs
    | _ => False) := rfl
theorem mj_E_astore_k (T : mj_T) (ret : Option Value → mj_H → Prop) (K : mj_K) (pc : Nat) (l st : List Value) (h : mj_H) (bc bs : Nat) (k : Nat) : mj_I T ret K pc l st h bc bs (.astore k) = (match st with
    | .ref x :: r => k < T.1 ∧ K (pc + 2) (mj_set l k (.ref x)) r h bc bs
    | .null :: r => k < T.1 ∧ K (pc + 2) (mj_set l k .null) r h bc bs
    | _ => False) := rfl
theorem mj_E_iinc_k_n (T : mj_T) (ret : Option Value → mj_H → Prop) (K : mj_K) (pc : Nat) (l st : List Value) (h : mj_H) (bc bs : Nat) (k : Nat) (n : Int) : mj_I T ret K pc l st h bc bs (.iinc k n) = (match l[k]? with
    | some (.int x) => k < T.1 ∧ K (pc + 3) (mj_set l k (.int (x + Int32.ofInt n))) st h bc bs
    | _ => False) := rfl
theorem mj_E_iadd (T : mj_T) (ret : Option Value → mj_H → Prop) (K : mj_K) (pc : Nat) (l st : List Value) (h : mj_H) (bc bs : Nat) : mj_I T ret K pc l st h bc bs .iadd = (match st with
    | .int y :: .int x :: r => K (pc + 1) l (.int (x + y) :: r) h bc bs
    | _ => False) := rfl
theorem mj_E_isub (T : mj_T) (ret : Option Value → mj_H → Prop) (K : mj_K) (pc : Nat) (l st : List Value) (h : mj_H) (bc bs : Nat) : mj_I T ret K pc l st h bc bs .isub = (match st with
    | .int y :: .int x :: r => K (pc + 1) l (.int (x - y) :: r) h bc bs
    | _ => False) := rfl
theorem mj_E_imul (T : mj_T) (ret : Option Value → mj_H → Prop) (K : mj_K) (pc : Nat) (l st : List Value) (h : mj_H) (bc bs : Nat) : mj_I T ret K pc l st h bc bs .imul = (match st with
    | .int y :: .int x :: r => K (pc + 1) l (.int (x * y) :: r) h bc bs
    | _ => False) := rfl
theorem mj_E_iand (T : mj_T) (ret : Option Value → mj_H → Prop) (K : mj_K) (pc : Nat) (l st : List Value) (h : mj_H) (bc bs : Nat) : mj_I T ret K pc l st h bc bs .iand = (match st with
    | .int y :: .int x :: r => K (pc + 1) l (.int (x &&& y) :: r) h bc bs
    | _ => False) := rfl
theorem mj_E_ior (T : mj_T) (ret : Option Value → mj_H → Prop) (K : mj_K) (pc : Nat) (l st : List Value) (h : mj_H) (bc bs : Nat) : mj_I T ret K pc l st h bc bs .ior = (match st with
    | .int y :: .int x :: r => K (pc + 1) l (.int (x ||| y) :: r) h bc bs
    | _ => False) := rfl
theorem mj_E_ixor (T : mj_T) (ret : Option Value → mj_H → Prop) (K : mj_K) (pc : Nat) (l st : List Value) (h : mj_H) (bc bs : Nat) : mj_I T ret K pc l st h bc bs .ixor = (match st with
    | .int y :: .int x :: r => K (pc + 1) l (.int (x ^^^ y) :: r) h bc bs
    | _ => False) := rfl
theorem mj_E_ishl (T : mj_T) (ret : Option Value → mj_H → Prop) (K : mj_K) (pc : Nat) (l st : List Value) (h : mj_H) (bc bs : Nat) : mj_I T ret K pc l st h bc bs .ishl = (match st with
    | .int y :: .int x :: r => K (pc + 1) l (.int (x <<< (y &&& 31)) :: r) h bc bs
    | _ => False) := rfl
theorem mj_E_ishr (T : mj_T) (ret : Option Value → mj_H → Prop) (K : mj_K) (pc : Nat) (l st : List Value) (h : mj_H) (bc bs : Nat) : mj_I T ret K pc l st h bc bs .ishr = (match st with
    | .int y :: .int x :: r => K (pc + 1) l (.int (x >>> (y &&& 31)) :: r) h bc bs
    | _ => False) := rfl
theorem mj_E_iushr (T : mj_T) (ret : Option Value → mj_H → Prop) (K : mj_K) (pc : Nat) (l st : List Value) (h : mj_H) (bc bs : Nat) : mj_I T ret K pc l st h bc bs .iushr = (match st with
    | .int y :: .int x :: r => K (pc + 1) l (.int ((x.toUInt32 >>> (y.toUInt32 &&& Int32.toUInt32 31)).toInt32) :: r) h bc bs
    | _ => False) := rfl
theorem mj_E_ladd (T : mj_T) (ret : Option Value → mj_H → Prop) (K : mj_K) (pc : Nat) (l st : List Value) (h : mj_H) (bc bs : Nat) : mj_I T ret K pc l st h bc bs .ladd = (match st with
    | .long y :: .long x :: r => K (pc + 1) l (.long (x + y) :: r) h bc bs
    | _ => False) := rfl
theorem mj_E_lsub (T : mj_T) (ret : Option Value → mj_H → Prop) (K : mj_K) (pc : Nat) (l st : List Value) (h : mj_H) (bc bs : Nat) : mj_I T ret K pc l st h bc bs .lsub = (match st with
    | .long y :: .long x :: r => K (pc + 1) l (.long (x - y) :: r) h bc bs
    | _ => False) := rfl
theorem mj_E_lmul (T : mj_T) (ret : Option Value → mj_H → Prop) (K : mj_K) (pc : Nat) (l st : List Value) (h : mj_H) (bc bs : Nat) : mj_I T ret K pc l st h bc bs .lmul = (match st with
    | .long y :: .long x :: r => K (pc + 1) l (.long (x * y) :: r) h bc bs
    | _ => False) := rfl
theorem mj_E_idiv (T : mj_T) (ret : Option Value → mj_H → Prop) (K : mj_K) (pc : Nat) (l st : List Value) (h : mj_H) (bc bs : Nat) : mj_I T ret K pc l st h bc bs .idiv = (match st with
    | .int y :: .int x :: r => ¬ y = 0 ∧ K (pc + 1) l (.int (x / y) :: r) h bc bs
    | _ => False) := rfl
theorem mj_E_irem (T : mj_T) (ret : Option Value → mj_H → Prop) (K : mj_K) (pc : Nat) (l st : List Value) (h : mj_H) (bc bs : Nat) : mj_I T ret K pc l st h bc bs .irem = (match st with
    | .int y :: .int x :: r => ¬ y = 0 ∧ K (pc + 1) l (.int (x - x / y * y) :: r) h bc bs
    | _ => False) := rfl
theorem mj_E_ldiv (T : mj_T) (ret : Option Value → mj_H → Prop) (K : mj_K) (pc : Nat) (l st : List Value) (h : mj_H) (bc bs : Nat) : mj_I T ret K pc l st h bc bs .ldiv = (match st with
    | .long y :: .long x :: r => ¬ y = 0 ∧ K (pc + 1) l (.long (x / y) :: r) h bc bs
    | _ => False) := rfl
theorem mj_E_ineg (T : mj_T) (ret : Option Value → mj_H → Prop) (K : mj_K) (pc : Nat) (l st : List Value) (h : mj_H) (bc bs : Nat) : mj_I T ret K pc l st h bc bs .ineg = (match st with
    | .int x :: r => K (pc + 1) l (.int (-x) :: r) h bc bs
    | _ => False) := rfl
theorem mj_E_i2l (T : mj_T) (ret : Option Value → mj_H → Prop) (K : mj_K) (pc : Nat) (l st : List Value) (h : mj_H) (bc bs : Nat) : mj_I T ret K pc l st h bc bs .i2l = (match st with
    | .int x :: r => K (pc + 1) l (.long x.toInt64 :: r) h bc bs
    | _ => False) := rfl
theorem mj_E_l2i (T : mj_T) (ret : Option Value → mj_H → Prop) (K : mj_K) (pc : Nat) (l st : List Value) (h : mj_H) (bc bs : Nat) : mj_I T ret K pc l st h bc bs .l2i = (match st with
    | .long x :: r => K (pc + 1) l (.int x.toInt32 :: r) h bc bs
    | _ => False) := rfl
theorem mj_E_lcmp (T : mj_T) (ret : Option Value → mj_H → Prop) (K : mj_K) (pc : Nat) (l st : List Value) (h : mj_H) (bc bs : Nat) : mj_I T ret K pc l st h bc bs .lcmp = (match st with
    | .long y :: .long x :: r => K (pc + 1) l (.int (lg_cmp x y) :: r) h bc bs
    | _ => False) := rfl
theorem mj_E_dup (T : mj_T) (ret : Option Value → mj_H → Prop) (K : mj_K) (pc : Nat) (l st : List Value) (h : mj_H) (bc bs : Nat) : mj_I T ret K pc l st h bc bs .dup = (match st with
    | v :: r => mj_c2 v = false ∧ K (pc + 1) l (v :: v :: r) h bc bs
    | _ => False) := rfl
theorem mj_E_pop (T : mj_T) (ret : Option Value → mj_H → Prop) (K : mj_K) (pc : Nat) (l st : List Value) (h : mj_H) (bc bs : Nat) : mj_I T ret K pc l st h bc bs .pop = (match st with
    | v :: r => mj_c2 v = false ∧ K (pc + 1) l r h bc bs
    | _ => False) := rfl
theorem mj_E_dup2 (T : mj_T) (ret : Option Value → mj_H → Prop) (K : mj_K) (pc : Nat) (l st : List Value) (h : mj_H) (bc bs : Nat) : mj_I T ret K pc l st h bc bs .dup2 = (match st with
    | v :: w :: r => mj_c2 v = false ∧ mj_c2 w = false ∧ K (pc + 1) l (v :: w :: v :: w :: r) h bc bs
    | _ => False) := rfl
theorem mj_E_ifCond_eq_off (T : mj_T) (ret : Option Value → mj_H → Prop) (K : mj_K) (pc : Nat) (l st : List Value) (h : mj_H) (bc bs : Nat) (off : Int) : mj_I T ret K pc l st h bc bs (.ifCond .eq off) = (match st with
    | .int x :: r => 0 ≤ (pc : Int) + off ∧ (x = 0 → K (mj_t pc off) l r h bc bs) ∧ (¬ x = 0 → K (pc + 3) l r h bc bs)
    | _ => False) := rfl
theorem mj_E_if_icmp_eq_off (T : mj_T) (ret : Option Value → mj_H → Prop) (K : mj_K) (pc : Nat) (l st : List Value) (h : mj_H) (bc bs : Nat) (off : Int) : mj_I T ret K pc l st h bc bs (.if_icmp .eq off) = (match st with
    | .int y :: .int x :: r => 0 ≤ (pc : Int) + off ∧ (x = y → K (mj_t pc off) l r h bc bs) ∧ (¬ x = y → K (pc + 3) l r h bc bs)
    | _ => False) := rfl
theorem mj_E_ifCond_ne_off (T : mj_T) (ret : Option Value → mj_H → Prop) (K : mj_K) (pc : Nat) (l st : List Value) (h : mj_H) (bc bs : Nat) (off : Int) : mj_I T ret K pc l st h bc bs (.ifCond .ne off) = (match st with
    | .int x :: r => 0 ≤ (pc : Int) + off ∧ (¬ x = 0 → K (mj_t pc off) l r h bc bs) ∧ (x = 0 → K (pc + 3) l r h bc bs)
    | _ => False) := rfl
theorem mj_E_if_icmp_ne_off (T : mj_T) (ret : Option Value → mj_H → Prop) (K : mj_K) (pc : Nat) (l st : List Value) (h : mj_H) (bc bs : Nat) (off : Int) : mj_I T ret K pc l st h bc bs (.if_icmp .ne off) = (match st with
    | .int y :: .int x :: r => 0 ≤ (pc : Int) + off ∧ (¬ x = y → K (mj_t pc off) l r h bc bs) ∧ (x = y → K (pc + 3) l r h bc bs)
    | _ => False) := rfl
theorem mj_E_ifCond_lt_off (T : mj_T) (ret : Option Value → mj_H → Prop) (K : mj_K) (pc : Nat) (l st : List Value) (h : mj_H) (bc bs : Nat) (off : Int) : mj_I T ret K pc l st h bc bs (.ifCond .lt off) = (match st with
    | .int x :: r => 0 ≤ (pc : Int) + off ∧ (x < 0 → K (mj_t pc off) l r h bc bs) ∧ (¬ x < 0 → K (pc + 3) l r h bc bs)
    | _ => False) := rfl
theorem mj_E_if_icmp_lt_off (T : mj_T) (ret : Option Value → mj_H → Prop) (K : mj_K) (pc : Nat) (l st : List Value) (h : mj_H) (bc bs : Nat) (off : Int) : mj_I T ret K pc l st h bc bs (.if_icmp .lt off) = (match st with
    | .int y :: .int x :: r => 0 ≤ (pc : Int) + off ∧ (x < y → K (mj_t pc off) l r h bc bs) ∧ (¬ x < y → K (pc + 3) l r h bc bs)
    | _ => False) := rfl
theorem mj_E_ifCond_ge_off (T : mj_T) (ret : Option Value → mj_H → Prop) (K : mj_K) (pc : Nat) (l st : List Value) (h : mj_H) (bc bs : Nat) (off : Int) : mj_I T ret K pc l st h bc bs (.ifCond .ge off) = (match st with
    | .int x :: r => 0 ≤ (pc : Int) + off ∧ (0 ≤ x → K (mj_t pc off) l r h bc bs) ∧ (¬ 0 ≤ x → K (pc + 3) l r h bc bs)
    | _ => False) := rfl
theorem mj_E_if_icmp_ge_off (T : mj_T) (ret : Option Value → mj_H → Prop) (K : mj_K) (pc : Nat) (l st : List Value) (h : mj_H) (bc bs : Nat) (off : Int) : mj_I T ret K pc l st h bc bs (.if_icmp .ge off) = (match st with
    | .int y :: .int x :: r => 0 ≤ (pc : Int) + off ∧ (y ≤ x → K (mj_t pc off) l r h bc bs) ∧ (¬ y ≤ x → K (pc + 3) l r h bc bs)
    | _ => False) := rfl
theorem mj_E_ifCond_gt_off (T : mj_T) (ret : Option Value → mj_H → Prop) (K : mj_K) (pc : Nat) (l st : List Value) (h : mj_H) (bc bs : Nat) (off : Int) : mj_I T ret K pc l st h bc bs (.ifCond .gt off) = (match st with
    | .int x :: r => 0 ≤ (pc : Int) + off ∧ (0 < x → K (mj_t pc off) l r h bc bs) ∧ (¬ 0 < x → K (pc + 3) l r h bc bs)
    | _ => False) := rfl
theorem mj_E_if_icmp_gt_off (T : mj_T) (ret : Option Value → mj_H → Prop) (K : mj_K) (pc : Nat) (l st : List Value) (h : mj_H) (bc bs : Nat) (off : Int) : mj_I T ret K pc l st h bc bs (.if_icmp .gt off) = (match st with
    | .int y :: .int x :: r => 0 ≤ (pc : Int) + off ∧ (y < x → K (mj_t pc off) l r h bc bs) ∧ (¬ y < x → K (pc + 3) l r h bc bs)
    | _ => False) := rfl
theorem mj_E_ifCond_le_off (T : mj_T) (ret : Option Value → mj_H → Prop) (K : mj_K) (pc : Nat) (l st : List Value) (h : mj_H) (bc bs : Nat) (off : Int) : mj_I T ret K pc l st h bc bs (.ifCond .le off) = (match st with
    | .int x :: r => 0 ≤ (pc : Int) + off ∧ (x ≤ 0 → K (mj_t pc off) l r h bc bs) ∧ (¬ x ≤ 0 → K (pc + 3) l r h bc bs)
    | _ => False) := rfl
theorem mj_E_if_icmp_le_off (T : mj_T) (ret : Option Value → mj_H → Prop) (K : mj_K) (pc : Nat) (l st : List Value) (h : mj_H) (bc bs : Nat) (off : Int) : mj_I T ret K pc l st h bc bs (.if_icmp .le off) = (match st with
    | .int y :: .int x :: r => 0 ≤ (pc : Int) + off ∧ (x ≤ y → K (mj_t pc off) l r h bc bs) ∧ (¬ x ≤ y → K (pc + 3) l r h bc bs)
    | _ => False) := rfl
theorem mj_E_ifnull_off (T : mj_T) (ret : Option Value → mj_H → Prop) (K : mj_K) (pc : Nat) (l st : List Value) (h : mj_H) (bc bs : Nat) (off : Int) : mj_I T ret K pc l st h bc bs (.ifnull off) = (match st with
    | .null :: r => mj_go pc off (K (mj_t pc off) l r h bc bs)
    | .ref _ :: r => K (pc + 3) l r h bc bs
    | _ => False) := rfl
theorem mj_E_ifnonnull_off (T : mj_T) (ret : Option Value → mj_H → Prop) (K : mj_K) (pc : Nat) (l st : List Value) (h : mj_H) (bc bs : Nat) (off : Int) : mj_I T ret K pc l st h bc bs (.ifnonnull off) = (match st with
    | .ref _ :: r => mj_go pc off (K (mj_t pc off) l r h bc bs)
    | .null :: r => K (pc + 3) l r h bc bs
    | _ => False) := rfl
theorem mj_E_goto_off (T : mj_T) (ret : Option Value → mj_H → Prop) (K : mj_K) (pc : Nat) (l st : List Value) (h : mj_H) (bc bs : Nat) (off : Int) : mj_I T ret K pc l st h bc bs (.goto off) = (mj_go pc off (K (mj_t pc off) l st h bc bs)) := rfl
theorem mj_E_tableswitch_dflt_lo_hi_offs (T : mj_T) (ret : Option Value → mj_H → Prop) (K : mj_K) (pc : Nat) (l st : List Value) (h : mj_H) (bc bs : Nat) (dflt : Int) (lo : Int) (hi : Int) (offs : Array Int) : mj_I T ret K pc l st h bc bs (.tableswitch dflt lo hi offs) = (match st with
    | .int x :: r => (¬ x.toInt < lo → ¬ hi < x.toInt → match offs[(x.toInt - lo).toNat]? with
        | some off => mj_go pc off (K (mj_t pc off) l r h bc bs)
        | none => False) ∧ ((x.toInt < lo ∨ hi < x.toInt) → mj_go pc dflt (K (mj_t pc dflt) l r h bc bs))
    | _ => False) := rfl
theorem mj_E_lookupswitch_dflt_ps (T : mj_T) (ret : Option Value → mj_H → Prop) (K : mj_K) (pc : Nat) (l st : List Value) (h : mj_H) (bc bs : Nat) (dflt : Int) (ps : Array (Int × Int)) : mj_I T ret K pc l st h bc bs (.lookupswitch dflt ps) = (match st with
    | .int x :: r => (ps.toList.zip (ps.toList.drop 1)).all (fun (a, next) => a.1 < next.1) = true ∧ mj_go pc (Op.lookupswitch.offset ps.toList dflt x.toInt) (K (mj_t pc (Op.lookupswitch.offset ps.toList dflt x.toInt)) l r h bc bs)
    | _ => False) := rfl
theorem mj_E_getfield_i (T : mj_T) (ret : Option Value → mj_H → Prop) (K : mj_K) (pc : Nat) (l st : List Value) (h : mj_H) (bc bs : Nat) (i : Nat) : mj_I T ret K pc l st h bc bs (.getfield i) = (match st, T.2.2.1 i with
    | .ref a :: r, some (ci, k) => (match h[a]? with
      | some (.inr (cj, fs)) => cj = ci ∧ (match fs[k]? with
        | some v => K (pc + 3) l (v :: r) h bc bs
        | none => False)
      | _ => False)
    | _, _ => False) := rfl
theorem mj_E_putfield_i (T : mj_T) (ret : Option Value → mj_H → Prop) (K : mj_K) (pc : Nat) (l st : List Value) (h : mj_H) (bc bs : Nat) (i : Nat) : mj_I T ret K pc l st h bc bs (.putfield i) = (match st, T.2.2.2.1 i with
    | .int x :: .ref a :: r, some (ci, k, true) => (match h[a]? with
      | some (.inr (cj, fs)) => cj = ci ∧ k < fs.length ∧ K (pc + 3) l r (h.set a (.inr (cj, fs.set k (.int x)))) bc bs
      | _ => False)
    | .ref x :: .ref a :: r, some (ci, k, false) => (match h[a]? with
      | some (.inr (cj, fs)) => cj = ci ∧ k < fs.length ∧ K (pc + 3) l r (h.set a (.inr (cj, fs.set k (.ref x)))) bc bs
      | _ => False)
    | _, _ => False) := rfl
theorem mj_E_getstatic_i (T : mj_T) (ret : Option Value → mj_H → Prop) (K : mj_K) (pc : Nat) (l st : List Value) (h : mj_H) (bc bs : Nat) (i : Nat) : mj_I T ret K pc l st h bc bs (.getstatic i) = (match T.2.2.2.2.2.1 i with
    | some k => k < 3 ∧ K (pc + 3) l (.float (UInt32.ofNat k) :: st) h bc bs
    | none => False) := rfl
theorem mj_E_ldc_i (T : mj_T) (ret : Option Value → mj_H → Prop) (K : mj_K) (pc : Nat) (l st : List Value) (h : mj_H) (bc bs : Nat) (i : Nat) : mj_I T ret K pc l st h bc bs (.ldc i) = (match T.2.2.2.2.1 i with
    | some (.int x) => K (pc + 2) l (.int x :: st) h bc bs
    | _ => False) := rfl
theorem mj_E_ldc_w_i (T : mj_T) (ret : Option Value → mj_H → Prop) (K : mj_K) (pc : Nat) (l st : List Value) (h : mj_H) (bc bs : Nat) (i : Nat) : mj_I T ret K pc l st h bc bs (.ldc_w i) = (match T.2.2.2.2.1 i with
    | some (.int x) => K (pc + 3) l (.int x :: st) h bc bs
    | _ => False) := rfl
theorem mj_E_ldc2_w_i (T : mj_T) (ret : Option Value → mj_H → Prop) (K : mj_K) (pc : Nat) (l st : List Value) (h : mj_H) (bc bs : Nat) (i : Nat) : mj_I T ret K pc l st h bc bs (.ldc2_w i) = (match T.2.2.2.2.1 i with
    | some (.long x) => K (pc + 3) l (.long x :: st) h bc bs
    | _ => False) := rfl
theorem mj_E_iaload (T : mj_T) (ret : Option Value → mj_H → Prop) (K : mj_K) (pc : Nat) (l st : List Value) (h : mj_H) (bc bs : Nat) : mj_I T ret K pc l st h bc bs .iaload = (match st with
    | .int i :: .ref a :: r => (match h[a]? with
      | some (.inl (.int, n, .inl f)) => vp_in i n ∧ K (pc + 1) l (.int (f i.toNatClampNeg) :: r) h bc bs
      | _ => False)
    | .int i :: .float b :: r => (match mj_stat b.toNat with
      | some (n, f) => vp_in i n ∧ K (pc + 1) l (.int (f i.toNatClampNeg) :: r) h bc bs
      | none => False)
    | _ => False) := rfl
theorem mj_E_baload (T : mj_T) (ret : Option Value → mj_H → Prop) (K : mj_K) (pc : Nat) (l st : List Value) (h : mj_H) (bc bs : Nat) : mj_I T ret K pc l st h bc bs .baload = (match st with
    | .int i :: .ref a :: r => (match h[a]? with
      | some (.inl (.boolean, n, .inl f)) => vp_in i n ∧ K (pc + 1) l (.int (f i.toNatClampNeg) :: r) h bc bs
      | _ => False)
    | _ => False) := rfl
theorem mj_E_aaload (T : mj_T) (ret : Option Value → mj_H → Prop) (K : mj_K) (pc : Nat) (l st : List Value) (h : mj_H) (bc bs : Nat) : mj_I T ret K pc l st h bc bs .aaload = (match st with
    | .int i :: .ref a :: r => (match h[a]? with
      | some (.inl (.array .int, n, .inr (.inr (.inr (.inr f))))) => vp_in i n ∧ K (pc + 1) l (va_rf (f i.toNatClampNeg) :: r) h bc bs
      | _ => False)
    | _ => False) := rfl
theorem mj_E_iastore (T : mj_T) (ret : Option Value → mj_H → Prop) (K : mj_K) (pc : Nat) (l st : List Value) (h : mj_H) (bc bs : Nat) : mj_I T ret K pc l st h bc bs .iastore = (match st with
    | .int x :: .int i :: .ref a :: r => (match h[a]? with
      | some (.inl (.int, n, .inl f)) => vp_in i n ∧ K (pc + 1) l r (h.set a (.inl (.int, n, .inl (upd f i.toNatClampNeg x)))) bc bs
      | _ => False)
    | _ => False) := rfl
theorem mj_E_bastore (T : mj_T) (ret : Option Value → mj_H → Prop) (K : mj_K) (pc : Nat) (l st : List Value) (h : mj_H) (bc bs : Nat) : mj_I T ret K pc l st h bc bs .bastore = (match st with
    | .int x :: .int i :: .ref a :: r => (match h[a]? with
      | some (.inl (.boolean, n, .inl f)) => vp_in i n ∧ K (pc + 1) l r (h.set a (.inl (.boolean, n, .inl (upd f i.toNatClampNeg (vp_nar .boolean x))))) bc bs
      | _ => False)
    | _ => False) := rfl
theorem mj_E_aastore (T : mj_T) (ret : Option Value → mj_H → Prop) (K : mj_K) (pc : Nat) (l st : List Value) (h : mj_H) (bc bs : Nat) : mj_I T ret K pc l st h bc bs .aastore = (match st with
    | .ref v :: .int i :: .ref a :: r => (match h[a]?, h[v]? with
      | some (.inl (.array .int, n, .inr (.inr (.inr (.inr f))))), some (.inl (.int, _, .inl _)) => vp_in i n ∧ K (pc + 1) l r (h.set a (.inl (.array .int, n, .inr (.inr (.inr (.inr (va_up f i.toNatClampNeg (some v)))))))) bc bs
      | _, _ => False)
    | _ => False) := rfl
theorem mj_E_arraylength (T : mj_T) (ret : Option Value → mj_H → Prop) (K : mj_K) (pc : Nat) (l st : List Value) (h : mj_H) (bc bs : Nat) : mj_I T ret K pc l st h bc bs .arraylength = (match st with
    | .ref a :: r => (match h[a]? with
      | some (.inl (ty, n, _)) => mj_isA ty = true ∧ K (pc + 1) l (.int (nI n) :: r) h bc bs
      | _ => False)
    | .float b :: r => (match mj_stat b.toNat with
      | some (n, _) => K (pc + 1) l (.int (nI n) :: r) h bc bs
      | none => False)
    | _ => False) := rfl
theorem mj_E_newarray_ty (T : mj_T) (ret : Option Value → mj_H → Prop) (K : mj_K) (pc : Nat) (l st : List Value) (h : mj_H) (bc bs : Nat) (ty : ArrayType) : mj_I T ret K pc l st h bc bs (.newarray ty) = (match st with
    | .int x :: r => ¬ x < 0 ∧ x.toNatClampNeg ≤ 100000 ∧ 1 ≤ bc ∧ x.toNatClampNeg ≤ bs ∧ (match ty with
      | .int => K (pc + 2) l (.ref h.length :: r) (h ++ [.inl (.int, x.toNatClampNeg, .inl (fun _ => 0))]) (bc - 1) (bs - x.toNatClampNeg)
      | .boolean => K (pc + 2) l (.ref h.length :: r) (h ++ [.inl (.boolean, x.toNatClampNeg, .inl (fun _ => 0))]) (bc - 1) (bs - x.toNatClampNeg)
      | _ => False)
    | _ => False) := rfl
theorem mj_E_anewarray_i (T : mj_T) (ret : Option Value → mj_H → Prop) (K : mj_K) (pc : Nat) (l st : List Value) (h : mj_H) (bc bs : Nat) (i : Nat) : mj_I T ret K pc l st h bc bs (.anewarray i) = (match st, T.2.2.2.2.2.2.1 i with
    | .int x :: r, some 99 => ¬ x < 0 ∧ x.toNatClampNeg ≤ 100000 ∧ 1 ≤ bc ∧ x.toNatClampNeg ≤ bs ∧ K (pc + 3) l (.ref h.length :: r) (h ++ [.inl (.array .int, x.toNatClampNeg, .inr (.inr (.inr (.inr (fun _ => none)))))]) (bc - 1) (bs - x.toNatClampNeg)
    | _, _ => False) := rfl
theorem mj_E_new_i (T : mj_T) (ret : Option Value → mj_H → Prop) (K : mj_K) (pc : Nat) (l st : List Value) (h : mj_H) (bc bs : Nat) (i : Nat) : mj_I T ret K pc l st h bc bs (.new i) = (match T.2.2.2.2.2.2.1 i with
    | some ci => ci < 13 ∧ 1 ≤ bc ∧ mj_nf ci ≤ bs ∧ K (pc + 3) l (.ref h.length :: st) (h ++ [.inr (ci, mj_dv ci)]) (bc - 1) (bs - mj_nf ci)
    | none => False) := rfl
theorem mj_E_invokevirtual_i (T : mj_T) (ret : Option Value → mj_H → Prop) (K : mj_K) (pc : Nat) (l st : List Value) (h : mj_H) (bc bs : Nat) (i : Nat) : mj_I T ret K pc l st h bc bs (.invokevirtual i) = (match T.2.2.2.2.2.2.2 i with
    | some (k, n, ci, c1, s1, cs) => k < 2 ∧ n ≤ st.length ∧ (st.drop n).length ≤ 4 ∧ c1 ≤ bc ∧ s1 ≤ bs ∧ (match (st.take n).reverse with
      | .ref a :: as => (match h[a]? with
        | some (.inr (cj, _)) => cj = ci ∧ cs (.ref a :: as) h fun r h' => K (pc + 3) l (r.toList ++ st.drop n) h' (bc - c1) (bs - s1)
        | _ => False)
      | _ => False)
    | none => False) := rfl
theorem mj_E_invokestatic_i (T : mj_T) (ret : Option Value → mj_H → Prop) (K : mj_K) (pc : Nat) (l st : List Value) (h : mj_H) (bc bs : Nat) (i : Nat) : mj_I T ret K pc l st h bc bs (.invokestatic i) = (match T.2.2.2.2.2.2.2 i with
    | some (k, n, _, c1, s1, cs) => (k = 2 ∨ k = 3) ∧ n ≤ st.length ∧ (st.drop n).length ≤ 4 ∧ c1 ≤ bc ∧ s1 ≤ bs ∧ cs (st.take n).reverse h fun r h' => K (pc + 3) l (r.toList ++ st.drop n) h' (bc - c1) (bs - s1)
    | none => False) := rfl
theorem mj_E_invokespecial_i (T : mj_T) (ret : Option Value → mj_H → Prop) (K : mj_K) (pc : Nat) (l st : List Value) (h : mj_H) (bc bs : Nat) (i : Nat) : mj_I T ret K pc l st h bc bs (.invokespecial i) = (match T.2.2.2.2.2.2.2 i with
    | some (k, n, _, c1, s1, cs) => (k = 4 ∨ k = 5) ∧ n ≤ st.length ∧ (st.drop n).length ≤ 4 ∧ c1 ≤ bc ∧ s1 ≤ bs ∧ (match (st.take n).reverse with
      | .ref a :: as => cs (.ref a :: as) h fun r h' => K (pc + 3) l (r.toList ++ st.drop n) h' (bc - c1) (bs - s1)
      | _ => False)
    | none => False) := rfl
theorem mj_E_ireturn (T : mj_T) (ret : Option Value → mj_H → Prop) (K : mj_K) (pc : Nat) (l st : List Value) (h : mj_H) (bc bs : Nat) : mj_I T ret K pc l st h bc bs .ireturn = (match st with
    | [.int x] => (match T.2.1 with
      | some .int => ret (some (.int x)) h
      | some .boolean => (x = 0 ∨ x = 1) ∧ ret (some (.int x)) h
      | _ => False)
    | _ => False) := rfl
theorem mj_E_lreturn (T : mj_T) (ret : Option Value → mj_H → Prop) (K : mj_K) (pc : Nat) (l st : List Value) (h : mj_H) (bc bs : Nat) : mj_I T ret K pc l st h bc bs .lreturn = (match st with
    | [.long x] => T.2.1 = some .long ∧ ret (some (.long x)) h
    | _ => False) := rfl
theorem mj_E_areturn (T : mj_T) (ret : Option Value → mj_H → Prop) (K : mj_K) (pc : Nat) (l st : List Value) (h : mj_H) (bc bs : Nat) : mj_I T ret K pc l st h bc bs .areturn = (match st with
    | [.ref x] => T.2.1 = some (.array .int) ∧ ret (some (.ref x)) h
    | _ => False) := rfl
theorem mj_E_return_ (T : mj_T) (ret : Option Value → mj_H → Prop) (K : mj_K) (pc : Nat) (l st : List Value) (h : mj_H) (bc bs : Nat) : mj_I T ret K pc l st h bc bs .return_ = (match st with
    | [] => T.2.1 = none ∧ ret none h
    | _ => False) := rfl
theorem ii_RX11 : Cond.initialized RX11 ∈ mj_tw := mj_tw_in (List.mem_of_getElem? (i := 98) (by decide +kernel)) rfl
theorem ii_RX0 : Cond.initialized RX0 ∈ mj_tw := mj_tw_in (List.mem_of_getElem? (i := 102) (by decide +kernel)) rfl
theorem ii_RX1 : Cond.initialized RX1 ∈ mj_tw := mj_tw_in (List.mem_of_getElem? (i := 103) (by decide +kernel)) rfl
theorem ii_RX2 : Cond.initialized RX2 ∈ mj_tw := mj_tw_in (List.mem_of_getElem? (i := 99) (by decide +kernel)) rfl
theorem ii_RX3 : Cond.initialized RX3 ∈ mj_tw := mj_tw_in (List.mem_of_getElem? (i := 110) (by decide +kernel)) rfl
theorem ii_RX4 : Cond.initialized RX4 ∈ mj_tw := mj_tw_in (List.mem_of_getElem? (i := 108) (by decide +kernel)) rfl
theorem ii_RX5 : Cond.initialized RX5 ∈ mj_tw := mj_tw_in (List.mem_of_getElem? (i := 104) (by decide +kernel)) rfl
theorem ii_RX6 : Cond.initialized RX6 ∈ mj_tw := mj_tw_in (List.mem_of_getElem? (i := 106) (by decide +kernel)) rfl
theorem ii_RX7 : Cond.initialized RX7 ∈ mj_tw := mj_tw_in (List.mem_of_getElem? (i := 109) (by decide +kernel)) rfl
theorem ii_RX8 : Cond.initialized RX8 ∈ mj_tw := mj_tw_in (List.mem_of_getElem? (i := 107) (by decide +kernel)) rfl
theorem ii_RX9 : Cond.initialized RX9 ∈ mj_tw := mj_tw_in (List.mem_of_getElem? (i := 101) (by decide +kernel)) rfl
theorem ii_RX10 : Cond.initialized RX10 ∈ mj_tw := mj_tw_in (List.mem_of_getElem? (i := 105) (by decide +kernel)) rfl
theorem ii_RX12 : Cond.initialized RX12 ∈ mj_tw := mj_tw_in (List.mem_of_getElem? (i := 111) (by decide +kernel)) rfl
theorem ii_RJ6 : Cond.initialized RJ6 ∈ mj_tw := mj_tw_in (List.mem_of_getElem? (i := 118) (by decide +kernel)) rfl
theorem ii_RJ9 : Cond.initialized RJ9 ∈ mj_tw := mj_tw_in (List.mem_of_getElem? (i := 112) (by decide +kernel)) rfl
theorem ii_RJ7 : Cond.initialized RJ7 ∈ mj_tw := mj_tw_in (List.mem_of_getElem? (i := 100) (by decide +kernel)) rfl
set_option maxRecDepth 100000 in
theorem k_X11_init : Cond.code yX11_init cX11_init 1 (none) ∈ lw_tbl := List.mem_of_getElem? (i := 123) rfl
theorem p_X11_init : yX11_init.cls ≠ "java/lang/invoke/MethodHandle" ∧ yX11_init.cls ≠ "java/lang/invoke/VarHandle" ∧ (parseMethodDescriptor yX11_init.desc).map (fun d => d.parameters.length) = some 0 := by decide +kernel
theorem n_X11_init : Cond.instanceMethod yX11_init ∈ mj_tw := mj_tw_in (List.mem_of_getElem? (i := 122) (by decide +kernel)) rfl
set_option maxRecDepth 100000 in
theorem k_X2_init : Cond.code yX2_init cX2_init 1 (none) ∈ lw_tbl := List.mem_of_getElem? (i := 131) rfl
theorem p_X2_init : yX2_init.cls ≠ "java/lang/invoke/MethodHandle" ∧ yX2_init.cls ≠ "java/lang/invoke/VarHandle" ∧ (parseMethodDescriptor yX2_init.desc).map (fun d => d.parameters.length) = some 0 := by decide +kernel
theorem n_X2_init : Cond.instanceMethod yX2_init ∈ mj_tw := mj_tw_in (List.mem_of_getElem? (i := 130) (by decide +kernel)) rfl
set_option maxRecDepth 100000 in
theorem k_J7_fill_53178 : Cond.code yJ7_fill_53178 cJ7_fill_53178 4 (none) ∈ lw_tbl := List.mem_of_getElem? (i := 137) rfl
theorem p_J7_fill_53178 : yJ7_fill_53178.cls ≠ "java/lang/invoke/MethodHandle" ∧ yJ7_fill_53178.cls ≠ "java/lang/invoke/VarHandle" ∧ (parseMethodDescriptor yJ7_fill_53178.desc).map (fun d => d.parameters.length) = some 2 := by decide +kernel
theorem s_J7_fill_53178 : Cond.static yJ7_fill_53178 ∈ mj_tw := mj_tw_in (List.mem_of_getElem? (i := 136) (by decide +kernel)) rfl
set_option maxRecDepth 100000 in
theorem k_X9_init : Cond.code yX9_init cX9_init 1 (none) ∈ lw_tbl := List.mem_of_getElem? (i := 160) rfl
theorem p_X9_init : yX9_init.cls ≠ "java/lang/invoke/MethodHandle" ∧ yX9_init.cls ≠ "java/lang/invoke/VarHandle" ∧ (parseMethodDescriptor yX9_init.desc).map (fun d => d.parameters.length) = some 0 := by decide +kernel
theorem n_X9_init : Cond.instanceMethod yX9_init ∈ mj_tw := mj_tw_in (List.mem_of_getElem? (i := 159) (by decide +kernel)) rfl
set_option maxRecDepth 100000 in
theorem k_X0_init : Cond.code yX0_init cX0_init 1 (none) ∈ lw_tbl := List.mem_of_getElem? (i := 203) rfl
theorem p_X0_init : yX0_init.cls ≠ "java/lang/invoke/MethodHandle" ∧ yX0_init.cls ≠ "java/lang/invoke/VarHandle" ∧ (parseMethodDescriptor yX0_init.desc).map (fun d => d.parameters.length) = some 0 := by decide +kernel
theorem n_X0_init : Cond.instanceMethod yX0_init ∈ mj_tw := mj_tw_in (List.mem_of_getElem? (i := 202) (by decide +kernel)) rfl
set_option maxRecDepth 100000 in
theorem k_X1_init : Cond.code yX1_init cX1_init 2 (none) ∈ lw_tbl := List.mem_of_getElem? (i := 243) rfl
theorem p_X1_init : yX1_init.cls ≠ "java/lang/invoke/MethodHandle" ∧ yX1_init.cls ≠ "java/lang/invoke/VarHandle" ∧ (parseMethodDescriptor yX1_init.desc).map (fun d => d.parameters.length) = some 1 := by decide +kernel
theorem n_X1_init : Cond.instanceMethod yX1_init ∈ mj_tw := mj_tw_in (List.mem_of_getElem? (i := 242) (by decide +kernel)) rfl
set_option maxRecDepth 100000 in
theorem k_X5_init : Cond.code yX5_init cX5_init 2 (none) ∈ lw_tbl := List.mem_of_getElem? (i := 318) rfl
theorem p_X5_init : yX5_init.cls ≠ "java/lang/invoke/MethodHandle" ∧ yX5_init.cls ≠ "java/lang/invoke/VarHandle" ∧ (parseMethodDescriptor yX5_init.desc).map (fun d => d.parameters.length) = some 1 := by decide +kernel
theorem n_X5_init : Cond.instanceMethod yX5_init ∈ mj_tw := mj_tw_in (List.mem_of_getElem? (i := 317) (by decide +kernel)) rfl
set_option maxRecDepth 100000 in
theorem k_X10_init : Cond.code yX10_init cX10_init 5 (none) ∈ lw_tbl := List.mem_of_getElem? (i := 380) rfl
theorem p_X10_init : yX10_init.cls ≠ "java/lang/invoke/MethodHandle" ∧ yX10_init.cls ≠ "java/lang/invoke/VarHandle" ∧ (parseMethodDescriptor yX10_init.desc).map (fun d => d.parameters.length) = some 4 := by decide +kernel
theorem n_X10_init : Cond.instanceMethod yX10_init ∈ mj_tw := mj_tw_in (List.mem_of_getElem? (i := 379) (by decide +kernel)) rfl
set_option maxRecDepth 100000 in
theorem k_X6_init : Cond.code yX6_init cX6_init 5 (none) ∈ lw_tbl := List.mem_of_getElem? (i := 440) rfl
theorem p_X6_init : yX6_init.cls ≠ "java/lang/invoke/MethodHandle" ∧ yX6_init.cls ≠ "java/lang/invoke/VarHandle" ∧ (parseMethodDescriptor yX6_init.desc).map (fun d => d.parameters.length) = some 4 := by decide +kernel
theorem n_X6_init : Cond.instanceMethod yX6_init ∈ mj_tw := mj_tw_in (List.mem_of_getElem? (i := 439) (by decide +kernel)) rfl
set_option maxRecDepth 100000 in
theorem k_X8_init : Cond.code yX8_init cX8_init 3 (none) ∈ lw_tbl := List.mem_of_getElem? (i := 486) rfl
theorem p_X8_init : yX8_init.cls ≠ "java/lang/invoke/MethodHandle" ∧ yX8_init.cls ≠ "java/lang/invoke/VarHandle" ∧ (parseMethodDescriptor yX8_init.desc).map (fun d => d.parameters.length) = some 2 := by decide +kernel
theorem n_X8_init : Cond.instanceMethod yX8_init ∈ mj_tw := mj_tw_in (List.mem_of_getElem? (i := 485) (by decide +kernel)) rfl
set_option maxRecDepth 100000 in
theorem k_X4_init : Cond.code yX4_init cX4_init 2 (none) ∈ lw_tbl := List.mem_of_getElem? (i := 529) rfl
theorem p_X4_init : yX4_init.cls ≠ "java/lang/invoke/MethodHandle" ∧ yX4_init.cls ≠ "java/lang/invoke/VarHandle" ∧ (parseMethodDescriptor yX4_init.desc).map (fun d => d.parameters.length) = some 1 := by decide +kernel
theorem n_X4_init : Cond.instanceMethod yX4_init ∈ mj_tw := mj_tw_in (List.mem_of_getElem? (i := 528) (by decide +kernel)) rfl
set_option maxRecDepth 100000 in
theorem k_X7_init : Cond.code yX7_init cX7_init 3 (none) ∈ lw_tbl := List.mem_of_getElem? (i := 571) rfl
theorem p_X7_init : yX7_init.cls ≠ "java/lang/invoke/MethodHandle" ∧ yX7_init.cls ≠ "java/lang/invoke/VarHandle" ∧ (parseMethodDescriptor yX7_init.desc).map (fun d => d.parameters.length) = some 2 := by decide +kernel
theorem n_X7_init : Cond.instanceMethod yX7_init ∈ mj_tw := mj_tw_in (List.mem_of_getElem? (i := 570) (by decide +kernel)) rfl
set_option maxRecDepth 100000 in
theorem k_X3_init : Cond.code yX3_init cX3_init 2 (none) ∈ lw_tbl := List.mem_of_getElem? (i := 601) rfl
theorem p_X3_init : yX3_init.cls ≠ "java/lang/invoke/MethodHandle" ∧ yX3_init.cls ≠ "java/lang/invoke/VarHandle" ∧ (parseMethodDescriptor yX3_init.desc).map (fun d => d.parameters.length) = some 1 := by decide +kernel
theorem n_X3_init : Cond.instanceMethod yX3_init ∈ mj_tw := mj_tw_in (List.mem_of_getElem? (i := 600) (by decide +kernel)) rfl
set_option maxRecDepth 100000 in
theorem k_X11_weeks : Cond.code yX11_weeks cX11_weeks 3 ((some FieldType.int)) ∈ lw_tbl := List.mem_of_getElem? (i := 664) rfl
theorem p_X11_weeks : yX11_weeks.cls ≠ "java/lang/invoke/MethodHandle" ∧ yX11_weeks.cls ≠ "java/lang/invoke/VarHandle" ∧ (parseMethodDescriptor yX11_weeks.desc).map (fun d => d.parameters.length) = some 1 := by decide +kernel
theorem n_X11_weeks : Cond.instanceMethod yX11_weeks ∈ mj_tw := mj_tw_in (List.mem_of_getElem? (i := 662) (by decide +kernel)) rfl
theorem e_X11_weeks : Cond.selects yX11_weeks.cls yX11_weeks yX11_weeks ∈ mj_tw := mj_tw_in (List.mem_of_getElem? (i := 663) (by decide +kernel)) rfl
set_option maxRecDepth 100000 in
theorem k_X11_within : Cond.code yX11_within cX11_within 3 ((some FieldType.boolean)) ∈ lw_tbl := List.mem_of_getElem? (i := 667) rfl
theorem p_X11_within : yX11_within.cls ≠ "java/lang/invoke/MethodHandle" ∧ yX11_within.cls ≠ "java/lang/invoke/VarHandle" ∧ (parseMethodDescriptor yX11_within.desc).map (fun d => d.parameters.length) = some 3 := by decide +kernel
theorem s_X11_within : Cond.static yX11_within ∈ mj_tw := mj_tw_in (List.mem_of_getElem? (i := 666) (by decide +kernel)) rfl
set_option maxRecDepth 100000 in
theorem k_X10_bring : Cond.code yX10_bring cX10_bring 3 (none) ∈ lw_tbl := List.mem_of_getElem? (i := 671) rfl
theorem p_X10_bring : yX10_bring.cls ≠ "java/lang/invoke/MethodHandle" ∧ yX10_bring.cls ≠ "java/lang/invoke/VarHandle" ∧ (parseMethodDescriptor yX10_bring.desc).map (fun d => d.parameters.length) = some 1 := by decide +kernel
theorem n_X10_bring : Cond.instanceMethod yX10_bring ∈ mj_tw := mj_tw_in (List.mem_of_getElem? (i := 669) (by decide +kernel)) rfl
theorem e_X10_bring : Cond.selects yX10_bring.cls yX10_bring yX10_bring ∈ mj_tw := mj_tw_in (List.mem_of_getElem? (i := 670) (by decide +kernel)) rfl
set_option maxRecDepth 100000 in
theorem k_X10_drive : Cond.code yX10_drive cX10_drive 5 (none) ∈ lw_tbl := List.mem_of_getElem? (i := 676) rfl
theorem p_X10_drive : yX10_drive.cls ≠ "java/lang/invoke/MethodHandle" ∧ yX10_drive.cls ≠ "java/lang/invoke/VarHandle" ∧ (parseMethodDescriptor yX10_drive.desc).map (fun d => d.parameters.length) = some 1 := by decide +kernel
theorem n_X10_drive : Cond.instanceMethod yX10_drive ∈ mj_tw := mj_tw_in (List.mem_of_getElem? (i := 674) (by decide +kernel)) rfl
theorem e_X10_drive : Cond.selects yX10_drive.cls yX10_drive yX10_drive ∈ mj_tw := mj_tw_in (List.mem_of_getElem? (i := 675) (by decide +kernel)) rfl
set_option maxRecDepth 100000 in
theorem k_X2_isWet : Cond.code yX2_isWet cX2_isWet 2 ((some FieldType.boolean)) ∈ lw_tbl := List.mem_of_getElem? (i := 680) rfl
theorem p_X2_isWet : yX2_isWet.cls ≠ "java/lang/invoke/MethodHandle" ∧ yX2_isWet.cls ≠ "java/lang/invoke/VarHandle" ∧ (parseMethodDescriptor yX2_isWet.desc).map (fun d => d.parameters.length) = some 1 := by decide +kernel
theorem n_X2_isWet : Cond.instanceMethod yX2_isWet ∈ mj_tw := mj_tw_in (List.mem_of_getElem? (i := 678) (by decide +kernel)) rfl
theorem e_X2_isWet : Cond.selects yX2_isWet.cls yX2_isWet yX2_isWet ∈ mj_tw := mj_tw_in (List.mem_of_getElem? (i := 679) (by decide +kernel)) rfl
set_option maxRecDepth 100000 in
theorem k_X10_lowestToServe : Cond.code yX10_lowestToServe cX10_lowestToServe 4 ((some FieldType.int)) ∈ lw_tbl := List.mem_of_getElem? (i := 685) rfl
theorem p_X10_lowestToServe : yX10_lowestToServe.cls ≠ "java/lang/invoke/MethodHandle" ∧ yX10_lowestToServe.cls ≠ "java/lang/invoke/VarHandle" ∧ (parseMethodDescriptor yX10_lowestToServe.desc).map (fun d => d.parameters.length) = some 1 := by decide +kernel
theorem n_X10_lowestToServe : Cond.instanceMethod yX10_lowestToServe ∈ mj_tw := mj_tw_in (List.mem_of_getElem? (i := 684) (by decide +kernel)) rfl
theorem e_X10_lowestToServe : Cond.selects yX10_lowestToServe.cls yX10_lowestToServe yX10_lowestToServe ∈ mj_tw := mj_tw_in (List.mem_of_getElem? (i := 0) (by decide +kernel)) rfl
set_option maxRecDepth 100000 in
theorem k_X2_isShutWet : Cond.code yX2_isShutWet cX2_isShutWet 2 ((some FieldType.boolean)) ∈ lw_tbl := List.mem_of_getElem? (i := 689) rfl
theorem p_X2_isShutWet : yX2_isShutWet.cls ≠ "java/lang/invoke/MethodHandle" ∧ yX2_isShutWet.cls ≠ "java/lang/invoke/VarHandle" ∧ (parseMethodDescriptor yX2_isShutWet.desc).map (fun d => d.parameters.length) = some 1 := by decide +kernel
theorem n_X2_isShutWet : Cond.instanceMethod yX2_isShutWet ∈ mj_tw := mj_tw_in (List.mem_of_getElem? (i := 687) (by decide +kernel)) rfl
theorem e_X2_isShutWet : Cond.selects yX2_isShutWet.cls yX2_isShutWet yX2_isShutWet ∈ mj_tw := mj_tw_in (List.mem_of_getElem? (i := 688) (by decide +kernel)) rfl
set_option maxRecDepth 100000 in
theorem k_X11_isCell : Cond.code yX11_isCell cX11_isCell 1 ((some FieldType.boolean)) ∈ lw_tbl := List.mem_of_getElem? (i := 692) rfl
theorem p_X11_isCell : yX11_isCell.cls ≠ "java/lang/invoke/MethodHandle" ∧ yX11_isCell.cls ≠ "java/lang/invoke/VarHandle" ∧ (parseMethodDescriptor yX11_isCell.desc).map (fun d => d.parameters.length) = some 1 := by decide +kernel
theorem s_X11_isCell : Cond.static yX11_isCell ∈ mj_tw := mj_tw_in (List.mem_of_getElem? (i := 691) (by decide +kernel)) rfl
set_option maxRecDepth 100000 in
theorem k_X10_canBeServed : Cond.code yX10_canBeServed cX10_canBeServed 3 ((some FieldType.boolean)) ∈ lw_tbl := List.mem_of_getElem? (i := 696) rfl
theorem p_X10_canBeServed : yX10_canBeServed.cls ≠ "java/lang/invoke/MethodHandle" ∧ yX10_canBeServed.cls ≠ "java/lang/invoke/VarHandle" ∧ (parseMethodDescriptor yX10_canBeServed.desc).map (fun d => d.parameters.length) = some 1 := by decide +kernel
theorem n_X10_canBeServed : Cond.instanceMethod yX10_canBeServed ∈ mj_tw := mj_tw_in (List.mem_of_getElem? (i := 695) (by decide +kernel)) rfl
theorem e_X10_canBeServed : Cond.selects yX10_canBeServed.cls yX10_canBeServed yX10_canBeServed ∈ mj_tw := mj_tw_in (List.mem_of_getElem? (i := 1) (by decide +kernel)) rfl
set_option maxRecDepth 100000 in
theorem k_X10_unload : Cond.code yX10_unload cX10_unload 6 (none) ∈ lw_tbl := List.mem_of_getElem? (i := 700) rfl
theorem p_X10_unload : yX10_unload.cls ≠ "java/lang/invoke/MethodHandle" ∧ yX10_unload.cls ≠ "java/lang/invoke/VarHandle" ∧ (parseMethodDescriptor yX10_unload.desc).map (fun d => d.parameters.length) = some 2 := by decide +kernel
theorem n_X10_unload : Cond.instanceMethod yX10_unload ∈ mj_tw := mj_tw_in (List.mem_of_getElem? (i := 699) (by decide +kernel)) rfl
theorem e_X10_unload : Cond.selects yX10_unload.cls yX10_unload yX10_unload ∈ mj_tw := mj_tw_in (List.mem_of_getElem? (i := 2) (by decide +kernel)) rfl
set_option maxRecDepth 100000 in
theorem k_J9_min_7cf53 : Cond.code yJ9_min_7cf53 cJ9_min_7cf53 2 ((some FieldType.int)) ∈ lw_tbl := List.mem_of_getElem? (i := 703) rfl
theorem p_J9_min_7cf53 : yJ9_min_7cf53.cls ≠ "java/lang/invoke/MethodHandle" ∧ yJ9_min_7cf53.cls ≠ "java/lang/invoke/VarHandle" ∧ (parseMethodDescriptor yJ9_min_7cf53.desc).map (fun d => d.parameters.length) = some 2 := by decide +kernel
theorem s_J9_min_7cf53 : Cond.static yJ9_min_7cf53 ∈ mj_tw := mj_tw_in (List.mem_of_getElem? (i := 702) (by decide +kernel)) rfl
set_option maxRecDepth 100000 in
theorem k_X10_raise : Cond.code yX10_raise cX10_raise 3 (none) ∈ lw_tbl := List.mem_of_getElem? (i := 707) rfl
theorem p_X10_raise : yX10_raise.cls ≠ "java/lang/invoke/MethodHandle" ∧ yX10_raise.cls ≠ "java/lang/invoke/VarHandle" ∧ (parseMethodDescriptor yX10_raise.desc).map (fun d => d.parameters.length) = some 1 := by decide +kernel
theorem n_X10_raise : Cond.instanceMethod yX10_raise ∈ mj_tw := mj_tw_in (List.mem_of_getElem? (i := 705) (by decide +kernel)) rfl
theorem e_X10_raise : Cond.selects yX10_raise.cls yX10_raise yX10_raise ∈ mj_tw := mj_tw_in (List.mem_of_getElem? (i := 706) (by decide +kernel)) rfl
set_option maxRecDepth 100000 in
theorem k_X10_lowestNeed : Cond.code yX10_lowestNeed cX10_lowestNeed 3 ((some FieldType.int)) ∈ lw_tbl := List.mem_of_getElem? (i := 711) rfl
theorem p_X10_lowestNeed : yX10_lowestNeed.cls ≠ "java/lang/invoke/MethodHandle" ∧ yX10_lowestNeed.cls ≠ "java/lang/invoke/VarHandle" ∧ (parseMethodDescriptor yX10_lowestNeed.desc).map (fun d => d.parameters.length) = some 1 := by decide +kernel
theorem n_X10_lowestNeed : Cond.instanceMethod yX10_lowestNeed ∈ mj_tw := mj_tw_in (List.mem_of_getElem? (i := 710) (by decide +kernel)) rfl
theorem e_X10_lowestNeed : Cond.selects yX10_lowestNeed.cls yX10_lowestNeed yX10_lowestNeed ∈ mj_tw := mj_tw_in (List.mem_of_getElem? (i := 3) (by decide +kernel)) rfl
set_option maxRecDepth 100000 in
theorem k_X10_gaveEnough : Cond.code yX10_gaveEnough cX10_gaveEnough 6 ((some FieldType.boolean)) ∈ lw_tbl := List.mem_of_getElem? (i := 715) rfl
theorem p_X10_gaveEnough : yX10_gaveEnough.cls ≠ "java/lang/invoke/MethodHandle" ∧ yX10_gaveEnough.cls ≠ "java/lang/invoke/VarHandle" ∧ (parseMethodDescriptor yX10_gaveEnough.desc).map (fun d => d.parameters.length) = some 2 := by decide +kernel
theorem n_X10_gaveEnough : Cond.instanceMethod yX10_gaveEnough ∈ mj_tw := mj_tw_in (List.mem_of_getElem? (i := 714) (by decide +kernel)) rfl
theorem e_X10_gaveEnough : Cond.selects yX10_gaveEnough.cls yX10_gaveEnough yX10_gaveEnough ∈ mj_tw := mj_tw_in (List.mem_of_getElem? (i := 4) (by decide +kernel)) rfl
set_option maxRecDepth 100000 in
theorem k_X1_childrenOf : Cond.code yX1_childrenOf cX1_childrenOf 5 ((some FieldType.int)) ∈ lw_tbl := List.mem_of_getElem? (i := 719) rfl
theorem p_X1_childrenOf : yX1_childrenOf.cls ≠ "java/lang/invoke/MethodHandle" ∧ yX1_childrenOf.cls ≠ "java/lang/invoke/VarHandle" ∧ (parseMethodDescriptor yX1_childrenOf.desc).map (fun d => d.parameters.length) = some 3 := by decide +kernel
theorem n_X1_childrenOf : Cond.instanceMethod yX1_childrenOf ∈ mj_tw := mj_tw_in (List.mem_of_getElem? (i := 717) (by decide +kernel)) rfl
theorem e_X1_childrenOf : Cond.selects yX1_childrenOf.cls yX1_childrenOf yX1_childrenOf ∈ mj_tw := mj_tw_in (List.mem_of_getElem? (i := 718) (by decide +kernel)) rfl
set_option maxRecDepth 100000 in
theorem k_X1_countOf : Cond.code yX1_countOf cX1_countOf 7 ((some FieldType.int)) ∈ lw_tbl := List.mem_of_getElem? (i := 723) rfl
theorem p_X1_countOf : yX1_countOf.cls ≠ "java/lang/invoke/MethodHandle" ∧ yX1_countOf.cls ≠ "java/lang/invoke/VarHandle" ∧ (parseMethodDescriptor yX1_countOf.desc).map (fun d => d.parameters.length) = some 3 := by decide +kernel
theorem n_X1_countOf : Cond.instanceMethod yX1_countOf ∈ mj_tw := mj_tw_in (List.mem_of_getElem? (i := 722) (by decide +kernel)) rfl
theorem e_X1_countOf : Cond.selects yX1_countOf.cls yX1_countOf yX1_countOf ∈ mj_tw := mj_tw_in (List.mem_of_getElem? (i := 5) (by decide +kernel)) rfl
set_option maxRecDepth 100000 in
theorem k_X0_spell : Cond.code yX0_spell cX0_spell 5 (none) ∈ lw_tbl := List.mem_of_getElem? (i := 727) rfl
theorem p_X0_spell : yX0_spell.cls ≠ "java/lang/invoke/MethodHandle" ∧ yX0_spell.cls ≠ "java/lang/invoke/VarHandle" ∧ (parseMethodDescriptor yX0_spell.desc).map (fun d => d.parameters.length) = some 4 := by decide +kernel
theorem n_X0_spell : Cond.instanceMethod yX0_spell ∈ mj_tw := mj_tw_in (List.mem_of_getElem? (i := 725) (by decide +kernel)) rfl
theorem e_X0_spell : Cond.selects yX0_spell.cls yX0_spell yX0_spell ∈ mj_tw := mj_tw_in (List.mem_of_getElem? (i := 726) (by decide +kernel)) rfl
set_option maxRecDepth 100000 in
theorem k_X0_worthOf : Cond.code yX0_worthOf cX0_worthOf 11 ((some FieldType.int)) ∈ lw_tbl := List.mem_of_getElem? (i := 731) rfl
theorem p_X0_worthOf : yX0_worthOf.cls ≠ "java/lang/invoke/MethodHandle" ∧ yX0_worthOf.cls ≠ "java/lang/invoke/VarHandle" ∧ (parseMethodDescriptor yX0_worthOf.desc).map (fun d => d.parameters.length) = some 5 := by decide +kernel
theorem n_X0_worthOf : Cond.instanceMethod yX0_worthOf ∈ mj_tw := mj_tw_in (List.mem_of_getElem? (i := 729) (by decide +kernel)) rfl
theorem e_X0_worthOf : Cond.selects yX0_worthOf.cls yX0_worthOf yX0_worthOf ∈ mj_tw := mj_tw_in (List.mem_of_getElem? (i := 730) (by decide +kernel)) rfl
set_option maxRecDepth 100000 in
theorem k_X0_binds : Cond.code yX0_binds cX0_binds 5 ((some FieldType.boolean)) ∈ lw_tbl := List.mem_of_getElem? (i := 735) rfl
theorem p_X0_binds : yX0_binds.cls ≠ "java/lang/invoke/MethodHandle" ∧ yX0_binds.cls ≠ "java/lang/invoke/VarHandle" ∧ (parseMethodDescriptor yX0_binds.desc).map (fun d => d.parameters.length) = some 3 := by decide +kernel
theorem n_X0_binds : Cond.instanceMethod yX0_binds ∈ mj_tw := mj_tw_in (List.mem_of_getElem? (i := 734) (by decide +kernel)) rfl
theorem e_X0_binds : Cond.selects yX0_binds.cls yX0_binds yX0_binds ∈ mj_tw := mj_tw_in (List.mem_of_getElem? (i := 6) (by decide +kernel)) rfl
set_option maxRecDepth 100000 in
theorem k_X0_clauseThatHolds : Cond.code yX0_clauseThatHolds cX0_clauseThatHolds 6 ((some FieldType.int)) ∈ lw_tbl := List.mem_of_getElem? (i := 739) rfl
theorem p_X0_clauseThatHolds : yX0_clauseThatHolds.cls ≠ "java/lang/invoke/MethodHandle" ∧ yX0_clauseThatHolds.cls ≠ "java/lang/invoke/VarHandle" ∧ (parseMethodDescriptor yX0_clauseThatHolds.desc).map (fun d => d.parameters.length) = some 2 := by decide +kernel
theorem n_X0_clauseThatHolds : Cond.instanceMethod yX0_clauseThatHolds ∈ mj_tw := mj_tw_in (List.mem_of_getElem? (i := 738) (by decide +kernel)) rfl
theorem e_X0_clauseThatHolds : Cond.selects yX0_clauseThatHolds.cls yX0_clauseThatHolds yX0_clauseThatHolds ∈ mj_tw := mj_tw_in (List.mem_of_getElem? (i := 7) (by decide +kernel)) rfl
set_option maxRecDepth 100000 in
theorem k_X0_run : Cond.code yX0_run cX0_run 7 ((some FieldType.int)) ∈ lw_tbl := List.mem_of_getElem? (i := 743) rfl
theorem p_X0_run : yX0_run.cls ≠ "java/lang/invoke/MethodHandle" ∧ yX0_run.cls ≠ "java/lang/invoke/VarHandle" ∧ (parseMethodDescriptor yX0_run.desc).map (fun d => d.parameters.length) = some 3 := by decide +kernel
theorem n_X0_run : Cond.instanceMethod yX0_run ∈ mj_tw := mj_tw_in (List.mem_of_getElem? (i := 742) (by decide +kernel)) rfl
theorem e_X0_run : Cond.selects yX0_run.cls yX0_run yX0_run ∈ mj_tw := mj_tw_in (List.mem_of_getElem? (i := 8) (by decide +kernel)) rfl
set_option maxRecDepth 100000 in
theorem k_X0_letterAt : Cond.code yX0_letterAt cX0_letterAt 2 ((some FieldType.int)) ∈ lw_tbl := List.mem_of_getElem? (i := 747) rfl
theorem p_X0_letterAt : yX0_letterAt.cls ≠ "java/lang/invoke/MethodHandle" ∧ yX0_letterAt.cls ≠ "java/lang/invoke/VarHandle" ∧ (parseMethodDescriptor yX0_letterAt.desc).map (fun d => d.parameters.length) = some 1 := by decide +kernel
theorem n_X0_letterAt : Cond.instanceMethod yX0_letterAt ∈ mj_tw := mj_tw_in (List.mem_of_getElem? (i := 746) (by decide +kernel)) rfl
theorem e_X0_letterAt : Cond.selects yX0_letterAt.cls yX0_letterAt yX0_letterAt ∈ mj_tw := mj_tw_in (List.mem_of_getElem? (i := 9) (by decide +kernel)) rfl
set_option maxRecDepth 100000 in
theorem k_X0_joined : Cond.code yX0_joined cX0_joined 7 ((some FieldType.int)) ∈ lw_tbl := List.mem_of_getElem? (i := 750) rfl
theorem p_X0_joined : yX0_joined.cls ≠ "java/lang/invoke/MethodHandle" ∧ yX0_joined.cls ≠ "java/lang/invoke/VarHandle" ∧ (parseMethodDescriptor yX0_joined.desc).map (fun d => d.parameters.length) = some 3 := by decide +kernel
theorem s_X0_joined : Cond.static yX0_joined ∈ mj_tw := mj_tw_in (List.mem_of_getElem? (i := 749) (by decide +kernel)) rfl
set_option maxRecDepth 100000 in
theorem k_X11_draw : Cond.code yX11_draw cX11_draw 9 ((some FieldType.boolean)) ∈ lw_tbl := List.mem_of_getElem? (i := 761) rfl
theorem p_X11_draw : yX11_draw.cls ≠ "java/lang/invoke/MethodHandle" ∧ yX11_draw.cls ≠ "java/lang/invoke/VarHandle" ∧ (parseMethodDescriptor yX11_draw.desc).map (fun d => d.parameters.length) = some 6 := by decide +kernel
theorem n_X11_draw : Cond.instanceMethod yX11_draw ∈ mj_tw := mj_tw_in (List.mem_of_getElem? (i := 759) (by decide +kernel)) rfl
theorem e_X11_draw : Cond.selects yX11_draw.cls yX11_draw yX11_draw ∈ mj_tw := mj_tw_in (List.mem_of_getElem? (i := 760) (by decide +kernel)) rfl
set_option maxRecDepth 100000 in
theorem k_X2_paint : Cond.code yX2_paint cX2_paint 6 (none) ∈ lw_tbl := List.mem_of_getElem? (i := 765) rfl
theorem p_X2_paint : yX2_paint.cls ≠ "java/lang/invoke/MethodHandle" ∧ yX2_paint.cls ≠ "java/lang/invoke/VarHandle" ∧ (parseMethodDescriptor yX2_paint.desc).map (fun d => d.parameters.length) = some 4 := by decide +kernel
theorem n_X2_paint : Cond.instanceMethod yX2_paint ∈ mj_tw := mj_tw_in (List.mem_of_getElem? (i := 763) (by decide +kernel)) rfl
theorem e_X2_paint : Cond.selects yX2_paint.cls yX2_paint yX2_paint ∈ mj_tw := mj_tw_in (List.mem_of_getElem? (i := 764) (by decide +kernel)) rfl
set_option maxRecDepth 100000 in
theorem k_J9_max_7cf53 : Cond.code yJ9_max_7cf53 cJ9_max_7cf53 2 ((some FieldType.int)) ∈ lw_tbl := List.mem_of_getElem? (i := 768) rfl
theorem p_J9_max_7cf53 : yJ9_max_7cf53.cls ≠ "java/lang/invoke/MethodHandle" ∧ yJ9_max_7cf53.cls ≠ "java/lang/invoke/VarHandle" ∧ (parseMethodDescriptor yJ9_max_7cf53.desc).map (fun d => d.parameters.length) = some 2 := by decide +kernel
theorem s_J9_max_7cf53 : Cond.static yJ9_max_7cf53 ∈ mj_tw := mj_tw_in (List.mem_of_getElem? (i := 767) (by decide +kernel)) rfl
set_option maxRecDepth 100000 in
theorem k_X11_walk : Cond.code yX11_walk cX11_walk 5 ((some FieldType.int)) ∈ lw_tbl := List.mem_of_getElem? (i := 772) rfl
theorem p_X11_walk : yX11_walk.cls ≠ "java/lang/invoke/MethodHandle" ∧ yX11_walk.cls ≠ "java/lang/invoke/VarHandle" ∧ (parseMethodDescriptor yX11_walk.desc).map (fun d => d.parameters.length) = some 3 := by decide +kernel
theorem n_X11_walk : Cond.instanceMethod yX11_walk ∈ mj_tw := mj_tw_in (List.mem_of_getElem? (i := 770) (by decide +kernel)) rfl
theorem e_X11_walk : Cond.selects yX11_walk.cls yX11_walk yX11_walk ∈ mj_tw := mj_tw_in (List.mem_of_getElem? (i := 771) (by decide +kernel)) rfl
set_option maxRecDepth 100000 in
theorem k_X2_rowFrom : Cond.code yX2_rowFrom cX2_rowFrom 5 ((some (FieldType.array FieldType.int))) ∈ lw_tbl := List.mem_of_getElem? (i := 777) rfl
theorem p_X2_rowFrom : yX2_rowFrom.cls ≠ "java/lang/invoke/MethodHandle" ∧ yX2_rowFrom.cls ≠ "java/lang/invoke/VarHandle" ∧ (parseMethodDescriptor yX2_rowFrom.desc).map (fun d => d.parameters.length) = some 2 := by decide +kernel
theorem n_X2_rowFrom : Cond.instanceMethod yX2_rowFrom ∈ mj_tw := mj_tw_in (List.mem_of_getElem? (i := 775) (by decide +kernel)) rfl
theorem e_X2_rowFrom : Cond.selects yX2_rowFrom.cls yX2_rowFrom yX2_rowFrom ∈ mj_tw := mj_tw_in (List.mem_of_getElem? (i := 776) (by decide +kernel)) rfl
set_option maxRecDepth 100000 in
theorem k_X2_spread : Cond.code yX2_spread cX2_spread 6 (none) ∈ lw_tbl := List.mem_of_getElem? (i := 780) rfl
theorem p_X2_spread : yX2_spread.cls ≠ "java/lang/invoke/MethodHandle" ∧ yX2_spread.cls ≠ "java/lang/invoke/VarHandle" ∧ (parseMethodDescriptor yX2_spread.desc).map (fun d => d.parameters.length) = some 3 := by decide +kernel
theorem s_X2_spread : Cond.static yX2_spread ∈ mj_tw := mj_tw_in (List.mem_of_getElem? (i := 779) (by decide +kernel)) rfl
set_option maxRecDepth 100000 in
theorem k_X2_ease : Cond.code yX2_ease cX2_ease 4 ((some FieldType.boolean)) ∈ lw_tbl := List.mem_of_getElem? (i := 784) rfl
theorem p_X2_ease : yX2_ease.cls ≠ "java/lang/invoke/MethodHandle" ∧ yX2_ease.cls ≠ "java/lang/invoke/VarHandle" ∧ (parseMethodDescriptor yX2_ease.desc).map (fun d => d.parameters.length) = some 3 := by decide +kernel
theorem s_X2_ease : Cond.static yX2_ease ∈ mj_tw := mj_tw_in (List.mem_of_getElem? (i := 783) (by decide +kernel)) rfl
set_option maxRecDepth 100000 in
theorem k_X11_rain : Cond.code yX11_rain cX11_rain 4 ((some FieldType.boolean)) ∈ lw_tbl := List.mem_of_getElem? (i := 790) rfl
theorem p_X11_rain : yX11_rain.cls ≠ "java/lang/invoke/MethodHandle" ∧ yX11_rain.cls ≠ "java/lang/invoke/VarHandle" ∧ (parseMethodDescriptor yX11_rain.desc).map (fun d => d.parameters.length) = some 3 := by decide +kernel
theorem n_X11_rain : Cond.instanceMethod yX11_rain ∈ mj_tw := mj_tw_in (List.mem_of_getElem? (i := 788) (by decide +kernel)) rfl
theorem e_X11_rain : Cond.selects yX11_rain.cls yX11_rain yX11_rain ∈ mj_tw := mj_tw_in (List.mem_of_getElem? (i := 789) (by decide +kernel)) rfl
set_option maxRecDepth 100000 in
theorem k_X2_soak : Cond.code yX2_soak cX2_soak 5 (none) ∈ lw_tbl := List.mem_of_getElem? (i := 794) rfl
theorem p_X2_soak : yX2_soak.cls ≠ "java/lang/invoke/MethodHandle" ∧ yX2_soak.cls ≠ "java/lang/invoke/VarHandle" ∧ (parseMethodDescriptor yX2_soak.desc).map (fun d => d.parameters.length) = some 3 := by decide +kernel
theorem n_X2_soak : Cond.instanceMethod yX2_soak ∈ mj_tw := mj_tw_in (List.mem_of_getElem? (i := 792) (by decide +kernel)) rfl
theorem e_X2_soak : Cond.selects yX2_soak.cls yX2_soak yX2_soak ∈ mj_tw := mj_tw_in (List.mem_of_getElem? (i := 793) (by decide +kernel)) rfl
set_option maxRecDepth 100000 in
theorem k_X11_village : Cond.code yX11_village cX11_village 4 ((some FieldType.int)) ∈ lw_tbl := List.mem_of_getElem? (i := 798) rfl
theorem p_X11_village : yX11_village.cls ≠ "java/lang/invoke/MethodHandle" ∧ yX11_village.cls ≠ "java/lang/invoke/VarHandle" ∧ (parseMethodDescriptor yX11_village.desc).map (fun d => d.parameters.length) = some 3 := by decide +kernel
theorem n_X11_village : Cond.instanceMethod yX11_village ∈ mj_tw := mj_tw_in (List.mem_of_getElem? (i := 796) (by decide +kernel)) rfl
theorem e_X11_village : Cond.selects yX11_village.cls yX11_village yX11_village ∈ mj_tw := mj_tw_in (List.mem_of_getElem? (i := 797) (by decide +kernel)) rfl
set_option maxRecDepth 100000 in
theorem k_X11_isShire : Cond.code yX11_isShire cX11_isShire 1 ((some FieldType.boolean)) ∈ lw_tbl := List.mem_of_getElem? (i := 801) rfl
theorem p_X11_isShire : yX11_isShire.cls ≠ "java/lang/invoke/MethodHandle" ∧ yX11_isShire.cls ≠ "java/lang/invoke/VarHandle" ∧ (parseMethodDescriptor yX11_isShire.desc).map (fun d => d.parameters.length) = some 1 := by decide +kernel
theorem s_X11_isShire : Cond.static yX11_isShire ∈ mj_tw := mj_tw_in (List.mem_of_getElem? (i := 800) (by decide +kernel)) rfl
set_option maxRecDepth 100000 in
theorem k_X1_settle : Cond.code yX1_settle cX1_settle 4 ((some FieldType.int)) ∈ lw_tbl := List.mem_of_getElem? (i := 805) rfl
theorem p_X1_settle : yX1_settle.cls ≠ "java/lang/invoke/MethodHandle" ∧ yX1_settle.cls ≠ "java/lang/invoke/VarHandle" ∧ (parseMethodDescriptor yX1_settle.desc).map (fun d => d.parameters.length) = some 3 := by decide +kernel
theorem n_X1_settle : Cond.instanceMethod yX1_settle ∈ mj_tw := mj_tw_in (List.mem_of_getElem? (i := 803) (by decide +kernel)) rfl
theorem e_X1_settle : Cond.selects yX1_settle.cls yX1_settle yX1_settle ∈ mj_tw := mj_tw_in (List.mem_of_getElem? (i := 804) (by decide +kernel)) rfl
set_option maxRecDepth 100000 in
theorem k_X11_count : Cond.code yX11_count cX11_count 5 ((some FieldType.boolean)) ∈ lw_tbl := List.mem_of_getElem? (i := 809) rfl
theorem p_X11_count : yX11_count.cls ≠ "java/lang/invoke/MethodHandle" ∧ yX11_count.cls ≠ "java/lang/invoke/VarHandle" ∧ (parseMethodDescriptor yX11_count.desc).map (fun d => d.parameters.length) = some 4 := by decide +kernel
theorem n_X11_count : Cond.instanceMethod yX11_count ∈ mj_tw := mj_tw_in (List.mem_of_getElem? (i := 807) (by decide +kernel)) rfl
theorem e_X11_count : Cond.selects yX11_count.cls yX11_count yX11_count ∈ mj_tw := mj_tw_in (List.mem_of_getElem? (i := 808) (by decide +kernel)) rfl
set_option maxRecDepth 100000 in
theorem k_X11_isVillage : Cond.code yX11_isVillage cX11_isVillage 2 ((some FieldType.boolean)) ∈ lw_tbl := List.mem_of_getElem? (i := 813) rfl
theorem p_X11_isVillage : yX11_isVillage.cls ≠ "java/lang/invoke/MethodHandle" ∧ yX11_isVillage.cls ≠ "java/lang/invoke/VarHandle" ∧ (parseMethodDescriptor yX11_isVillage.desc).map (fun d => d.parameters.length) = some 1 := by decide +kernel
theorem n_X11_isVillage : Cond.instanceMethod yX11_isVillage ∈ mj_tw := mj_tw_in (List.mem_of_getElem? (i := 812) (by decide +kernel)) rfl
theorem e_X11_isVillage : Cond.selects yX11_isVillage.cls yX11_isVillage yX11_isVillage ∈ mj_tw := mj_tw_in (List.mem_of_getElem? (i := 10) (by decide +kernel)) rfl
set_option maxRecDepth 100000 in
theorem k_X11_isYear : Cond.code yX11_isYear cX11_isYear 1 ((some FieldType.boolean)) ∈ lw_tbl := List.mem_of_getElem? (i := 816) rfl
theorem p_X11_isYear : yX11_isYear.cls ≠ "java/lang/invoke/MethodHandle" ∧ yX11_isYear.cls ≠ "java/lang/invoke/VarHandle" ∧ (parseMethodDescriptor yX11_isYear.desc).map (fun d => d.parameters.length) = some 1 := by decide +kernel
theorem s_X11_isYear : Cond.static yX11_isYear ∈ mj_tw := mj_tw_in (List.mem_of_getElem? (i := 815) (by decide +kernel)) rfl
set_option maxRecDepth 100000 in
theorem k_X1_tell : Cond.code yX1_tell cX1_tell 6 ((some FieldType.boolean)) ∈ lw_tbl := List.mem_of_getElem? (i := 820) rfl
theorem p_X1_tell : yX1_tell.cls ≠ "java/lang/invoke/MethodHandle" ∧ yX1_tell.cls ≠ "java/lang/invoke/VarHandle" ∧ (parseMethodDescriptor yX1_tell.desc).map (fun d => d.parameters.length) = some 5 := by decide +kernel
theorem n_X1_tell : Cond.instanceMethod yX1_tell ∈ mj_tw := mj_tw_in (List.mem_of_getElem? (i := 818) (by decide +kernel)) rfl
theorem e_X1_tell : Cond.selects yX1_tell.cls yX1_tell yX1_tell ∈ mj_tw := mj_tw_in (List.mem_of_getElem? (i := 819) (by decide +kernel)) rfl
set_option maxRecDepth 100000 in
theorem k_X11_child : Cond.code yX11_child cX11_child 5 ((some FieldType.int)) ∈ lw_tbl := List.mem_of_getElem? (i := 824) rfl
theorem p_X11_child : yX11_child.cls ≠ "java/lang/invoke/MethodHandle" ∧ yX11_child.cls ≠ "java/lang/invoke/VarHandle" ∧ (parseMethodDescriptor yX11_child.desc).map (fun d => d.parameters.length) = some 4 := by decide +kernel
theorem n_X11_child : Cond.instanceMethod yX11_child ∈ mj_tw := mj_tw_in (List.mem_of_getElem? (i := 822) (by decide +kernel)) rfl
theorem e_X11_child : Cond.selects yX11_child.cls yX11_child yX11_child ∈ mj_tw := mj_tw_in (List.mem_of_getElem? (i := 823) (by decide +kernel)) rfl
set_option maxRecDepth 100000 in
theorem k_X11_isPast : Cond.code yX11_isPast cX11_isPast 2 ((some FieldType.boolean)) ∈ lw_tbl := List.mem_of_getElem? (i := 828) rfl
theorem p_X11_isPast : yX11_isPast.cls ≠ "java/lang/invoke/MethodHandle" ∧ yX11_isPast.cls ≠ "java/lang/invoke/VarHandle" ∧ (parseMethodDescriptor yX11_isPast.desc).map (fun d => d.parameters.length) = some 1 := by decide +kernel
theorem n_X11_isPast : Cond.instanceMethod yX11_isPast ∈ mj_tw := mj_tw_in (List.mem_of_getElem? (i := 827) (by decide +kernel)) rfl
theorem e_X11_isPast : Cond.selects yX11_isPast.cls yX11_isPast yX11_isPast ∈ mj_tw := mj_tw_in (List.mem_of_getElem? (i := 11) (by decide +kernel)) rfl
set_option maxRecDepth 100000 in
theorem k_X1_girlsOf : Cond.code yX1_girlsOf cX1_girlsOf 5 ((some FieldType.int)) ∈ lw_tbl := List.mem_of_getElem? (i := 832) rfl
theorem p_X1_girlsOf : yX1_girlsOf.cls ≠ "java/lang/invoke/MethodHandle" ∧ yX1_girlsOf.cls ≠ "java/lang/invoke/VarHandle" ∧ (parseMethodDescriptor yX1_girlsOf.desc).map (fun d => d.parameters.length) = some 3 := by decide +kernel
theorem n_X1_girlsOf : Cond.instanceMethod yX1_girlsOf ∈ mj_tw := mj_tw_in (List.mem_of_getElem? (i := 830) (by decide +kernel)) rfl
theorem e_X1_girlsOf : Cond.selects yX1_girlsOf.cls yX1_girlsOf yX1_girlsOf ∈ mj_tw := mj_tw_in (List.mem_of_getElem? (i := 831) (by decide +kernel)) rfl
set_option maxRecDepth 100000 in
theorem k_X11_school : Cond.code yX11_school cX11_school 7 ((some FieldType.int)) ∈ lw_tbl := List.mem_of_getElem? (i := 837) rfl
theorem p_X11_school : yX11_school.cls ≠ "java/lang/invoke/MethodHandle" ∧ yX11_school.cls ≠ "java/lang/invoke/VarHandle" ∧ (parseMethodDescriptor yX11_school.desc).map (fun d => d.parameters.length) = some 5 := by decide +kernel
theorem n_X11_school : Cond.instanceMethod yX11_school ∈ mj_tw := mj_tw_in (List.mem_of_getElem? (i := 835) (by decide +kernel)) rfl
theorem e_X11_school : Cond.selects yX11_school.cls yX11_school yX11_school ∈ mj_tw := mj_tw_in (List.mem_of_getElem? (i := 836) (by decide +kernel)) rfl
set_option maxRecDepth 100000 in
theorem k_X5_found : Cond.code yX5_found cX5_found 7 ((some FieldType.int)) ∈ lw_tbl := List.mem_of_getElem? (i := 841) rfl
theorem p_X5_found : yX5_found.cls ≠ "java/lang/invoke/MethodHandle" ∧ yX5_found.cls ≠ "java/lang/invoke/VarHandle" ∧ (parseMethodDescriptor yX5_found.desc).map (fun d => d.parameters.length) = some 6 := by decide +kernel
theorem n_X5_found : Cond.instanceMethod yX5_found ∈ mj_tw := mj_tw_in (List.mem_of_getElem? (i := 839) (by decide +kernel)) rfl
theorem e_X5_found : Cond.selects yX5_found.cls yX5_found yX5_found ∈ mj_tw := mj_tw_in (List.mem_of_getElem? (i := 840) (by decide +kernel)) rfl
set_option maxRecDepth 100000 in
theorem k_X10_order : Cond.code yX10_order cX10_order 4 (none) ∈ lw_tbl := List.mem_of_getElem? (i := 845) rfl
theorem p_X10_order : yX10_order.cls ≠ "java/lang/invoke/MethodHandle" ∧ yX10_order.cls ≠ "java/lang/invoke/VarHandle" ∧ (parseMethodDescriptor yX10_order.desc).map (fun d => d.parameters.length) = some 2 := by decide +kernel
theorem n_X10_order : Cond.instanceMethod yX10_order ∈ mj_tw := mj_tw_in (List.mem_of_getElem? (i := 843) (by decide +kernel)) rfl
theorem e_X10_order : Cond.selects yX10_order.cls yX10_order yX10_order ∈ mj_tw := mj_tw_in (List.mem_of_getElem? (i := 844) (by decide +kernel)) rfl
set_option maxRecDepth 100000 in
theorem k_X11_far : Cond.code yX11_far cX11_far 3 ((some FieldType.boolean)) ∈ lw_tbl := List.mem_of_getElem? (i := 851) rfl
theorem p_X11_far : yX11_far.cls ≠ "java/lang/invoke/MethodHandle" ∧ yX11_far.cls ≠ "java/lang/invoke/VarHandle" ∧ (parseMethodDescriptor yX11_far.desc).map (fun d => d.parameters.length) = some 2 := by decide +kernel
theorem n_X11_far : Cond.instanceMethod yX11_far ∈ mj_tw := mj_tw_in (List.mem_of_getElem? (i := 849) (by decide +kernel)) rfl
theorem e_X11_far : Cond.selects yX11_far.cls yX11_far yX11_far ∈ mj_tw := mj_tw_in (List.mem_of_getElem? (i := 850) (by decide +kernel)) rfl
set_option maxRecDepth 100000 in
theorem k_X11_isSchool : Cond.code yX11_isSchool cX11_isSchool 2 ((some FieldType.boolean)) ∈ lw_tbl := List.mem_of_getElem? (i := 855) rfl
theorem p_X11_isSchool : yX11_isSchool.cls ≠ "java/lang/invoke/MethodHandle" ∧ yX11_isSchool.cls ≠ "java/lang/invoke/VarHandle" ∧ (parseMethodDescriptor yX11_isSchool.desc).map (fun d => d.parameters.length) = some 1 := by decide +kernel
theorem n_X11_isSchool : Cond.instanceMethod yX11_isSchool ∈ mj_tw := mj_tw_in (List.mem_of_getElem? (i := 854) (by decide +kernel)) rfl
theorem e_X11_isSchool : Cond.selects yX11_isSchool.cls yX11_isSchool yX11_isSchool ∈ mj_tw := mj_tw_in (List.mem_of_getElem? (i := 12) (by decide +kernel)) rfl
set_option maxRecDepth 100000 in
theorem k_X11_shut : Cond.code yX11_shut cX11_shut 3 ((some FieldType.boolean)) ∈ lw_tbl := List.mem_of_getElem? (i := 859) rfl
theorem p_X11_shut : yX11_shut.cls ≠ "java/lang/invoke/MethodHandle" ∧ yX11_shut.cls ≠ "java/lang/invoke/VarHandle" ∧ (parseMethodDescriptor yX11_shut.desc).map (fun d => d.parameters.length) = some 2 := by decide +kernel
theorem n_X11_shut : Cond.instanceMethod yX11_shut ∈ mj_tw := mj_tw_in (List.mem_of_getElem? (i := 857) (by decide +kernel)) rfl
theorem e_X11_shut : Cond.selects yX11_shut.cls yX11_shut yX11_shut ∈ mj_tw := mj_tw_in (List.mem_of_getElem? (i := 858) (by decide +kernel)) rfl
set_option maxRecDepth 100000 in
theorem k_X5_isShut : Cond.code yX5_isShut cX5_isShut 3 ((some FieldType.boolean)) ∈ lw_tbl := List.mem_of_getElem? (i := 863) rfl
theorem p_X5_isShut : yX5_isShut.cls ≠ "java/lang/invoke/MethodHandle" ∧ yX5_isShut.cls ≠ "java/lang/invoke/VarHandle" ∧ (parseMethodDescriptor yX5_isShut.desc).map (fun d => d.parameters.length) = some 2 := by decide +kernel
theorem n_X5_isShut : Cond.instanceMethod yX5_isShut ∈ mj_tw := mj_tw_in (List.mem_of_getElem? (i := 861) (by decide +kernel)) rfl
theorem e_X5_isShut : Cond.selects yX5_isShut.cls yX5_isShut yX5_isShut ∈ mj_tw := mj_tw_in (List.mem_of_getElem? (i := 862) (by decide +kernel)) rfl
set_option maxRecDepth 100000 in
theorem k_X5_close : Cond.code yX5_close cX5_close 5 (none) ∈ lw_tbl := List.mem_of_getElem? (i := 868) rfl
theorem p_X5_close : yX5_close.cls ≠ "java/lang/invoke/MethodHandle" ∧ yX5_close.cls ≠ "java/lang/invoke/VarHandle" ∧ (parseMethodDescriptor yX5_close.desc).map (fun d => d.parameters.length) = some 3 := by decide +kernel
theorem n_X5_close : Cond.instanceMethod yX5_close ∈ mj_tw := mj_tw_in (List.mem_of_getElem? (i := 866) (by decide +kernel)) rfl
theorem e_X5_close : Cond.selects yX5_close.cls yX5_close yX5_close ∈ mj_tw := mj_tw_in (List.mem_of_getElem? (i := 867) (by decide +kernel)) rfl
set_option maxRecDepth 100000 in
theorem k_X11_schooled : Cond.code yX11_schooled cX11_schooled 3 ((some FieldType.int)) ∈ lw_tbl := List.mem_of_getElem? (i := 872) rfl
theorem p_X11_schooled : yX11_schooled.cls ≠ "java/lang/invoke/MethodHandle" ∧ yX11_schooled.cls ≠ "java/lang/invoke/VarHandle" ∧ (parseMethodDescriptor yX11_schooled.desc).map (fun d => d.parameters.length) = some 2 := by decide +kernel
theorem n_X11_schooled : Cond.instanceMethod yX11_schooled ∈ mj_tw := mj_tw_in (List.mem_of_getElem? (i := 870) (by decide +kernel)) rfl
theorem e_X11_schooled : Cond.selects yX11_schooled.cls yX11_schooled yX11_schooled ∈ mj_tw := mj_tw_in (List.mem_of_getElem? (i := 871) (by decide +kernel)) rfl
set_option maxRecDepth 100000 in
theorem k_X11_feed : Cond.code yX11_feed cX11_feed 7 ((some FieldType.int)) ∈ lw_tbl := List.mem_of_getElem? (i := 876) rfl
theorem p_X11_feed : yX11_feed.cls ≠ "java/lang/invoke/MethodHandle" ∧ yX11_feed.cls ≠ "java/lang/invoke/VarHandle" ∧ (parseMethodDescriptor yX11_feed.desc).map (fun d => d.parameters.length) = some 5 := by decide +kernel
theorem n_X11_feed : Cond.instanceMethod yX11_feed ∈ mj_tw := mj_tw_in (List.mem_of_getElem? (i := 874) (by decide +kernel)) rfl
theorem e_X11_feed : Cond.selects yX11_feed.cls yX11_feed yX11_feed ∈ mj_tw := mj_tw_in (List.mem_of_getElem? (i := 875) (by decide +kernel)) rfl
set_option maxRecDepth 100000 in
theorem k_X9_bytesOf : Cond.code yX9_bytesOf cX9_bytesOf 3 ((some FieldType.int)) ∈ lw_tbl := List.mem_of_getElem? (i := 879) rfl
theorem p_X9_bytesOf : yX9_bytesOf.cls ≠ "java/lang/invoke/MethodHandle" ∧ yX9_bytesOf.cls ≠ "java/lang/invoke/VarHandle" ∧ (parseMethodDescriptor yX9_bytesOf.desc).map (fun d => d.parameters.length) = some 1 := by decide +kernel
theorem s_X9_bytesOf : Cond.static yX9_bytesOf ∈ mj_tw := mj_tw_in (List.mem_of_getElem? (i := 878) (by decide +kernel)) rfl
set_option maxRecDepth 100000 in
theorem k_X9_write : Cond.code yX9_write cX9_write 4 (none) ∈ lw_tbl := List.mem_of_getElem? (i := 883) rfl
theorem p_X9_write : yX9_write.cls ≠ "java/lang/invoke/MethodHandle" ∧ yX9_write.cls ≠ "java/lang/invoke/VarHandle" ∧ (parseMethodDescriptor yX9_write.desc).map (fun d => d.parameters.length) = some 1 := by decide +kernel
theorem n_X9_write : Cond.instanceMethod yX9_write ∈ mj_tw := mj_tw_in (List.mem_of_getElem? (i := 881) (by decide +kernel)) rfl
theorem e_X9_write : Cond.selects yX9_write.cls yX9_write yX9_write ∈ mj_tw := mj_tw_in (List.mem_of_getElem? (i := 882) (by decide +kernel)) rfl
set_option maxRecDepth 100000 in
theorem k_X11_end : Cond.code yX11_end cX11_end 2 ((some FieldType.boolean)) ∈ lw_tbl := List.mem_of_getElem? (i := 887) rfl
theorem p_X11_end : yX11_end.cls ≠ "java/lang/invoke/MethodHandle" ∧ yX11_end.cls ≠ "java/lang/invoke/VarHandle" ∧ (parseMethodDescriptor yX11_end.desc).map (fun d => d.parameters.length) = some 1 := by decide +kernel
theorem n_X11_end : Cond.instanceMethod yX11_end ∈ mj_tw := mj_tw_in (List.mem_of_getElem? (i := 885) (by decide +kernel)) rfl
theorem e_X11_end : Cond.selects yX11_end.cls yX11_end yX11_end ∈ mj_tw := mj_tw_in (List.mem_of_getElem? (i := 886) (by decide +kernel)) rfl
set_option maxRecDepth 100000 in
theorem k_X11_fault : Cond.code yX11_fault cX11_fault 1 ((some FieldType.int)) ∈ lw_tbl := List.mem_of_getElem? (i := 891) rfl
theorem p_X11_fault : yX11_fault.cls ≠ "java/lang/invoke/MethodHandle" ∧ yX11_fault.cls ≠ "java/lang/invoke/VarHandle" ∧ (parseMethodDescriptor yX11_fault.desc).map (fun d => d.parameters.length) = some 0 := by decide +kernel
theorem n_X11_fault : Cond.instanceMethod yX11_fault ∈ mj_tw := mj_tw_in (List.mem_of_getElem? (i := 889) (by decide +kernel)) rfl
theorem e_X11_fault : Cond.selects yX11_fault.cls yX11_fault yX11_fault ∈ mj_tw := mj_tw_in (List.mem_of_getElem? (i := 890) (by decide +kernel)) rfl
set_option maxRecDepth 100000 in
theorem k_X9_compile : Cond.code yX9_compile cX9_compile 3 ((some FieldType.int)) ∈ lw_tbl := List.mem_of_getElem? (i := 895) rfl
theorem p_X9_compile : yX9_compile.cls ≠ "java/lang/invoke/MethodHandle" ∧ yX9_compile.cls ≠ "java/lang/invoke/VarHandle" ∧ (parseMethodDescriptor yX9_compile.desc).map (fun d => d.parameters.length) = some 0 := by decide +kernel
theorem n_X9_compile : Cond.instanceMethod yX9_compile ∈ mj_tw := mj_tw_in (List.mem_of_getElem? (i := 893) (by decide +kernel)) rfl
theorem e_X9_compile : Cond.selects yX9_compile.cls yX9_compile yX9_compile ∈ mj_tw := mj_tw_in (List.mem_of_getElem? (i := 894) (by decide +kernel)) rfl
set_option maxRecDepth 100000 in
theorem k_X9_readClause : Cond.code yX9_readClause cX9_readClause 6 (none) ∈ lw_tbl := List.mem_of_getElem? (i := 899) rfl
theorem p_X9_readClause : yX9_readClause.cls ≠ "java/lang/invoke/MethodHandle" ∧ yX9_readClause.cls ≠ "java/lang/invoke/VarHandle" ∧ (parseMethodDescriptor yX9_readClause.desc).map (fun d => d.parameters.length) = some 0 := by decide +kernel
theorem n_X9_readClause : Cond.instanceMethod yX9_readClause ∈ mj_tw := mj_tw_in (List.mem_of_getElem? (i := 898) (by decide +kernel)) rfl
theorem e_X9_readClause : Cond.selects yX9_readClause.cls yX9_readClause yX9_readClause ∈ mj_tw := mj_tw_in (List.mem_of_getElem? (i := 13) (by decide +kernel)) rfl
set_option maxRecDepth 100000 in
theorem k_X9_peek : Cond.code yX9_peek cX9_peek 1 ((some FieldType.int)) ∈ lw_tbl := List.mem_of_getElem? (i := 903) rfl
theorem p_X9_peek : yX9_peek.cls ≠ "java/lang/invoke/MethodHandle" ∧ yX9_peek.cls ≠ "java/lang/invoke/VarHandle" ∧ (parseMethodDescriptor yX9_peek.desc).map (fun d => d.parameters.length) = some 0 := by decide +kernel
theorem n_X9_peek : Cond.instanceMethod yX9_peek ∈ mj_tw := mj_tw_in (List.mem_of_getElem? (i := 902) (by decide +kernel)) rfl
theorem e_X9_peek : Cond.selects yX9_peek.cls yX9_peek yX9_peek ∈ mj_tw := mj_tw_in (List.mem_of_getElem? (i := 14) (by decide +kernel)) rfl
set_option maxRecDepth 100000 in
theorem k_X0_labelOf : Cond.code yX0_labelOf cX0_labelOf 2 ((some FieldType.int)) ∈ lw_tbl := List.mem_of_getElem? (i := 906) rfl
theorem p_X0_labelOf : yX0_labelOf.cls ≠ "java/lang/invoke/MethodHandle" ∧ yX0_labelOf.cls ≠ "java/lang/invoke/VarHandle" ∧ (parseMethodDescriptor yX0_labelOf.desc).map (fun d => d.parameters.length) = some 1 := by decide +kernel
theorem s_X0_labelOf : Cond.static yX0_labelOf ∈ mj_tw := mj_tw_in (List.mem_of_getElem? (i := 905) (by decide +kernel)) rfl
set_option maxRecDepth 100000 in
theorem k_X9_fail : Cond.code yX9_fail cX9_fail 1 (none) ∈ lw_tbl := List.mem_of_getElem? (i := 912) rfl
theorem p_X9_fail : yX9_fail.cls ≠ "java/lang/invoke/MethodHandle" ∧ yX9_fail.cls ≠ "java/lang/invoke/VarHandle" ∧ (parseMethodDescriptor yX9_fail.desc).map (fun d => d.parameters.length) = some 0 := by decide +kernel
theorem n_X9_fail : Cond.instanceMethod yX9_fail ∈ mj_tw := mj_tw_in (List.mem_of_getElem? (i := 911) (by decide +kernel)) rfl
theorem e_X9_fail : Cond.selects yX9_fail.cls yX9_fail yX9_fail ∈ mj_tw := mj_tw_in (List.mem_of_getElem? (i := 15) (by decide +kernel)) rfl
set_option maxRecDepth 100000 in
theorem k_X9_want : Cond.code yX9_want cX9_want 2 (none) ∈ lw_tbl := List.mem_of_getElem? (i := 916) rfl
theorem p_X9_want : yX9_want.cls ≠ "java/lang/invoke/MethodHandle" ∧ yX9_want.cls ≠ "java/lang/invoke/VarHandle" ∧ (parseMethodDescriptor yX9_want.desc).map (fun d => d.parameters.length) = some 1 := by decide +kernel
theorem n_X9_want : Cond.instanceMethod yX9_want ∈ mj_tw := mj_tw_in (List.mem_of_getElem? (i := 915) (by decide +kernel)) rfl
theorem e_X9_want : Cond.selects yX9_want.cls yX9_want yX9_want ∈ mj_tw := mj_tw_in (List.mem_of_getElem? (i := 16) (by decide +kernel)) rfl
set_option maxRecDepth 100000 in
theorem k_X9_readSum : Cond.code yX9_readSum cX9_readSum 3 (none) ∈ lw_tbl := List.mem_of_getElem? (i := 920) rfl
theorem p_X9_readSum : yX9_readSum.cls ≠ "java/lang/invoke/MethodHandle" ∧ yX9_readSum.cls ≠ "java/lang/invoke/VarHandle" ∧ (parseMethodDescriptor yX9_readSum.desc).map (fun d => d.parameters.length) = some 0 := by decide +kernel
theorem n_X9_readSum : Cond.instanceMethod yX9_readSum ∈ mj_tw := mj_tw_in (List.mem_of_getElem? (i := 919) (by decide +kernel)) rfl
theorem e_X9_readSum : Cond.selects yX9_readSum.cls yX9_readSum yX9_readSum ∈ mj_tw := mj_tw_in (List.mem_of_getElem? (i := 17) (by decide +kernel)) rfl
set_option maxRecDepth 100000 in
theorem k_X9_readTerm : Cond.code yX9_readTerm cX9_readTerm 3 (none) ∈ lw_tbl := List.mem_of_getElem? (i := 924) rfl
theorem p_X9_readTerm : yX9_readTerm.cls ≠ "java/lang/invoke/MethodHandle" ∧ yX9_readTerm.cls ≠ "java/lang/invoke/VarHandle" ∧ (parseMethodDescriptor yX9_readTerm.desc).map (fun d => d.parameters.length) = some 0 := by decide +kernel
theorem n_X9_readTerm : Cond.instanceMethod yX9_readTerm ∈ mj_tw := mj_tw_in (List.mem_of_getElem? (i := 923) (by decide +kernel)) rfl
theorem e_X9_readTerm : Cond.selects yX9_readTerm.cls yX9_readTerm yX9_readTerm ∈ mj_tw := mj_tw_in (List.mem_of_getElem? (i := 18) (by decide +kernel)) rfl
set_option maxRecDepth 100000 in
theorem k_X9_readAtom : Cond.code yX9_readAtom cX9_readAtom 2 (none) ∈ lw_tbl := List.mem_of_getElem? (i := 928) rfl
theorem p_X9_readAtom : yX9_readAtom.cls ≠ "java/lang/invoke/MethodHandle" ∧ yX9_readAtom.cls ≠ "java/lang/invoke/VarHandle" ∧ (parseMethodDescriptor yX9_readAtom.desc).map (fun d => d.parameters.length) = some 0 := by decide +kernel
theorem n_X9_readAtom : Cond.instanceMethod yX9_readAtom ∈ mj_tw := mj_tw_in (List.mem_of_getElem? (i := 927) (by decide +kernel)) rfl
theorem e_X9_readAtom : Cond.selects yX9_readAtom.cls yX9_readAtom yX9_readAtom ∈ mj_tw := mj_tw_in (List.mem_of_getElem? (i := 19) (by decide +kernel)) rfl
set_option maxRecDepth 100000 in
theorem k_X9_isDigit : Cond.code yX9_isDigit cX9_isDigit 1 ((some FieldType.boolean)) ∈ lw_tbl := List.mem_of_getElem? (i := 931) rfl
theorem p_X9_isDigit : yX9_isDigit.cls ≠ "java/lang/invoke/MethodHandle" ∧ yX9_isDigit.cls ≠ "java/lang/invoke/VarHandle" ∧ (parseMethodDescriptor yX9_isDigit.desc).map (fun d => d.parameters.length) = some 1 := by decide +kernel
theorem s_X9_isDigit : Cond.static yX9_isDigit ∈ mj_tw := mj_tw_in (List.mem_of_getElem? (i := 930) (by decide +kernel)) rfl
set_option maxRecDepth 100000 in
theorem k_X9_readNumber : Cond.code yX9_readNumber cX9_readNumber 3 (none) ∈ lw_tbl := List.mem_of_getElem? (i := 935) rfl
theorem p_X9_readNumber : yX9_readNumber.cls ≠ "java/lang/invoke/MethodHandle" ∧ yX9_readNumber.cls ≠ "java/lang/invoke/VarHandle" ∧ (parseMethodDescriptor yX9_readNumber.desc).map (fun d => d.parameters.length) = some 0 := by decide +kernel
theorem n_X9_readNumber : Cond.instanceMethod yX9_readNumber ∈ mj_tw := mj_tw_in (List.mem_of_getElem? (i := 934) (by decide +kernel)) rfl
theorem e_X9_readNumber : Cond.selects yX9_readNumber.cls yX9_readNumber yX9_readNumber ∈ mj_tw := mj_tw_in (List.mem_of_getElem? (i := 20) (by decide +kernel)) rfl
set_option maxRecDepth 100000 in
theorem k_X9_emit : Cond.code yX9_emit cX9_emit 2 (none) ∈ lw_tbl := List.mem_of_getElem? (i := 939) rfl
theorem p_X9_emit : yX9_emit.cls ≠ "java/lang/invoke/MethodHandle" ∧ yX9_emit.cls ≠ "java/lang/invoke/VarHandle" ∧ (parseMethodDescriptor yX9_emit.desc).map (fun d => d.parameters.length) = some 1 := by decide +kernel
theorem n_X9_emit : Cond.instanceMethod yX9_emit ∈ mj_tw := mj_tw_in (List.mem_of_getElem? (i := 938) (by decide +kernel)) rfl
theorem e_X9_emit : Cond.selects yX9_emit.cls yX9_emit yX9_emit ∈ mj_tw := mj_tw_in (List.mem_of_getElem? (i := 21) (by decide +kernel)) rfl
set_option maxRecDepth 100000 in
theorem k_X9_letterOf : Cond.code yX9_letterOf cX9_letterOf 1 ((some FieldType.int)) ∈ lw_tbl := List.mem_of_getElem? (i := 942) rfl
theorem p_X9_letterOf : yX9_letterOf.cls ≠ "java/lang/invoke/MethodHandle" ∧ yX9_letterOf.cls ≠ "java/lang/invoke/VarHandle" ∧ (parseMethodDescriptor yX9_letterOf.desc).map (fun d => d.parameters.length) = some 1 := by decide +kernel
theorem s_X9_letterOf : Cond.static yX9_letterOf ∈ mj_tw := mj_tw_in (List.mem_of_getElem? (i := 941) (by decide +kernel)) rfl
set_option maxRecDepth 100000 in
theorem k_X9_opened : Cond.code yX9_opened cX9_opened 1 ((some FieldType.boolean)) ∈ lw_tbl := List.mem_of_getElem? (i := 946) rfl
theorem p_X9_opened : yX9_opened.cls ≠ "java/lang/invoke/MethodHandle" ∧ yX9_opened.cls ≠ "java/lang/invoke/VarHandle" ∧ (parseMethodDescriptor yX9_opened.desc).map (fun d => d.parameters.length) = some 0 := by decide +kernel
theorem n_X9_opened : Cond.instanceMethod yX9_opened ∈ mj_tw := mj_tw_in (List.mem_of_getElem? (i := 945) (by decide +kernel)) rfl
theorem e_X9_opened : Cond.selects yX9_opened.cls yX9_opened yX9_opened ∈ mj_tw := mj_tw_in (List.mem_of_getElem? (i := 22) (by decide +kernel)) rfl
set_option maxRecDepth 100000 in
theorem k_X9_isRelation : Cond.code yX9_isRelation cX9_isRelation 1 ((some FieldType.boolean)) ∈ lw_tbl := List.mem_of_getElem? (i := 949) rfl
theorem p_X9_isRelation : yX9_isRelation.cls ≠ "java/lang/invoke/MethodHandle" ∧ yX9_isRelation.cls ≠ "java/lang/invoke/VarHandle" ∧ (parseMethodDescriptor yX9_isRelation.desc).map (fun d => d.parameters.length) = some 1 := by decide +kernel
theorem s_X9_isRelation : Cond.static yX9_isRelation ∈ mj_tw := mj_tw_in (List.mem_of_getElem? (i := 948) (by decide +kernel)) rfl
set_option maxRecDepth 100000 in
theorem k_X9_readCondition : Cond.code yX9_readCondition cX9_readCondition 3 (none) ∈ lw_tbl := List.mem_of_getElem? (i := 953) rfl
theorem p_X9_readCondition : yX9_readCondition.cls ≠ "java/lang/invoke/MethodHandle" ∧ yX9_readCondition.cls ≠ "java/lang/invoke/VarHandle" ∧ (parseMethodDescriptor yX9_readCondition.desc).map (fun d => d.parameters.length) = some 1 := by decide +kernel
theorem n_X9_readCondition : Cond.instanceMethod yX9_readCondition ∈ mj_tw := mj_tw_in (List.mem_of_getElem? (i := 952) (by decide +kernel)) rfl
theorem e_X9_readCondition : Cond.selects yX9_readCondition.cls yX9_readCondition yX9_readCondition ∈ mj_tw := mj_tw_in (List.mem_of_getElem? (i := 23) (by decide +kernel)) rfl
set_option maxRecDepth 100000 in
theorem k_X9_readPart : Cond.code yX9_readPart cX9_readPart 3 (none) ∈ lw_tbl := List.mem_of_getElem? (i := 957) rfl
theorem p_X9_readPart : yX9_readPart.cls ≠ "java/lang/invoke/MethodHandle" ∧ yX9_readPart.cls ≠ "java/lang/invoke/VarHandle" ∧ (parseMethodDescriptor yX9_readPart.desc).map (fun d => d.parameters.length) = some 1 := by decide +kernel
theorem n_X9_readPart : Cond.instanceMethod yX9_readPart ∈ mj_tw := mj_tw_in (List.mem_of_getElem? (i := 956) (by decide +kernel)) rfl
theorem e_X9_readPart : Cond.selects yX9_readPart.cls yX9_readPart yX9_readPart ∈ mj_tw := mj_tw_in (List.mem_of_getElem? (i := 24) (by decide +kernel)) rfl
set_option maxRecDepth 100000 in
theorem k_X9_readUnit : Cond.code yX9_readUnit cX9_readUnit 4 (none) ∈ lw_tbl := List.mem_of_getElem? (i := 961) rfl
theorem p_X9_readUnit : yX9_readUnit.cls ≠ "java/lang/invoke/MethodHandle" ∧ yX9_readUnit.cls ≠ "java/lang/invoke/VarHandle" ∧ (parseMethodDescriptor yX9_readUnit.desc).map (fun d => d.parameters.length) = some 1 := by decide +kernel
theorem n_X9_readUnit : Cond.instanceMethod yX9_readUnit ∈ mj_tw := mj_tw_in (List.mem_of_getElem? (i := 960) (by decide +kernel)) rfl
theorem e_X9_readUnit : Cond.selects yX9_readUnit.cls yX9_readUnit yX9_readUnit ∈ mj_tw := mj_tw_in (List.mem_of_getElem? (i := 25) (by decide +kernel)) rfl
set_option maxRecDepth 100000 in
theorem k_X9_took : Cond.code yX9_took cX9_took 2 ((some FieldType.boolean)) ∈ lw_tbl := List.mem_of_getElem? (i := 965) rfl
theorem p_X9_took : yX9_took.cls ≠ "java/lang/invoke/MethodHandle" ∧ yX9_took.cls ≠ "java/lang/invoke/VarHandle" ∧ (parseMethodDescriptor yX9_took.desc).map (fun d => d.parameters.length) = some 1 := by decide +kernel
theorem n_X9_took : Cond.instanceMethod yX9_took ∈ mj_tw := mj_tw_in (List.mem_of_getElem? (i := 964) (by decide +kernel)) rfl
theorem e_X9_took : Cond.selects yX9_took.cls yX9_took yX9_took ∈ mj_tw := mj_tw_in (List.mem_of_getElem? (i := 26) (by decide +kernel)) rfl
set_option maxRecDepth 100000 in
theorem k_X9_keepClause : Cond.code yX9_keepClause cX9_keepClause 5 (none) ∈ lw_tbl := List.mem_of_getElem? (i := 969) rfl
theorem p_X9_keepClause : yX9_keepClause.cls ≠ "java/lang/invoke/MethodHandle" ∧ yX9_keepClause.cls ≠ "java/lang/invoke/VarHandle" ∧ (parseMethodDescriptor yX9_keepClause.desc).map (fun d => d.parameters.length) = some 3 := by decide +kernel
theorem n_X9_keepClause : Cond.instanceMethod yX9_keepClause ∈ mj_tw := mj_tw_in (List.mem_of_getElem? (i := 968) (by decide +kernel)) rfl
theorem e_X9_keepClause : Cond.selects yX9_keepClause.cls yX9_keepClause yX9_keepClause ∈ mj_tw := mj_tw_in (List.mem_of_getElem? (i := 27) (by decide +kernel)) rfl
set_option maxRecDepth 100000 in
theorem k_X11_law : Cond.code yX11_law cX11_law 4 ((some FieldType.int)) ∈ lw_tbl := List.mem_of_getElem? (i := 973) rfl
theorem p_X11_law : yX11_law.cls ≠ "java/lang/invoke/MethodHandle" ∧ yX11_law.cls ≠ "java/lang/invoke/VarHandle" ∧ (parseMethodDescriptor yX11_law.desc).map (fun d => d.parameters.length) = some 2 := by decide +kernel
theorem n_X11_law : Cond.instanceMethod yX11_law ∈ mj_tw := mj_tw_in (List.mem_of_getElem? (i := 971) (by decide +kernel)) rfl
theorem e_X11_law : Cond.selects yX11_law.cls yX11_law yX11_law ∈ mj_tw := mj_tw_in (List.mem_of_getElem? (i := 972) (by decide +kernel)) rfl
set_option maxRecDepth 100000 in
theorem k_X0_enact : Cond.code yX0_enact cX0_enact 5 ((some FieldType.int)) ∈ lw_tbl := List.mem_of_getElem? (i := 977) rfl
theorem p_X0_enact : yX0_enact.cls ≠ "java/lang/invoke/MethodHandle" ∧ yX0_enact.cls ≠ "java/lang/invoke/VarHandle" ∧ (parseMethodDescriptor yX0_enact.desc).map (fun d => d.parameters.length) = some 4 := by decide +kernel
theorem n_X0_enact : Cond.instanceMethod yX0_enact ∈ mj_tw := mj_tw_in (List.mem_of_getElem? (i := 975) (by decide +kernel)) rfl
theorem e_X0_enact : Cond.selects yX0_enact.cls yX0_enact yX0_enact ∈ mj_tw := mj_tw_in (List.mem_of_getElem? (i := 976) (by decide +kernel)) rfl
set_option maxRecDepth 100000 in
theorem k_J7_copyOf_59c91 : Cond.code yJ7_copyOf_59c91 cJ7_copyOf_59c91 3 ((some (FieldType.array FieldType.int))) ∈ lw_tbl := List.mem_of_getElem? (i := 980) rfl
theorem p_J7_copyOf_59c91 : yJ7_copyOf_59c91.cls ≠ "java/lang/invoke/MethodHandle" ∧ yJ7_copyOf_59c91.cls ≠ "java/lang/invoke/VarHandle" ∧ (parseMethodDescriptor yJ7_copyOf_59c91.desc).map (fun d => d.parameters.length) = some 2 := by decide +kernel
theorem s_J7_copyOf_59c91 : Cond.static yJ7_copyOf_59c91 ∈ mj_tw := mj_tw_in (List.mem_of_getElem? (i := 979) (by decide +kernel)) rfl
set_option maxRecDepth 100000 in
theorem k_X11_worth : Cond.code yX11_worth cX11_worth 10 ((some FieldType.int)) ∈ lw_tbl := List.mem_of_getElem? (i := 995) rfl
theorem p_X11_worth : yX11_worth.cls ≠ "java/lang/invoke/MethodHandle" ∧ yX11_worth.cls ≠ "java/lang/invoke/VarHandle" ∧ (parseMethodDescriptor yX11_worth.desc).map (fun d => d.parameters.length) = some 8 := by decide +kernel
theorem n_X11_worth : Cond.instanceMethod yX11_worth ∈ mj_tw := mj_tw_in (List.mem_of_getElem? (i := 993) (by decide +kernel)) rfl
theorem e_X11_worth : Cond.selects yX11_worth.cls yX11_worth yX11_worth ∈ mj_tw := mj_tw_in (List.mem_of_getElem? (i := 994) (by decide +kernel)) rfl
set_option maxRecDepth 100000 in
theorem k_X11_why : Cond.code yX11_why cX11_why 10 ((some FieldType.int)) ∈ lw_tbl := List.mem_of_getElem? (i := 1003) rfl
theorem p_X11_why : yX11_why.cls ≠ "java/lang/invoke/MethodHandle" ∧ yX11_why.cls ≠ "java/lang/invoke/VarHandle" ∧ (parseMethodDescriptor yX11_why.desc).map (fun d => d.parameters.length) = some 8 := by decide +kernel
theorem n_X11_why : Cond.instanceMethod yX11_why ∈ mj_tw := mj_tw_in (List.mem_of_getElem? (i := 1001) (by decide +kernel)) rfl
theorem e_X11_why : Cond.selects yX11_why.cls yX11_why yX11_why ∈ mj_tw := mj_tw_in (List.mem_of_getElem? (i := 1002) (by decide +kernel)) rfl
set_option maxRecDepth 100000 in
theorem k_X11_quarrel : Cond.code yX11_quarrel cX11_quarrel 4 ((some FieldType.int)) ∈ lw_tbl := List.mem_of_getElem? (i := 1007) rfl
theorem p_X11_quarrel : yX11_quarrel.cls ≠ "java/lang/invoke/MethodHandle" ∧ yX11_quarrel.cls ≠ "java/lang/invoke/VarHandle" ∧ (parseMethodDescriptor yX11_quarrel.desc).map (fun d => d.parameters.length) = some 3 := by decide +kernel
theorem n_X11_quarrel : Cond.instanceMethod yX11_quarrel ∈ mj_tw := mj_tw_in (List.mem_of_getElem? (i := 1005) (by decide +kernel)) rfl
theorem e_X11_quarrel : Cond.selects yX11_quarrel.cls yX11_quarrel yX11_quarrel ∈ mj_tw := mj_tw_in (List.mem_of_getElem? (i := 1006) (by decide +kernel)) rfl
set_option maxRecDepth 100000 in
theorem k_X0_quarrelled : Cond.code yX0_quarrelled cX0_quarrelled 8 ((some FieldType.int)) ∈ lw_tbl := List.mem_of_getElem? (i := 1011) rfl
theorem p_X0_quarrelled : yX0_quarrelled.cls ≠ "java/lang/invoke/MethodHandle" ∧ yX0_quarrelled.cls ≠ "java/lang/invoke/VarHandle" ∧ (parseMethodDescriptor yX0_quarrelled.desc).map (fun d => d.parameters.length) = some 3 := by decide +kernel
theorem n_X0_quarrelled : Cond.instanceMethod yX0_quarrelled ∈ mj_tw := mj_tw_in (List.mem_of_getElem? (i := 1009) (by decide +kernel)) rfl
theorem e_X0_quarrelled : Cond.selects yX0_quarrelled.cls yX0_quarrelled yX0_quarrelled ∈ mj_tw := mj_tw_in (List.mem_of_getElem? (i := 1010) (by decide +kernel)) rfl
set_option maxRecDepth 100000 in
theorem k_X11_places : Cond.code yX11_places cX11_places 4 ((some FieldType.int)) ∈ lw_tbl := List.mem_of_getElem? (i := 1017) rfl
theorem p_X11_places : yX11_places.cls ≠ "java/lang/invoke/MethodHandle" ∧ yX11_places.cls ≠ "java/lang/invoke/VarHandle" ∧ (parseMethodDescriptor yX11_places.desc).map (fun d => d.parameters.length) = some 3 := by decide +kernel
theorem n_X11_places : Cond.instanceMethod yX11_places ∈ mj_tw := mj_tw_in (List.mem_of_getElem? (i := 1015) (by decide +kernel)) rfl
theorem e_X11_places : Cond.selects yX11_places.cls yX11_places yX11_places ∈ mj_tw := mj_tw_in (List.mem_of_getElem? (i := 1016) (by decide +kernel)) rfl
set_option maxRecDepth 100000 in
theorem k_X5_classesOf : Cond.code yX5_classesOf cX5_classesOf 6 ((some FieldType.int)) ∈ lw_tbl := List.mem_of_getElem? (i := 1021) rfl
theorem p_X5_classesOf : yX5_classesOf.cls ≠ "java/lang/invoke/MethodHandle" ∧ yX5_classesOf.cls ≠ "java/lang/invoke/VarHandle" ∧ (parseMethodDescriptor yX5_classesOf.desc).map (fun d => d.parameters.length) = some 3 := by decide +kernel
theorem n_X5_classesOf : Cond.instanceMethod yX5_classesOf ∈ mj_tw := mj_tw_in (List.mem_of_getElem? (i := 1019) (by decide +kernel)) rfl
theorem e_X5_classesOf : Cond.selects yX5_classesOf.cls yX5_classesOf yX5_classesOf ∈ mj_tw := mj_tw_in (List.mem_of_getElem? (i := 1020) (by decide +kernel)) rfl
set_option maxRecDepth 100000 in
theorem k_X5_headsOf : Cond.code yX5_headsOf cX5_headsOf 4 ((some FieldType.int)) ∈ lw_tbl := List.mem_of_getElem? (i := 1030) rfl
theorem p_X5_headsOf : yX5_headsOf.cls ≠ "java/lang/invoke/MethodHandle" ∧ yX5_headsOf.cls ≠ "java/lang/invoke/VarHandle" ∧ (parseMethodDescriptor yX5_headsOf.desc).map (fun d => d.parameters.length) = some 3 := by decide +kernel
theorem n_X5_headsOf : Cond.instanceMethod yX5_headsOf ∈ mj_tw := mj_tw_in (List.mem_of_getElem? (i := 1028) (by decide +kernel)) rfl
theorem e_X5_headsOf : Cond.selects yX5_headsOf.cls yX5_headsOf yX5_headsOf ∈ mj_tw := mj_tw_in (List.mem_of_getElem? (i := 1029) (by decide +kernel)) rfl
set_option maxRecDepth 100000 in
theorem k_X11_reach : Cond.code yX11_reach cX11_reach 5 ((some FieldType.int)) ∈ lw_tbl := List.mem_of_getElem? (i := 1034) rfl
theorem p_X11_reach : yX11_reach.cls ≠ "java/lang/invoke/MethodHandle" ∧ yX11_reach.cls ≠ "java/lang/invoke/VarHandle" ∧ (parseMethodDescriptor yX11_reach.desc).map (fun d => d.parameters.length) = some 4 := by decide +kernel
theorem n_X11_reach : Cond.instanceMethod yX11_reach ∈ mj_tw := mj_tw_in (List.mem_of_getElem? (i := 1032) (by decide +kernel)) rfl
theorem e_X11_reach : Cond.selects yX11_reach.cls yX11_reach yX11_reach ∈ mj_tw := mj_tw_in (List.mem_of_getElem? (i := 1033) (by decide +kernel)) rfl
set_option maxRecDepth 100000 in
theorem k_X6_survey : Cond.code yX6_survey cX6_survey 6 (none) ∈ lw_tbl := List.mem_of_getElem? (i := 1038) rfl
theorem p_X6_survey : yX6_survey.cls ≠ "java/lang/invoke/MethodHandle" ∧ yX6_survey.cls ≠ "java/lang/invoke/VarHandle" ∧ (parseMethodDescriptor yX6_survey.desc).map (fun d => d.parameters.length) = some 2 := by decide +kernel
theorem n_X6_survey : Cond.instanceMethod yX6_survey ∈ mj_tw := mj_tw_in (List.mem_of_getElem? (i := 1036) (by decide +kernel)) rfl
theorem e_X6_survey : Cond.selects yX6_survey.cls yX6_survey yX6_survey ∈ mj_tw := mj_tw_in (List.mem_of_getElem? (i := 1037) (by decide +kernel)) rfl
set_option maxRecDepth 100000 in
theorem k_X1_walkLimit : Cond.code yX1_walkLimit cX1_walkLimit 4 ((some FieldType.int)) ∈ lw_tbl := List.mem_of_getElem? (i := 1047) rfl
theorem p_X1_walkLimit : yX1_walkLimit.cls ≠ "java/lang/invoke/MethodHandle" ∧ yX1_walkLimit.cls ≠ "java/lang/invoke/VarHandle" ∧ (parseMethodDescriptor yX1_walkLimit.desc).map (fun d => d.parameters.length) = some 3 := by decide +kernel
theorem n_X1_walkLimit : Cond.instanceMethod yX1_walkLimit ∈ mj_tw := mj_tw_in (List.mem_of_getElem? (i := 1045) (by decide +kernel)) rfl
theorem e_X1_walkLimit : Cond.selects yX1_walkLimit.cls yX1_walkLimit yX1_walkLimit ∈ mj_tw := mj_tw_in (List.mem_of_getElem? (i := 1046) (by decide +kernel)) rfl
set_option maxRecDepth 100000 in
theorem k_X6_measure : Cond.code yX6_measure cX6_measure 8 (none) ∈ lw_tbl := List.mem_of_getElem? (i := 1056) rfl
theorem p_X6_measure : yX6_measure.cls ≠ "java/lang/invoke/MethodHandle" ∧ yX6_measure.cls ≠ "java/lang/invoke/VarHandle" ∧ (parseMethodDescriptor yX6_measure.desc).map (fun d => d.parameters.length) = some 3 := by decide +kernel
theorem n_X6_measure : Cond.instanceMethod yX6_measure ∈ mj_tw := mj_tw_in (List.mem_of_getElem? (i := 1055) (by decide +kernel)) rfl
theorem e_X6_measure : Cond.selects yX6_measure.cls yX6_measure yX6_measure ∈ mj_tw := mj_tw_in (List.mem_of_getElem? (i := 28) (by decide +kernel)) rfl
set_option maxRecDepth 100000 in
theorem k_X11_seated : Cond.code yX11_seated cX11_seated 5 ((some FieldType.int)) ∈ lw_tbl := List.mem_of_getElem? (i := 1061) rfl
theorem p_X11_seated : yX11_seated.cls ≠ "java/lang/invoke/MethodHandle" ∧ yX11_seated.cls ≠ "java/lang/invoke/VarHandle" ∧ (parseMethodDescriptor yX11_seated.desc).map (fun d => d.parameters.length) = some 4 := by decide +kernel
theorem n_X11_seated : Cond.instanceMethod yX11_seated ∈ mj_tw := mj_tw_in (List.mem_of_getElem? (i := 1059) (by decide +kernel)) rfl
theorem e_X11_seated : Cond.selects yX11_seated.cls yX11_seated yX11_seated ∈ mj_tw := mj_tw_in (List.mem_of_getElem? (i := 1060) (by decide +kernel)) rfl
set_option maxRecDepth 100000 in
theorem k_X11_isSchoolOrAll : Cond.code yX11_isSchoolOrAll cX11_isSchoolOrAll 2 ((some FieldType.boolean)) ∈ lw_tbl := List.mem_of_getElem? (i := 1065) rfl
theorem p_X11_isSchoolOrAll : yX11_isSchoolOrAll.cls ≠ "java/lang/invoke/MethodHandle" ∧ yX11_isSchoolOrAll.cls ≠ "java/lang/invoke/VarHandle" ∧ (parseMethodDescriptor yX11_isSchoolOrAll.desc).map (fun d => d.parameters.length) = some 1 := by decide +kernel
theorem n_X11_isSchoolOrAll : Cond.instanceMethod yX11_isSchoolOrAll ∈ mj_tw := mj_tw_in (List.mem_of_getElem? (i := 1064) (by decide +kernel)) rfl
theorem e_X11_isSchoolOrAll : Cond.selects yX11_isSchoolOrAll.cls yX11_isSchoolOrAll yX11_isSchoolOrAll ∈ mj_tw := mj_tw_in (List.mem_of_getElem? (i := 29) (by decide +kernel)) rfl
set_option maxRecDepth 100000 in
theorem k_X6_seatAll : Cond.code yX6_seatAll cX6_seatAll 5 (none) ∈ lw_tbl := List.mem_of_getElem? (i := 1069) rfl
theorem p_X6_seatAll : yX6_seatAll.cls ≠ "java/lang/invoke/MethodHandle" ∧ yX6_seatAll.cls ≠ "java/lang/invoke/VarHandle" ∧ (parseMethodDescriptor yX6_seatAll.desc).map (fun d => d.parameters.length) = some 0 := by decide +kernel
theorem n_X6_seatAll : Cond.instanceMethod yX6_seatAll ∈ mj_tw := mj_tw_in (List.mem_of_getElem? (i := 1067) (by decide +kernel)) rfl
theorem e_X6_seatAll : Cond.selects yX6_seatAll.cls yX6_seatAll yX6_seatAll ∈ mj_tw := mj_tw_in (List.mem_of_getElem? (i := 1068) (by decide +kernel)) rfl
set_option maxRecDepth 100000 in
theorem k_X6_nearest : Cond.code yX6_nearest cX6_nearest 6 ((some FieldType.int)) ∈ lw_tbl := List.mem_of_getElem? (i := 1074) rfl
theorem p_X6_nearest : yX6_nearest.cls ≠ "java/lang/invoke/MethodHandle" ∧ yX6_nearest.cls ≠ "java/lang/invoke/VarHandle" ∧ (parseMethodDescriptor yX6_nearest.desc).map (fun d => d.parameters.length) = some 1 := by decide +kernel
theorem n_X6_nearest : Cond.instanceMethod yX6_nearest ∈ mj_tw := mj_tw_in (List.mem_of_getElem? (i := 1073) (by decide +kernel)) rfl
theorem e_X6_nearest : Cond.selects yX6_nearest.cls yX6_nearest yX6_nearest ∈ mj_tw := mj_tw_in (List.mem_of_getElem? (i := 30) (by decide +kernel)) rfl
set_option maxRecDepth 100000 in
theorem k_X6_seatedOf : Cond.code yX6_seatedOf cX6_seatedOf 4 ((some FieldType.int)) ∈ lw_tbl := List.mem_of_getElem? (i := 1079) rfl
theorem p_X6_seatedOf : yX6_seatedOf.cls ≠ "java/lang/invoke/MethodHandle" ∧ yX6_seatedOf.cls ≠ "java/lang/invoke/VarHandle" ∧ (parseMethodDescriptor yX6_seatedOf.desc).map (fun d => d.parameters.length) = some 1 := by decide +kernel
theorem n_X6_seatedOf : Cond.instanceMethod yX6_seatedOf ∈ mj_tw := mj_tw_in (List.mem_of_getElem? (i := 1077) (by decide +kernel)) rfl
theorem e_X6_seatedOf : Cond.selects yX6_seatedOf.cls yX6_seatedOf yX6_seatedOf ∈ mj_tw := mj_tw_in (List.mem_of_getElem? (i := 1078) (by decide +kernel)) rfl
set_option maxRecDepth 100000 in
theorem k_X11_unseated : Cond.code yX11_unseated cX11_unseated 4 ((some FieldType.int)) ∈ lw_tbl := List.mem_of_getElem? (i := 1083) rfl
theorem p_X11_unseated : yX11_unseated.cls ≠ "java/lang/invoke/MethodHandle" ∧ yX11_unseated.cls ≠ "java/lang/invoke/VarHandle" ∧ (parseMethodDescriptor yX11_unseated.desc).map (fun d => d.parameters.length) = some 3 := by decide +kernel
theorem n_X11_unseated : Cond.instanceMethod yX11_unseated ∈ mj_tw := mj_tw_in (List.mem_of_getElem? (i := 1081) (by decide +kernel)) rfl
theorem e_X11_unseated : Cond.selects yX11_unseated.cls yX11_unseated yX11_unseated ∈ mj_tw := mj_tw_in (List.mem_of_getElem? (i := 1082) (by decide +kernel)) rfl
set_option maxRecDepth 100000 in
theorem k_X6_standing : Cond.code yX6_standing cX6_standing 3 ((some FieldType.int)) ∈ lw_tbl := List.mem_of_getElem? (i := 1087) rfl
theorem p_X6_standing : yX6_standing.cls ≠ "java/lang/invoke/MethodHandle" ∧ yX6_standing.cls ≠ "java/lang/invoke/VarHandle" ∧ (parseMethodDescriptor yX6_standing.desc).map (fun d => d.parameters.length) = some 0 := by decide +kernel
theorem n_X6_standing : Cond.instanceMethod yX6_standing ∈ mj_tw := mj_tw_in (List.mem_of_getElem? (i := 1085) (by decide +kernel)) rfl
theorem e_X6_standing : Cond.selects yX6_standing.cls yX6_standing yX6_standing ∈ mj_tw := mj_tw_in (List.mem_of_getElem? (i := 1086) (by decide +kernel)) rfl
set_option maxRecDepth 100000 in
theorem k_X11_most : Cond.code yX11_most cX11_most 3 ((some FieldType.int)) ∈ lw_tbl := List.mem_of_getElem? (i := 1091) rfl
theorem p_X11_most : yX11_most.cls ≠ "java/lang/invoke/MethodHandle" ∧ yX11_most.cls ≠ "java/lang/invoke/VarHandle" ∧ (parseMethodDescriptor yX11_most.desc).map (fun d => d.parameters.length) = some 2 := by decide +kernel
theorem n_X11_most : Cond.instanceMethod yX11_most ∈ mj_tw := mj_tw_in (List.mem_of_getElem? (i := 1089) (by decide +kernel)) rfl
theorem e_X11_most : Cond.selects yX11_most.cls yX11_most yX11_most ∈ mj_tw := mj_tw_in (List.mem_of_getElem? (i := 1090) (by decide +kernel)) rfl
set_option maxRecDepth 100000 in
theorem k_X6_seatMore : Cond.code yX6_seatMore cX6_seatMore 4 ((some FieldType.int)) ∈ lw_tbl := List.mem_of_getElem? (i := 1095) rfl
theorem p_X6_seatMore : yX6_seatMore.cls ≠ "java/lang/invoke/MethodHandle" ∧ yX6_seatMore.cls ≠ "java/lang/invoke/VarHandle" ∧ (parseMethodDescriptor yX6_seatMore.desc).map (fun d => d.parameters.length) = some 0 := by decide +kernel
theorem n_X6_seatMore : Cond.instanceMethod yX6_seatMore ∈ mj_tw := mj_tw_in (List.mem_of_getElem? (i := 1093) (by decide +kernel)) rfl
theorem e_X6_seatMore : Cond.selects yX6_seatMore.cls yX6_seatMore yX6_seatMore ∈ mj_tw := mj_tw_in (List.mem_of_getElem? (i := 1094) (by decide +kernel)) rfl
set_option maxRecDepth 100000 in
theorem k_X6_seatedInAll : Cond.code yX6_seatedInAll cX6_seatedInAll 3 ((some FieldType.int)) ∈ lw_tbl := List.mem_of_getElem? (i := 1099) rfl
theorem p_X6_seatedInAll : yX6_seatedInAll.cls ≠ "java/lang/invoke/MethodHandle" ∧ yX6_seatedInAll.cls ≠ "java/lang/invoke/VarHandle" ∧ (parseMethodDescriptor yX6_seatedInAll.desc).map (fun d => d.parameters.length) = some 0 := by decide +kernel
theorem n_X6_seatedInAll : Cond.instanceMethod yX6_seatedInAll ∈ mj_tw := mj_tw_in (List.mem_of_getElem? (i := 1098) (by decide +kernel)) rfl
theorem e_X6_seatedInAll : Cond.selects yX6_seatedInAll.cls yX6_seatedInAll yX6_seatedInAll ∈ mj_tw := mj_tw_in (List.mem_of_getElem? (i := 31) (by decide +kernel)) rfl
set_option maxRecDepth 100000 in
theorem k_X6_endOfChain : Cond.code yX6_endOfChain cX6_endOfChain 5 ((some FieldType.int)) ∈ lw_tbl := List.mem_of_getElem? (i := 1105) rfl
theorem p_X6_endOfChain : yX6_endOfChain.cls ≠ "java/lang/invoke/MethodHandle" ∧ yX6_endOfChain.cls ≠ "java/lang/invoke/VarHandle" ∧ (parseMethodDescriptor yX6_endOfChain.desc).map (fun d => d.parameters.length) = some 0 := by decide +kernel
theorem n_X6_endOfChain : Cond.instanceMethod yX6_endOfChain ∈ mj_tw := mj_tw_in (List.mem_of_getElem? (i := 1104) (by decide +kernel)) rfl
theorem e_X6_endOfChain : Cond.selects yX6_endOfChain.cls yX6_endOfChain yX6_endOfChain ∈ mj_tw := mj_tw_in (List.mem_of_getElem? (i := 32) (by decide +kernel)) rfl
set_option maxRecDepth 100000 in
theorem k_X6_queueThoseIn : Cond.code yX6_queueThoseIn cX6_queueThoseIn 6 ((some FieldType.int)) ∈ lw_tbl := List.mem_of_getElem? (i := 1109) rfl
theorem p_X6_queueThoseIn : yX6_queueThoseIn.cls ≠ "java/lang/invoke/MethodHandle" ∧ yX6_queueThoseIn.cls ≠ "java/lang/invoke/VarHandle" ∧ (parseMethodDescriptor yX6_queueThoseIn.desc).map (fun d => d.parameters.length) = some 2 := by decide +kernel
theorem n_X6_queueThoseIn : Cond.instanceMethod yX6_queueThoseIn ∈ mj_tw := mj_tw_in (List.mem_of_getElem? (i := 1108) (by decide +kernel)) rfl
theorem e_X6_queueThoseIn : Cond.selects yX6_queueThoseIn.cls yX6_queueThoseIn yX6_queueThoseIn ∈ mj_tw := mj_tw_in (List.mem_of_getElem? (i := 33) (by decide +kernel)) rfl
set_option maxRecDepth 100000 in
theorem k_X6_moveAlong : Cond.code yX6_moveAlong cX6_moveAlong 7 ((some FieldType.int)) ∈ lw_tbl := List.mem_of_getElem? (i := 1113) rfl
theorem p_X6_moveAlong : yX6_moveAlong.cls ≠ "java/lang/invoke/MethodHandle" ∧ yX6_moveAlong.cls ≠ "java/lang/invoke/VarHandle" ∧ (parseMethodDescriptor yX6_moveAlong.desc).map (fun d => d.parameters.length) = some 1 := by decide +kernel
theorem n_X6_moveAlong : Cond.instanceMethod yX6_moveAlong ∈ mj_tw := mj_tw_in (List.mem_of_getElem? (i := 1112) (by decide +kernel)) rfl
theorem e_X6_moveAlong : Cond.selects yX6_moveAlong.cls yX6_moveAlong yX6_moveAlong ∈ mj_tw := mj_tw_in (List.mem_of_getElem? (i := 34) (by decide +kernel)) rfl
set_option maxRecDepth 100000 in
theorem k_X11_site : Cond.code yX11_site cX11_site 2 ((some FieldType.int)) ∈ lw_tbl := List.mem_of_getElem? (i := 1117) rfl
theorem p_X11_site : yX11_site.cls ≠ "java/lang/invoke/MethodHandle" ∧ yX11_site.cls ≠ "java/lang/invoke/VarHandle" ∧ (parseMethodDescriptor yX11_site.desc).map (fun d => d.parameters.length) = some 1 := by decide +kernel
theorem n_X11_site : Cond.instanceMethod yX11_site ∈ mj_tw := mj_tw_in (List.mem_of_getElem? (i := 1115) (by decide +kernel)) rfl
theorem e_X11_site : Cond.selects yX11_site.cls yX11_site yX11_site ∈ mj_tw := mj_tw_in (List.mem_of_getElem? (i := 1116) (by decide +kernel)) rfl
set_option maxRecDepth 100000 in
theorem k_X7_mark : Cond.code yX7_mark cX7_mark 2 ((some FieldType.int)) ∈ lw_tbl := List.mem_of_getElem? (i := 1121) rfl
theorem p_X7_mark : yX7_mark.cls ≠ "java/lang/invoke/MethodHandle" ∧ yX7_mark.cls ≠ "java/lang/invoke/VarHandle" ∧ (parseMethodDescriptor yX7_mark.desc).map (fun d => d.parameters.length) = some 1 := by decide +kernel
theorem n_X7_mark : Cond.instanceMethod yX7_mark ∈ mj_tw := mj_tw_in (List.mem_of_getElem? (i := 1119) (by decide +kernel)) rfl
theorem e_X7_mark : Cond.selects yX7_mark.cls yX7_mark yX7_mark ∈ mj_tw := mj_tw_in (List.mem_of_getElem? (i := 1120) (by decide +kernel)) rfl
set_option maxRecDepth 100000 in
theorem k_X11_cover : Cond.code yX11_cover cX11_cover 3 ((some FieldType.int)) ∈ lw_tbl := List.mem_of_getElem? (i := 1125) rfl
theorem p_X11_cover : yX11_cover.cls ≠ "java/lang/invoke/MethodHandle" ∧ yX11_cover.cls ≠ "java/lang/invoke/VarHandle" ∧ (parseMethodDescriptor yX11_cover.desc).map (fun d => d.parameters.length) = some 2 := by decide +kernel
theorem n_X11_cover : Cond.instanceMethod yX11_cover ∈ mj_tw := mj_tw_in (List.mem_of_getElem? (i := 1123) (by decide +kernel)) rfl
theorem e_X11_cover : Cond.selects yX11_cover.cls yX11_cover yX11_cover ∈ mj_tw := mj_tw_in (List.mem_of_getElem? (i := 1124) (by decide +kernel)) rfl
set_option maxRecDepth 100000 in
theorem k_X11_areVillages : Cond.code yX11_areVillages cX11_areVillages 2 ((some FieldType.boolean)) ∈ lw_tbl := List.mem_of_getElem? (i := 1129) rfl
theorem p_X11_areVillages : yX11_areVillages.cls ≠ "java/lang/invoke/MethodHandle" ∧ yX11_areVillages.cls ≠ "java/lang/invoke/VarHandle" ∧ (parseMethodDescriptor yX11_areVillages.desc).map (fun d => d.parameters.length) = some 1 := by decide +kernel
theorem n_X11_areVillages : Cond.instanceMethod yX11_areVillages ∈ mj_tw := mj_tw_in (List.mem_of_getElem? (i := 1128) (by decide +kernel)) rfl
theorem e_X11_areVillages : Cond.selects yX11_areVillages.cls yX11_areVillages yX11_areVillages ∈ mj_tw := mj_tw_in (List.mem_of_getElem? (i := 35) (by decide +kernel)) rfl
set_option maxRecDepth 100000 in
theorem k_X7_look : Cond.code yX7_look cX7_look 7 (none) ∈ lw_tbl := List.mem_of_getElem? (i := 1133) rfl
theorem p_X7_look : yX7_look.cls ≠ "java/lang/invoke/MethodHandle" ∧ yX7_look.cls ≠ "java/lang/invoke/VarHandle" ∧ (parseMethodDescriptor yX7_look.desc).map (fun d => d.parameters.length) = some 3 := by decide +kernel
theorem n_X7_look : Cond.instanceMethod yX7_look ∈ mj_tw := mj_tw_in (List.mem_of_getElem? (i := 1131) (by decide +kernel)) rfl
theorem e_X7_look : Cond.selects yX7_look.cls yX7_look yX7_look ∈ mj_tw := mj_tw_in (List.mem_of_getElem? (i := 1132) (by decide +kernel)) rfl
set_option maxRecDepth 100000 in
theorem k_X7_nearBits : Cond.code yX7_nearBits cX7_nearBits 6 ((some FieldType.int)) ∈ lw_tbl := List.mem_of_getElem? (i := 1140) rfl
theorem p_X7_nearBits : yX7_nearBits.cls ≠ "java/lang/invoke/MethodHandle" ∧ yX7_nearBits.cls ≠ "java/lang/invoke/VarHandle" ∧ (parseMethodDescriptor yX7_nearBits.desc).map (fun d => d.parameters.length) = some 2 := by decide +kernel
theorem n_X7_nearBits : Cond.instanceMethod yX7_nearBits ∈ mj_tw := mj_tw_in (List.mem_of_getElem? (i := 1139) (by decide +kernel)) rfl
theorem e_X7_nearBits : Cond.selects yX7_nearBits.cls yX7_nearBits yX7_nearBits ∈ mj_tw := mj_tw_in (List.mem_of_getElem? (i := 36) (by decide +kernel)) rfl
set_option maxRecDepth 100000 in
theorem k_X7_all : Cond.code yX7_all cX7_all 1 ((some FieldType.int)) ∈ lw_tbl := List.mem_of_getElem? (i := 1145) rfl
theorem p_X7_all : yX7_all.cls ≠ "java/lang/invoke/MethodHandle" ∧ yX7_all.cls ≠ "java/lang/invoke/VarHandle" ∧ (parseMethodDescriptor yX7_all.desc).map (fun d => d.parameters.length) = some 0 := by decide +kernel
theorem n_X7_all : Cond.instanceMethod yX7_all ∈ mj_tw := mj_tw_in (List.mem_of_getElem? (i := 1143) (by decide +kernel)) rfl
theorem e_X7_all : Cond.selects yX7_all.cls yX7_all yX7_all ∈ mj_tw := mj_tw_in (List.mem_of_getElem? (i := 1144) (by decide +kernel)) rfl
set_option maxRecDepth 100000 in
theorem k_X7_fewest : Cond.code yX7_fewest cX7_fewest 7 ((some FieldType.int)) ∈ lw_tbl := List.mem_of_getElem? (i := 1149) rfl
theorem p_X7_fewest : yX7_fewest.cls ≠ "java/lang/invoke/MethodHandle" ∧ yX7_fewest.cls ≠ "java/lang/invoke/VarHandle" ∧ (parseMethodDescriptor yX7_fewest.desc).map (fun d => d.parameters.length) = some 2 := by decide +kernel
theorem n_X7_fewest : Cond.instanceMethod yX7_fewest ∈ mj_tw := mj_tw_in (List.mem_of_getElem? (i := 1147) (by decide +kernel)) rfl
theorem e_X7_fewest : Cond.selects yX7_fewest.cls yX7_fewest yX7_fewest ∈ mj_tw := mj_tw_in (List.mem_of_getElem? (i := 1148) (by decide +kernel)) rfl
set_option maxRecDepth 100000 in
theorem k_X7_lowestWithout : Cond.code yX7_lowestWithout cX7_lowestWithout 4 ((some FieldType.int)) ∈ lw_tbl := List.mem_of_getElem? (i := 1153) rfl
theorem p_X7_lowestWithout : yX7_lowestWithout.cls ≠ "java/lang/invoke/MethodHandle" ∧ yX7_lowestWithout.cls ≠ "java/lang/invoke/VarHandle" ∧ (parseMethodDescriptor yX7_lowestWithout.desc).map (fun d => d.parameters.length) = some 2 := by decide +kernel
theorem n_X7_lowestWithout : Cond.instanceMethod yX7_lowestWithout ∈ mj_tw := mj_tw_in (List.mem_of_getElem? (i := 1151) (by decide +kernel)) rfl
theorem e_X7_lowestWithout : Cond.selects yX7_lowestWithout.cls yX7_lowestWithout yX7_lowestWithout ∈ mj_tw := mj_tw_in (List.mem_of_getElem? (i := 1152) (by decide +kernel)) rfl
set_option maxRecDepth 100000 in
theorem k_J6_bitCount_0f7a4 : Cond.code yJ6_bitCount_0f7a4 cJ6_bitCount_0f7a4 1 ((some FieldType.int)) ∈ lw_tbl := List.mem_of_getElem? (i := 1156) rfl
theorem p_J6_bitCount_0f7a4 : yJ6_bitCount_0f7a4.cls ≠ "java/lang/invoke/MethodHandle" ∧ yJ6_bitCount_0f7a4.cls ≠ "java/lang/invoke/VarHandle" ∧ (parseMethodDescriptor yJ6_bitCount_0f7a4.desc).map (fun d => d.parameters.length) = some 1 := by decide +kernel
theorem s_J6_bitCount_0f7a4 : Cond.static yJ6_bitCount_0f7a4 ∈ mj_tw := mj_tw_in (List.mem_of_getElem? (i := 1155) (by decide +kernel)) rfl
set_option maxRecDepth 100000 in
theorem k_X11_beyond : Cond.code yX11_beyond cX11_beyond 3 ((some FieldType.int)) ∈ lw_tbl := List.mem_of_getElem? (i := 1163) rfl
theorem p_X11_beyond : yX11_beyond.cls ≠ "java/lang/invoke/MethodHandle" ∧ yX11_beyond.cls ≠ "java/lang/invoke/VarHandle" ∧ (parseMethodDescriptor yX11_beyond.desc).map (fun d => d.parameters.length) = some 2 := by decide +kernel
theorem n_X11_beyond : Cond.instanceMethod yX11_beyond ∈ mj_tw := mj_tw_in (List.mem_of_getElem? (i := 1161) (by decide +kernel)) rfl
theorem e_X11_beyond : Cond.selects yX11_beyond.cls yX11_beyond yX11_beyond ∈ mj_tw := mj_tw_in (List.mem_of_getElem? (i := 1162) (by decide +kernel)) rfl
set_option maxRecDepth 100000 in
theorem k_X11_judge : Cond.code yX11_judge cX11_judge 4 ((some FieldType.int)) ∈ lw_tbl := List.mem_of_getElem? (i := 1168) rfl
theorem p_X11_judge : yX11_judge.cls ≠ "java/lang/invoke/MethodHandle" ∧ yX11_judge.cls ≠ "java/lang/invoke/VarHandle" ∧ (parseMethodDescriptor yX11_judge.desc).map (fun d => d.parameters.length) = some 3 := by decide +kernel
theorem n_X11_judge : Cond.instanceMethod yX11_judge ∈ mj_tw := mj_tw_in (List.mem_of_getElem? (i := 1166) (by decide +kernel)) rfl
theorem e_X11_judge : Cond.selects yX11_judge.cls yX11_judge yX11_judge ∈ mj_tw := mj_tw_in (List.mem_of_getElem? (i := 1167) (by decide +kernel)) rfl
set_option maxRecDepth 100000 in
theorem k_X11_areSites : Cond.code yX11_areSites cX11_areSites 2 ((some FieldType.boolean)) ∈ lw_tbl := List.mem_of_getElem? (i := 1172) rfl
theorem p_X11_areSites : yX11_areSites.cls ≠ "java/lang/invoke/MethodHandle" ∧ yX11_areSites.cls ≠ "java/lang/invoke/VarHandle" ∧ (parseMethodDescriptor yX11_areSites.desc).map (fun d => d.parameters.length) = some 1 := by decide +kernel
theorem n_X11_areSites : Cond.instanceMethod yX11_areSites ∈ mj_tw := mj_tw_in (List.mem_of_getElem? (i := 1171) (by decide +kernel)) rfl
theorem e_X11_areSites : Cond.selects yX11_areSites.cls yX11_areSites yX11_areSites ∈ mj_tw := mj_tw_in (List.mem_of_getElem? (i := 37) (by decide +kernel)) rfl
set_option maxRecDepth 100000 in
theorem k_X11_maker : Cond.code yX11_maker cX11_maker 5 ((some FieldType.int)) ∈ lw_tbl := List.mem_of_getElem? (i := 1176) rfl
theorem p_X11_maker : yX11_maker.cls ≠ "java/lang/invoke/MethodHandle" ∧ yX11_maker.cls ≠ "java/lang/invoke/VarHandle" ∧ (parseMethodDescriptor yX11_maker.desc).map (fun d => d.parameters.length) = some 4 := by decide +kernel
theorem n_X11_maker : Cond.instanceMethod yX11_maker ∈ mj_tw := mj_tw_in (List.mem_of_getElem? (i := 1174) (by decide +kernel)) rfl
theorem e_X11_maker : Cond.selects yX11_maker.cls yX11_maker yX11_maker ∈ mj_tw := mj_tw_in (List.mem_of_getElem? (i := 1175) (by decide +kernel)) rfl
set_option maxRecDepth 100000 in
theorem k_X11_isKind : Cond.code yX11_isKind cX11_isKind 1 ((some FieldType.boolean)) ∈ lw_tbl := List.mem_of_getElem? (i := 1179) rfl
theorem p_X11_isKind : yX11_isKind.cls ≠ "java/lang/invoke/MethodHandle" ∧ yX11_isKind.cls ≠ "java/lang/invoke/VarHandle" ∧ (parseMethodDescriptor yX11_isKind.desc).map (fun d => d.parameters.length) = some 1 := by decide +kernel
theorem s_X11_isKind : Cond.static yX11_isKind ∈ mj_tw := mj_tw_in (List.mem_of_getElem? (i := 1178) (by decide +kernel)) rfl
set_option maxRecDepth 100000 in
theorem k_X10_hire : Cond.code yX10_hire cX10_hire 5 ((some FieldType.int)) ∈ lw_tbl := List.mem_of_getElem? (i := 1183) rfl
theorem p_X10_hire : yX10_hire.cls ≠ "java/lang/invoke/MethodHandle" ∧ yX10_hire.cls ≠ "java/lang/invoke/VarHandle" ∧ (parseMethodDescriptor yX10_hire.desc).map (fun d => d.parameters.length) = some 4 := by decide +kernel
theorem n_X10_hire : Cond.instanceMethod yX10_hire ∈ mj_tw := mj_tw_in (List.mem_of_getElem? (i := 1181) (by decide +kernel)) rfl
theorem e_X10_hire : Cond.selects yX10_hire.cls yX10_hire yX10_hire ∈ mj_tw := mj_tw_in (List.mem_of_getElem? (i := 1182) (by decide +kernel)) rfl
set_option maxRecDepth 100000 in
theorem k_X11_lorry : Cond.code yX11_lorry cX11_lorry 2 ((some FieldType.int)) ∈ lw_tbl := List.mem_of_getElem? (i := 1187) rfl
theorem p_X11_lorry : yX11_lorry.cls ≠ "java/lang/invoke/MethodHandle" ∧ yX11_lorry.cls ≠ "java/lang/invoke/VarHandle" ∧ (parseMethodDescriptor yX11_lorry.desc).map (fun d => d.parameters.length) = some 1 := by decide +kernel
theorem n_X11_lorry : Cond.instanceMethod yX11_lorry ∈ mj_tw := mj_tw_in (List.mem_of_getElem? (i := 1185) (by decide +kernel)) rfl
theorem e_X11_lorry : Cond.selects yX11_lorry.cls yX11_lorry yX11_lorry ∈ mj_tw := mj_tw_in (List.mem_of_getElem? (i := 1186) (by decide +kernel)) rfl
set_option maxRecDepth 100000 in
theorem k_X10_buy : Cond.code yX10_buy cX10_buy 2 ((some FieldType.int)) ∈ lw_tbl := List.mem_of_getElem? (i := 1191) rfl
theorem p_X10_buy : yX10_buy.cls ≠ "java/lang/invoke/MethodHandle" ∧ yX10_buy.cls ≠ "java/lang/invoke/VarHandle" ∧ (parseMethodDescriptor yX10_buy.desc).map (fun d => d.parameters.length) = some 1 := by decide +kernel
theorem n_X10_buy : Cond.instanceMethod yX10_buy ∈ mj_tw := mj_tw_in (List.mem_of_getElem? (i := 1189) (by decide +kernel)) rfl
theorem e_X10_buy : Cond.selects yX10_buy.cls yX10_buy yX10_buy ∈ mj_tw := mj_tw_in (List.mem_of_getElem? (i := 1190) (by decide +kernel)) rfl
set_option maxRecDepth 100000 in
theorem k_X11_parts : Cond.code yX11_parts cX11_parts 3 ((some FieldType.int)) ∈ lw_tbl := List.mem_of_getElem? (i := 1195) rfl
theorem p_X11_parts : yX11_parts.cls ≠ "java/lang/invoke/MethodHandle" ∧ yX11_parts.cls ≠ "java/lang/invoke/VarHandle" ∧ (parseMethodDescriptor yX11_parts.desc).map (fun d => d.parameters.length) = some 2 := by decide +kernel
theorem n_X11_parts : Cond.instanceMethod yX11_parts ∈ mj_tw := mj_tw_in (List.mem_of_getElem? (i := 1193) (by decide +kernel)) rfl
theorem e_X11_parts : Cond.selects yX11_parts.cls yX11_parts yX11_parts ∈ mj_tw := mj_tw_in (List.mem_of_getElem? (i := 1194) (by decide +kernel)) rfl
set_option maxRecDepth 100000 in
theorem k_X11_promise : Cond.code yX11_promise cX11_promise 3 ((some FieldType.boolean)) ∈ lw_tbl := List.mem_of_getElem? (i := 1199) rfl
theorem p_X11_promise : yX11_promise.cls ≠ "java/lang/invoke/MethodHandle" ∧ yX11_promise.cls ≠ "java/lang/invoke/VarHandle" ∧ (parseMethodDescriptor yX11_promise.desc).map (fun d => d.parameters.length) = some 2 := by decide +kernel
theorem n_X11_promise : Cond.instanceMethod yX11_promise ∈ mj_tw := mj_tw_in (List.mem_of_getElem? (i := 1197) (by decide +kernel)) rfl
theorem e_X11_promise : Cond.selects yX11_promise.cls yX11_promise yX11_promise ∈ mj_tw := mj_tw_in (List.mem_of_getElem? (i := 1198) (by decide +kernel)) rfl
set_option maxRecDepth 100000 in
theorem k_X11_give : Cond.code yX11_give cX11_give 4 ((some FieldType.boolean)) ∈ lw_tbl := List.mem_of_getElem? (i := 1203) rfl
theorem p_X11_give : yX11_give.cls ≠ "java/lang/invoke/MethodHandle" ∧ yX11_give.cls ≠ "java/lang/invoke/VarHandle" ∧ (parseMethodDescriptor yX11_give.desc).map (fun d => d.parameters.length) = some 3 := by decide +kernel
theorem n_X11_give : Cond.instanceMethod yX11_give ∈ mj_tw := mj_tw_in (List.mem_of_getElem? (i := 1201) (by decide +kernel)) rfl
theorem e_X11_give : Cond.selects yX11_give.cls yX11_give yX11_give ∈ mj_tw := mj_tw_in (List.mem_of_getElem? (i := 1202) (by decide +kernel)) rfl
set_option maxRecDepth 100000 in
theorem k_X10_take : Cond.code yX10_take cX10_take 4 ((some FieldType.boolean)) ∈ lw_tbl := List.mem_of_getElem? (i := 1207) rfl
theorem p_X10_take : yX10_take.cls ≠ "java/lang/invoke/MethodHandle" ∧ yX10_take.cls ≠ "java/lang/invoke/VarHandle" ∧ (parseMethodDescriptor yX10_take.desc).map (fun d => d.parameters.length) = some 3 := by decide +kernel
theorem n_X10_take : Cond.instanceMethod yX10_take ∈ mj_tw := mj_tw_in (List.mem_of_getElem? (i := 1205) (by decide +kernel)) rfl
theorem e_X10_take : Cond.selects yX10_take.cls yX10_take yX10_take ∈ mj_tw := mj_tw_in (List.mem_of_getElem? (i := 1206) (by decide +kernel)) rfl
set_option maxRecDepth 100000 in
theorem k_X11_lack : Cond.code yX11_lack cX11_lack 2 ((some FieldType.int)) ∈ lw_tbl := List.mem_of_getElem? (i := 1211) rfl
theorem p_X11_lack : yX11_lack.cls ≠ "java/lang/invoke/MethodHandle" ∧ yX11_lack.cls ≠ "java/lang/invoke/VarHandle" ∧ (parseMethodDescriptor yX11_lack.desc).map (fun d => d.parameters.length) = some 1 := by decide +kernel
theorem n_X11_lack : Cond.instanceMethod yX11_lack ∈ mj_tw := mj_tw_in (List.mem_of_getElem? (i := 1209) (by decide +kernel)) rfl
theorem e_X11_lack : Cond.selects yX11_lack.cls yX11_lack yX11_lack ∈ mj_tw := mj_tw_in (List.mem_of_getElem? (i := 1210) (by decide +kernel)) rfl
set_option maxRecDepth 100000 in
theorem k_X10_lacking : Cond.code yX10_lacking cX10_lacking 4 ((some FieldType.int)) ∈ lw_tbl := List.mem_of_getElem? (i := 1215) rfl
theorem p_X10_lacking : yX10_lacking.cls ≠ "java/lang/invoke/MethodHandle" ∧ yX10_lacking.cls ≠ "java/lang/invoke/VarHandle" ∧ (parseMethodDescriptor yX10_lacking.desc).map (fun d => d.parameters.length) = some 2 := by decide +kernel
theorem n_X10_lacking : Cond.instanceMethod yX10_lacking ∈ mj_tw := mj_tw_in (List.mem_of_getElem? (i := 1213) (by decide +kernel)) rfl
theorem e_X10_lacking : Cond.selects yX10_lacking.cls yX10_lacking yX10_lacking ∈ mj_tw := mj_tw_in (List.mem_of_getElem? (i := 1214) (by decide +kernel)) rfl
set_option maxRecDepth 100000 in
theorem k_X11_teacher : Cond.code yX11_teacher cX11_teacher 5 ((some FieldType.int)) ∈ lw_tbl := List.mem_of_getElem? (i := 1219) rfl
theorem p_X11_teacher : yX11_teacher.cls ≠ "java/lang/invoke/MethodHandle" ∧ yX11_teacher.cls ≠ "java/lang/invoke/VarHandle" ∧ (parseMethodDescriptor yX11_teacher.desc).map (fun d => d.parameters.length) = some 4 := by decide +kernel
theorem n_X11_teacher : Cond.instanceMethod yX11_teacher ∈ mj_tw := mj_tw_in (List.mem_of_getElem? (i := 1217) (by decide +kernel)) rfl
theorem e_X11_teacher : Cond.selects yX11_teacher.cls yX11_teacher yX11_teacher ∈ mj_tw := mj_tw_in (List.mem_of_getElem? (i := 1218) (by decide +kernel)) rfl
set_option maxRecDepth 100000 in
theorem k_X8_enrol : Cond.code yX8_enrol cX8_enrol 6 ((some FieldType.int)) ∈ lw_tbl := List.mem_of_getElem? (i := 1223) rfl
theorem p_X8_enrol : yX8_enrol.cls ≠ "java/lang/invoke/MethodHandle" ∧ yX8_enrol.cls ≠ "java/lang/invoke/VarHandle" ∧ (parseMethodDescriptor yX8_enrol.desc).map (fun d => d.parameters.length) = some 5 := by decide +kernel
theorem n_X8_enrol : Cond.instanceMethod yX8_enrol ∈ mj_tw := mj_tw_in (List.mem_of_getElem? (i := 1221) (by decide +kernel)) rfl
theorem e_X8_enrol : Cond.selects yX8_enrol.cls yX8_enrol yX8_enrol ∈ mj_tw := mj_tw_in (List.mem_of_getElem? (i := 1222) (by decide +kernel)) rfl
set_option maxRecDepth 100000 in
theorem k_X11_sent : Cond.code yX11_sent cX11_sent 4 ((some FieldType.int)) ∈ lw_tbl := List.mem_of_getElem? (i := 1227) rfl
theorem p_X11_sent : yX11_sent.cls ≠ "java/lang/invoke/MethodHandle" ∧ yX11_sent.cls ≠ "java/lang/invoke/VarHandle" ∧ (parseMethodDescriptor yX11_sent.desc).map (fun d => d.parameters.length) = some 3 := by decide +kernel
theorem n_X11_sent : Cond.instanceMethod yX11_sent ∈ mj_tw := mj_tw_in (List.mem_of_getElem? (i := 1225) (by decide +kernel)) rfl
theorem e_X11_sent : Cond.selects yX11_sent.cls yX11_sent yX11_sent ∈ mj_tw := mj_tw_in (List.mem_of_getElem? (i := 1226) (by decide +kernel)) rfl
set_option maxRecDepth 100000 in
theorem k_X8_assign : Cond.code yX8_assign cX8_assign 5 (none) ∈ lw_tbl := List.mem_of_getElem? (i := 1231) rfl
theorem p_X8_assign : yX8_assign.cls ≠ "java/lang/invoke/MethodHandle" ∧ yX8_assign.cls ≠ "java/lang/invoke/VarHandle" ∧ (parseMethodDescriptor yX8_assign.desc).map (fun d => d.parameters.length) = some 2 := by decide +kernel
theorem n_X8_assign : Cond.instanceMethod yX8_assign ∈ mj_tw := mj_tw_in (List.mem_of_getElem? (i := 1229) (by decide +kernel)) rfl
theorem e_X8_assign : Cond.selects yX8_assign.cls yX8_assign yX8_assign ∈ mj_tw := mj_tw_in (List.mem_of_getElem? (i := 1230) (by decide +kernel)) rfl
set_option maxRecDepth 100000 in
theorem k_X8_lowestFor : Cond.code yX8_lowestFor cX8_lowestFor 6 ((some FieldType.int)) ∈ lw_tbl := List.mem_of_getElem? (i := 1236) rfl
theorem p_X8_lowestFor : yX8_lowestFor.cls ≠ "java/lang/invoke/MethodHandle" ∧ yX8_lowestFor.cls ≠ "java/lang/invoke/VarHandle" ∧ (parseMethodDescriptor yX8_lowestFor.desc).map (fun d => d.parameters.length) = some 3 := by decide +kernel
theorem n_X8_lowestFor : Cond.instanceMethod yX8_lowestFor ∈ mj_tw := mj_tw_in (List.mem_of_getElem? (i := 1235) (by decide +kernel)) rfl
theorem e_X8_lowestFor : Cond.selects yX8_lowestFor.cls yX8_lowestFor yX8_lowestFor ∈ mj_tw := mj_tw_in (List.mem_of_getElem? (i := 38) (by decide +kernel)) rfl
set_option maxRecDepth 100000 in
theorem k_X8_tonguesIn : Cond.code yX8_tonguesIn cX8_tonguesIn 7 ((some FieldType.int)) ∈ lw_tbl := List.mem_of_getElem? (i := 1242) rfl
theorem p_X8_tonguesIn : yX8_tonguesIn.cls ≠ "java/lang/invoke/MethodHandle" ∧ yX8_tonguesIn.cls ≠ "java/lang/invoke/VarHandle" ∧ (parseMethodDescriptor yX8_tonguesIn.desc).map (fun d => d.parameters.length) = some 4 := by decide +kernel
theorem n_X8_tonguesIn : Cond.instanceMethod yX8_tonguesIn ∈ mj_tw := mj_tw_in (List.mem_of_getElem? (i := 1241) (by decide +kernel)) rfl
theorem e_X8_tonguesIn : Cond.selects yX8_tonguesIn.cls yX8_tonguesIn yX8_tonguesIn ∈ mj_tw := mj_tw_in (List.mem_of_getElem? (i := 39) (by decide +kernel)) rfl
set_option maxRecDepth 100000 in
theorem k_X11_teacherless : Cond.code yX11_teacherless cX11_teacherless 4 ((some FieldType.int)) ∈ lw_tbl := List.mem_of_getElem? (i := 1248) rfl
theorem p_X11_teacherless : yX11_teacherless.cls ≠ "java/lang/invoke/MethodHandle" ∧ yX11_teacherless.cls ≠ "java/lang/invoke/VarHandle" ∧ (parseMethodDescriptor yX11_teacherless.desc).map (fun d => d.parameters.length) = some 3 := by decide +kernel
theorem n_X11_teacherless : Cond.instanceMethod yX11_teacherless ∈ mj_tw := mj_tw_in (List.mem_of_getElem? (i := 1246) (by decide +kernel)) rfl
theorem e_X11_teacherless : Cond.selects yX11_teacherless.cls yX11_teacherless yX11_teacherless ∈ mj_tw := mj_tw_in (List.mem_of_getElem? (i := 1247) (by decide +kernel)) rfl
set_option maxRecDepth 100000 in
theorem k_X8_allWithout : Cond.code yX8_allWithout cX8_allWithout 3 ((some FieldType.int)) ∈ lw_tbl := List.mem_of_getElem? (i := 1252) rfl
theorem p_X8_allWithout : yX8_allWithout.cls ≠ "java/lang/invoke/MethodHandle" ∧ yX8_allWithout.cls ≠ "java/lang/invoke/VarHandle" ∧ (parseMethodDescriptor yX8_allWithout.desc).map (fun d => d.parameters.length) = some 0 := by decide +kernel
theorem n_X8_allWithout : Cond.instanceMethod yX8_allWithout ∈ mj_tw := mj_tw_in (List.mem_of_getElem? (i := 1250) (by decide +kernel)) rfl
theorem e_X8_allWithout : Cond.selects yX8_allWithout.cls yX8_allWithout yX8_allWithout ∈ mj_tw := mj_tw_in (List.mem_of_getElem? (i := 1251) (by decide +kernel)) rfl
set_option maxRecDepth 100000 in
theorem k_X11_recount : Cond.code yX11_recount cX11_recount 4 ((some FieldType.boolean)) ∈ lw_tbl := List.mem_of_getElem? (i := 1256) rfl
theorem p_X11_recount : yX11_recount.cls ≠ "java/lang/invoke/MethodHandle" ∧ yX11_recount.cls ≠ "java/lang/invoke/VarHandle" ∧ (parseMethodDescriptor yX11_recount.desc).map (fun d => d.parameters.length) = some 3 := by decide +kernel
theorem n_X11_recount : Cond.instanceMethod yX11_recount ∈ mj_tw := mj_tw_in (List.mem_of_getElem? (i := 1254) (by decide +kernel)) rfl
theorem e_X11_recount : Cond.selects yX11_recount.cls yX11_recount yX11_recount ∈ mj_tw := mj_tw_in (List.mem_of_getElem? (i := 1255) (by decide +kernel)) rfl
set_option maxRecDepth 100000 in
theorem k_X1_tellAgain : Cond.code yX1_tellAgain cX1_tellAgain 5 ((some FieldType.boolean)) ∈ lw_tbl := List.mem_of_getElem? (i := 1260) rfl
theorem p_X1_tellAgain : yX1_tellAgain.cls ≠ "java/lang/invoke/MethodHandle" ∧ yX1_tellAgain.cls ≠ "java/lang/invoke/VarHandle" ∧ (parseMethodDescriptor yX1_tellAgain.desc).map (fun d => d.parameters.length) = some 4 := by decide +kernel
theorem n_X1_tellAgain : Cond.instanceMethod yX1_tellAgain ∈ mj_tw := mj_tw_in (List.mem_of_getElem? (i := 1258) (by decide +kernel)) rfl
theorem e_X1_tellAgain : Cond.selects yX1_tellAgain.cls yX1_tellAgain yX1_tellAgain ∈ mj_tw := mj_tw_in (List.mem_of_getElem? (i := 1259) (by decide +kernel)) rfl
set_option maxRecDepth 100000 in
theorem k_X11_span : Cond.code yX11_span cX11_span 5 ((some FieldType.int)) ∈ lw_tbl := List.mem_of_getElem? (i := 1264) rfl
theorem p_X11_span : yX11_span.cls ≠ "java/lang/invoke/MethodHandle" ∧ yX11_span.cls ≠ "java/lang/invoke/VarHandle" ∧ (parseMethodDescriptor yX11_span.desc).map (fun d => d.parameters.length) = some 4 := by decide +kernel
theorem n_X11_span : Cond.instanceMethod yX11_span ∈ mj_tw := mj_tw_in (List.mem_of_getElem? (i := 1262) (by decide +kernel)) rfl
theorem e_X11_span : Cond.selects yX11_span.cls yX11_span yX11_span ∈ mj_tw := mj_tw_in (List.mem_of_getElem? (i := 1263) (by decide +kernel)) rfl
set_option maxRecDepth 100000 in
theorem k_X1_spanned : Cond.code yX1_spanned cX1_spanned 16 ((some FieldType.int)) ∈ lw_tbl := List.mem_of_getElem? (i := 1268) rfl
theorem p_X1_spanned : yX1_spanned.cls ≠ "java/lang/invoke/MethodHandle" ∧ yX1_spanned.cls ≠ "java/lang/invoke/VarHandle" ∧ (parseMethodDescriptor yX1_spanned.desc).map (fun d => d.parameters.length) = some 4 := by decide +kernel
theorem n_X1_spanned : Cond.instanceMethod yX1_spanned ∈ mj_tw := mj_tw_in (List.mem_of_getElem? (i := 1266) (by decide +kernel)) rfl
theorem e_X1_spanned : Cond.selects yX1_spanned.cls yX1_spanned yX1_spanned ∈ mj_tw := mj_tw_in (List.mem_of_getElem? (i := 1267) (by decide +kernel)) rfl
set_option maxRecDepth 100000 in
theorem k_X1_recountOf : Cond.code yX1_recountOf cX1_recountOf 6 ((some FieldType.int)) ∈ lw_tbl := List.mem_of_getElem? (i := 1273) rfl
theorem p_X1_recountOf : yX1_recountOf.cls ≠ "java/lang/invoke/MethodHandle" ∧ yX1_recountOf.cls ≠ "java/lang/invoke/VarHandle" ∧ (parseMethodDescriptor yX1_recountOf.desc).map (fun d => d.parameters.length) = some 3 := by decide +kernel
theorem n_X1_recountOf : Cond.instanceMethod yX1_recountOf ∈ mj_tw := mj_tw_in (List.mem_of_getElem? (i := 1272) (by decide +kernel)) rfl
theorem e_X1_recountOf : Cond.selects yX1_recountOf.cls yX1_recountOf yX1_recountOf ∈ mj_tw := mj_tw_in (List.mem_of_getElem? (i := 40) (by decide +kernel)) rfl
set_option maxRecDepth 100000 in
theorem k_J9_min_f86c9 : Cond.code yJ9_min_f86c9 cJ9_min_f86c9 4 ((some FieldType.long)) ∈ lw_tbl := List.mem_of_getElem? (i := 1277) rfl
theorem p_J9_min_f86c9 : yJ9_min_f86c9.cls ≠ "java/lang/invoke/MethodHandle" ∧ yJ9_min_f86c9.cls ≠ "java/lang/invoke/VarHandle" ∧ (parseMethodDescriptor yJ9_min_f86c9.desc).map (fun d => d.parameters.length) = some 2 := by decide +kernel
theorem s_J9_min_f86c9 : Cond.static yJ9_min_f86c9 ∈ mj_tw := mj_tw_in (List.mem_of_getElem? (i := 1276) (by decide +kernel)) rfl
set_option maxRecDepth 100000 in
theorem k_J9_max_f86c9 : Cond.code yJ9_max_f86c9 cJ9_max_f86c9 4 ((some FieldType.long)) ∈ lw_tbl := List.mem_of_getElem? (i := 1280) rfl
theorem p_J9_max_f86c9 : yJ9_max_f86c9.cls ≠ "java/lang/invoke/MethodHandle" ∧ yJ9_max_f86c9.cls ≠ "java/lang/invoke/VarHandle" ∧ (parseMethodDescriptor yJ9_max_f86c9.desc).map (fun d => d.parameters.length) = some 2 := by decide +kernel
theorem s_J9_max_f86c9 : Cond.static yJ9_max_f86c9 ∈ mj_tw := mj_tw_in (List.mem_of_getElem? (i := 1279) (by decide +kernel)) rfl
set_option maxRecDepth 100000 in
theorem k_X11_strength : Cond.code yX11_strength cX11_strength 3 ((some FieldType.boolean)) ∈ lw_tbl := List.mem_of_getElem? (i := 1284) rfl
theorem p_X11_strength : yX11_strength.cls ≠ "java/lang/invoke/MethodHandle" ∧ yX11_strength.cls ≠ "java/lang/invoke/VarHandle" ∧ (parseMethodDescriptor yX11_strength.desc).map (fun d => d.parameters.length) = some 2 := by decide +kernel
theorem n_X11_strength : Cond.instanceMethod yX11_strength ∈ mj_tw := mj_tw_in (List.mem_of_getElem? (i := 1282) (by decide +kernel)) rfl
theorem e_X11_strength : Cond.selects yX11_strength.cls yX11_strength yX11_strength ∈ mj_tw := mj_tw_in (List.mem_of_getElem? (i := 1283) (by decide +kernel)) rfl
set_option maxRecDepth 100000 in
theorem k_X11_roof : Cond.code yX11_roof cX11_roof 4 ((some FieldType.boolean)) ∈ lw_tbl := List.mem_of_getElem? (i := 1288) rfl
theorem p_X11_roof : yX11_roof.cls ≠ "java/lang/invoke/MethodHandle" ∧ yX11_roof.cls ≠ "java/lang/invoke/VarHandle" ∧ (parseMethodDescriptor yX11_roof.desc).map (fun d => d.parameters.length) = some 3 := by decide +kernel
theorem n_X11_roof : Cond.instanceMethod yX11_roof ∈ mj_tw := mj_tw_in (List.mem_of_getElem? (i := 1286) (by decide +kernel)) rfl
theorem e_X11_roof : Cond.selects yX11_roof.cls yX11_roof yX11_roof ∈ mj_tw := mj_tw_in (List.mem_of_getElem? (i := 1287) (by decide +kernel)) rfl
set_option maxRecDepth 100000 in
theorem k_X4_lay : Cond.code yX4_lay cX4_lay 5 ((some FieldType.boolean)) ∈ lw_tbl := List.mem_of_getElem? (i := 1292) rfl
theorem p_X4_lay : yX4_lay.cls ≠ "java/lang/invoke/MethodHandle" ∧ yX4_lay.cls ≠ "java/lang/invoke/VarHandle" ∧ (parseMethodDescriptor yX4_lay.desc).map (fun d => d.parameters.length) = some 4 := by decide +kernel
theorem n_X4_lay : Cond.instanceMethod yX4_lay ∈ mj_tw := mj_tw_in (List.mem_of_getElem? (i := 1290) (by decide +kernel)) rfl
theorem e_X4_lay : Cond.selects yX4_lay.cls yX4_lay yX4_lay ∈ mj_tw := mj_tw_in (List.mem_of_getElem? (i := 1291) (by decide +kernel)) rfl
set_option maxRecDepth 100000 in
theorem k_X11_wind : Cond.code yX11_wind cX11_wind 3 ((some FieldType.int)) ∈ lw_tbl := List.mem_of_getElem? (i := 1296) rfl
theorem p_X11_wind : yX11_wind.cls ≠ "java/lang/invoke/MethodHandle" ∧ yX11_wind.cls ≠ "java/lang/invoke/VarHandle" ∧ (parseMethodDescriptor yX11_wind.desc).map (fun d => d.parameters.length) = some 2 := by decide +kernel
theorem n_X11_wind : Cond.instanceMethod yX11_wind ∈ mj_tw := mj_tw_in (List.mem_of_getElem? (i := 1294) (by decide +kernel)) rfl
theorem e_X11_wind : Cond.selects yX11_wind.cls yX11_wind yX11_wind ∈ mj_tw := mj_tw_in (List.mem_of_getElem? (i := 1295) (by decide +kernel)) rfl
set_option maxRecDepth 100000 in
theorem k_X4_blow : Cond.code yX4_blow cX4_blow 6 ((some FieldType.int)) ∈ lw_tbl := List.mem_of_getElem? (i := 1300) rfl
theorem p_X4_blow : yX4_blow.cls ≠ "java/lang/invoke/MethodHandle" ∧ yX4_blow.cls ≠ "java/lang/invoke/VarHandle" ∧ (parseMethodDescriptor yX4_blow.desc).map (fun d => d.parameters.length) = some 3 := by decide +kernel
theorem n_X4_blow : Cond.instanceMethod yX4_blow ∈ mj_tw := mj_tw_in (List.mem_of_getElem? (i := 1298) (by decide +kernel)) rfl
theorem e_X4_blow : Cond.selects yX4_blow.cls yX4_blow yX4_blow ∈ mj_tw := mj_tw_in (List.mem_of_getElem? (i := 1299) (by decide +kernel)) rfl
set_option maxRecDepth 100000 in
theorem k_X4_strengthOf : Cond.code yX4_strengthOf cX4_strengthOf 3 ((some FieldType.int)) ∈ lw_tbl := List.mem_of_getElem? (i := 1304) rfl
theorem p_X4_strengthOf : yX4_strengthOf.cls ≠ "java/lang/invoke/MethodHandle" ∧ yX4_strengthOf.cls ≠ "java/lang/invoke/VarHandle" ∧ (parseMethodDescriptor yX4_strengthOf.desc).map (fun d => d.parameters.length) = some 2 := by decide +kernel
theorem n_X4_strengthOf : Cond.instanceMethod yX4_strengthOf ∈ mj_tw := mj_tw_in (List.mem_of_getElem? (i := 1303) (by decide +kernel)) rfl
theorem e_X4_strengthOf : Cond.selects yX4_strengthOf.cls yX4_strengthOf yX4_strengthOf ∈ mj_tw := mj_tw_in (List.mem_of_getElem? (i := 41) (by decide +kernel)) rfl
set_option maxRecDepth 100000 in
theorem k_X11_blame : Cond.code yX11_blame cX11_blame 1 ((some FieldType.int)) ∈ lw_tbl := List.mem_of_getElem? (i := 1308) rfl
theorem p_X11_blame : yX11_blame.cls ≠ "java/lang/invoke/MethodHandle" ∧ yX11_blame.cls ≠ "java/lang/invoke/VarHandle" ∧ (parseMethodDescriptor yX11_blame.desc).map (fun d => d.parameters.length) = some 0 := by decide +kernel
theorem n_X11_blame : Cond.instanceMethod yX11_blame ∈ mj_tw := mj_tw_in (List.mem_of_getElem? (i := 1306) (by decide +kernel)) rfl
theorem e_X11_blame : Cond.selects yX11_blame.cls yX11_blame yX11_blame ∈ mj_tw := mj_tw_in (List.mem_of_getElem? (i := 1307) (by decide +kernel)) rfl
set_option maxRecDepth 100000 in
theorem k_X4_worstMaker : Cond.code yX4_worstMaker cX4_worstMaker 5 ((some FieldType.int)) ∈ lw_tbl := List.mem_of_getElem? (i := 1312) rfl
theorem p_X4_worstMaker : yX4_worstMaker.cls ≠ "java/lang/invoke/MethodHandle" ∧ yX4_worstMaker.cls ≠ "java/lang/invoke/VarHandle" ∧ (parseMethodDescriptor yX4_worstMaker.desc).map (fun d => d.parameters.length) = some 1 := by decide +kernel
theorem n_X4_worstMaker : Cond.instanceMethod yX4_worstMaker ∈ mj_tw := mj_tw_in (List.mem_of_getElem? (i := 1310) (by decide +kernel)) rfl
theorem e_X4_worstMaker : Cond.selects yX4_worstMaker.cls yX4_worstMaker yX4_worstMaker ∈ mj_tw := mj_tw_in (List.mem_of_getElem? (i := 1311) (by decide +kernel)) rfl
set_option maxRecDepth 100000 in
theorem k_X11_treat : Cond.code yX11_treat cX11_treat 3 ((some FieldType.boolean)) ∈ lw_tbl := List.mem_of_getElem? (i := 1316) rfl
theorem p_X11_treat : yX11_treat.cls ≠ "java/lang/invoke/MethodHandle" ∧ yX11_treat.cls ≠ "java/lang/invoke/VarHandle" ∧ (parseMethodDescriptor yX11_treat.desc).map (fun d => d.parameters.length) = some 2 := by decide +kernel
theorem n_X11_treat : Cond.instanceMethod yX11_treat ∈ mj_tw := mj_tw_in (List.mem_of_getElem? (i := 1314) (by decide +kernel)) rfl
theorem e_X11_treat : Cond.selects yX11_treat.cls yX11_treat yX11_treat ∈ mj_tw := mj_tw_in (List.mem_of_getElem? (i := 1315) (by decide +kernel)) rfl
set_option maxRecDepth 100000 in
theorem k_X11_stay : Cond.code yX11_stay cX11_stay 4 ((some FieldType.int)) ∈ lw_tbl := List.mem_of_getElem? (i := 1320) rfl
theorem p_X11_stay : yX11_stay.cls ≠ "java/lang/invoke/MethodHandle" ∧ yX11_stay.cls ≠ "java/lang/invoke/VarHandle" ∧ (parseMethodDescriptor yX11_stay.desc).map (fun d => d.parameters.length) = some 3 := by decide +kernel
theorem n_X11_stay : Cond.instanceMethod yX11_stay ∈ mj_tw := mj_tw_in (List.mem_of_getElem? (i := 1318) (by decide +kernel)) rfl
theorem e_X11_stay : Cond.selects yX11_stay.cls yX11_stay yX11_stay ∈ mj_tw := mj_tw_in (List.mem_of_getElem? (i := 1319) (by decide +kernel)) rfl
set_option maxRecDepth 100000 in
theorem k_X1_difference : Cond.code yX1_difference cX1_difference 10 ((some FieldType.int)) ∈ lw_tbl := List.mem_of_getElem? (i := 1324) rfl
theorem p_X1_difference : yX1_difference.cls ≠ "java/lang/invoke/MethodHandle" ∧ yX1_difference.cls ≠ "java/lang/invoke/VarHandle" ∧ (parseMethodDescriptor yX1_difference.desc).map (fun d => d.parameters.length) = some 3 := by decide +kernel
theorem n_X1_difference : Cond.instanceMethod yX1_difference ∈ mj_tw := mj_tw_in (List.mem_of_getElem? (i := 1322) (by decide +kernel)) rfl
theorem e_X1_difference : Cond.selects yX1_difference.cls yX1_difference yX1_difference ∈ mj_tw := mj_tw_in (List.mem_of_getElem? (i := 1323) (by decide +kernel)) rfl
set_option maxRecDepth 100000 in
theorem k_X1_girlsInThousand : Cond.code yX1_girlsInThousand cX1_girlsInThousand 5 ((some FieldType.int)) ∈ lw_tbl := List.mem_of_getElem? (i := 1328) rfl
theorem p_X1_girlsInThousand : yX1_girlsInThousand.cls ≠ "java/lang/invoke/MethodHandle" ∧ yX1_girlsInThousand.cls ≠ "java/lang/invoke/VarHandle" ∧ (parseMethodDescriptor yX1_girlsInThousand.desc).map (fun d => d.parameters.length) = some 3 := by decide +kernel
theorem n_X1_girlsInThousand : Cond.instanceMethod yX1_girlsInThousand ∈ mj_tw := mj_tw_in (List.mem_of_getElem? (i := 1327) (by decide +kernel)) rfl
theorem e_X1_girlsInThousand : Cond.selects yX1_girlsInThousand.cls yX1_girlsInThousand yX1_girlsInThousand ∈ mj_tw := mj_tw_in (List.mem_of_getElem? (i := 42) (by decide +kernel)) rfl
set_option maxRecDepth 100000 in
theorem k_X1_isTreated : Cond.code yX1_isTreated cX1_isTreated 4 ((some FieldType.boolean)) ∈ lw_tbl := List.mem_of_getElem? (i := 1333) rfl
theorem p_X1_isTreated : yX1_isTreated.cls ≠ "java/lang/invoke/MethodHandle" ∧ yX1_isTreated.cls ≠ "java/lang/invoke/VarHandle" ∧ (parseMethodDescriptor yX1_isTreated.desc).map (fun d => d.parameters.length) = some 3 := by decide +kernel
theorem n_X1_isTreated : Cond.instanceMethod yX1_isTreated ∈ mj_tw := mj_tw_in (List.mem_of_getElem? (i := 1332) (by decide +kernel)) rfl
theorem e_X1_isTreated : Cond.selects yX1_isTreated.cls yX1_isTreated yX1_isTreated ∈ mj_tw := mj_tw_in (List.mem_of_getElem? (i := 43) (by decide +kernel)) rfl
set_option maxRecDepth 100000 in
theorem k_X11_lender : Cond.code yX11_lender cX11_lender 2 ((some FieldType.int)) ∈ lw_tbl := List.mem_of_getElem? (i := 1338) rfl
theorem p_X11_lender : yX11_lender.cls ≠ "java/lang/invoke/MethodHandle" ∧ yX11_lender.cls ≠ "java/lang/invoke/VarHandle" ∧ (parseMethodDescriptor yX11_lender.desc).map (fun d => d.parameters.length) = some 1 := by decide +kernel
theorem n_X11_lender : Cond.instanceMethod yX11_lender ∈ mj_tw := mj_tw_in (List.mem_of_getElem? (i := 1336) (by decide +kernel)) rfl
theorem e_X11_lender : Cond.selects yX11_lender.cls yX11_lender yX11_lender ∈ mj_tw := mj_tw_in (List.mem_of_getElem? (i := 1337) (by decide +kernel)) rfl
set_option maxRecDepth 100000 in
theorem k_X3_open : Cond.code yX3_open cX3_open 2 ((some FieldType.int)) ∈ lw_tbl := List.mem_of_getElem? (i := 1343) rfl
theorem p_X3_open : yX3_open.cls ≠ "java/lang/invoke/MethodHandle" ∧ yX3_open.cls ≠ "java/lang/invoke/VarHandle" ∧ (parseMethodDescriptor yX3_open.desc).map (fun d => d.parameters.length) = some 1 := by decide +kernel
theorem n_X3_open : Cond.instanceMethod yX3_open ∈ mj_tw := mj_tw_in (List.mem_of_getElem? (i := 1341) (by decide +kernel)) rfl
theorem e_X3_open : Cond.selects yX3_open.cls yX3_open yX3_open ∈ mj_tw := mj_tw_in (List.mem_of_getElem? (i := 1342) (by decide +kernel)) rfl
set_option maxRecDepth 100000 in
theorem k_X11_bill : Cond.code yX11_bill cX11_bill 3 ((some FieldType.boolean)) ∈ lw_tbl := List.mem_of_getElem? (i := 1347) rfl
theorem p_X11_bill : yX11_bill.cls ≠ "java/lang/invoke/MethodHandle" ∧ yX11_bill.cls ≠ "java/lang/invoke/VarHandle" ∧ (parseMethodDescriptor yX11_bill.desc).map (fun d => d.parameters.length) = some 2 := by decide +kernel
theorem n_X11_bill : Cond.instanceMethod yX11_bill ∈ mj_tw := mj_tw_in (List.mem_of_getElem? (i := 1345) (by decide +kernel)) rfl
theorem e_X11_bill : Cond.selects yX11_bill.cls yX11_bill yX11_bill ∈ mj_tw := mj_tw_in (List.mem_of_getElem? (i := 1346) (by decide +kernel)) rfl
set_option maxRecDepth 100000 in
theorem k_X3_owe : Cond.code yX3_owe cX3_owe 3 ((some FieldType.boolean)) ∈ lw_tbl := List.mem_of_getElem? (i := 1352) rfl
theorem p_X3_owe : yX3_owe.cls ≠ "java/lang/invoke/MethodHandle" ∧ yX3_owe.cls ≠ "java/lang/invoke/VarHandle" ∧ (parseMethodDescriptor yX3_owe.desc).map (fun d => d.parameters.length) = some 2 := by decide +kernel
theorem n_X3_owe : Cond.instanceMethod yX3_owe ∈ mj_tw := mj_tw_in (List.mem_of_getElem? (i := 1350) (by decide +kernel)) rfl
theorem e_X3_owe : Cond.selects yX3_owe.cls yX3_owe yX3_owe ∈ mj_tw := mj_tw_in (List.mem_of_getElem? (i := 1351) (by decide +kernel)) rfl
set_option maxRecDepth 100000 in
theorem k_X11_paid : Cond.code yX11_paid cX11_paid 3 ((some FieldType.int)) ∈ lw_tbl := List.mem_of_getElem? (i := 1356) rfl
theorem p_X11_paid : yX11_paid.cls ≠ "java/lang/invoke/MethodHandle" ∧ yX11_paid.cls ≠ "java/lang/invoke/VarHandle" ∧ (parseMethodDescriptor yX11_paid.desc).map (fun d => d.parameters.length) = some 2 := by decide +kernel
theorem n_X11_paid : Cond.instanceMethod yX11_paid ∈ mj_tw := mj_tw_in (List.mem_of_getElem? (i := 1354) (by decide +kernel)) rfl
theorem e_X11_paid : Cond.selects yX11_paid.cls yX11_paid yX11_paid ∈ mj_tw := mj_tw_in (List.mem_of_getElem? (i := 1355) (by decide +kernel)) rfl
set_option maxRecDepth 100000 in
theorem k_X3_ask : Cond.code yX3_ask cX3_ask 5 (none) ∈ lw_tbl := List.mem_of_getElem? (i := 1360) rfl
theorem p_X3_ask : yX3_ask.cls ≠ "java/lang/invoke/MethodHandle" ∧ yX3_ask.cls ≠ "java/lang/invoke/VarHandle" ∧ (parseMethodDescriptor yX3_ask.desc).map (fun d => d.parameters.length) = some 2 := by decide +kernel
theorem n_X3_ask : Cond.instanceMethod yX3_ask ∈ mj_tw := mj_tw_in (List.mem_of_getElem? (i := 1358) (by decide +kernel)) rfl
theorem e_X3_ask : Cond.selects yX3_ask.cls yX3_ask yX3_ask ∈ mj_tw := mj_tw_in (List.mem_of_getElem? (i := 1359) (by decide +kernel)) rfl
set_option maxRecDepth 100000 in
theorem k_X3_mostPaid : Cond.code yX3_mostPaid cX3_mostPaid 5 ((some FieldType.int)) ∈ lw_tbl := List.mem_of_getElem? (i := 1366) rfl
theorem p_X3_mostPaid : yX3_mostPaid.cls ≠ "java/lang/invoke/MethodHandle" ∧ yX3_mostPaid.cls ≠ "java/lang/invoke/VarHandle" ∧ (parseMethodDescriptor yX3_mostPaid.desc).map (fun d => d.parameters.length) = some 0 := by decide +kernel
theorem n_X3_mostPaid : Cond.instanceMethod yX3_mostPaid ∈ mj_tw := mj_tw_in (List.mem_of_getElem? (i := 1364) (by decide +kernel)) rfl
theorem e_X3_mostPaid : Cond.selects yX3_mostPaid.cls yX3_mostPaid yX3_mostPaid ∈ mj_tw := mj_tw_in (List.mem_of_getElem? (i := 1365) (by decide +kernel)) rfl
set_option maxRecDepth 100000 in
theorem k_X3_paidByNobody : Cond.code yX3_paidByNobody cX3_paidByNobody 3 ((some FieldType.int)) ∈ lw_tbl := List.mem_of_getElem? (i := 1371) rfl
theorem p_X3_paidByNobody : yX3_paidByNobody.cls ≠ "java/lang/invoke/MethodHandle" ∧ yX3_paidByNobody.cls ≠ "java/lang/invoke/VarHandle" ∧ (parseMethodDescriptor yX3_paidByNobody.desc).map (fun d => d.parameters.length) = some 0 := by decide +kernel
theorem n_X3_paidByNobody : Cond.instanceMethod yX3_paidByNobody ∈ mj_tw := mj_tw_in (List.mem_of_getElem? (i := 1369) (by decide +kernel)) rfl
theorem e_X3_paidByNobody : Cond.selects yX3_paidByNobody.cls yX3_paidByNobody yX3_paidByNobody ∈ mj_tw := mj_tw_in (List.mem_of_getElem? (i := 1370) (by decide +kernel)) rfl
set_option maxRecDepth 100000 in
theorem k_X11_row : Cond.code yX11_row cX11_row 3 ((some FieldType.int)) ∈ lw_tbl := List.mem_of_getElem? (i := 1375) rfl
theorem p_X11_row : yX11_row.cls ≠ "java/lang/invoke/MethodHandle" ∧ yX11_row.cls ≠ "java/lang/invoke/VarHandle" ∧ (parseMethodDescriptor yX11_row.desc).map (fun d => d.parameters.length) = some 2 := by decide +kernel
theorem n_X11_row : Cond.instanceMethod yX11_row ∈ mj_tw := mj_tw_in (List.mem_of_getElem? (i := 1373) (by decide +kernel)) rfl
theorem e_X11_row : Cond.selects yX11_row.cls yX11_row yX11_row ∈ mj_tw := mj_tw_in (List.mem_of_getElem? (i := 1374) (by decide +kernel)) rfl
set_option maxRecDepth 100000 in
theorem k_X7_add : Cond.code yX7_add cX7_add 5 ((some FieldType.int)) ∈ lw_tbl := List.mem_of_getElem? (i := 1379) rfl
theorem p_X7_add : yX7_add.cls ≠ "java/lang/invoke/MethodHandle" ∧ yX7_add.cls ≠ "java/lang/invoke/VarHandle" ∧ (parseMethodDescriptor yX7_add.desc).map (fun d => d.parameters.length) = some 2 := by decide +kernel
theorem n_X7_add : Cond.instanceMethod yX7_add ∈ mj_tw := mj_tw_in (List.mem_of_getElem? (i := 1377) (by decide +kernel)) rfl
theorem e_X7_add : Cond.selects yX7_add.cls yX7_add yX7_add ∈ mj_tw := mj_tw_in (List.mem_of_getElem? (i := 1378) (by decide +kernel)) rfl
set_option maxRecDepth 100000 in
theorem k_X11_plan : Cond.code yX11_plan cX11_plan 4 ((some FieldType.int)) ∈ lw_tbl := List.mem_of_getElem? (i := 1383) rfl
theorem p_X11_plan : yX11_plan.cls ≠ "java/lang/invoke/MethodHandle" ∧ yX11_plan.cls ≠ "java/lang/invoke/VarHandle" ∧ (parseMethodDescriptor yX11_plan.desc).map (fun d => d.parameters.length) = some 3 := by decide +kernel
theorem n_X11_plan : Cond.instanceMethod yX11_plan ∈ mj_tw := mj_tw_in (List.mem_of_getElem? (i := 1381) (by decide +kernel)) rfl
theorem e_X11_plan : Cond.selects yX11_plan.cls yX11_plan yX11_plan ∈ mj_tw := mj_tw_in (List.mem_of_getElem? (i := 1382) (by decide +kernel)) rfl
set_option maxRecDepth 100000 in
theorem k_X7_worstYear : Cond.code yX7_worstYear cX7_worstYear 5 ((some FieldType.int)) ∈ lw_tbl := List.mem_of_getElem? (i := 1387) rfl
theorem p_X7_worstYear : yX7_worstYear.cls ≠ "java/lang/invoke/MethodHandle" ∧ yX7_worstYear.cls ≠ "java/lang/invoke/VarHandle" ∧ (parseMethodDescriptor yX7_worstYear.desc).map (fun d => d.parameters.length) = some 1 := by decide +kernel
theorem n_X7_worstYear : Cond.instanceMethod yX7_worstYear ∈ mj_tw := mj_tw_in (List.mem_of_getElem? (i := 1385) (by decide +kernel)) rfl
theorem e_X7_worstYear : Cond.selects yX7_worstYear.cls yX7_worstYear yX7_worstYear ∈ mj_tw := mj_tw_in (List.mem_of_getElem? (i := 1386) (by decide +kernel)) rfl
set_option maxRecDepth 100000 in
theorem k_X7_yearOf : Cond.code yX7_yearOf cX7_yearOf 5 ((some FieldType.int)) ∈ lw_tbl := List.mem_of_getElem? (i := 1391) rfl
theorem p_X7_yearOf : yX7_yearOf.cls ≠ "java/lang/invoke/MethodHandle" ∧ yX7_yearOf.cls ≠ "java/lang/invoke/VarHandle" ∧ (parseMethodDescriptor yX7_yearOf.desc).map (fun d => d.parameters.length) = some 2 := by decide +kernel
theorem n_X7_yearOf : Cond.instanceMethod yX7_yearOf ∈ mj_tw := mj_tw_in (List.mem_of_getElem? (i := 1390) (by decide +kernel)) rfl
theorem e_X7_yearOf : Cond.selects yX7_yearOf.cls yX7_yearOf yX7_yearOf ∈ mj_tw := mj_tw_in (List.mem_of_getElem? (i := 44) (by decide +kernel)) rfl
set_option maxRecDepth 100000 in
theorem k_X11_many : Cond.code yX11_many cX11_many 2 ((some FieldType.int)) ∈ lw_tbl := List.mem_of_getElem? (i := 1396) rfl
theorem p_X11_many : yX11_many.cls ≠ "java/lang/invoke/MethodHandle" ∧ yX11_many.cls ≠ "java/lang/invoke/VarHandle" ∧ (parseMethodDescriptor yX11_many.desc).map (fun d => d.parameters.length) = some 1 := by decide +kernel
theorem n_X11_many : Cond.instanceMethod yX11_many ∈ mj_tw := mj_tw_in (List.mem_of_getElem? (i := 1394) (by decide +kernel)) rfl
theorem e_X11_many : Cond.selects yX11_many.cls yX11_many yX11_many ∈ mj_tw := mj_tw_in (List.mem_of_getElem? (i := 1395) (by decide +kernel)) rfl
set_option maxRecDepth 100000 in
theorem k_X5_builtInAll : Cond.code yX5_builtInAll cX5_builtInAll 3 ((some FieldType.int)) ∈ lw_tbl := List.mem_of_getElem? (i := 1400) rfl
theorem p_X5_builtInAll : yX5_builtInAll.cls ≠ "java/lang/invoke/MethodHandle" ∧ yX5_builtInAll.cls ≠ "java/lang/invoke/VarHandle" ∧ (parseMethodDescriptor yX5_builtInAll.desc).map (fun d => d.parameters.length) = some 0 := by decide +kernel
theorem n_X5_builtInAll : Cond.instanceMethod yX5_builtInAll ∈ mj_tw := mj_tw_in (List.mem_of_getElem? (i := 1398) (by decide +kernel)) rfl
theorem e_X5_builtInAll : Cond.selects yX5_builtInAll.cls yX5_builtInAll yX5_builtInAll ∈ mj_tw := mj_tw_in (List.mem_of_getElem? (i := 1399) (by decide +kernel)) rfl
set_option maxRecDepth 100000 in
theorem k_X10_lyingInAll : Cond.code yX10_lyingInAll cX10_lyingInAll 3 ((some FieldType.int)) ∈ lw_tbl := List.mem_of_getElem? (i := 1404) rfl
theorem p_X10_lyingInAll : yX10_lyingInAll.cls ≠ "java/lang/invoke/MethodHandle" ∧ yX10_lyingInAll.cls ≠ "java/lang/invoke/VarHandle" ∧ (parseMethodDescriptor yX10_lyingInAll.desc).map (fun d => d.parameters.length) = some 0 := by decide +kernel
theorem n_X10_lyingInAll : Cond.instanceMethod yX10_lyingInAll ∈ mj_tw := mj_tw_in (List.mem_of_getElem? (i := 1402) (by decide +kernel)) rfl
theorem e_X10_lyingInAll : Cond.selects yX10_lyingInAll.cls yX10_lyingInAll yX10_lyingInAll ∈ mj_tw := mj_tw_in (List.mem_of_getElem? (i := 1403) (by decide +kernel)) rfl
set_option maxRecDepth 100000 in
theorem k_X12_init : Cond.code yX12_init cX12_init 2 (none) ∈ lw_tbl := List.mem_of_getElem? (i := 1409) rfl
theorem p_X12_init : yX12_init.cls ≠ "java/lang/invoke/MethodHandle" ∧ yX12_init.cls ≠ "java/lang/invoke/VarHandle" ∧ (parseMethodDescriptor yX12_init.desc).map (fun d => d.parameters.length) = some 0 := by decide +kernel
theorem n_X12_init : Cond.instanceMethod yX12_init ∈ mj_tw := mj_tw_in (List.mem_of_getElem? (i := 1408) (by decide +kernel)) rfl
set_option maxRecDepth 100000 in
theorem k_X12_draw : Cond.code yX12_draw cX12_draw 9 ((some FieldType.boolean)) ∈ lw_tbl := List.mem_of_getElem? (i := 1715) rfl
theorem p_X12_draw : yX12_draw.cls ≠ "java/lang/invoke/MethodHandle" ∧ yX12_draw.cls ≠ "java/lang/invoke/VarHandle" ∧ (parseMethodDescriptor yX12_draw.desc).map (fun d => d.parameters.length) = some 6 := by decide +kernel
theorem n_X12_draw : Cond.instanceMethod yX12_draw ∈ mj_tw := mj_tw_in (List.mem_of_getElem? (i := 1713) (by decide +kernel)) rfl
theorem e_X12_draw : Cond.selects yX12_draw.cls yX12_draw yX12_draw ∈ mj_tw := mj_tw_in (List.mem_of_getElem? (i := 1714) (by decide +kernel)) rfl
set_option maxRecDepth 100000 in
theorem k_X12_in : Cond.code yX12_in cX12_in 3 ((some FieldType.boolean)) ∈ lw_tbl := List.mem_of_getElem? (i := 1718) rfl
theorem p_X12_in : yX12_in.cls ≠ "java/lang/invoke/MethodHandle" ∧ yX12_in.cls ≠ "java/lang/invoke/VarHandle" ∧ (parseMethodDescriptor yX12_in.desc).map (fun d => d.parameters.length) = some 3 := by decide +kernel
theorem s_X12_in : Cond.static yX12_in ∈ mj_tw := mj_tw_in (List.mem_of_getElem? (i := 1717) (by decide +kernel)) rfl
set_option maxRecDepth 100000 in
theorem k_X12_walk : Cond.code yX12_walk cX12_walk 4 ((some FieldType.int)) ∈ lw_tbl := List.mem_of_getElem? (i := 1722) rfl
theorem p_X12_walk : yX12_walk.cls ≠ "java/lang/invoke/MethodHandle" ∧ yX12_walk.cls ≠ "java/lang/invoke/VarHandle" ∧ (parseMethodDescriptor yX12_walk.desc).map (fun d => d.parameters.length) = some 3 := by decide +kernel
theorem n_X12_walk : Cond.instanceMethod yX12_walk ∈ mj_tw := mj_tw_in (List.mem_of_getElem? (i := 1720) (by decide +kernel)) rfl
theorem e_X12_walk : Cond.selects yX12_walk.cls yX12_walk yX12_walk ∈ mj_tw := mj_tw_in (List.mem_of_getElem? (i := 1721) (by decide +kernel)) rfl
set_option maxRecDepth 100000 in
theorem k_X12_isCell : Cond.code yX12_isCell cX12_isCell 1 ((some FieldType.boolean)) ∈ lw_tbl := List.mem_of_getElem? (i := 1725) rfl
theorem p_X12_isCell : yX12_isCell.cls ≠ "java/lang/invoke/MethodHandle" ∧ yX12_isCell.cls ≠ "java/lang/invoke/VarHandle" ∧ (parseMethodDescriptor yX12_isCell.desc).map (fun d => d.parameters.length) = some 1 := by decide +kernel
theorem s_X12_isCell : Cond.static yX12_isCell ∈ mj_tw := mj_tw_in (List.mem_of_getElem? (i := 1724) (by decide +kernel)) rfl
set_option maxRecDepth 100000 in
theorem k_X12_walkOf : Cond.code yX12_walkOf cX12_walkOf 4 ((some FieldType.int)) ∈ lw_tbl := List.mem_of_getElem? (i := 1729) rfl
theorem p_X12_walkOf : yX12_walkOf.cls ≠ "java/lang/invoke/MethodHandle" ∧ yX12_walkOf.cls ≠ "java/lang/invoke/VarHandle" ∧ (parseMethodDescriptor yX12_walkOf.desc).map (fun d => d.parameters.length) = some 3 := by decide +kernel
theorem n_X12_walkOf : Cond.instanceMethod yX12_walkOf ∈ mj_tw := mj_tw_in (List.mem_of_getElem? (i := 1728) (by decide +kernel)) rfl
theorem e_X12_walkOf : Cond.selects yX12_walkOf.cls yX12_walkOf yX12_walkOf ∈ mj_tw := mj_tw_in (List.mem_of_getElem? (i := 45) (by decide +kernel)) rfl
set_option maxRecDepth 100000 in
theorem k_X12_spread : Cond.code yX12_spread cX12_spread 8 (none) ∈ lw_tbl := List.mem_of_getElem? (i := 1733) rfl
theorem p_X12_spread : yX12_spread.cls ≠ "java/lang/invoke/MethodHandle" ∧ yX12_spread.cls ≠ "java/lang/invoke/VarHandle" ∧ (parseMethodDescriptor yX12_spread.desc).map (fun d => d.parameters.length) = some 2 := by decide +kernel
theorem n_X12_spread : Cond.instanceMethod yX12_spread ∈ mj_tw := mj_tw_in (List.mem_of_getElem? (i := 1732) (by decide +kernel)) rfl
theorem e_X12_spread : Cond.selects yX12_spread.cls yX12_spread yX12_spread ∈ mj_tw := mj_tw_in (List.mem_of_getElem? (i := 46) (by decide +kernel)) rfl
set_option maxRecDepth 100000 in
theorem k_X12_beside : Cond.code yX12_beside cX12_beside 4 ((some FieldType.int)) ∈ lw_tbl := List.mem_of_getElem? (i := 1737) rfl
theorem p_X12_beside : yX12_beside.cls ≠ "java/lang/invoke/MethodHandle" ∧ yX12_beside.cls ≠ "java/lang/invoke/VarHandle" ∧ (parseMethodDescriptor yX12_beside.desc).map (fun d => d.parameters.length) = some 2 := by decide +kernel
theorem s_X12_beside : Cond.static yX12_beside ∈ mj_tw := mj_tw_in (List.mem_of_getElem? (i := 1736) (by decide +kernel)) rfl
set_option maxRecDepth 100000 in
theorem k_X12_walkedTo : Cond.code yX12_walkedTo cX12_walkedTo 2 ((some FieldType.int)) ∈ lw_tbl := List.mem_of_getElem? (i := 1741) rfl
theorem p_X12_walkedTo : yX12_walkedTo.cls ≠ "java/lang/invoke/MethodHandle" ∧ yX12_walkedTo.cls ≠ "java/lang/invoke/VarHandle" ∧ (parseMethodDescriptor yX12_walkedTo.desc).map (fun d => d.parameters.length) = some 1 := by decide +kernel
theorem n_X12_walkedTo : Cond.instanceMethod yX12_walkedTo ∈ mj_tw := mj_tw_in (List.mem_of_getElem? (i := 1740) (by decide +kernel)) rfl
theorem e_X12_walkedTo : Cond.selects yX12_walkedTo.cls yX12_walkedTo yX12_walkedTo ∈ mj_tw := mj_tw_in (List.mem_of_getElem? (i := 47) (by decide +kernel)) rfl
set_option maxRecDepth 100000 in
theorem k_X12_rain : Cond.code yX12_rain cX12_rain 5 ((some FieldType.boolean)) ∈ lw_tbl := List.mem_of_getElem? (i := 1745) rfl
theorem p_X12_rain : yX12_rain.cls ≠ "java/lang/invoke/MethodHandle" ∧ yX12_rain.cls ≠ "java/lang/invoke/VarHandle" ∧ (parseMethodDescriptor yX12_rain.desc).map (fun d => d.parameters.length) = some 3 := by decide +kernel
theorem n_X12_rain : Cond.instanceMethod yX12_rain ∈ mj_tw := mj_tw_in (List.mem_of_getElem? (i := 1743) (by decide +kernel)) rfl
theorem e_X12_rain : Cond.selects yX12_rain.cls yX12_rain yX12_rain ∈ mj_tw := mj_tw_in (List.mem_of_getElem? (i := 1744) (by decide +kernel)) rfl
set_option maxRecDepth 100000 in
theorem k_X12_village : Cond.code yX12_village cX12_village 4 ((some FieldType.int)) ∈ lw_tbl := List.mem_of_getElem? (i := 1749) rfl
theorem p_X12_village : yX12_village.cls ≠ "java/lang/invoke/MethodHandle" ∧ yX12_village.cls ≠ "java/lang/invoke/VarHandle" ∧ (parseMethodDescriptor yX12_village.desc).map (fun d => d.parameters.length) = some 3 := by decide +kernel
theorem n_X12_village : Cond.instanceMethod yX12_village ∈ mj_tw := mj_tw_in (List.mem_of_getElem? (i := 1747) (by decide +kernel)) rfl
theorem e_X12_village : Cond.selects yX12_village.cls yX12_village yX12_village ∈ mj_tw := mj_tw_in (List.mem_of_getElem? (i := 1748) (by decide +kernel)) rfl
set_option maxRecDepth 100000 in
theorem k_X12_isShire : Cond.code yX12_isShire cX12_isShire 1 ((some FieldType.boolean)) ∈ lw_tbl := List.mem_of_getElem? (i := 1752) rfl
theorem p_X12_isShire : yX12_isShire.cls ≠ "java/lang/invoke/MethodHandle" ∧ yX12_isShire.cls ≠ "java/lang/invoke/VarHandle" ∧ (parseMethodDescriptor yX12_isShire.desc).map (fun d => d.parameters.length) = some 1 := by decide +kernel
theorem s_X12_isShire : Cond.static yX12_isShire ∈ mj_tw := mj_tw_in (List.mem_of_getElem? (i := 1751) (by decide +kernel)) rfl
set_option maxRecDepth 100000 in
theorem k_X12_count : Cond.code yX12_count cX12_count 5 ((some FieldType.boolean)) ∈ lw_tbl := List.mem_of_getElem? (i := 1756) rfl
theorem p_X12_count : yX12_count.cls ≠ "java/lang/invoke/MethodHandle" ∧ yX12_count.cls ≠ "java/lang/invoke/VarHandle" ∧ (parseMethodDescriptor yX12_count.desc).map (fun d => d.parameters.length) = some 4 := by decide +kernel
theorem n_X12_count : Cond.instanceMethod yX12_count ∈ mj_tw := mj_tw_in (List.mem_of_getElem? (i := 1754) (by decide +kernel)) rfl
theorem e_X12_count : Cond.selects yX12_count.cls yX12_count yX12_count ∈ mj_tw := mj_tw_in (List.mem_of_getElem? (i := 1755) (by decide +kernel)) rfl
set_option maxRecDepth 100000 in
theorem k_X12_isVillage : Cond.code yX12_isVillage cX12_isVillage 2 ((some FieldType.boolean)) ∈ lw_tbl := List.mem_of_getElem? (i := 1760) rfl
theorem p_X12_isVillage : yX12_isVillage.cls ≠ "java/lang/invoke/MethodHandle" ∧ yX12_isVillage.cls ≠ "java/lang/invoke/VarHandle" ∧ (parseMethodDescriptor yX12_isVillage.desc).map (fun d => d.parameters.length) = some 1 := by decide +kernel
theorem n_X12_isVillage : Cond.instanceMethod yX12_isVillage ∈ mj_tw := mj_tw_in (List.mem_of_getElem? (i := 1759) (by decide +kernel)) rfl
theorem e_X12_isVillage : Cond.selects yX12_isVillage.cls yX12_isVillage yX12_isVillage ∈ mj_tw := mj_tw_in (List.mem_of_getElem? (i := 48) (by decide +kernel)) rfl
set_option maxRecDepth 100000 in
theorem k_X12_isYear : Cond.code yX12_isYear cX12_isYear 1 ((some FieldType.boolean)) ∈ lw_tbl := List.mem_of_getElem? (i := 1763) rfl
theorem p_X12_isYear : yX12_isYear.cls ≠ "java/lang/invoke/MethodHandle" ∧ yX12_isYear.cls ≠ "java/lang/invoke/VarHandle" ∧ (parseMethodDescriptor yX12_isYear.desc).map (fun d => d.parameters.length) = some 1 := by decide +kernel
theorem s_X12_isYear : Cond.static yX12_isYear ∈ mj_tw := mj_tw_in (List.mem_of_getElem? (i := 1762) (by decide +kernel)) rfl
set_option maxRecDepth 100000 in
theorem k_X12_child : Cond.code yX12_child cX12_child 5 ((some FieldType.int)) ∈ lw_tbl := List.mem_of_getElem? (i := 1767) rfl
theorem p_X12_child : yX12_child.cls ≠ "java/lang/invoke/MethodHandle" ∧ yX12_child.cls ≠ "java/lang/invoke/VarHandle" ∧ (parseMethodDescriptor yX12_child.desc).map (fun d => d.parameters.length) = some 4 := by decide +kernel
theorem n_X12_child : Cond.instanceMethod yX12_child ∈ mj_tw := mj_tw_in (List.mem_of_getElem? (i := 1765) (by decide +kernel)) rfl
theorem e_X12_child : Cond.selects yX12_child.cls yX12_child yX12_child ∈ mj_tw := mj_tw_in (List.mem_of_getElem? (i := 1766) (by decide +kernel)) rfl
set_option maxRecDepth 100000 in
theorem k_X12_isKnowing : Cond.code yX12_isKnowing cX12_isKnowing 2 ((some FieldType.boolean)) ∈ lw_tbl := List.mem_of_getElem? (i := 1771) rfl
theorem p_X12_isKnowing : yX12_isKnowing.cls ≠ "java/lang/invoke/MethodHandle" ∧ yX12_isKnowing.cls ≠ "java/lang/invoke/VarHandle" ∧ (parseMethodDescriptor yX12_isKnowing.desc).map (fun d => d.parameters.length) = some 1 := by decide +kernel
theorem n_X12_isKnowing : Cond.instanceMethod yX12_isKnowing ∈ mj_tw := mj_tw_in (List.mem_of_getElem? (i := 1770) (by decide +kernel)) rfl
theorem e_X12_isKnowing : Cond.selects yX12_isKnowing.cls yX12_isKnowing yX12_isKnowing ∈ mj_tw := mj_tw_in (List.mem_of_getElem? (i := 49) (by decide +kernel)) rfl
set_option maxRecDepth 100000 in
theorem k_X12_childOf : Cond.code yX12_childOf cX12_childOf 7 ((some FieldType.int)) ∈ lw_tbl := List.mem_of_getElem? (i := 1775) rfl
theorem p_X12_childOf : yX12_childOf.cls ≠ "java/lang/invoke/MethodHandle" ∧ yX12_childOf.cls ≠ "java/lang/invoke/VarHandle" ∧ (parseMethodDescriptor yX12_childOf.desc).map (fun d => d.parameters.length) = some 4 := by decide +kernel
theorem n_X12_childOf : Cond.instanceMethod yX12_childOf ∈ mj_tw := mj_tw_in (List.mem_of_getElem? (i := 1774) (by decide +kernel)) rfl
theorem e_X12_childOf : Cond.selects yX12_childOf.cls yX12_childOf yX12_childOf ∈ mj_tw := mj_tw_in (List.mem_of_getElem? (i := 50) (by decide +kernel)) rfl
set_option maxRecDepth 100000 in
theorem k_X12_school : Cond.code yX12_school cX12_school 7 ((some FieldType.int)) ∈ lw_tbl := List.mem_of_getElem? (i := 1779) rfl
theorem p_X12_school : yX12_school.cls ≠ "java/lang/invoke/MethodHandle" ∧ yX12_school.cls ≠ "java/lang/invoke/VarHandle" ∧ (parseMethodDescriptor yX12_school.desc).map (fun d => d.parameters.length) = some 5 := by decide +kernel
theorem n_X12_school : Cond.instanceMethod yX12_school ∈ mj_tw := mj_tw_in (List.mem_of_getElem? (i := 1777) (by decide +kernel)) rfl
theorem e_X12_school : Cond.selects yX12_school.cls yX12_school yX12_school ∈ mj_tw := mj_tw_in (List.mem_of_getElem? (i := 1778) (by decide +kernel)) rfl
set_option maxRecDepth 100000 in
theorem k_X12_far : Cond.code yX12_far cX12_far 3 ((some FieldType.boolean)) ∈ lw_tbl := List.mem_of_getElem? (i := 1783) rfl
theorem p_X12_far : yX12_far.cls ≠ "java/lang/invoke/MethodHandle" ∧ yX12_far.cls ≠ "java/lang/invoke/VarHandle" ∧ (parseMethodDescriptor yX12_far.desc).map (fun d => d.parameters.length) = some 2 := by decide +kernel
theorem n_X12_far : Cond.instanceMethod yX12_far ∈ mj_tw := mj_tw_in (List.mem_of_getElem? (i := 1781) (by decide +kernel)) rfl
theorem e_X12_far : Cond.selects yX12_far.cls yX12_far yX12_far ∈ mj_tw := mj_tw_in (List.mem_of_getElem? (i := 1782) (by decide +kernel)) rfl
set_option maxRecDepth 100000 in
theorem k_X12_isSchool : Cond.code yX12_isSchool cX12_isSchool 2 ((some FieldType.boolean)) ∈ lw_tbl := List.mem_of_getElem? (i := 1787) rfl
theorem p_X12_isSchool : yX12_isSchool.cls ≠ "java/lang/invoke/MethodHandle" ∧ yX12_isSchool.cls ≠ "java/lang/invoke/VarHandle" ∧ (parseMethodDescriptor yX12_isSchool.desc).map (fun d => d.parameters.length) = some 1 := by decide +kernel
theorem n_X12_isSchool : Cond.instanceMethod yX12_isSchool ∈ mj_tw := mj_tw_in (List.mem_of_getElem? (i := 1786) (by decide +kernel)) rfl
theorem e_X12_isSchool : Cond.selects yX12_isSchool.cls yX12_isSchool yX12_isSchool ∈ mj_tw := mj_tw_in (List.mem_of_getElem? (i := 51) (by decide +kernel)) rfl
set_option maxRecDepth 100000 in
theorem k_X12_shut : Cond.code yX12_shut cX12_shut 3 ((some FieldType.boolean)) ∈ lw_tbl := List.mem_of_getElem? (i := 1791) rfl
theorem p_X12_shut : yX12_shut.cls ≠ "java/lang/invoke/MethodHandle" ∧ yX12_shut.cls ≠ "java/lang/invoke/VarHandle" ∧ (parseMethodDescriptor yX12_shut.desc).map (fun d => d.parameters.length) = some 2 := by decide +kernel
theorem n_X12_shut : Cond.instanceMethod yX12_shut ∈ mj_tw := mj_tw_in (List.mem_of_getElem? (i := 1789) (by decide +kernel)) rfl
theorem e_X12_shut : Cond.selects yX12_shut.cls yX12_shut yX12_shut ∈ mj_tw := mj_tw_in (List.mem_of_getElem? (i := 1790) (by decide +kernel)) rfl
set_option maxRecDepth 100000 in
theorem k_X12_schooled : Cond.code yX12_schooled cX12_schooled 3 ((some FieldType.int)) ∈ lw_tbl := List.mem_of_getElem? (i := 1795) rfl
theorem p_X12_schooled : yX12_schooled.cls ≠ "java/lang/invoke/MethodHandle" ∧ yX12_schooled.cls ≠ "java/lang/invoke/VarHandle" ∧ (parseMethodDescriptor yX12_schooled.desc).map (fun d => d.parameters.length) = some 2 := by decide +kernel
theorem n_X12_schooled : Cond.instanceMethod yX12_schooled ∈ mj_tw := mj_tw_in (List.mem_of_getElem? (i := 1793) (by decide +kernel)) rfl
theorem e_X12_schooled : Cond.selects yX12_schooled.cls yX12_schooled yX12_schooled ∈ mj_tw := mj_tw_in (List.mem_of_getElem? (i := 1794) (by decide +kernel)) rfl
set_option maxRecDepth 100000 in
theorem k_X12_feed : Cond.code yX12_feed cX12_feed 9 ((some FieldType.int)) ∈ lw_tbl := List.mem_of_getElem? (i := 1799) rfl
theorem p_X12_feed : yX12_feed.cls ≠ "java/lang/invoke/MethodHandle" ∧ yX12_feed.cls ≠ "java/lang/invoke/VarHandle" ∧ (parseMethodDescriptor yX12_feed.desc).map (fun d => d.parameters.length) = some 5 := by decide +kernel
theorem n_X12_feed : Cond.instanceMethod yX12_feed ∈ mj_tw := mj_tw_in (List.mem_of_getElem? (i := 1797) (by decide +kernel)) rfl
theorem e_X12_feed : Cond.selects yX12_feed.cls yX12_feed yX12_feed ∈ mj_tw := mj_tw_in (List.mem_of_getElem? (i := 1798) (by decide +kernel)) rfl
set_option maxRecDepth 100000 in
theorem k_X12_byteOf : Cond.code yX12_byteOf cX12_byteOf 7 ((some FieldType.int)) ∈ lw_tbl := List.mem_of_getElem? (i := 1802) rfl
theorem p_X12_byteOf : yX12_byteOf.cls ≠ "java/lang/invoke/MethodHandle" ∧ yX12_byteOf.cls ≠ "java/lang/invoke/VarHandle" ∧ (parseMethodDescriptor yX12_byteOf.desc).map (fun d => d.parameters.length) = some 6 := by decide +kernel
theorem s_X12_byteOf : Cond.static yX12_byteOf ∈ mj_tw := mj_tw_in (List.mem_of_getElem? (i := 1801) (by decide +kernel)) rfl
set_option maxRecDepth 100000 in
theorem k_X12_end : Cond.code yX12_end cX12_end 2 ((some FieldType.boolean)) ∈ lw_tbl := List.mem_of_getElem? (i := 1806) rfl
theorem p_X12_end : yX12_end.cls ≠ "java/lang/invoke/MethodHandle" ∧ yX12_end.cls ≠ "java/lang/invoke/VarHandle" ∧ (parseMethodDescriptor yX12_end.desc).map (fun d => d.parameters.length) = some 1 := by decide +kernel
theorem n_X12_end : Cond.instanceMethod yX12_end ∈ mj_tw := mj_tw_in (List.mem_of_getElem? (i := 1804) (by decide +kernel)) rfl
theorem e_X12_end : Cond.selects yX12_end.cls yX12_end yX12_end ∈ mj_tw := mj_tw_in (List.mem_of_getElem? (i := 1805) (by decide +kernel)) rfl
set_option maxRecDepth 100000 in
theorem k_X12_fault : Cond.code yX12_fault cX12_fault 1 ((some FieldType.int)) ∈ lw_tbl := List.mem_of_getElem? (i := 1810) rfl
theorem p_X12_fault : yX12_fault.cls ≠ "java/lang/invoke/MethodHandle" ∧ yX12_fault.cls ≠ "java/lang/invoke/VarHandle" ∧ (parseMethodDescriptor yX12_fault.desc).map (fun d => d.parameters.length) = some 0 := by decide +kernel
theorem n_X12_fault : Cond.instanceMethod yX12_fault ∈ mj_tw := mj_tw_in (List.mem_of_getElem? (i := 1808) (by decide +kernel)) rfl
theorem e_X12_fault : Cond.selects yX12_fault.cls yX12_fault yX12_fault ∈ mj_tw := mj_tw_in (List.mem_of_getElem? (i := 1809) (by decide +kernel)) rfl
set_option maxRecDepth 100000 in
theorem k_X12_clause : Cond.code yX12_clause cX12_clause 6 (none) ∈ lw_tbl := List.mem_of_getElem? (i := 1814) rfl
theorem p_X12_clause : yX12_clause.cls ≠ "java/lang/invoke/MethodHandle" ∧ yX12_clause.cls ≠ "java/lang/invoke/VarHandle" ∧ (parseMethodDescriptor yX12_clause.desc).map (fun d => d.parameters.length) = some 0 := by decide +kernel
theorem n_X12_clause : Cond.instanceMethod yX12_clause ∈ mj_tw := mj_tw_in (List.mem_of_getElem? (i := 1813) (by decide +kernel)) rfl
theorem e_X12_clause : Cond.selects yX12_clause.cls yX12_clause yX12_clause ∈ mj_tw := mj_tw_in (List.mem_of_getElem? (i := 52) (by decide +kernel)) rfl
set_option maxRecDepth 100000 in
theorem k_X12_look : Cond.code yX12_look cX12_look 1 ((some FieldType.int)) ∈ lw_tbl := List.mem_of_getElem? (i := 1818) rfl
theorem p_X12_look : yX12_look.cls ≠ "java/lang/invoke/MethodHandle" ∧ yX12_look.cls ≠ "java/lang/invoke/VarHandle" ∧ (parseMethodDescriptor yX12_look.desc).map (fun d => d.parameters.length) = some 0 := by decide +kernel
theorem n_X12_look : Cond.instanceMethod yX12_look ∈ mj_tw := mj_tw_in (List.mem_of_getElem? (i := 1817) (by decide +kernel)) rfl
theorem e_X12_look : Cond.selects yX12_look.cls yX12_look yX12_look ∈ mj_tw := mj_tw_in (List.mem_of_getElem? (i := 53) (by decide +kernel)) rfl
set_option maxRecDepth 100000 in
theorem k_X12_isLabel : Cond.code yX12_isLabel cX12_isLabel 1 ((some FieldType.boolean)) ∈ lw_tbl := List.mem_of_getElem? (i := 1821) rfl
theorem p_X12_isLabel : yX12_isLabel.cls ≠ "java/lang/invoke/MethodHandle" ∧ yX12_isLabel.cls ≠ "java/lang/invoke/VarHandle" ∧ (parseMethodDescriptor yX12_isLabel.desc).map (fun d => d.parameters.length) = some 1 := by decide +kernel
theorem s_X12_isLabel : Cond.static yX12_isLabel ∈ mj_tw := mj_tw_in (List.mem_of_getElem? (i := 1820) (by decide +kernel)) rfl
set_option maxRecDepth 100000 in
theorem k_X12_bad : Cond.code yX12_bad cX12_bad 1 (none) ∈ lw_tbl := List.mem_of_getElem? (i := 1825) rfl
theorem p_X12_bad : yX12_bad.cls ≠ "java/lang/invoke/MethodHandle" ∧ yX12_bad.cls ≠ "java/lang/invoke/VarHandle" ∧ (parseMethodDescriptor yX12_bad.desc).map (fun d => d.parameters.length) = some 0 := by decide +kernel
theorem n_X12_bad : Cond.instanceMethod yX12_bad ∈ mj_tw := mj_tw_in (List.mem_of_getElem? (i := 1824) (by decide +kernel)) rfl
theorem e_X12_bad : Cond.selects yX12_bad.cls yX12_bad yX12_bad ∈ mj_tw := mj_tw_in (List.mem_of_getElem? (i := 54) (by decide +kernel)) rfl
set_option maxRecDepth 100000 in
theorem k_X12_say : Cond.code yX12_say cX12_say 2 (none) ∈ lw_tbl := List.mem_of_getElem? (i := 1829) rfl
theorem p_X12_say : yX12_say.cls ≠ "java/lang/invoke/MethodHandle" ∧ yX12_say.cls ≠ "java/lang/invoke/VarHandle" ∧ (parseMethodDescriptor yX12_say.desc).map (fun d => d.parameters.length) = some 1 := by decide +kernel
theorem n_X12_say : Cond.instanceMethod yX12_say ∈ mj_tw := mj_tw_in (List.mem_of_getElem? (i := 1828) (by decide +kernel)) rfl
theorem e_X12_say : Cond.selects yX12_say.cls yX12_say yX12_say ∈ mj_tw := mj_tw_in (List.mem_of_getElem? (i := 55) (by decide +kernel)) rfl
set_option maxRecDepth 100000 in
theorem k_X12_sum : Cond.code yX12_sum cX12_sum 2 (none) ∈ lw_tbl := List.mem_of_getElem? (i := 1833) rfl
theorem p_X12_sum : yX12_sum.cls ≠ "java/lang/invoke/MethodHandle" ∧ yX12_sum.cls ≠ "java/lang/invoke/VarHandle" ∧ (parseMethodDescriptor yX12_sum.desc).map (fun d => d.parameters.length) = some 0 := by decide +kernel
theorem n_X12_sum : Cond.instanceMethod yX12_sum ∈ mj_tw := mj_tw_in (List.mem_of_getElem? (i := 1832) (by decide +kernel)) rfl
theorem e_X12_sum : Cond.selects yX12_sum.cls yX12_sum yX12_sum ∈ mj_tw := mj_tw_in (List.mem_of_getElem? (i := 56) (by decide +kernel)) rfl
set_option maxRecDepth 100000 in
theorem k_X12_term : Cond.code yX12_term cX12_term 2 (none) ∈ lw_tbl := List.mem_of_getElem? (i := 1837) rfl
theorem p_X12_term : yX12_term.cls ≠ "java/lang/invoke/MethodHandle" ∧ yX12_term.cls ≠ "java/lang/invoke/VarHandle" ∧ (parseMethodDescriptor yX12_term.desc).map (fun d => d.parameters.length) = some 0 := by decide +kernel
theorem n_X12_term : Cond.instanceMethod yX12_term ∈ mj_tw := mj_tw_in (List.mem_of_getElem? (i := 1836) (by decide +kernel)) rfl
theorem e_X12_term : Cond.selects yX12_term.cls yX12_term yX12_term ∈ mj_tw := mj_tw_in (List.mem_of_getElem? (i := 57) (by decide +kernel)) rfl
set_option maxRecDepth 100000 in
theorem k_X12_atom : Cond.code yX12_atom cX12_atom 2 (none) ∈ lw_tbl := List.mem_of_getElem? (i := 1841) rfl
theorem p_X12_atom : yX12_atom.cls ≠ "java/lang/invoke/MethodHandle" ∧ yX12_atom.cls ≠ "java/lang/invoke/VarHandle" ∧ (parseMethodDescriptor yX12_atom.desc).map (fun d => d.parameters.length) = some 0 := by decide +kernel
theorem n_X12_atom : Cond.instanceMethod yX12_atom ∈ mj_tw := mj_tw_in (List.mem_of_getElem? (i := 1840) (by decide +kernel)) rfl
theorem e_X12_atom : Cond.selects yX12_atom.cls yX12_atom yX12_atom ∈ mj_tw := mj_tw_in (List.mem_of_getElem? (i := 58) (by decide +kernel)) rfl
set_option maxRecDepth 100000 in
theorem k_X12_opens : Cond.code yX12_opens cX12_opens 1 ((some FieldType.boolean)) ∈ lw_tbl := List.mem_of_getElem? (i := 1845) rfl
theorem p_X12_opens : yX12_opens.cls ≠ "java/lang/invoke/MethodHandle" ∧ yX12_opens.cls ≠ "java/lang/invoke/VarHandle" ∧ (parseMethodDescriptor yX12_opens.desc).map (fun d => d.parameters.length) = some 0 := by decide +kernel
theorem n_X12_opens : Cond.instanceMethod yX12_opens ∈ mj_tw := mj_tw_in (List.mem_of_getElem? (i := 1844) (by decide +kernel)) rfl
theorem e_X12_opens : Cond.selects yX12_opens.cls yX12_opens yX12_opens ∈ mj_tw := mj_tw_in (List.mem_of_getElem? (i := 59) (by decide +kernel)) rfl
set_option maxRecDepth 100000 in
theorem k_X12_closes : Cond.code yX12_closes cX12_closes 2 (none) ∈ lw_tbl := List.mem_of_getElem? (i := 1849) rfl
theorem p_X12_closes : yX12_closes.cls ≠ "java/lang/invoke/MethodHandle" ∧ yX12_closes.cls ≠ "java/lang/invoke/VarHandle" ∧ (parseMethodDescriptor yX12_closes.desc).map (fun d => d.parameters.length) = some 1 := by decide +kernel
theorem n_X12_closes : Cond.instanceMethod yX12_closes ∈ mj_tw := mj_tw_in (List.mem_of_getElem? (i := 1848) (by decide +kernel)) rfl
theorem e_X12_closes : Cond.selects yX12_closes.cls yX12_closes yX12_closes ∈ mj_tw := mj_tw_in (List.mem_of_getElem? (i := 60) (by decide +kernel)) rfl
set_option maxRecDepth 100000 in
theorem k_X12_isLetter : Cond.code yX12_isLetter cX12_isLetter 1 ((some FieldType.boolean)) ∈ lw_tbl := List.mem_of_getElem? (i := 1852) rfl
theorem p_X12_isLetter : yX12_isLetter.cls ≠ "java/lang/invoke/MethodHandle" ∧ yX12_isLetter.cls ≠ "java/lang/invoke/VarHandle" ∧ (parseMethodDescriptor yX12_isLetter.desc).map (fun d => d.parameters.length) = some 1 := by decide +kernel
theorem s_X12_isLetter : Cond.static yX12_isLetter ∈ mj_tw := mj_tw_in (List.mem_of_getElem? (i := 1851) (by decide +kernel)) rfl
set_option maxRecDepth 100000 in
theorem k_X12_number : Cond.code yX12_number cX12_number 3 (none) ∈ lw_tbl := List.mem_of_getElem? (i := 1856) rfl
theorem p_X12_number : yX12_number.cls ≠ "java/lang/invoke/MethodHandle" ∧ yX12_number.cls ≠ "java/lang/invoke/VarHandle" ∧ (parseMethodDescriptor yX12_number.desc).map (fun d => d.parameters.length) = some 0 := by decide +kernel
theorem n_X12_number : Cond.instanceMethod yX12_number ∈ mj_tw := mj_tw_in (List.mem_of_getElem? (i := 1855) (by decide +kernel)) rfl
theorem e_X12_number : Cond.selects yX12_number.cls yX12_number yX12_number ∈ mj_tw := mj_tw_in (List.mem_of_getElem? (i := 61) (by decide +kernel)) rfl
set_option maxRecDepth 100000 in
theorem k_X12_isDigit : Cond.code yX12_isDigit cX12_isDigit 1 ((some FieldType.boolean)) ∈ lw_tbl := List.mem_of_getElem? (i := 1859) rfl
theorem p_X12_isDigit : yX12_isDigit.cls ≠ "java/lang/invoke/MethodHandle" ∧ yX12_isDigit.cls ≠ "java/lang/invoke/VarHandle" ∧ (parseMethodDescriptor yX12_isDigit.desc).map (fun d => d.parameters.length) = some 1 := by decide +kernel
theorem s_X12_isDigit : Cond.static yX12_isDigit ∈ mj_tw := mj_tw_in (List.mem_of_getElem? (i := 1858) (by decide +kernel)) rfl
set_option maxRecDepth 100000 in
theorem k_X12_isSign : Cond.code yX12_isSign cX12_isSign 1 ((some FieldType.boolean)) ∈ lw_tbl := List.mem_of_getElem? (i := 1862) rfl
theorem p_X12_isSign : yX12_isSign.cls ≠ "java/lang/invoke/MethodHandle" ∧ yX12_isSign.cls ≠ "java/lang/invoke/VarHandle" ∧ (parseMethodDescriptor yX12_isSign.desc).map (fun d => d.parameters.length) = some 1 := by decide +kernel
theorem s_X12_isSign : Cond.static yX12_isSign ∈ mj_tw := mj_tw_in (List.mem_of_getElem? (i := 1861) (by decide +kernel)) rfl
set_option maxRecDepth 100000 in
theorem k_X12_condition : Cond.code yX12_condition cX12_condition 2 (none) ∈ lw_tbl := List.mem_of_getElem? (i := 1866) rfl
theorem p_X12_condition : yX12_condition.cls ≠ "java/lang/invoke/MethodHandle" ∧ yX12_condition.cls ≠ "java/lang/invoke/VarHandle" ∧ (parseMethodDescriptor yX12_condition.desc).map (fun d => d.parameters.length) = some 1 := by decide +kernel
theorem n_X12_condition : Cond.instanceMethod yX12_condition ∈ mj_tw := mj_tw_in (List.mem_of_getElem? (i := 1865) (by decide +kernel)) rfl
theorem e_X12_condition : Cond.selects yX12_condition.cls yX12_condition yX12_condition ∈ mj_tw := mj_tw_in (List.mem_of_getElem? (i := 62) (by decide +kernel)) rfl
set_option maxRecDepth 100000 in
theorem k_X12_part : Cond.code yX12_part cX12_part 2 (none) ∈ lw_tbl := List.mem_of_getElem? (i := 1870) rfl
theorem p_X12_part : yX12_part.cls ≠ "java/lang/invoke/MethodHandle" ∧ yX12_part.cls ≠ "java/lang/invoke/VarHandle" ∧ (parseMethodDescriptor yX12_part.desc).map (fun d => d.parameters.length) = some 1 := by decide +kernel
theorem n_X12_part : Cond.instanceMethod yX12_part ∈ mj_tw := mj_tw_in (List.mem_of_getElem? (i := 1869) (by decide +kernel)) rfl
theorem e_X12_part : Cond.selects yX12_part.cls yX12_part yX12_part ∈ mj_tw := mj_tw_in (List.mem_of_getElem? (i := 63) (by decide +kernel)) rfl
set_option maxRecDepth 100000 in
theorem k_X12_compare : Cond.code yX12_compare cX12_compare 2 (none) ∈ lw_tbl := List.mem_of_getElem? (i := 1874) rfl
theorem p_X12_compare : yX12_compare.cls ≠ "java/lang/invoke/MethodHandle" ∧ yX12_compare.cls ≠ "java/lang/invoke/VarHandle" ∧ (parseMethodDescriptor yX12_compare.desc).map (fun d => d.parameters.length) = some 0 := by decide +kernel
theorem n_X12_compare : Cond.instanceMethod yX12_compare ∈ mj_tw := mj_tw_in (List.mem_of_getElem? (i := 1873) (by decide +kernel)) rfl
theorem e_X12_compare : Cond.selects yX12_compare.cls yX12_compare yX12_compare ∈ mj_tw := mj_tw_in (List.mem_of_getElem? (i := 64) (by decide +kernel)) rfl
set_option maxRecDepth 100000 in
theorem k_X12_unit : Cond.code yX12_unit cX12_unit 2 (none) ∈ lw_tbl := List.mem_of_getElem? (i := 1878) rfl
theorem p_X12_unit : yX12_unit.cls ≠ "java/lang/invoke/MethodHandle" ∧ yX12_unit.cls ≠ "java/lang/invoke/VarHandle" ∧ (parseMethodDescriptor yX12_unit.desc).map (fun d => d.parameters.length) = some 0 := by decide +kernel
theorem n_X12_unit : Cond.instanceMethod yX12_unit ∈ mj_tw := mj_tw_in (List.mem_of_getElem? (i := 1877) (by decide +kernel)) rfl
theorem e_X12_unit : Cond.selects yX12_unit.cls yX12_unit yX12_unit ∈ mj_tw := mj_tw_in (List.mem_of_getElem? (i := 65) (by decide +kernel)) rfl
set_option maxRecDepth 100000 in
theorem k_X12_law : Cond.code yX12_law cX12_law 4 ((some FieldType.int)) ∈ lw_tbl := List.mem_of_getElem? (i := 1882) rfl
theorem p_X12_law : yX12_law.cls ≠ "java/lang/invoke/MethodHandle" ∧ yX12_law.cls ≠ "java/lang/invoke/VarHandle" ∧ (parseMethodDescriptor yX12_law.desc).map (fun d => d.parameters.length) = some 2 := by decide +kernel
theorem n_X12_law : Cond.instanceMethod yX12_law ∈ mj_tw := mj_tw_in (List.mem_of_getElem? (i := 1880) (by decide +kernel)) rfl
theorem e_X12_law : Cond.selects yX12_law.cls yX12_law yX12_law ∈ mj_tw := mj_tw_in (List.mem_of_getElem? (i := 1881) (by decide +kernel)) rfl
set_option maxRecDepth 100000 in
theorem k_X12_worth : Cond.code yX12_worth cX12_worth 9 ((some FieldType.int)) ∈ lw_tbl := List.mem_of_getElem? (i := 1887) rfl
theorem p_X12_worth : yX12_worth.cls ≠ "java/lang/invoke/MethodHandle" ∧ yX12_worth.cls ≠ "java/lang/invoke/VarHandle" ∧ (parseMethodDescriptor yX12_worth.desc).map (fun d => d.parameters.length) = some 8 := by decide +kernel
theorem n_X12_worth : Cond.instanceMethod yX12_worth ∈ mj_tw := mj_tw_in (List.mem_of_getElem? (i := 1885) (by decide +kernel)) rfl
theorem e_X12_worth : Cond.selects yX12_worth.cls yX12_worth yX12_worth ∈ mj_tw := mj_tw_in (List.mem_of_getElem? (i := 1886) (by decide +kernel)) rfl
set_option maxRecDepth 100000 in
theorem k_X12_isAsked : Cond.code yX12_isAsked cX12_isAsked 4 ((some FieldType.boolean)) ∈ lw_tbl := List.mem_of_getElem? (i := 1891) rfl
theorem p_X12_isAsked : yX12_isAsked.cls ≠ "java/lang/invoke/MethodHandle" ∧ yX12_isAsked.cls ≠ "java/lang/invoke/VarHandle" ∧ (parseMethodDescriptor yX12_isAsked.desc).map (fun d => d.parameters.length) = some 3 := by decide +kernel
theorem n_X12_isAsked : Cond.instanceMethod yX12_isAsked ∈ mj_tw := mj_tw_in (List.mem_of_getElem? (i := 1890) (by decide +kernel)) rfl
theorem e_X12_isAsked : Cond.selects yX12_isAsked.cls yX12_isAsked yX12_isAsked ∈ mj_tw := mj_tw_in (List.mem_of_getElem? (i := 66) (by decide +kernel)) rfl
set_option maxRecDepth 100000 in
theorem k_X12_tell : Cond.code yX12_tell cX12_tell 7 (none) ∈ lw_tbl := List.mem_of_getElem? (i := 1896) rfl
theorem p_X12_tell : yX12_tell.cls ≠ "java/lang/invoke/MethodHandle" ∧ yX12_tell.cls ≠ "java/lang/invoke/VarHandle" ∧ (parseMethodDescriptor yX12_tell.desc).map (fun d => d.parameters.length) = some 6 := by decide +kernel
theorem n_X12_tell : Cond.instanceMethod yX12_tell ∈ mj_tw := mj_tw_in (List.mem_of_getElem? (i := 1895) (by decide +kernel)) rfl
theorem e_X12_tell : Cond.selects yX12_tell.cls yX12_tell yX12_tell ∈ mj_tw := mj_tw_in (List.mem_of_getElem? (i := 67) (by decide +kernel)) rfl
set_option maxRecDepth 100000 in
theorem k_X12_worthOf : Cond.code yX12_worthOf cX12_worthOf 5 ((some FieldType.int)) ∈ lw_tbl := List.mem_of_getElem? (i := 1900) rfl
theorem p_X12_worthOf : yX12_worthOf.cls ≠ "java/lang/invoke/MethodHandle" ∧ yX12_worthOf.cls ≠ "java/lang/invoke/VarHandle" ∧ (parseMethodDescriptor yX12_worthOf.desc).map (fun d => d.parameters.length) = some 4 := by decide +kernel
theorem n_X12_worthOf : Cond.instanceMethod yX12_worthOf ∈ mj_tw := mj_tw_in (List.mem_of_getElem? (i := 1899) (by decide +kernel)) rfl
theorem e_X12_worthOf : Cond.selects yX12_worthOf.cls yX12_worthOf yX12_worthOf ∈ mj_tw := mj_tw_in (List.mem_of_getElem? (i := 68) (by decide +kernel)) rfl
set_option maxRecDepth 100000 in
theorem k_X12_lawFor : Cond.code yX12_lawFor cX12_lawFor 10 ((some FieldType.int)) ∈ lw_tbl := List.mem_of_getElem? (i := 1904) rfl
theorem p_X12_lawFor : yX12_lawFor.cls ≠ "java/lang/invoke/MethodHandle" ∧ yX12_lawFor.cls ≠ "java/lang/invoke/VarHandle" ∧ (parseMethodDescriptor yX12_lawFor.desc).map (fun d => d.parameters.length) = some 5 := by decide +kernel
theorem n_X12_lawFor : Cond.instanceMethod yX12_lawFor ∈ mj_tw := mj_tw_in (List.mem_of_getElem? (i := 1903) (by decide +kernel)) rfl
theorem e_X12_lawFor : Cond.selects yX12_lawFor.cls yX12_lawFor yX12_lawFor ∈ mj_tw := mj_tw_in (List.mem_of_getElem? (i := 69) (by decide +kernel)) rfl
set_option maxRecDepth 100000 in
theorem k_X12_says : Cond.code yX12_says cX12_says 6 ((some FieldType.boolean)) ∈ lw_tbl := List.mem_of_getElem? (i := 1908) rfl
theorem p_X12_says : yX12_says.cls ≠ "java/lang/invoke/MethodHandle" ∧ yX12_says.cls ≠ "java/lang/invoke/VarHandle" ∧ (parseMethodDescriptor yX12_says.desc).map (fun d => d.parameters.length) = some 2 := by decide +kernel
theorem n_X12_says : Cond.instanceMethod yX12_says ∈ mj_tw := mj_tw_in (List.mem_of_getElem? (i := 1907) (by decide +kernel)) rfl
theorem e_X12_says : Cond.selects yX12_says.cls yX12_says yX12_says ∈ mj_tw := mj_tw_in (List.mem_of_getElem? (i := 70) (by decide +kernel)) rfl
set_option maxRecDepth 100000 in
theorem k_X12_work : Cond.code yX12_work cX12_work 3 ((some FieldType.int)) ∈ lw_tbl := List.mem_of_getElem? (i := 1912) rfl
theorem p_X12_work : yX12_work.cls ≠ "java/lang/invoke/MethodHandle" ∧ yX12_work.cls ≠ "java/lang/invoke/VarHandle" ∧ (parseMethodDescriptor yX12_work.desc).map (fun d => d.parameters.length) = some 0 := by decide +kernel
theorem n_X12_work : Cond.instanceMethod yX12_work ∈ mj_tw := mj_tw_in (List.mem_of_getElem? (i := 1911) (by decide +kernel)) rfl
theorem e_X12_work : Cond.selects yX12_work.cls yX12_work yX12_work ∈ mj_tw := mj_tw_in (List.mem_of_getElem? (i := 71) (by decide +kernel)) rfl
set_option maxRecDepth 100000 in
theorem k_X12_both : Cond.code yX12_both cX12_both 3 ((some FieldType.int)) ∈ lw_tbl := List.mem_of_getElem? (i := 1915) rfl
theorem p_X12_both : yX12_both.cls ≠ "java/lang/invoke/MethodHandle" ∧ yX12_both.cls ≠ "java/lang/invoke/VarHandle" ∧ (parseMethodDescriptor yX12_both.desc).map (fun d => d.parameters.length) = some 3 := by decide +kernel
theorem s_X12_both : Cond.static yX12_both ∈ mj_tw := mj_tw_in (List.mem_of_getElem? (i := 1914) (by decide +kernel)) rfl
set_option maxRecDepth 100000 in
theorem k_X12_bounded : Cond.code yX12_bounded cX12_bounded 2 ((some FieldType.int)) ∈ lw_tbl := List.mem_of_getElem? (i := 1918) rfl
theorem p_X12_bounded : yX12_bounded.cls ≠ "java/lang/invoke/MethodHandle" ∧ yX12_bounded.cls ≠ "java/lang/invoke/VarHandle" ∧ (parseMethodDescriptor yX12_bounded.desc).map (fun d => d.parameters.length) = some 1 := by decide +kernel
theorem s_X12_bounded : Cond.static yX12_bounded ∈ mj_tw := mj_tw_in (List.mem_of_getElem? (i := 1917) (by decide +kernel)) rfl
set_option maxRecDepth 100000 in
theorem k_X12_plain : Cond.code yX12_plain cX12_plain 1 ((some FieldType.int)) ∈ lw_tbl := List.mem_of_getElem? (i := 1925) rfl
theorem p_X12_plain : yX12_plain.cls ≠ "java/lang/invoke/MethodHandle" ∧ yX12_plain.cls ≠ "java/lang/invoke/VarHandle" ∧ (parseMethodDescriptor yX12_plain.desc).map (fun d => d.parameters.length) = some 1 := by decide +kernel
theorem s_X12_plain : Cond.static yX12_plain ∈ mj_tw := mj_tw_in (List.mem_of_getElem? (i := 1924) (by decide +kernel)) rfl
set_option maxRecDepth 100000 in
theorem k_X12_why : Cond.code yX12_why cX12_why 9 ((some FieldType.int)) ∈ lw_tbl := List.mem_of_getElem? (i := 1929) rfl
theorem p_X12_why : yX12_why.cls ≠ "java/lang/invoke/MethodHandle" ∧ yX12_why.cls ≠ "java/lang/invoke/VarHandle" ∧ (parseMethodDescriptor yX12_why.desc).map (fun d => d.parameters.length) = some 8 := by decide +kernel
theorem n_X12_why : Cond.instanceMethod yX12_why ∈ mj_tw := mj_tw_in (List.mem_of_getElem? (i := 1927) (by decide +kernel)) rfl
theorem e_X12_why : Cond.selects yX12_why.cls yX12_why yX12_why ∈ mj_tw := mj_tw_in (List.mem_of_getElem? (i := 1928) (by decide +kernel)) rfl
set_option maxRecDepth 100000 in
theorem k_X12_quarrel : Cond.code yX12_quarrel cX12_quarrel 9 ((some FieldType.int)) ∈ lw_tbl := List.mem_of_getElem? (i := 1933) rfl
theorem p_X12_quarrel : yX12_quarrel.cls ≠ "java/lang/invoke/MethodHandle" ∧ yX12_quarrel.cls ≠ "java/lang/invoke/VarHandle" ∧ (parseMethodDescriptor yX12_quarrel.desc).map (fun d => d.parameters.length) = some 3 := by decide +kernel
theorem n_X12_quarrel : Cond.instanceMethod yX12_quarrel ∈ mj_tw := mj_tw_in (List.mem_of_getElem? (i := 1931) (by decide +kernel)) rfl
theorem e_X12_quarrel : Cond.selects yX12_quarrel.cls yX12_quarrel yX12_quarrel ∈ mj_tw := mj_tw_in (List.mem_of_getElem? (i := 1932) (by decide +kernel)) rfl
set_option maxRecDepth 100000 in
theorem k_X12_places : Cond.code yX12_places cX12_places 4 ((some FieldType.int)) ∈ lw_tbl := List.mem_of_getElem? (i := 1979) rfl
theorem p_X12_places : yX12_places.cls ≠ "java/lang/invoke/MethodHandle" ∧ yX12_places.cls ≠ "java/lang/invoke/VarHandle" ∧ (parseMethodDescriptor yX12_places.desc).map (fun d => d.parameters.length) = some 3 := by decide +kernel
theorem n_X12_places : Cond.instanceMethod yX12_places ∈ mj_tw := mj_tw_in (List.mem_of_getElem? (i := 1977) (by decide +kernel)) rfl
theorem e_X12_places : Cond.selects yX12_places.cls yX12_places yX12_places ∈ mj_tw := mj_tw_in (List.mem_of_getElem? (i := 1978) (by decide +kernel)) rfl
set_option maxRecDepth 100000 in
theorem k_X12_isWeek : Cond.code yX12_isWeek cX12_isWeek 2 ((some FieldType.boolean)) ∈ lw_tbl := List.mem_of_getElem? (i := 1983) rfl
theorem p_X12_isWeek : yX12_isWeek.cls ≠ "java/lang/invoke/MethodHandle" ∧ yX12_isWeek.cls ≠ "java/lang/invoke/VarHandle" ∧ (parseMethodDescriptor yX12_isWeek.desc).map (fun d => d.parameters.length) = some 1 := by decide +kernel
theorem n_X12_isWeek : Cond.instanceMethod yX12_isWeek ∈ mj_tw := mj_tw_in (List.mem_of_getElem? (i := 1982) (by decide +kernel)) rfl
theorem e_X12_isWeek : Cond.selects yX12_isWeek.cls yX12_isWeek yX12_isWeek ∈ mj_tw := mj_tw_in (List.mem_of_getElem? (i := 72) (by decide +kernel)) rfl
set_option maxRecDepth 100000 in
theorem k_X12_placesOf : Cond.code yX12_placesOf cX12_placesOf 7 ((some FieldType.int)) ∈ lw_tbl := List.mem_of_getElem? (i := 1987) rfl
theorem p_X12_placesOf : yX12_placesOf.cls ≠ "java/lang/invoke/MethodHandle" ∧ yX12_placesOf.cls ≠ "java/lang/invoke/VarHandle" ∧ (parseMethodDescriptor yX12_placesOf.desc).map (fun d => d.parameters.length) = some 3 := by decide +kernel
theorem n_X12_placesOf : Cond.instanceMethod yX12_placesOf ∈ mj_tw := mj_tw_in (List.mem_of_getElem? (i := 1986) (by decide +kernel)) rfl
theorem e_X12_placesOf : Cond.selects yX12_placesOf.cls yX12_placesOf yX12_placesOf ∈ mj_tw := mj_tw_in (List.mem_of_getElem? (i := 73) (by decide +kernel)) rfl
set_option maxRecDepth 100000 in
theorem k_X12_isOpen : Cond.code yX12_isOpen cX12_isOpen 4 ((some FieldType.boolean)) ∈ lw_tbl := List.mem_of_getElem? (i := 1991) rfl
theorem p_X12_isOpen : yX12_isOpen.cls ≠ "java/lang/invoke/MethodHandle" ∧ yX12_isOpen.cls ≠ "java/lang/invoke/VarHandle" ∧ (parseMethodDescriptor yX12_isOpen.desc).map (fun d => d.parameters.length) = some 3 := by decide +kernel
theorem n_X12_isOpen : Cond.instanceMethod yX12_isOpen ∈ mj_tw := mj_tw_in (List.mem_of_getElem? (i := 1990) (by decide +kernel)) rfl
theorem e_X12_isOpen : Cond.selects yX12_isOpen.cls yX12_isOpen yX12_isOpen ∈ mj_tw := mj_tw_in (List.mem_of_getElem? (i := 74) (by decide +kernel)) rfl
set_option maxRecDepth 100000 in
theorem k_X12_wasShut : Cond.code yX12_wasShut cX12_wasShut 6 ((some FieldType.boolean)) ∈ lw_tbl := List.mem_of_getElem? (i := 1995) rfl
theorem p_X12_wasShut : yX12_wasShut.cls ≠ "java/lang/invoke/MethodHandle" ∧ yX12_wasShut.cls ≠ "java/lang/invoke/VarHandle" ∧ (parseMethodDescriptor yX12_wasShut.desc).map (fun d => d.parameters.length) = some 3 := by decide +kernel
theorem n_X12_wasShut : Cond.instanceMethod yX12_wasShut ∈ mj_tw := mj_tw_in (List.mem_of_getElem? (i := 1994) (by decide +kernel)) rfl
theorem e_X12_wasShut : Cond.selects yX12_wasShut.cls yX12_wasShut yX12_wasShut ∈ mj_tw := mj_tw_in (List.mem_of_getElem? (i := 75) (by decide +kernel)) rfl
set_option maxRecDepth 100000 in
theorem k_X12_classesOf : Cond.code yX12_classesOf cX12_classesOf 5 ((some FieldType.int)) ∈ lw_tbl := List.mem_of_getElem? (i := 1999) rfl
theorem p_X12_classesOf : yX12_classesOf.cls ≠ "java/lang/invoke/MethodHandle" ∧ yX12_classesOf.cls ≠ "java/lang/invoke/VarHandle" ∧ (parseMethodDescriptor yX12_classesOf.desc).map (fun d => d.parameters.length) = some 3 := by decide +kernel
theorem n_X12_classesOf : Cond.instanceMethod yX12_classesOf ∈ mj_tw := mj_tw_in (List.mem_of_getElem? (i := 1998) (by decide +kernel)) rfl
theorem e_X12_classesOf : Cond.selects yX12_classesOf.cls yX12_classesOf yX12_classesOf ∈ mj_tw := mj_tw_in (List.mem_of_getElem? (i := 76) (by decide +kernel)) rfl
set_option maxRecDepth 100000 in
theorem k_X12_yearOf : Cond.code yX12_yearOf cX12_yearOf 1 ((some FieldType.int)) ∈ lw_tbl := List.mem_of_getElem? (i := 2002) rfl
theorem p_X12_yearOf : yX12_yearOf.cls ≠ "java/lang/invoke/MethodHandle" ∧ yX12_yearOf.cls ≠ "java/lang/invoke/VarHandle" ∧ (parseMethodDescriptor yX12_yearOf.desc).map (fun d => d.parameters.length) = some 1 := by decide +kernel
theorem s_X12_yearOf : Cond.static yX12_yearOf ∈ mj_tw := mj_tw_in (List.mem_of_getElem? (i := 2001) (by decide +kernel)) rfl
set_option maxRecDepth 100000 in
theorem k_X12_reach : Cond.code yX12_reach cX12_reach 5 ((some FieldType.int)) ∈ lw_tbl := List.mem_of_getElem? (i := 2008) rfl
theorem p_X12_reach : yX12_reach.cls ≠ "java/lang/invoke/MethodHandle" ∧ yX12_reach.cls ≠ "java/lang/invoke/VarHandle" ∧ (parseMethodDescriptor yX12_reach.desc).map (fun d => d.parameters.length) = some 4 := by decide +kernel
theorem n_X12_reach : Cond.instanceMethod yX12_reach ∈ mj_tw := mj_tw_in (List.mem_of_getElem? (i := 2006) (by decide +kernel)) rfl
theorem e_X12_reach : Cond.selects yX12_reach.cls yX12_reach yX12_reach ∈ mj_tw := mj_tw_in (List.mem_of_getElem? (i := 2007) (by decide +kernel)) rfl
set_option maxRecDepth 100000 in
theorem k_X12_reaches : Cond.code yX12_reaches cX12_reaches 6 ((some FieldType.boolean)) ∈ lw_tbl := List.mem_of_getElem? (i := 2012) rfl
theorem p_X12_reaches : yX12_reaches.cls ≠ "java/lang/invoke/MethodHandle" ∧ yX12_reaches.cls ≠ "java/lang/invoke/VarHandle" ∧ (parseMethodDescriptor yX12_reaches.desc).map (fun d => d.parameters.length) = some 4 := by decide +kernel
theorem n_X12_reaches : Cond.instanceMethod yX12_reaches ∈ mj_tw := mj_tw_in (List.mem_of_getElem? (i := 2011) (by decide +kernel)) rfl
theorem e_X12_reaches : Cond.selects yX12_reaches.cls yX12_reaches yX12_reaches ∈ mj_tw := mj_tw_in (List.mem_of_getElem? (i := 77) (by decide +kernel)) rfl
set_option maxRecDepth 100000 in
theorem k_X12_walkIn : Cond.code yX12_walkIn cX12_walkIn 4 ((some FieldType.int)) ∈ lw_tbl := List.mem_of_getElem? (i := 2016) rfl
theorem p_X12_walkIn : yX12_walkIn.cls ≠ "java/lang/invoke/MethodHandle" ∧ yX12_walkIn.cls ≠ "java/lang/invoke/VarHandle" ∧ (parseMethodDescriptor yX12_walkIn.desc).map (fun d => d.parameters.length) = some 3 := by decide +kernel
theorem n_X12_walkIn : Cond.instanceMethod yX12_walkIn ∈ mj_tw := mj_tw_in (List.mem_of_getElem? (i := 2015) (by decide +kernel)) rfl
theorem e_X12_walkIn : Cond.selects yX12_walkIn.cls yX12_walkIn yX12_walkIn ∈ mj_tw := mj_tw_in (List.mem_of_getElem? (i := 78) (by decide +kernel)) rfl
set_option maxRecDepth 100000 in
theorem k_X12_mayWalk : Cond.code yX12_mayWalk cX12_mayWalk 5 ((some FieldType.int)) ∈ lw_tbl := List.mem_of_getElem? (i := 2020) rfl
theorem p_X12_mayWalk : yX12_mayWalk.cls ≠ "java/lang/invoke/MethodHandle" ∧ yX12_mayWalk.cls ≠ "java/lang/invoke/VarHandle" ∧ (parseMethodDescriptor yX12_mayWalk.desc).map (fun d => d.parameters.length) = some 3 := by decide +kernel
theorem n_X12_mayWalk : Cond.instanceMethod yX12_mayWalk ∈ mj_tw := mj_tw_in (List.mem_of_getElem? (i := 2019) (by decide +kernel)) rfl
theorem e_X12_mayWalk : Cond.selects yX12_mayWalk.cls yX12_mayWalk yX12_mayWalk ∈ mj_tw := mj_tw_in (List.mem_of_getElem? (i := 79) (by decide +kernel)) rfl
set_option maxRecDepth 100000 in
theorem k_X12_children : Cond.code yX12_children cX12_children 4 ((some FieldType.int)) ∈ lw_tbl := List.mem_of_getElem? (i := 2024) rfl
theorem p_X12_children : yX12_children.cls ≠ "java/lang/invoke/MethodHandle" ∧ yX12_children.cls ≠ "java/lang/invoke/VarHandle" ∧ (parseMethodDescriptor yX12_children.desc).map (fun d => d.parameters.length) = some 3 := by decide +kernel
theorem n_X12_children : Cond.instanceMethod yX12_children ∈ mj_tw := mj_tw_in (List.mem_of_getElem? (i := 2023) (by decide +kernel)) rfl
theorem e_X12_children : Cond.selects yX12_children.cls yX12_children yX12_children ∈ mj_tw := mj_tw_in (List.mem_of_getElem? (i := 80) (by decide +kernel)) rfl
set_option maxRecDepth 100000 in
theorem k_X12_isTongueRight : Cond.code yX12_isTongueRight cX12_isTongueRight 6 ((some FieldType.boolean)) ∈ lw_tbl := List.mem_of_getElem? (i := 2028) rfl
theorem p_X12_isTongueRight : yX12_isTongueRight.cls ≠ "java/lang/invoke/MethodHandle" ∧ yX12_isTongueRight.cls ≠ "java/lang/invoke/VarHandle" ∧ (parseMethodDescriptor yX12_isTongueRight.desc).map (fun d => d.parameters.length) = some 4 := by decide +kernel
theorem n_X12_isTongueRight : Cond.instanceMethod yX12_isTongueRight ∈ mj_tw := mj_tw_in (List.mem_of_getElem? (i := 2027) (by decide +kernel)) rfl
theorem e_X12_isTongueRight : Cond.selects yX12_isTongueRight.cls yX12_isTongueRight yX12_isTongueRight ∈ mj_tw := mj_tw_in (List.mem_of_getElem? (i := 81) (by decide +kernel)) rfl
set_option maxRecDepth 100000 in
theorem k_X12_seated : Cond.code yX12_seated cX12_seated 7 ((some FieldType.int)) ∈ lw_tbl := List.mem_of_getElem? (i := 2032) rfl
theorem p_X12_seated : yX12_seated.cls ≠ "java/lang/invoke/MethodHandle" ∧ yX12_seated.cls ≠ "java/lang/invoke/VarHandle" ∧ (parseMethodDescriptor yX12_seated.desc).map (fun d => d.parameters.length) = some 4 := by decide +kernel
theorem n_X12_seated : Cond.instanceMethod yX12_seated ∈ mj_tw := mj_tw_in (List.mem_of_getElem? (i := 2030) (by decide +kernel)) rfl
theorem e_X12_seated : Cond.selects yX12_seated.cls yX12_seated yX12_seated ∈ mj_tw := mj_tw_in (List.mem_of_getElem? (i := 2031) (by decide +kernel)) rfl
set_option maxRecDepth 100000 in
theorem k_X12_seatAll : Cond.code yX12_seatAll cX12_seatAll 9 (none) ∈ lw_tbl := List.mem_of_getElem? (i := 2036) rfl
theorem p_X12_seatAll : yX12_seatAll.cls ≠ "java/lang/invoke/MethodHandle" ∧ yX12_seatAll.cls ≠ "java/lang/invoke/VarHandle" ∧ (parseMethodDescriptor yX12_seatAll.desc).map (fun d => d.parameters.length) = some 2 := by decide +kernel
theorem n_X12_seatAll : Cond.instanceMethod yX12_seatAll ∈ mj_tw := mj_tw_in (List.mem_of_getElem? (i := 2035) (by decide +kernel)) rfl
theorem e_X12_seatAll : Cond.selects yX12_seatAll.cls yX12_seatAll yX12_seatAll ∈ mj_tw := mj_tw_in (List.mem_of_getElem? (i := 82) (by decide +kernel)) rfl
set_option maxRecDepth 100000 in
theorem k_X12_gather : Cond.code yX12_gather cX12_gather 7 (none) ∈ lw_tbl := List.mem_of_getElem? (i := 2040) rfl
theorem p_X12_gather : yX12_gather.cls ≠ "java/lang/invoke/MethodHandle" ∧ yX12_gather.cls ≠ "java/lang/invoke/VarHandle" ∧ (parseMethodDescriptor yX12_gather.desc).map (fun d => d.parameters.length) = some 2 := by decide +kernel
theorem n_X12_gather : Cond.instanceMethod yX12_gather ∈ mj_tw := mj_tw_in (List.mem_of_getElem? (i := 2039) (by decide +kernel)) rfl
theorem e_X12_gather : Cond.selects yX12_gather.cls yX12_gather yX12_gather ∈ mj_tw := mj_tw_in (List.mem_of_getElem? (i := 83) (by decide +kernel)) rfl
set_option maxRecDepth 100000 in
theorem k_X12_unseated : Cond.code yX12_unseated cX12_unseated 6 ((some FieldType.int)) ∈ lw_tbl := List.mem_of_getElem? (i := 2044) rfl
theorem p_X12_unseated : yX12_unseated.cls ≠ "java/lang/invoke/MethodHandle" ∧ yX12_unseated.cls ≠ "java/lang/invoke/VarHandle" ∧ (parseMethodDescriptor yX12_unseated.desc).map (fun d => d.parameters.length) = some 3 := by decide +kernel
theorem n_X12_unseated : Cond.instanceMethod yX12_unseated ∈ mj_tw := mj_tw_in (List.mem_of_getElem? (i := 2042) (by decide +kernel)) rfl
theorem e_X12_unseated : Cond.selects yX12_unseated.cls yX12_unseated yX12_unseated ∈ mj_tw := mj_tw_in (List.mem_of_getElem? (i := 2043) (by decide +kernel)) rfl
set_option maxRecDepth 100000 in
theorem k_X12_most : Cond.code yX12_most cX12_most 6 ((some FieldType.int)) ∈ lw_tbl := List.mem_of_getElem? (i := 2048) rfl
theorem p_X12_most : yX12_most.cls ≠ "java/lang/invoke/MethodHandle" ∧ yX12_most.cls ≠ "java/lang/invoke/VarHandle" ∧ (parseMethodDescriptor yX12_most.desc).map (fun d => d.parameters.length) = some 2 := by decide +kernel
theorem n_X12_most : Cond.instanceMethod yX12_most ∈ mj_tw := mj_tw_in (List.mem_of_getElem? (i := 2046) (by decide +kernel)) rfl
theorem e_X12_most : Cond.selects yX12_most.cls yX12_most yX12_most ∈ mj_tw := mj_tw_in (List.mem_of_getElem? (i := 2047) (by decide +kernel)) rfl
set_option maxRecDepth 100000 in
theorem k_X12_push : Cond.code yX12_push cX12_push 7 ((some FieldType.int)) ∈ lw_tbl := List.mem_of_getElem? (i := 2052) rfl
theorem p_X12_push : yX12_push.cls ≠ "java/lang/invoke/MethodHandle" ∧ yX12_push.cls ≠ "java/lang/invoke/VarHandle" ∧ (parseMethodDescriptor yX12_push.desc).map (fun d => d.parameters.length) = some 1 := by decide +kernel
theorem n_X12_push : Cond.instanceMethod yX12_push ∈ mj_tw := mj_tw_in (List.mem_of_getElem? (i := 2051) (by decide +kernel)) rfl
theorem e_X12_push : Cond.selects yX12_push.cls yX12_push yX12_push ∈ mj_tw := mj_tw_in (List.mem_of_getElem? (i := 84) (by decide +kernel)) rfl
set_option maxRecDepth 100000 in
theorem k_X12_carry : Cond.code yX12_carry cX12_carry 6 ((some FieldType.int)) ∈ lw_tbl := List.mem_of_getElem? (i := 2056) rfl
theorem p_X12_carry : yX12_carry.cls ≠ "java/lang/invoke/MethodHandle" ∧ yX12_carry.cls ≠ "java/lang/invoke/VarHandle" ∧ (parseMethodDescriptor yX12_carry.desc).map (fun d => d.parameters.length) = some 2 := by decide +kernel
theorem n_X12_carry : Cond.instanceMethod yX12_carry ∈ mj_tw := mj_tw_in (List.mem_of_getElem? (i := 2055) (by decide +kernel)) rfl
theorem e_X12_carry : Cond.selects yX12_carry.cls yX12_carry yX12_carry ∈ mj_tw := mj_tw_in (List.mem_of_getElem? (i := 85) (by decide +kernel)) rfl
set_option maxRecDepth 100000 in
theorem k_X12_site : Cond.code yX12_site cX12_site 2 ((some FieldType.int)) ∈ lw_tbl := List.mem_of_getElem? (i := 2060) rfl
theorem p_X12_site : yX12_site.cls ≠ "java/lang/invoke/MethodHandle" ∧ yX12_site.cls ≠ "java/lang/invoke/VarHandle" ∧ (parseMethodDescriptor yX12_site.desc).map (fun d => d.parameters.length) = some 1 := by decide +kernel
theorem n_X12_site : Cond.instanceMethod yX12_site ∈ mj_tw := mj_tw_in (List.mem_of_getElem? (i := 2058) (by decide +kernel)) rfl
theorem e_X12_site : Cond.selects yX12_site.cls yX12_site yX12_site ∈ mj_tw := mj_tw_in (List.mem_of_getElem? (i := 2059) (by decide +kernel)) rfl
set_option maxRecDepth 100000 in
theorem k_X12_cover : Cond.code yX12_cover cX12_cover 3 ((some FieldType.int)) ∈ lw_tbl := List.mem_of_getElem? (i := 2064) rfl
theorem p_X12_cover : yX12_cover.cls ≠ "java/lang/invoke/MethodHandle" ∧ yX12_cover.cls ≠ "java/lang/invoke/VarHandle" ∧ (parseMethodDescriptor yX12_cover.desc).map (fun d => d.parameters.length) = some 2 := by decide +kernel
theorem n_X12_cover : Cond.instanceMethod yX12_cover ∈ mj_tw := mj_tw_in (List.mem_of_getElem? (i := 2062) (by decide +kernel)) rfl
theorem e_X12_cover : Cond.selects yX12_cover.cls yX12_cover yX12_cover ∈ mj_tw := mj_tw_in (List.mem_of_getElem? (i := 2063) (by decide +kernel)) rfl
set_option maxRecDepth 100000 in
theorem k_X12_mayCover : Cond.code yX12_mayCover cX12_mayCover 3 ((some FieldType.boolean)) ∈ lw_tbl := List.mem_of_getElem? (i := 2068) rfl
theorem p_X12_mayCover : yX12_mayCover.cls ≠ "java/lang/invoke/MethodHandle" ∧ yX12_mayCover.cls ≠ "java/lang/invoke/VarHandle" ∧ (parseMethodDescriptor yX12_mayCover.desc).map (fun d => d.parameters.length) = some 2 := by decide +kernel
theorem n_X12_mayCover : Cond.instanceMethod yX12_mayCover ∈ mj_tw := mj_tw_in (List.mem_of_getElem? (i := 2067) (by decide +kernel)) rfl
theorem e_X12_mayCover : Cond.selects yX12_mayCover.cls yX12_mayCover yX12_mayCover ∈ mj_tw := mj_tw_in (List.mem_of_getElem? (i := 86) (by decide +kernel)) rfl
set_option maxRecDepth 100000 in
theorem k_X12_look_ : Cond.code yX12_look_ cX12_look_ 7 (none) ∈ lw_tbl := List.mem_of_getElem? (i := 2072) rfl
theorem p_X12_look_ : yX12_look_.cls ≠ "java/lang/invoke/MethodHandle" ∧ yX12_look_.cls ≠ "java/lang/invoke/VarHandle" ∧ (parseMethodDescriptor yX12_look_.desc).map (fun d => d.parameters.length) = some 2 := by decide +kernel
theorem n_X12_look_ : Cond.instanceMethod yX12_look_ ∈ mj_tw := mj_tw_in (List.mem_of_getElem? (i := 2071) (by decide +kernel)) rfl
theorem e_X12_look_ : Cond.selects yX12_look_.cls yX12_look_ yX12_look_ ∈ mj_tw := mj_tw_in (List.mem_of_getElem? (i := 87) (by decide +kernel)) rfl
set_option maxRecDepth 100000 in
theorem k_X12_fewest : Cond.code yX12_fewest cX12_fewest 8 ((some FieldType.int)) ∈ lw_tbl := List.mem_of_getElem? (i := 2076) rfl
theorem p_X12_fewest : yX12_fewest.cls ≠ "java/lang/invoke/MethodHandle" ∧ yX12_fewest.cls ≠ "java/lang/invoke/VarHandle" ∧ (parseMethodDescriptor yX12_fewest.desc).map (fun d => d.parameters.length) = some 2 := by decide +kernel
theorem n_X12_fewest : Cond.instanceMethod yX12_fewest ∈ mj_tw := mj_tw_in (List.mem_of_getElem? (i := 2075) (by decide +kernel)) rfl
theorem e_X12_fewest : Cond.selects yX12_fewest.cls yX12_fewest yX12_fewest ∈ mj_tw := mj_tw_in (List.mem_of_getElem? (i := 88) (by decide +kernel)) rfl
set_option maxRecDepth 100000 in
theorem k_X12_firstLeft : Cond.code yX12_firstLeft cX12_firstLeft 4 ((some FieldType.int)) ∈ lw_tbl := List.mem_of_getElem? (i := 2080) rfl
theorem p_X12_firstLeft : yX12_firstLeft.cls ≠ "java/lang/invoke/MethodHandle" ∧ yX12_firstLeft.cls ≠ "java/lang/invoke/VarHandle" ∧ (parseMethodDescriptor yX12_firstLeft.desc).map (fun d => d.parameters.length) = some 2 := by decide +kernel
theorem n_X12_firstLeft : Cond.instanceMethod yX12_firstLeft ∈ mj_tw := mj_tw_in (List.mem_of_getElem? (i := 2079) (by decide +kernel)) rfl
theorem e_X12_firstLeft : Cond.selects yX12_firstLeft.cls yX12_firstLeft yX12_firstLeft ∈ mj_tw := mj_tw_in (List.mem_of_getElem? (i := 89) (by decide +kernel)) rfl
set_option maxRecDepth 100000 in
theorem k_X12_beyond : Cond.code yX12_beyond cX12_beyond 3 ((some FieldType.int)) ∈ lw_tbl := List.mem_of_getElem? (i := 2085) rfl
theorem p_X12_beyond : yX12_beyond.cls ≠ "java/lang/invoke/MethodHandle" ∧ yX12_beyond.cls ≠ "java/lang/invoke/VarHandle" ∧ (parseMethodDescriptor yX12_beyond.desc).map (fun d => d.parameters.length) = some 2 := by decide +kernel
theorem n_X12_beyond : Cond.instanceMethod yX12_beyond ∈ mj_tw := mj_tw_in (List.mem_of_getElem? (i := 2083) (by decide +kernel)) rfl
theorem e_X12_beyond : Cond.selects yX12_beyond.cls yX12_beyond yX12_beyond ∈ mj_tw := mj_tw_in (List.mem_of_getElem? (i := 2084) (by decide +kernel)) rfl
set_option maxRecDepth 100000 in
theorem k_X12_judge : Cond.code yX12_judge cX12_judge 4 ((some FieldType.int)) ∈ lw_tbl := List.mem_of_getElem? (i := 2089) rfl
theorem p_X12_judge : yX12_judge.cls ≠ "java/lang/invoke/MethodHandle" ∧ yX12_judge.cls ≠ "java/lang/invoke/VarHandle" ∧ (parseMethodDescriptor yX12_judge.desc).map (fun d => d.parameters.length) = some 3 := by decide +kernel
theorem n_X12_judge : Cond.instanceMethod yX12_judge ∈ mj_tw := mj_tw_in (List.mem_of_getElem? (i := 2087) (by decide +kernel)) rfl
theorem e_X12_judge : Cond.selects yX12_judge.cls yX12_judge yX12_judge ∈ mj_tw := mj_tw_in (List.mem_of_getElem? (i := 2088) (by decide +kernel)) rfl
set_option maxRecDepth 100000 in
theorem k_X12_maker : Cond.code yX12_maker cX12_maker 5 ((some FieldType.int)) ∈ lw_tbl := List.mem_of_getElem? (i := 2093) rfl
theorem p_X12_maker : yX12_maker.cls ≠ "java/lang/invoke/MethodHandle" ∧ yX12_maker.cls ≠ "java/lang/invoke/VarHandle" ∧ (parseMethodDescriptor yX12_maker.desc).map (fun d => d.parameters.length) = some 4 := by decide +kernel
theorem n_X12_maker : Cond.instanceMethod yX12_maker ∈ mj_tw := mj_tw_in (List.mem_of_getElem? (i := 2091) (by decide +kernel)) rfl
theorem e_X12_maker : Cond.selects yX12_maker.cls yX12_maker yX12_maker ∈ mj_tw := mj_tw_in (List.mem_of_getElem? (i := 2092) (by decide +kernel)) rfl
set_option maxRecDepth 100000 in
theorem k_X12_lorry : Cond.code yX12_lorry cX12_lorry 2 ((some FieldType.int)) ∈ lw_tbl := List.mem_of_getElem? (i := 2097) rfl
theorem p_X12_lorry : yX12_lorry.cls ≠ "java/lang/invoke/MethodHandle" ∧ yX12_lorry.cls ≠ "java/lang/invoke/VarHandle" ∧ (parseMethodDescriptor yX12_lorry.desc).map (fun d => d.parameters.length) = some 1 := by decide +kernel
theorem n_X12_lorry : Cond.instanceMethod yX12_lorry ∈ mj_tw := mj_tw_in (List.mem_of_getElem? (i := 2095) (by decide +kernel)) rfl
theorem e_X12_lorry : Cond.selects yX12_lorry.cls yX12_lorry yX12_lorry ∈ mj_tw := mj_tw_in (List.mem_of_getElem? (i := 2096) (by decide +kernel)) rfl
set_option maxRecDepth 100000 in
theorem k_X12_parts : Cond.code yX12_parts cX12_parts 3 ((some FieldType.int)) ∈ lw_tbl := List.mem_of_getElem? (i := 2101) rfl
theorem p_X12_parts : yX12_parts.cls ≠ "java/lang/invoke/MethodHandle" ∧ yX12_parts.cls ≠ "java/lang/invoke/VarHandle" ∧ (parseMethodDescriptor yX12_parts.desc).map (fun d => d.parameters.length) = some 2 := by decide +kernel
theorem n_X12_parts : Cond.instanceMethod yX12_parts ∈ mj_tw := mj_tw_in (List.mem_of_getElem? (i := 2099) (by decide +kernel)) rfl
theorem e_X12_parts : Cond.selects yX12_parts.cls yX12_parts yX12_parts ∈ mj_tw := mj_tw_in (List.mem_of_getElem? (i := 2100) (by decide +kernel)) rfl
set_option maxRecDepth 100000 in
theorem k_X12_promise : Cond.code yX12_promise cX12_promise 3 ((some FieldType.boolean)) ∈ lw_tbl := List.mem_of_getElem? (i := 2105) rfl
theorem p_X12_promise : yX12_promise.cls ≠ "java/lang/invoke/MethodHandle" ∧ yX12_promise.cls ≠ "java/lang/invoke/VarHandle" ∧ (parseMethodDescriptor yX12_promise.desc).map (fun d => d.parameters.length) = some 2 := by decide +kernel
theorem n_X12_promise : Cond.instanceMethod yX12_promise ∈ mj_tw := mj_tw_in (List.mem_of_getElem? (i := 2103) (by decide +kernel)) rfl
theorem e_X12_promise : Cond.selects yX12_promise.cls yX12_promise yX12_promise ∈ mj_tw := mj_tw_in (List.mem_of_getElem? (i := 2104) (by decide +kernel)) rfl
set_option maxRecDepth 100000 in
theorem k_X12_give : Cond.code yX12_give cX12_give 4 ((some FieldType.boolean)) ∈ lw_tbl := List.mem_of_getElem? (i := 2109) rfl
theorem p_X12_give : yX12_give.cls ≠ "java/lang/invoke/MethodHandle" ∧ yX12_give.cls ≠ "java/lang/invoke/VarHandle" ∧ (parseMethodDescriptor yX12_give.desc).map (fun d => d.parameters.length) = some 3 := by decide +kernel
theorem n_X12_give : Cond.instanceMethod yX12_give ∈ mj_tw := mj_tw_in (List.mem_of_getElem? (i := 2107) (by decide +kernel)) rfl
theorem e_X12_give : Cond.selects yX12_give.cls yX12_give yX12_give ∈ mj_tw := mj_tw_in (List.mem_of_getElem? (i := 2108) (by decide +kernel)) rfl
set_option maxRecDepth 100000 in
theorem k_X12_lack : Cond.code yX12_lack cX12_lack 3 ((some FieldType.int)) ∈ lw_tbl := List.mem_of_getElem? (i := 2113) rfl
theorem p_X12_lack : yX12_lack.cls ≠ "java/lang/invoke/MethodHandle" ∧ yX12_lack.cls ≠ "java/lang/invoke/VarHandle" ∧ (parseMethodDescriptor yX12_lack.desc).map (fun d => d.parameters.length) = some 1 := by decide +kernel
theorem n_X12_lack : Cond.instanceMethod yX12_lack ∈ mj_tw := mj_tw_in (List.mem_of_getElem? (i := 2111) (by decide +kernel)) rfl
theorem e_X12_lack : Cond.selects yX12_lack.cls yX12_lack yX12_lack ∈ mj_tw := mj_tw_in (List.mem_of_getElem? (i := 2112) (by decide +kernel)) rfl
set_option maxRecDepth 100000 in
theorem k_X12_lacksKind : Cond.code yX12_lacksKind cX12_lacksKind 3 ((some FieldType.int)) ∈ lw_tbl := List.mem_of_getElem? (i := 2117) rfl
theorem p_X12_lacksKind : yX12_lacksKind.cls ≠ "java/lang/invoke/MethodHandle" ∧ yX12_lacksKind.cls ≠ "java/lang/invoke/VarHandle" ∧ (parseMethodDescriptor yX12_lacksKind.desc).map (fun d => d.parameters.length) = some 1 := by decide +kernel
theorem n_X12_lacksKind : Cond.instanceMethod yX12_lacksKind ∈ mj_tw := mj_tw_in (List.mem_of_getElem? (i := 2116) (by decide +kernel)) rfl
theorem e_X12_lacksKind : Cond.selects yX12_lacksKind.cls yX12_lacksKind yX12_lacksKind ∈ mj_tw := mj_tw_in (List.mem_of_getElem? (i := 90) (by decide +kernel)) rfl
set_option maxRecDepth 100000 in
theorem k_X12_isGiven : Cond.code yX12_isGiven cX12_isGiven 4 ((some FieldType.boolean)) ∈ lw_tbl := List.mem_of_getElem? (i := 2121) rfl
theorem p_X12_isGiven : yX12_isGiven.cls ≠ "java/lang/invoke/MethodHandle" ∧ yX12_isGiven.cls ≠ "java/lang/invoke/VarHandle" ∧ (parseMethodDescriptor yX12_isGiven.desc).map (fun d => d.parameters.length) = some 1 := by decide +kernel
theorem n_X12_isGiven : Cond.instanceMethod yX12_isGiven ∈ mj_tw := mj_tw_in (List.mem_of_getElem? (i := 2120) (by decide +kernel)) rfl
theorem e_X12_isGiven : Cond.selects yX12_isGiven.cls yX12_isGiven yX12_isGiven ∈ mj_tw := mj_tw_in (List.mem_of_getElem? (i := 91) (by decide +kernel)) rfl
set_option maxRecDepth 100000 in
theorem k_X12_weeks : Cond.code yX12_weeks cX12_weeks 4 ((some FieldType.int)) ∈ lw_tbl := List.mem_of_getElem? (i := 2125) rfl
theorem p_X12_weeks : yX12_weeks.cls ≠ "java/lang/invoke/MethodHandle" ∧ yX12_weeks.cls ≠ "java/lang/invoke/VarHandle" ∧ (parseMethodDescriptor yX12_weeks.desc).map (fun d => d.parameters.length) = some 1 := by decide +kernel
theorem n_X12_weeks : Cond.instanceMethod yX12_weeks ∈ mj_tw := mj_tw_in (List.mem_of_getElem? (i := 2123) (by decide +kernel)) rfl
theorem e_X12_weeks : Cond.selects yX12_weeks.cls yX12_weeks yX12_weeks ∈ mj_tw := mj_tw_in (List.mem_of_getElem? (i := 2124) (by decide +kernel)) rfl
set_option maxRecDepth 100000 in
theorem k_X12_drive : Cond.code yX12_drive cX12_drive 6 (none) ∈ lw_tbl := List.mem_of_getElem? (i := 2129) rfl
theorem p_X12_drive : yX12_drive.cls ≠ "java/lang/invoke/MethodHandle" ∧ yX12_drive.cls ≠ "java/lang/invoke/VarHandle" ∧ (parseMethodDescriptor yX12_drive.desc).map (fun d => d.parameters.length) = some 1 := by decide +kernel
theorem n_X12_drive : Cond.instanceMethod yX12_drive ∈ mj_tw := mj_tw_in (List.mem_of_getElem? (i := 2128) (by decide +kernel)) rfl
theorem e_X12_drive : Cond.selects yX12_drive.cls yX12_drive yX12_drive ∈ mj_tw := mj_tw_in (List.mem_of_getElem? (i := 92) (by decide +kernel)) rfl
set_option maxRecDepth 100000 in
theorem k_X12_wants : Cond.code yX12_wants cX12_wants 3 ((some FieldType.boolean)) ∈ lw_tbl := List.mem_of_getElem? (i := 2133) rfl
theorem p_X12_wants : yX12_wants.cls ≠ "java/lang/invoke/MethodHandle" ∧ yX12_wants.cls ≠ "java/lang/invoke/VarHandle" ∧ (parseMethodDescriptor yX12_wants.desc).map (fun d => d.parameters.length) = some 1 := by decide +kernel
theorem n_X12_wants : Cond.instanceMethod yX12_wants ∈ mj_tw := mj_tw_in (List.mem_of_getElem? (i := 2132) (by decide +kernel)) rfl
theorem e_X12_wants : Cond.selects yX12_wants.cls yX12_wants yX12_wants ∈ mj_tw := mj_tw_in (List.mem_of_getElem? (i := 93) (by decide +kernel)) rfl
set_option maxRecDepth 100000 in
theorem k_X12_teacher : Cond.code yX12_teacher cX12_teacher 5 ((some FieldType.int)) ∈ lw_tbl := List.mem_of_getElem? (i := 2137) rfl
theorem p_X12_teacher : yX12_teacher.cls ≠ "java/lang/invoke/MethodHandle" ∧ yX12_teacher.cls ≠ "java/lang/invoke/VarHandle" ∧ (parseMethodDescriptor yX12_teacher.desc).map (fun d => d.parameters.length) = some 4 := by decide +kernel
theorem n_X12_teacher : Cond.instanceMethod yX12_teacher ∈ mj_tw := mj_tw_in (List.mem_of_getElem? (i := 2135) (by decide +kernel)) rfl
theorem e_X12_teacher : Cond.selects yX12_teacher.cls yX12_teacher yX12_teacher ∈ mj_tw := mj_tw_in (List.mem_of_getElem? (i := 2136) (by decide +kernel)) rfl
set_option maxRecDepth 100000 in
theorem k_X12_sent : Cond.code yX12_sent cX12_sent 4 ((some FieldType.int)) ∈ lw_tbl := List.mem_of_getElem? (i := 2141) rfl
theorem p_X12_sent : yX12_sent.cls ≠ "java/lang/invoke/MethodHandle" ∧ yX12_sent.cls ≠ "java/lang/invoke/VarHandle" ∧ (parseMethodDescriptor yX12_sent.desc).map (fun d => d.parameters.length) = some 3 := by decide +kernel
theorem n_X12_sent : Cond.instanceMethod yX12_sent ∈ mj_tw := mj_tw_in (List.mem_of_getElem? (i := 2139) (by decide +kernel)) rfl
theorem e_X12_sent : Cond.selects yX12_sent.cls yX12_sent yX12_sent ∈ mj_tw := mj_tw_in (List.mem_of_getElem? (i := 2140) (by decide +kernel)) rfl
set_option maxRecDepth 100000 in
theorem k_X12_sendAll : Cond.code yX12_sendAll cX12_sendAll 6 (none) ∈ lw_tbl := List.mem_of_getElem? (i := 2145) rfl
theorem p_X12_sendAll : yX12_sendAll.cls ≠ "java/lang/invoke/MethodHandle" ∧ yX12_sendAll.cls ≠ "java/lang/invoke/VarHandle" ∧ (parseMethodDescriptor yX12_sendAll.desc).map (fun d => d.parameters.length) = some 2 := by decide +kernel
theorem n_X12_sendAll : Cond.instanceMethod yX12_sendAll ∈ mj_tw := mj_tw_in (List.mem_of_getElem? (i := 2144) (by decide +kernel)) rfl
theorem e_X12_sendAll : Cond.selects yX12_sendAll.cls yX12_sendAll yX12_sendAll ∈ mj_tw := mj_tw_in (List.mem_of_getElem? (i := 94) (by decide +kernel)) rfl
set_option maxRecDepth 100000 in
theorem k_X12_mayTeach : Cond.code yX12_mayTeach cX12_mayTeach 7 ((some FieldType.boolean)) ∈ lw_tbl := List.mem_of_getElem? (i := 2149) rfl
theorem p_X12_mayTeach : yX12_mayTeach.cls ≠ "java/lang/invoke/MethodHandle" ∧ yX12_mayTeach.cls ≠ "java/lang/invoke/VarHandle" ∧ (parseMethodDescriptor yX12_mayTeach.desc).map (fun d => d.parameters.length) = some 4 := by decide +kernel
theorem n_X12_mayTeach : Cond.instanceMethod yX12_mayTeach ∈ mj_tw := mj_tw_in (List.mem_of_getElem? (i := 2148) (by decide +kernel)) rfl
theorem e_X12_mayTeach : Cond.selects yX12_mayTeach.cls yX12_mayTeach yX12_mayTeach ∈ mj_tw := mj_tw_in (List.mem_of_getElem? (i := 95) (by decide +kernel)) rfl
set_option maxRecDepth 100000 in
theorem k_X12_teacherless : Cond.code yX12_teacherless cX12_teacherless 6 ((some FieldType.int)) ∈ lw_tbl := List.mem_of_getElem? (i := 2153) rfl
theorem p_X12_teacherless : yX12_teacherless.cls ≠ "java/lang/invoke/MethodHandle" ∧ yX12_teacherless.cls ≠ "java/lang/invoke/VarHandle" ∧ (parseMethodDescriptor yX12_teacherless.desc).map (fun d => d.parameters.length) = some 3 := by decide +kernel
theorem n_X12_teacherless : Cond.instanceMethod yX12_teacherless ∈ mj_tw := mj_tw_in (List.mem_of_getElem? (i := 2151) (by decide +kernel)) rfl
theorem e_X12_teacherless : Cond.selects yX12_teacherless.cls yX12_teacherless yX12_teacherless ∈ mj_tw := mj_tw_in (List.mem_of_getElem? (i := 2152) (by decide +kernel)) rfl
set_option maxRecDepth 100000 in
theorem k_X12_recount : Cond.code yX12_recount cX12_recount 4 ((some FieldType.boolean)) ∈ lw_tbl := List.mem_of_getElem? (i := 2157) rfl
theorem p_X12_recount : yX12_recount.cls ≠ "java/lang/invoke/MethodHandle" ∧ yX12_recount.cls ≠ "java/lang/invoke/VarHandle" ∧ (parseMethodDescriptor yX12_recount.desc).map (fun d => d.parameters.length) = some 3 := by decide +kernel
theorem n_X12_recount : Cond.instanceMethod yX12_recount ∈ mj_tw := mj_tw_in (List.mem_of_getElem? (i := 2155) (by decide +kernel)) rfl
theorem e_X12_recount : Cond.selects yX12_recount.cls yX12_recount yX12_recount ∈ mj_tw := mj_tw_in (List.mem_of_getElem? (i := 2156) (by decide +kernel)) rfl
set_option maxRecDepth 100000 in
theorem k_X12_span : Cond.code yX12_span cX12_span 12 ((some FieldType.int)) ∈ lw_tbl := List.mem_of_getElem? (i := 2161) rfl
theorem p_X12_span : yX12_span.cls ≠ "java/lang/invoke/MethodHandle" ∧ yX12_span.cls ≠ "java/lang/invoke/VarHandle" ∧ (parseMethodDescriptor yX12_span.desc).map (fun d => d.parameters.length) = some 4 := by decide +kernel
theorem n_X12_span : Cond.instanceMethod yX12_span ∈ mj_tw := mj_tw_in (List.mem_of_getElem? (i := 2159) (by decide +kernel)) rfl
theorem e_X12_span : Cond.selects yX12_span.cls yX12_span yX12_span ∈ mj_tw := mj_tw_in (List.mem_of_getElem? (i := 2160) (by decide +kernel)) rfl
set_option maxRecDepth 100000 in
theorem k_X12_strength : Cond.code yX12_strength cX12_strength 3 ((some FieldType.boolean)) ∈ lw_tbl := List.mem_of_getElem? (i := 2166) rfl
theorem p_X12_strength : yX12_strength.cls ≠ "java/lang/invoke/MethodHandle" ∧ yX12_strength.cls ≠ "java/lang/invoke/VarHandle" ∧ (parseMethodDescriptor yX12_strength.desc).map (fun d => d.parameters.length) = some 2 := by decide +kernel
theorem n_X12_strength : Cond.instanceMethod yX12_strength ∈ mj_tw := mj_tw_in (List.mem_of_getElem? (i := 2164) (by decide +kernel)) rfl
theorem e_X12_strength : Cond.selects yX12_strength.cls yX12_strength yX12_strength ∈ mj_tw := mj_tw_in (List.mem_of_getElem? (i := 2165) (by decide +kernel)) rfl
set_option maxRecDepth 100000 in
theorem k_X12_roof : Cond.code yX12_roof cX12_roof 4 ((some FieldType.boolean)) ∈ lw_tbl := List.mem_of_getElem? (i := 2170) rfl
theorem p_X12_roof : yX12_roof.cls ≠ "java/lang/invoke/MethodHandle" ∧ yX12_roof.cls ≠ "java/lang/invoke/VarHandle" ∧ (parseMethodDescriptor yX12_roof.desc).map (fun d => d.parameters.length) = some 3 := by decide +kernel
theorem n_X12_roof : Cond.instanceMethod yX12_roof ∈ mj_tw := mj_tw_in (List.mem_of_getElem? (i := 2168) (by decide +kernel)) rfl
theorem e_X12_roof : Cond.selects yX12_roof.cls yX12_roof yX12_roof ∈ mj_tw := mj_tw_in (List.mem_of_getElem? (i := 2169) (by decide +kernel)) rfl
set_option maxRecDepth 100000 in
theorem k_X12_wind : Cond.code yX12_wind cX12_wind 6 ((some FieldType.int)) ∈ lw_tbl := List.mem_of_getElem? (i := 2174) rfl
theorem p_X12_wind : yX12_wind.cls ≠ "java/lang/invoke/MethodHandle" ∧ yX12_wind.cls ≠ "java/lang/invoke/VarHandle" ∧ (parseMethodDescriptor yX12_wind.desc).map (fun d => d.parameters.length) = some 2 := by decide +kernel
theorem n_X12_wind : Cond.instanceMethod yX12_wind ∈ mj_tw := mj_tw_in (List.mem_of_getElem? (i := 2172) (by decide +kernel)) rfl
theorem e_X12_wind : Cond.selects yX12_wind.cls yX12_wind yX12_wind ∈ mj_tw := mj_tw_in (List.mem_of_getElem? (i := 2173) (by decide +kernel)) rfl
set_option maxRecDepth 100000 in
theorem k_X12_blame : Cond.code yX12_blame cX12_blame 8 ((some FieldType.int)) ∈ lw_tbl := List.mem_of_getElem? (i := 2178) rfl
theorem p_X12_blame : yX12_blame.cls ≠ "java/lang/invoke/MethodHandle" ∧ yX12_blame.cls ≠ "java/lang/invoke/VarHandle" ∧ (parseMethodDescriptor yX12_blame.desc).map (fun d => d.parameters.length) = some 0 := by decide +kernel
theorem n_X12_blame : Cond.instanceMethod yX12_blame ∈ mj_tw := mj_tw_in (List.mem_of_getElem? (i := 2176) (by decide +kernel)) rfl
theorem e_X12_blame : Cond.selects yX12_blame.cls yX12_blame yX12_blame ∈ mj_tw := mj_tw_in (List.mem_of_getElem? (i := 2177) (by decide +kernel)) rfl
set_option maxRecDepth 100000 in
theorem k_X12_treat : Cond.code yX12_treat cX12_treat 3 ((some FieldType.boolean)) ∈ lw_tbl := List.mem_of_getElem? (i := 2182) rfl
theorem p_X12_treat : yX12_treat.cls ≠ "java/lang/invoke/MethodHandle" ∧ yX12_treat.cls ≠ "java/lang/invoke/VarHandle" ∧ (parseMethodDescriptor yX12_treat.desc).map (fun d => d.parameters.length) = some 2 := by decide +kernel
theorem n_X12_treat : Cond.instanceMethod yX12_treat ∈ mj_tw := mj_tw_in (List.mem_of_getElem? (i := 2180) (by decide +kernel)) rfl
theorem e_X12_treat : Cond.selects yX12_treat.cls yX12_treat yX12_treat ∈ mj_tw := mj_tw_in (List.mem_of_getElem? (i := 2181) (by decide +kernel)) rfl
set_option maxRecDepth 100000 in
theorem k_X12_stay : Cond.code yX12_stay cX12_stay 8 ((some FieldType.int)) ∈ lw_tbl := List.mem_of_getElem? (i := 2186) rfl
theorem p_X12_stay : yX12_stay.cls ≠ "java/lang/invoke/MethodHandle" ∧ yX12_stay.cls ≠ "java/lang/invoke/VarHandle" ∧ (parseMethodDescriptor yX12_stay.desc).map (fun d => d.parameters.length) = some 3 := by decide +kernel
theorem n_X12_stay : Cond.instanceMethod yX12_stay ∈ mj_tw := mj_tw_in (List.mem_of_getElem? (i := 2184) (by decide +kernel)) rfl
theorem e_X12_stay : Cond.selects yX12_stay.cls yX12_stay yX12_stay ∈ mj_tw := mj_tw_in (List.mem_of_getElem? (i := 2185) (by decide +kernel)) rfl
set_option maxRecDepth 100000 in
theorem k_X12_lender : Cond.code yX12_lender cX12_lender 2 ((some FieldType.int)) ∈ lw_tbl := List.mem_of_getElem? (i := 2190) rfl
theorem p_X12_lender : yX12_lender.cls ≠ "java/lang/invoke/MethodHandle" ∧ yX12_lender.cls ≠ "java/lang/invoke/VarHandle" ∧ (parseMethodDescriptor yX12_lender.desc).map (fun d => d.parameters.length) = some 1 := by decide +kernel
theorem n_X12_lender : Cond.instanceMethod yX12_lender ∈ mj_tw := mj_tw_in (List.mem_of_getElem? (i := 2188) (by decide +kernel)) rfl
theorem e_X12_lender : Cond.selects yX12_lender.cls yX12_lender yX12_lender ∈ mj_tw := mj_tw_in (List.mem_of_getElem? (i := 2189) (by decide +kernel)) rfl
set_option maxRecDepth 100000 in
theorem k_X12_bill : Cond.code yX12_bill cX12_bill 3 ((some FieldType.boolean)) ∈ lw_tbl := List.mem_of_getElem? (i := 2194) rfl
theorem p_X12_bill : yX12_bill.cls ≠ "java/lang/invoke/MethodHandle" ∧ yX12_bill.cls ≠ "java/lang/invoke/VarHandle" ∧ (parseMethodDescriptor yX12_bill.desc).map (fun d => d.parameters.length) = some 2 := by decide +kernel
theorem n_X12_bill : Cond.instanceMethod yX12_bill ∈ mj_tw := mj_tw_in (List.mem_of_getElem? (i := 2192) (by decide +kernel)) rfl
theorem e_X12_bill : Cond.selects yX12_bill.cls yX12_bill yX12_bill ∈ mj_tw := mj_tw_in (List.mem_of_getElem? (i := 2193) (by decide +kernel)) rfl
set_option maxRecDepth 100000 in
theorem k_X12_paid : Cond.code yX12_paid cX12_paid 8 ((some FieldType.int)) ∈ lw_tbl := List.mem_of_getElem? (i := 2199) rfl
theorem p_X12_paid : yX12_paid.cls ≠ "java/lang/invoke/MethodHandle" ∧ yX12_paid.cls ≠ "java/lang/invoke/VarHandle" ∧ (parseMethodDescriptor yX12_paid.desc).map (fun d => d.parameters.length) = some 2 := by decide +kernel
theorem n_X12_paid : Cond.instanceMethod yX12_paid ∈ mj_tw := mj_tw_in (List.mem_of_getElem? (i := 2197) (by decide +kernel)) rfl
theorem e_X12_paid : Cond.selects yX12_paid.cls yX12_paid yX12_paid ∈ mj_tw := mj_tw_in (List.mem_of_getElem? (i := 2198) (by decide +kernel)) rfl
set_option maxRecDepth 100000 in
theorem k_X12_payers : Cond.code yX12_payers cX12_payers 5 ((some FieldType.int)) ∈ lw_tbl := List.mem_of_getElem? (i := 2203) rfl
theorem p_X12_payers : yX12_payers.cls ≠ "java/lang/invoke/MethodHandle" ∧ yX12_payers.cls ≠ "java/lang/invoke/VarHandle" ∧ (parseMethodDescriptor yX12_payers.desc).map (fun d => d.parameters.length) = some 2 := by decide +kernel
theorem n_X12_payers : Cond.instanceMethod yX12_payers ∈ mj_tw := mj_tw_in (List.mem_of_getElem? (i := 2202) (by decide +kernel)) rfl
theorem e_X12_payers : Cond.selects yX12_payers.cls yX12_payers yX12_payers ∈ mj_tw := mj_tw_in (List.mem_of_getElem? (i := 96) (by decide +kernel)) rfl
set_option maxRecDepth 100000 in
theorem k_X12_row : Cond.code yX12_row cX12_row 5 ((some FieldType.int)) ∈ lw_tbl := List.mem_of_getElem? (i := 2207) rfl
theorem p_X12_row : yX12_row.cls ≠ "java/lang/invoke/MethodHandle" ∧ yX12_row.cls ≠ "java/lang/invoke/VarHandle" ∧ (parseMethodDescriptor yX12_row.desc).map (fun d => d.parameters.length) = some 2 := by decide +kernel
theorem n_X12_row : Cond.instanceMethod yX12_row ∈ mj_tw := mj_tw_in (List.mem_of_getElem? (i := 2205) (by decide +kernel)) rfl
theorem e_X12_row : Cond.selects yX12_row.cls yX12_row yX12_row ∈ mj_tw := mj_tw_in (List.mem_of_getElem? (i := 2206) (by decide +kernel)) rfl
set_option maxRecDepth 100000 in
theorem k_X12_plan : Cond.code yX12_plan cX12_plan 9 ((some FieldType.int)) ∈ lw_tbl := List.mem_of_getElem? (i := 2211) rfl
theorem p_X12_plan : yX12_plan.cls ≠ "java/lang/invoke/MethodHandle" ∧ yX12_plan.cls ≠ "java/lang/invoke/VarHandle" ∧ (parseMethodDescriptor yX12_plan.desc).map (fun d => d.parameters.length) = some 3 := by decide +kernel
theorem n_X12_plan : Cond.instanceMethod yX12_plan ∈ mj_tw := mj_tw_in (List.mem_of_getElem? (i := 2209) (by decide +kernel)) rfl
theorem e_X12_plan : Cond.selects yX12_plan.cls yX12_plan yX12_plan ∈ mj_tw := mj_tw_in (List.mem_of_getElem? (i := 2210) (by decide +kernel)) rfl
set_option maxRecDepth 100000 in
theorem k_X12_many : Cond.code yX12_many cX12_many 5 ((some FieldType.int)) ∈ lw_tbl := List.mem_of_getElem? (i := 2215) rfl
theorem p_X12_many : yX12_many.cls ≠ "java/lang/invoke/MethodHandle" ∧ yX12_many.cls ≠ "java/lang/invoke/VarHandle" ∧ (parseMethodDescriptor yX12_many.desc).map (fun d => d.parameters.length) = some 1 := by decide +kernel
theorem n_X12_many : Cond.instanceMethod yX12_many ∈ mj_tw := mj_tw_in (List.mem_of_getElem? (i := 2213) (by decide +kernel)) rfl
theorem e_X12_many : Cond.selects yX12_many.cls yX12_many yX12_many ∈ mj_tw := mj_tw_in (List.mem_of_getElem? (i := 2214) (by decide +kernel)) rfl
