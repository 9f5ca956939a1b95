/-! one instruction over named cells: what must hold ahead of it, so that K holds behind it -/
abbrev mj_K : Type := Nat → List Value → List Value → mj_H → Nat → Nat → Prop
/-- a contract: arguments, heap, what is asked of answer and heap -/
abbrev mj_S : Type := List Value → mj_H → (Option Value → mj_H → Prop) → Prop
/-- a callee: its kind, how many arguments (the receiver too), the receiver's class, cells and slots that it may make, its contract -/
abbrev mj_Cs : Type := Nat × Nat × Nat × Nat × Nat × mj_S
def mj_t (pc : Nat) (off : Int) : Nat := ((pc : Int) + off).toNat
def mj_stat : Nat → Option (Nat × (Nat → Int32))
  | 0 => some (7, fun j => ([119, 104, 115, 116, 118, 99, 102] : List Int32).getD j 0)
  | 1 => some (7, fun j => ([60, 40, 1, 1, 0, 1, 0] : List Int32).getD j 0)
  | 2 => some (5, fun j => ([1, 2, 4, 1, 3] : List Int32).getD j 0)
  | _ => none
def mj_isA : FieldType → Bool
  | .int => true
  | .boolean => true
  | .array .int => true
  | _ => false
/-- the tables of a method -/
abbrev mj_T : Type := Nat × Option FieldType × (Nat → Option (Nat × Nat)) × (Nat → Option (Nat × Nat × Bool)) × (Nat → Option Value) × (Nat → Option Nat) × (Nat → Option Nat) × (Nat → Option mj_Cs)
def mj_dv (ci : Nat) : List Value := match vwCl[ci]? with
  | some r => (List.range r.2.2).map fun k => match parseFieldDescriptor (r.2.1 k).2.2.1 with
    | some ty => defaultValue ty
    | none => .null
  | none => []
def mj_nf (ci : Nat) : Nat := match vwCl[ci]? with
  | some r => r.2.2
  | none => 0
def mj_go (pc : Nat) (off : Int) (P : Prop) : Prop := 0 ≤ (pc : Int) + off ∧ P
def mj_I (T : mj_T) (ret : Option Value → mj_H → Prop) (K : mj_K) (pc : Nat) (l st : List Value) (h : mj_H) (bc bs : Nat) : Instr → Prop
  | .iconst n => K (pc + 1) l (.int (Int32.ofInt n) :: st) h bc bs
  | .bipush n => K (pc + 2) l (.int (Int8.ofInt n).toInt32 :: st) h bc bs
  | .sipush n => K (pc + 3) l (.int (Int16.ofInt n).toInt32 :: st) h bc bs
  | .lconst n => K (pc + 1) l (.long (Int64.ofNat n.val) :: st) h bc bs
  | .aconst_null => K (pc + 1) l (.null :: st) h bc bs
  | .iload_n k => match l[k.val]? with
    | some (.int x) => K (pc + 1) l (.int x :: st) h bc bs
    | _ => False
  | .iload k => match l[k]? with
    | some (.int x) => K (pc + 2) l (.int x :: st) h bc bs
    | _ => False
  | .lload_n k => match l[k.val]? with
    | some (.long x) => K (pc + 1) l (.long x :: st) h bc bs
    | _ => False
  | .lload k => match l[k]? with
    | some (.long x) => K (pc + 2) l (.long x :: st) h bc bs
    | _ => False
  | .aload_n k => match l[k.val]? with
    | some (.ref x) => K (pc + 1) l (.ref x :: st) h bc bs
    | some .null => K (pc + 1) l (.null :: st) h bc bs
    | _ => False
  | .aload k => match l[k]? with
    | some (.ref x) => K (pc + 2) l (.ref x :: st) h bc bs
    | some .null => K (pc + 2) l (.null :: st) h bc bs
    | _ => False
  | .istore_n k => match st with
    | .int x :: r => k.val < T.1 ∧ K (pc + 1) (mj_set l k.val (.int x)) r h bc bs
    | _ => False
  | .istore k => match st with
    | .int x :: r => k < T.1 ∧ K (pc + 2) (mj_set l k (.int x)) r h bc bs
    | _ => False
  | .lstore_n k => match st with
    | .long x :: r => k.val + 1 < T.1 ∧ K (pc + 1) (mj_set (mj_set l (k.val + 1) mj_unk) k.val (.long x)) r h bc bs
    | _ => False
  | .lstore k => match st with
    | .long x :: r => k + 1 < T.1 ∧ K (pc + 2) (mj_set (mj_set l (k + 1) mj_unk) k (.long x)) r h bc bs
    | _ => False
  | .astore_n k => match st with
    | .ref x :: r => k.val < T.1 ∧ K (pc + 1) (mj_set l k.val (.ref x)) r h bc bs
    | .null :: r => k.val < T.1 ∧ K (pc + 1) (mj_set l k.val .null) r h bc bs
    | _ => False
  | .astore k => match st with
    | .ref x :: r => k < T.1 ∧ K (pc + 2) (mj_set l k (.ref x)) r h bc bs
    | .null :: r => k < T.1 ∧ K (pc + 2) (mj_set l k .null) r h bc bs
    | _ => False
  | .iinc k n => match l[k]? with
    | some (.int x) => k < T.1 ∧ K (pc + 3) (mj_set l k (.int (x + Int32.ofInt n))) st h bc bs
    | _ => False
  | .iadd => match st with
    | .int y :: .int x :: r => K (pc + 1) l (.int (x + y) :: r) h bc bs
    | _ => False
  | .isub => match st with
    | .int y :: .int x :: r => K (pc + 1) l (.int (x - y) :: r) h bc bs
    | _ => False
  | .imul => match st with
    | .int y :: .int x :: r => K (pc + 1) l (.int (x * y) :: r) h bc bs
    | _ => False
  | .iand => match st with
    | .int y :: .int x :: r => K (pc + 1) l (.int (x &&& y) :: r) h bc bs
    | _ => False
  | .ior => match st with
    | .int y :: .int x :: r => K (pc + 1) l (.int (x ||| y) :: r) h bc bs
    | _ => False
  | .ixor => match st with
    | .int y :: .int x :: r => K (pc + 1) l (.int (x ^^^ y) :: r) h bc bs
    | _ => False
  | .ishl => match st with
    | .int y :: .int x :: r => K (pc + 1) l (.int (x <<< (y &&& 31)) :: r) h bc bs
    | _ => False
  | .ishr => match st with
    | .int y :: .int x :: r => K (pc + 1) l (.int (x >>> (y &&& 31)) :: r) h bc bs
    | _ => False
  | .iushr => match st with
    | .int y :: .int x :: r => K (pc + 1) l (.int ((x.toUInt32 >>> (y.toUInt32 &&& Int32.toUInt32 31)).toInt32) :: r) h bc bs
    | _ => False
  | .ladd => match st with
    | .long y :: .long x :: r => K (pc + 1) l (.long (x + y) :: r) h bc bs
    | _ => False
  | .lsub => match st with
    | .long y :: .long x :: r => K (pc + 1) l (.long (x - y) :: r) h bc bs
    | _ => False
  | .lmul => match st with
    | .long y :: .long x :: r => K (pc + 1) l (.long (x * y) :: r) h bc bs
    | _ => False
  | .idiv => match st with
    | .int y :: .int x :: r => ¬ y = 0 ∧ K (pc + 1) l (.int (x / y) :: r) h bc bs
    | _ => False
  | .irem => match st with
    | .int y :: .int x :: r => ¬ y = 0 ∧ K (pc + 1) l (.int (x - x / y * y) :: r) h bc bs
    | _ => False
  | .ldiv => match st with
    | .long y :: .long x :: r => ¬ y = 0 ∧ K (pc + 1) l (.long (x / y) :: r) h bc bs
    | _ => False
  | .ineg => match st with
    | .int x :: r => K (pc + 1) l (.int (-x) :: r) h bc bs
    | _ => False
  | .i2l => match st with
    | .int x :: r => K (pc + 1) l (.long x.toInt64 :: r) h bc bs
    | _ => False
  | .l2i => match st with
    | .long x :: r => K (pc + 1) l (.int x.toInt32 :: r) h bc bs
    | _ => False
  | .lcmp => match st with
    | .long y :: .long x :: r => K (pc + 1) l (.int (lg_cmp x y) :: r) h bc bs
    | _ => False
  | .dup => match st with
    | v :: r => mj_c2 v = false ∧ K (pc + 1) l (v :: v :: r) h bc bs
    | _ => False
  | .pop => match st with
    | v :: r => mj_c2 v = false ∧ K (pc + 1) l r h bc bs
    | _ => False
  | .dup2 => match st with
    | v :: w :: r => mj_c2 v = false ∧ mj_c2 w = false ∧ K (pc + 1) l (v :: w :: v :: w :: r) h bc bs
    | _ => False
  | .ifCond .eq off => match st with
    | .int x :: r => 0 ≤ (pc : Int) + off ∧ (x = 0 → K (mj_t pc off) l r h bc bs) ∧ (¬ x = 0 → K (pc + 3) l r h bc bs)
    | _ => False
  | .if_icmp .eq off => match st with
    | .int y :: .int x :: r => 0 ≤ (pc : Int) + off ∧ (x = y → K (mj_t pc off) l r h bc bs) ∧ (¬ x = y → K (pc + 3) l r h bc bs)
    | _ => False
  | .ifCond .ne off => match st with
    | .int x :: r => 0 ≤ (pc : Int) + off ∧ (¬ x = 0 → K (mj_t pc off) l r h bc bs) ∧ (x = 0 → K (pc + 3) l r h bc bs)
    | _ => False
  | .if_icmp .ne off => match st with
    | .int y :: .int x :: r => 0 ≤ (pc : Int) + off ∧ (¬ x = y → K (mj_t pc off) l r h bc bs) ∧ (x = y → K (pc + 3) l r h bc bs)
    | _ => False
  | .ifCond .lt off => match st with
    | .int x :: r => 0 ≤ (pc : Int) + off ∧ (x < 0 → K (mj_t pc off) l r h bc bs) ∧ (¬ x < 0 → K (pc + 3) l r h bc bs)
    | _ => False
  | .if_icmp .lt off => match st with
    | .int y :: .int x :: r => 0 ≤ (pc : Int) + off ∧ (x < y → K (mj_t pc off) l r h bc bs) ∧ (¬ x < y → K (pc + 3) l r h bc bs)
    | _ => False
  | .ifCond .ge off => match st with
    | .int x :: r => 0 ≤ (pc : Int) + off ∧ (0 ≤ x → K (mj_t pc off) l r h bc bs) ∧ (¬ 0 ≤ x → K (pc + 3) l r h bc bs)
    | _ => False
  | .if_icmp .ge off => match st with
    | .int y :: .int x :: r => 0 ≤ (pc : Int) + off ∧ (y ≤ x → K (mj_t pc off) l r h bc bs) ∧ (¬ y ≤ x → K (pc + 3) l r h bc bs)
    | _ => False
  | .ifCond .gt off => match st with
    | .int x :: r => 0 ≤ (pc : Int) + off ∧ (0 < x → K (mj_t pc off) l r h bc bs) ∧ (¬ 0 < x → K (pc + 3) l r h bc bs)
    | _ => False
  | .if_icmp .gt off => match st with
    | .int y :: .int x :: r => 0 ≤ (pc : Int) + off ∧ (y < x → K (mj_t pc off) l r h bc bs) ∧ (¬ y < x → K (pc + 3) l r h bc bs)
    | _ => False
  | .ifCond .le off => match st with
    | .int x :: r => 0 ≤ (pc : Int) + off ∧ (x ≤ 0 → K (mj_t pc off) l r h bc bs) ∧ (¬ x ≤ 0 → K (pc + 3) l r h bc bs)
    | _ => False
  | .if_icmp .le off => match st with
    | .int y :: .int x :: r => 0 ≤ (pc : Int) + off ∧ (x ≤ y → K (mj_t pc off) l r h bc bs) ∧ (¬ x ≤ y → K (pc + 3) l r h bc bs)
    | _ => False
  | .ifnull off => match st with
    | .null :: r => mj_go pc off (K (mj_t pc off) l r h bc bs)
    | .ref _ :: r => K (pc + 3) l r h bc bs
    | _ => False
  | .ifnonnull off => match st with
    | .ref _ :: r => mj_go pc off (K (mj_t pc off) l r h bc bs)
    | .null :: r => K (pc + 3) l r h bc bs
    | _ => False
  | .goto off => mj_go pc off (K (mj_t pc off) l st h bc bs)
  | .tableswitch dflt lo hi offs => match st with
    | .int x :: r => (¬ x.toInt < lo → ¬ hi < x.toInt → match offs[(x.toInt - lo).toNat]? with
        | some off => mj_go pc off (K (mj_t pc off) l r h bc bs)
        | none => False) ∧ ((x.toInt < lo ∨ hi < x.toInt) → mj_go pc dflt (K (mj_t pc dflt) l r h bc bs))
    | _ => False
  | .lookupswitch dflt ps => match st with
    | .int x :: r => (ps.toList.zip (ps.toList.drop 1)).all (fun (a, next) => a.1 < next.1) = true ∧ mj_go pc (Op.lookupswitch.offset ps.toList dflt x.toInt) (K (mj_t pc (Op.lookupswitch.offset ps.toList dflt x.toInt)) l r h bc bs)
    | _ => False
  | .getfield i => match st, T.2.2.1 i with
    | .ref a :: r, some (ci, k) => (match h[a]? with
      | some (.inr (cj, fs)) => cj = ci ∧ (match fs[k]? with
        | some v => K (pc + 3) l (v :: r) h bc bs
        | none => False)
      | _ => False)
    | _, _ => False
  | .putfield i => match st, T.2.2.2.1 i with
    | .int x :: .ref a :: r, some (ci, k, true) => (match h[a]? with
      | some (.inr (cj, fs)) => cj = ci ∧ k < fs.length ∧ K (pc + 3) l r (h.set a (.inr (cj, fs.set k (.int x)))) bc bs
      | _ => False)
    | .ref x :: .ref a :: r, some (ci, k, false) => (match h[a]? with
      | some (.inr (cj, fs)) => cj = ci ∧ k < fs.length ∧ K (pc + 3) l r (h.set a (.inr (cj, fs.set k (.ref x)))) bc bs
      | _ => False)
    | _, _ => False
  | .getstatic i => match T.2.2.2.2.2.1 i with
    | some k => k < 3 ∧ K (pc + 3) l (.float (UInt32.ofNat k) :: st) h bc bs
    | none => False
  | .ldc i => match T.2.2.2.2.1 i with
    | some (.int x) => K (pc + 2) l (.int x :: st) h bc bs
    | _ => False
  | .ldc_w i => match T.2.2.2.2.1 i with
    | some (.int x) => K (pc + 3) l (.int x :: st) h bc bs
    | _ => False
  | .ldc2_w i => match T.2.2.2.2.1 i with
    | some (.long x) => K (pc + 3) l (.long x :: st) h bc bs
    | _ => False
  | .iaload => match st with
    | .int i :: .ref a :: r => (match h[a]? with
      | some (.inl (.int, n, .inl f)) => vp_in i n ∧ K (pc + 1) l (.int (f i.toNatClampNeg) :: r) h bc bs
      | _ => False)
    | .int i :: .float b :: r => (match mj_stat b.toNat with
      | some (n, f) => vp_in i n ∧ K (pc + 1) l (.int (f i.toNatClampNeg) :: r) h bc bs
      | none => False)
    | _ => False
  | .baload => match st with
    | .int i :: .ref a :: r => (match h[a]? with
      | some (.inl (.boolean, n, .inl f)) => vp_in i n ∧ K (pc + 1) l (.int (f i.toNatClampNeg) :: r) h bc bs
      | _ => False)
    | _ => False
  | .aaload => match st with
    | .int i :: .ref a :: r => (match h[a]? with
      | some (.inl (.array .int, n, .inr (.inr (.inr (.inr f))))) => vp_in i n ∧ K (pc + 1) l (va_rf (f i.toNatClampNeg) :: r) h bc bs
      | _ => False)
    | _ => False
  | .iastore => match st with
    | .int x :: .int i :: .ref a :: r => (match h[a]? with
      | some (.inl (.int, n, .inl f)) => vp_in i n ∧ K (pc + 1) l r (h.set a (.inl (.int, n, .inl (upd f i.toNatClampNeg x)))) bc bs
      | _ => False)
    | _ => False
  | .bastore => match st with
    | .int x :: .int i :: .ref a :: r => (match h[a]? with
      | some (.inl (.boolean, n, .inl f)) => vp_in i n ∧ K (pc + 1) l r (h.set a (.inl (.boolean, n, .inl (upd f i.toNatClampNeg (vp_nar .boolean x))))) bc bs
      | _ => False)
    | _ => False
  | .aastore => match st with
    | .ref v :: .int i :: .ref a :: r => (match h[a]?, h[v]? with
      | some (.inl (.array .int, n, .inr (.inr (.inr (.inr f))))), some (.inl (.int, _, .inl _)) => vp_in i n ∧ K (pc + 1) l r (h.set a (.inl (.array .int, n, .inr (.inr (.inr (.inr (va_up f i.toNatClampNeg (some v)))))))) bc bs
      | _, _ => False)
    | _ => False
  | .arraylength => match st with
    | .ref a :: r => (match h[a]? with
      | some (.inl (ty, n, _)) => mj_isA ty = true ∧ K (pc + 1) l (.int (nI n) :: r) h bc bs
      | _ => False)
    | .float b :: r => (match mj_stat b.toNat with
      | some (n, _) => K (pc + 1) l (.int (nI n) :: r) h bc bs
      | none => False)
    | _ => False
  | .newarray ty => match st with
    | .int x :: r => ¬ x < 0 ∧ x.toNatClampNeg ≤ 100000 ∧ 1 ≤ bc ∧ x.toNatClampNeg ≤ bs ∧ (match ty with
      | .int => K (pc + 2) l (.ref h.length :: r) (h ++ [.inl (.int, x.toNatClampNeg, .inl (fun _ => 0))]) (bc - 1) (bs - x.toNatClampNeg)
      | .boolean => K (pc + 2) l (.ref h.length :: r) (h ++ [.inl (.boolean, x.toNatClampNeg, .inl (fun _ => 0))]) (bc - 1) (bs - x.toNatClampNeg)
      | _ => False)
    | _ => False
  | .anewarray i => match st, T.2.2.2.2.2.2.1 i with
    | .int x :: r, some 99 => ¬ x < 0 ∧ x.toNatClampNeg ≤ 100000 ∧ 1 ≤ bc ∧ x.toNatClampNeg ≤ bs ∧ K (pc + 3) l (.ref h.length :: r) (h ++ [.inl (.array .int, x.toNatClampNeg, .inr (.inr (.inr (.inr (fun _ => none)))))]) (bc - 1) (bs - x.toNatClampNeg)
    | _, _ => False
  | .new i => match T.2.2.2.2.2.2.1 i with
    | some ci => ci < 13 ∧ 1 ≤ bc ∧ mj_nf ci ≤ bs ∧ K (pc + 3) l (.ref h.length :: st) (h ++ [.inr (ci, mj_dv ci)]) (bc - 1) (bs - mj_nf ci)
    | none => False
  | .invokevirtual i => match T.2.2.2.2.2.2.2 i with
    | some (k, n, ci, c1, s1, cs) => k < 2 ∧ n ≤ st.length ∧ (st.drop n).length ≤ 4 ∧ c1 ≤ bc ∧ s1 ≤ bs ∧ (match (st.take n).reverse with
      | .ref a :: as => (match h[a]? with
        | some (.inr (cj, _)) => cj = ci ∧ cs (.ref a :: as) h fun r h' => K (pc + 3) l (r.toList ++ st.drop n) h' (bc - c1) (bs - s1)
        | _ => False)
      | _ => False)
    | none => False
  | .invokestatic i => match T.2.2.2.2.2.2.2 i with
    | some (k, n, _, c1, s1, cs) => (k = 2 ∨ k = 3) ∧ n ≤ st.length ∧ (st.drop n).length ≤ 4 ∧ c1 ≤ bc ∧ s1 ≤ bs ∧ cs (st.take n).reverse h fun r h' => K (pc + 3) l (r.toList ++ st.drop n) h' (bc - c1) (bs - s1)
    | none => False
  | .invokespecial i => match T.2.2.2.2.2.2.2 i with
    | some (k, n, _, c1, s1, cs) => (k = 4 ∨ k = 5) ∧ n ≤ st.length ∧ (st.drop n).length ≤ 4 ∧ c1 ≤ bc ∧ s1 ≤ bs ∧ (match (st.take n).reverse with
      | .ref a :: as => cs (.ref a :: as) h fun r h' => K (pc + 3) l (r.toList ++ st.drop n) h' (bc - c1) (bs - s1)
      | _ => False)
    | none => False
  | .ireturn => match st with
    | [.int x] => (match T.2.1 with
      | some .int => ret (some (.int x)) h
      | some .boolean => (x = 0 ∨ x = 1) ∧ ret (some (.int x)) h
      | _ => False)
    | _ => False
  | .lreturn => match st with
    | [.long x] => T.2.1 = some .long ∧ ret (some (.long x)) h
    | _ => False
  | .areturn => match st with
    | [.ref x] => T.2.1 = some (.array .int) ∧ ret (some (.ref x)) h
    | _ => False
  | .return_ => match st with
    | [] => T.2.1 = none ∧ ret none h
    | _ => False
  | _ => False
/-- how long an instruction is (switches apart) -/
def mj_len : Instr → Nat
  | .bipush _ => 2
  | .ldc _ => 2
  | .newarray _ => 2
  | .iload _ => 2
  | .lload _ => 2
  | .aload _ => 2
  | .istore _ => 2
  | .lstore _ => 2
  | .astore _ => 2
  | .sipush _ => 3
  | .iinc _ _ => 3
  | .ldc_w _ => 3
  | .ldc2_w _ => 3
  | .if_icmp _ _ => 3
  | .ifCond _ _ => 3
  | .ifnull _ => 3
  | .ifnonnull _ => 3
  | .goto _ => 3
  | .getfield _ => 3
  | .putfield _ => 3
  | .getstatic _ => 3
  | .anewarray _ => 3
  | .new _ => 3
  | .invokevirtual _ => 3
  | .invokestatic _ => 3
  | .invokespecial _ => 3
  | _ => 1
def mj_sw : Instr → Bool
  | .tableswitch .. => true
  | .lookupswitch .. => true
  | _ => false
def mj_step (cc : ByteArray) (T : mj_T) (ret : Option Value → mj_H → Prop) (K : mj_K) (pc : Nat) (l st : List Value) (h : mj_H) (bc bs : Nat) : Prop := match decode cc pc with
  | .ok (i, n) => (mj_sw i = true ∨ n = mj_len i) ∧ mj_I T ret K pc l st h bc bs i
  | .error _ => False
