/-! the law's small machine: what its own instructions do (LG), as closures of a predicate G -/
section LGS
variable {p : Program} {l : Launch} {e : Env} {s : State} {m : MethodId} {below : List Frame} {meth : Method} {c : Code} {b L : Nat} {xs : Nat → Int32} {Q : State → Prop} {D : va_G} {cA : FieldType → ClassId} {sd adK adV : Nat → Nat} {q1 q2 : Nat}
abbrev lK : Type := Nat → Int32 → List Value → St → St → Nat → Nat → Prop
def LG (p : Program) (l : Launch) (e : Env) (s : State) (m : MethodId) (below : List Frame) (meth : Method) (c : Code) (b : Nat) (Q : State → Prop) (D : va_G) (cA : FieldType → ClassId) (sd : Nat → Nat) (q1 q2 : Nat) : lK := fun pc i st u t bc bs =>
  ∀ (a1 a2 : Nat → Nat) (H : Heap) (locs : List Loc) (cells slots : Nat) (ls : Array Slot), a1 0 = q1 → a2 0 = q2 → (∀ q ∈ mkCs u, mj_sc (mkCs u).length q) → (∀ q ∈ mkMs t, mj_sc (mkMs t).length q) → va_P D vwCl (mj_ws cA a1 sd (mkCs u) ++ mj_ws cA a2 sd (mkMs t)) H → va_D (fun q => s.heap.size ≤ q) (mj_ws cA a1 sd (mkCs u) ++ mj_ws cA a2 sd (mkMs t)) → va_S (fun q => s.heap.size ≤ q) s.heap H locs → lv_has ls 4 [(0, .ref b), (1, .ref q1), (2, .ref q2), (3, .int i)] → cells + bc ≤ 600000 → slots + bs ≤ 7302250 → W p l e room_1 s m #[Value.ref b] below meth c H locs cells slots Q (F0 m pc ls st)
/-- a method that the law calls -/
def LM (l : Launch) (j : Nat) (y : MethodName) (bytes : ByteArray) (maxL : Nat) (rt : Option FieldType) (na c1 s1 : Nat) (cs : mj_S) (own : String) : Prop := ∃ lev : Nat, mj_MetQ l y bytes maxL rt lev c1 s1 cs ∧ lev ≤ 100 ∧ maxL ≤ 21 ∧ Cond.code y bytes maxL rt ∈ lw_tbl ∧ y.cls = own ∧ (y.cls ≠ "java/lang/invoke/MethodHandle" ∧ y.cls ≠ "java/lang/invoke/VarHandle" ∧ (parseMethodDescriptor y.desc).map (fun d => d.parameters.length) = some na) ∧ Cond.methodLink "EveryChildLaw" j y ∈ mj_tw ∧ Cond.instanceMethod y ∈ mj_tw ∧ Cond.selects y.cls y y ∈ mj_tw
def lc_arg (L : Nat) (xs : Nat → Int32) (G : lK) : Prop := ∀ (pc pc2 : Nat) (x i : Int32) (st : List Value) (u t : St) (bc bs : Nat), decode code pc = .ok (.aload_n 0, 1) → decode code (pc + 1) = .ok (.iload_n 3, 1) → PSH code (pc + 2) x pc2 → decode code pc2 = .ok (.iadd, 1) → decode code (pc2 + 1) = .ok (.iaload, 1) → vp_in (i + x) L → G (pc2 + 2) i (.int (xs (i + x).toNatClampNeg) :: st) u t bc bs → G pc i st u t bc bs
def lc_a (q1 q2 : Nat) (G : lK) : Prop := ∀ (pc : Nat) (i : Int32) (st : List Value) (u t : St) (bc bs : Nat), (decode code pc = .ok (.aload_n 1, 1) → G (pc + 1) i (.ref q1 :: st) u t bc bs → G pc i st u t bc bs) ∧ (decode code pc = .ok (.aload_n 2, 1) → G (pc + 1) i (.ref q2 :: st) u t bc bs → G pc i st u t bc bs)
def lc_z (G : lK) : Prop := ∀ (pc : Nat) (x i : Int32) (st : List Value) (u t : St) (bc bs : Nat), decode code pc = .ok (.ifCond .eq 7, 3) → decode code (pc + 3) = .ok (.iconst 1, 1) → decode code (pc + 4) = .ok (.goto 4, 3) → decode code (pc + 7) = .ok (.iconst 0, 1) → G (pc + 8) i (.int (if x = 0 then 0 else 1) :: st) u t bc bs → G pc i (.int x :: st) u t bc bs
def lc_e (G : lK) : Prop := ∀ (pc tgt : Nat) (off : Int) (x i : Int32) (st : List Value) (u t : St) (bc bs : Nat), decode code pc = .ok (.if_icmp .eq off, 3) → (pc : Int) + off = (tgt : Int) → G tgt i st u t bc bs → G pc i (.int x :: .int x :: st) u t bc bs
def lc_C (l : Launch) (q1 : Nat) (G : lK) : Prop := ∀ (pc j na c1 s1 maxL : Nat) (y : MethodName) (bytes : ByteArray) (rt : Option FieldType) (cs : mj_S) (vs : List Int32) (rest : List Value) (i : Int32) (u t : St) (bc bs : Nat), decode code pc = .ok (.invokevirtual j, 3) → LM l j y bytes maxL rt na c1 s1 cs RX11 → vs.length = na → rest.length ≤ 4 → c1 ≤ bc → s1 ≤ bs → cs (.ref 0 :: vs.map .int) (mkCs u) (fun r h' => ∃ v u', r = some (.int v) ∧ h' = mkCs u' ∧ G (pc + 3) i (.int v :: rest) u' t (bc - c1) (bs - s1)) → G pc i ((vs.map .int).reverse ++ .ref q1 :: rest) u t bc bs
def lc_M (l : Launch) (q2 : Nat) (G : lK) : Prop := ∀ (pc j na c1 s1 maxL : Nat) (y : MethodName) (bytes : ByteArray) (rt : Option FieldType) (cs : mj_S) (vs : List Int32) (rest : List Value) (i : Int32) (u t : St) (bc bs : Nat), decode code pc = .ok (.invokevirtual j, 3) → LM l j y bytes maxL rt na c1 s1 cs RX12 → vs.length = na → rest.length ≤ 4 → c1 ≤ bc → s1 ≤ bs → cs (.ref 0 :: vs.map .int) (mkMs t) (fun r h' => ∃ v t', r = some (.int v) ∧ h' = mkMs t' ∧ G (pc + 3) i (.int v :: rest) u t' (bc - c1) (bs - s1)) → G pc i ((vs.map .int).reverse ++ .ref q2 :: rest) u t bc bs
def lc_w (G : lK) : Prop := ∀ (pc : Nat) (i : Int32) (st : List Value) (u t : St) (bc bs bc' bs' : Nat), bc' ≤ bc → bs' ≤ bs → G pc i st u t bc' bs' → G pc i st u t bc bs
def LCl (l : Launch) (L : Nat) (xs : Nat → Int32) (q1 q2 : Nat) (G : lK) : Prop := lc_arg L xs G ∧ lc_a q1 q2 G ∧ lc_z G ∧ lc_e G ∧ lc_C l q1 G ∧ lc_M l q2 G ∧ lc_w G
theorem lw_psh (hx : p.tables.exec = Jvm.exec) (hb : c.code = code) {pc pc2 : Nat} {x : Int32} {R : Room} {args : Array Value} {H : Heap} {locs : List Loc} {cells slots : Nat} {ls : Array Slot} {st : List Value} (hp : PSH code pc x pc2) (k : W p l e R s m args below meth c H locs cells slots Q (F0 m pc2 ls (.int x :: st))) : W p l e R s m args below meth c H locs cells slots Q (F0 m pc ls st) := by
  rcases hp with ⟨v, d, rfl, rfl⟩ | ⟨v, d, rfl, rfl⟩ | ⟨v, d, rfl, rfl⟩
  · exact lv_iconst hx hb d rfl k
  · exact lv_bipush hx hb d rfl k
  · exact lv_sipush hx hb d rfl k
theorem LG_arg (E : lE p s m c b L xs D cA sd adK adV) : lc_arg L xs (LG p l e s m below meth c b Q D cA sd q1 q2) := by
  intro pc pc2 x i st u t bc bs d0 d1 d2 d3 d4 hin g a1 a2 H locs cells slots ls e1 e2 e3 e4 hP hD hS hl b1 b2
  obtain ⟨hx, hb, hml, hown, hts, hK, hX, hQ, hX2, hbl⟩ := E
  refine lv_aload_n hx hb d0 rfl (lv_at hl 0 rfl) ?_
  refine lv_iload_n hx hb d1 rfl (lv_at hl 3 rfl) ?_
  refine lw_psh hx hb d2 ?_
  refine lv_iadd hx hb d3 ?_
  refine va_sld hx hb hX2 hbl (Nat.not_le.mpr hbl) hS hin d4 ?_
  exact g a1 a2 H locs cells slots ls e1 e2 e3 e4 hP hD hS hl b1 b2
theorem LG_a (E : lE p s m c b L xs D cA sd adK adV) : lc_a q1 q2 (LG p l e s m below meth c b Q D cA sd q1 q2) := by
  obtain ⟨hx, hb, hml, hown, hts, hK, hX, hQ, hX2, hbl⟩ := E
  refine fun pc i st u t bc bs => ⟨fun d g a1 a2 H locs cells slots ls e1 e2 e3 e4 hP hD hS hl b1 b2 => ?_, fun d g a1 a2 H locs cells slots ls e1 e2 e3 e4 hP hD hS hl b1 b2 => ?_⟩
  · exact lv_aload_n hx hb d rfl (lv_at hl 1 rfl) (g a1 a2 H locs cells slots ls e1 e2 e3 e4 hP hD hS hl b1 b2)
  · exact lv_aload_n hx hb d rfl (lv_at hl 2 rfl) (g a1 a2 H locs cells slots ls e1 e2 e3 e4 hP hD hS hl b1 b2)
theorem LG_z (E : lE p s m c b L xs D cA sd adK adV) : lc_z (LG p l e s m below meth c b Q D cA sd q1 q2) := by
  intro pc x i st u t bc bs d0 d1 d2 d3 g a1 a2 H locs cells slots ls e1 e2 e3 e4 hP hD hS hl b1 b2
  obtain ⟨hx, hb, hml, hown, hts, hK, hX, hQ, hX2, hbl⟩ := E
  have k := g a1 a2 H locs cells slots ls e1 e2 e3 e4 hP hD hS hl b1 b2
  refine lv_if_eq hx hb (tgt := pc + 7) d0 (by omega) (fun z => ?_) (fun z => ?_)
  · rw [if_pos z] at k
    exact lv_iconst hx hb d3 rfl k
  · rw [if_neg z] at k
    exact lv_iconst hx hb d1 rfl (lv_goto hx hb (tgt := pc + 8) d2 (by omega) k)
theorem LG_e (E : lE p s m c b L xs D cA sd adK adV) : lc_e (LG p l e s m below meth c b Q D cA sd q1 q2) := by
  intro pc tgt off x i st u t bc bs d0 ht g a1 a2 H locs cells slots ls e1 e2 e3 e4 hP hD hS hl b1 b2
  obtain ⟨hx, hb, hml, hown, hts, hK, hX, hQ, hX2, hbl⟩ := E
  exact lv_icmp_eq hx hb (tgt := tgt) d0 ht (fun _ => g a1 a2 H locs cells slots ls e1 e2 e3 e4 hP hD hS hl b1 b2) (fun z => absurd rfl z)
theorem ints_map (ad sd : Nat → Nat) : ∀ vs : List Int32, (vs.map Value.int).map (mj_tv ad sd) = vs.map Value.int
  | [] => rfl
  | v :: vs => congrArg (Value.int v :: ·) (ints_map ad sd vs)
theorem ints_sv (n : Nat) (vs : List Int32) : ∀ v ∈ vs.map Value.int, mj_sv n v := by
  intro v hv
  obtain ⟨x, -, rfl⟩ := List.mem_map.mp hv
  exact trivial
theorem LG_C (E : lE p s m c b L xs D cA sd adK adV) : lc_C l q1 (LG p l e s m below meth c b Q D cA sd q1 q2) := by
  intro pc j na c1 s1 maxL y bytes rt cs vs rest i u t bc bs hdg hM hna h4 d1 d2 hcs a1 a2 H locs cells slots ls e1 e2 e3 e4 hP hD hS hl b1 b2
  obtain ⟨lev, M1, M2, M3, M4, M5, M6, M7, M8, M9⟩ := hM
  have hk := lw_call E (ci := 11) (na := na) (Q := Q) (Tt := TX11) (N := 12) (below := below) (meth := meth) (e := e) hdg M1 M2 M3 M4 (by rw [M5]; exact ii_RX11) M6 M7 M8 M9 (by rw [M5]; rfl) (ad := a1) (wr := mj_ws cA a2 sd (mkMs t)) (ls := ls) (rest := rest) (cells := cells) (slots := slots) hcs (gC_0 _ _ _ _) (ints_sv _ vs) (by rw [List.length_map]; exact hna) h4 e3 hP hD hS (by first | exact hl.1 | exact hl.1.symm) (by omega) (by omega) (fun r h' ad' H1 locs1 hk ha hsc hP1 hD1 hS1 => by
      obtain ⟨v, u', rfl, rfl, g⟩ := hk
      exact g ad' a2 H1 locs1 (cells + c1) (slots + s1) ls (ha.trans e1) e2 hsc e4 hP1 hD1 hS1 hl (by omega) (by omega))
  rw [ints_map, e1] at hk
  exact hk
theorem LG_M (E : lE p s m c b L xs D cA sd adK adV) : lc_M l q2 (LG p l e s m below meth c b Q D cA sd q1 q2) := by
  intro pc j na c1 s1 maxL y bytes rt cs vs rest i u t bc bs hdg hM hna h4 d1 d2 hcs a1 a2 H locs cells slots ls e1 e2 e3 e4 hP hD hS hl b1 b2
  obtain ⟨lev, M1, M2, M3, M4, M5, M6, M7, M8, M9⟩ := hM
  have hk := lw_call E (ci := 12) (na := na) (Q := Q) (Tt := TX12) (N := 100) (below := below) (meth := meth) (e := e) hdg M1 M2 M3 M4 (by rw [M5]; exact ii_RX12) M6 M7 M8 M9 (by rw [M5]; rfl) (ad := a2) (wr := mj_ws cA a1 sd (mkCs u)) (ls := ls) (rest := rest) (cells := cells) (slots := slots) hcs (gM_0 _ _) (ints_sv _ vs) (by rw [List.length_map]; exact hna) h4 e4 hP.swp hD.swp hS (by first | exact hl.1 | exact hl.1.symm) (by omega) (by omega) (fun r h' ad' H1 locs1 hk ha hsc hP1 hD1 hS1 => by
      obtain ⟨v, t', rfl, rfl, g⟩ := hk
      exact g a1 ad' H1 locs1 (cells + c1) (slots + s1) ls e1 (ha.trans e2) e3 hsc hP1.swp hD1.swp hS1 hl (by omega) (by omega))
  rw [ints_map, e2] at hk
  exact hk
theorem LG_w : lc_w (LG p l e s m below meth c b Q D cA sd q1 q2) := by
  intro pc i st u t bc bs bc' bs' h1 h2 g a1 a2 H locs cells slots ls e1 e2 e3 e4 hP hD hS hl b1 b2
  exact g a1 a2 H locs cells slots ls e1 e2 e3 e4 hP hD hS hl (by omega) (by omega)
theorem LG_cl (E : lE p s m c b L xs D cA sd adK adV) : LCl l L xs q1 q2 (LG p l e s m below meth c b Q D cA sd q1 q2) := ⟨LG_arg E, LG_a E, LG_z E, LG_e E, LG_C E, LG_M E, LG_w⟩
end LGS
