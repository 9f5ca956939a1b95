/-! the start: both sides as their constructors leave them hang together; what the Statement gives of the state -/
theorem z_in {x : Int32} {a b : Int} (hx : x = 0) (h1 : a ≤ 0) (h2 : 0 ≤ b) : inR x a b := by
  subst hx
  exact ⟨h1, h2⟩
theorem bt_0 (i : Nat) : bt 0 i = false := by
  unfold bt
  show (0#32).getLsbD i = false
  simp
theorem fl_m1 {n j : Nat} (h : j < n) {v : Int32} : flf (fun _ => 0) n v j = v := if_pos h
theorem RX_start : RX 0 s00 t00 := by
  have h5 : s00.2.1 401 = t00.2.1 1281 := by
    funext j
    show flf (fun _ => 0) 5 100 j = hM 5 j
    rfl
  refine ⟨?_, ?_, ?_, ?_, ?_, ?_, ?_, ?_, ?_, ?_, ?_, ?_, ?_, ?_, ?_, ?_, ?_, ?_, ?_, ?_⟩
  · exact ⟨rfl, z_in rfl (by decide) (by decide)⟩
  · exact ⟨rfl, z_in rfl (by decide) (by decide), rfl, rfl, rfl, fun _ => z_in rfl (by decide) (by decide), fun _ => z_in rfl (by decide) (by decide), fun _ => z_in rfl (by decide) (by decide)⟩
  · exact ⟨rfl, z_in rfl (by decide) (by decide), rfl, rfl, rfl, rfl, rfl, fun _ => z_in rfl (by decide) (by decide), fun _ => z_in rfl (by decide) (by decide), fun _ => z_in rfl (by decide) (by decide)⟩
  · exact ⟨rfl, z_in rfl (by decide) (by decide), rfl, rfl, rfl, rfl, fun _ => z_in rfl (by decide) (by decide)⟩
  · exact fun j hj => Or.inl ⟨rfl, fl_m1 hj⟩
  · exact ⟨rfl, z_in rfl (by decide) (by decide), rfl, rfl, rfl, rfl, rfl, rfl, rfl, fun _ => z_in rfl (by decide) (by decide), fun _ => z_in rfl (by decide) (by decide), fun _ => z_in rfl (by decide) (by decide), fun _ => z_in rfl (by decide) (by decide), fun _ => z_in rfl (by decide) (by decide), fun _ => z_in rfl (by decide) (by decide), fun j hj => absurd (show (j : Int) < 0 from hj) (by omega)⟩
  · intro j hj
    refine ⟨fun z => absurd (show (j : Int) < 0 from z) (by omega), fun _ => fl_m1 hj, ?_⟩
    have e : s00.2.1 508 j = -1 := fl_m1 hj
    rw [e]
    exact ⟨by decide, by decide⟩
  · exact ⟨z_in rfl (by decide) (by decide), fun k hk => absurd (show (k : Int) < 0 from hk) (by omega), fun j hj => ⟨fun w hw => bt_0 j, rfl⟩⟩
  · exact ⟨rfl, z_in rfl (by decide) (by decide), rfl, fun _ => z_in rfl (by decide) (by decide), fun k hk => absurd (show (k : Int) < 0 from hk) (by omega)⟩
  · exact ⟨rfl, z_in rfl (by decide) (by decide), rfl, rfl, rfl, rfl, fun _ => z_in rfl (by decide) (by decide), rfl, z_in rfl (by decide) (by decide), rfl, rfl, rfl⟩
  · intro v j hv hj
    show (0 : Int32) = bI (bt 0 v)
    rw [bt_0]
    rfl
  · exact ⟨rfl, z_in rfl (by decide) (by decide), rfl⟩
  · exact ⟨rfl, z_in rfl (by decide) (by decide), rfl, rfl, rfl, rfl, rfl, fun _ => z_in rfl (by decide) (by decide), fun _ => z_in rfl (by decide) (by decide)⟩
  · exact ⟨h5, rfl, z_in rfl (by decide) (by decide), rfl, z_in rfl (by decide) (by decide), fun j hj => ⟨rfl, rfl⟩, fun j hj _ => rfl, fun r hr _ => rfl, fun r hr => ⟨z_in rfl (by decide) (by decide), z_in rfl (by decide) (by decide), z_in rfl (by decide) (by decide)⟩, fun j hj z => absurd (show (j : Int) < 0 from z) (by omega)⟩
  · exact ⟨rfl, z_in rfl (by decide) (by decide), rfl, fun _ => z_in rfl (by decide) (by decide), rfl, z_in rfl (by decide) (by decide), rfl, fun _ => z_in rfl (by decide) (by decide)⟩
  · exact ⟨rfl, z_in rfl (by decide) (by decide), rfl, rfl, z_in rfl (by decide) (by decide), fun _ => z_in rfl (by decide) (by decide), fun _ => z_in rfl (by decide) (by decide), fun _ => z_in rfl (by decide) (by decide), fun j hj => rfl⟩
  · refine ⟨rfl, fun _ => z_in rfl (by decide) (by decide), fun j hj => ?_⟩
    have e1 : s00.2.1 200 j = 10 := fl_m1 hj
    have e2 : s00.2.1 201 j = 15 := fl_m1 hj
    have e3 : t00.2.1 1201 j = 10 := if_pos hj
    have e4 : t00.2.1 1201 (120 + j) = 15 := (if_neg (by omega)).trans (if_pos (by omega))
    rw [e1, e2, e3, e4]
    exact ⟨rfl, rfl, ⟨by decide, by decide⟩, ⟨by decide, by decide⟩⟩
  · exact ⟨rfl, z_in rfl (by decide) (by decide), rfl, rfl, rfl, fun _ => z_in rfl (by decide) (by decide), fun _ => z_in rfl (by decide) (by decide), fun j hj => absurd (show (j : Int) < 0 from hj) (by omega)⟩
  · exact ⟨fun k i k2 i2 a _ _ h => (nomatch h), fun k i a _ h => (nomatch h)⟩
  · exact fun n hn => ⟨z_in rfl (by decide) (by decide), fun a h => (nomatch h), fun _ => rfl⟩
/-! the machine's tables at the start -/
theorem tw_lw {w : Cond} (h : w ∈ mj_tw) : w ∈ lw_tbl := (List.mem_filter.mp h).1
theorem ins_all : ∀ (c : Nat) (q : vw_C), vwCl[c]? = some q → Cond.instantiable q.1 q.2.2 ∈ lw_tbl := by
  intro c q hq
  match c, hq with
  | 0, hq => cases hq; exact List.mem_of_getElem? (i := 200) (by decide +kernel)
  | 1, hq => cases hq; exact List.mem_of_getElem? (i := 240) (by decide +kernel)
  | 2, hq => cases hq; exact List.mem_of_getElem? (i := 128) (by decide +kernel)
  | 3, hq => cases hq; exact List.mem_of_getElem? (i := 598) (by decide +kernel)
  | 4, hq => cases hq; exact List.mem_of_getElem? (i := 526) (by decide +kernel)
  | 5, hq => cases hq; exact List.mem_of_getElem? (i := 315) (by decide +kernel)
  | 6, hq => cases hq; exact List.mem_of_getElem? (i := 437) (by decide +kernel)
  | 7, hq => cases hq; exact List.mem_of_getElem? (i := 568) (by decide +kernel)
  | 8, hq => cases hq; exact List.mem_of_getElem? (i := 483) (by decide +kernel)
  | 9, hq => cases hq; exact List.mem_of_getElem? (i := 157) (by decide +kernel)
  | 10, hq => cases hq; exact List.mem_of_getElem? (i := 377) (by decide +kernel)
  | 11, hq => cases hq; exact List.mem_of_getElem? (i := 120) (by decide +kernel)
  | 12, hq => cases hq; exact List.mem_of_getElem? (i := 1406) (by decide +kernel)
  | n + 13, hq => simp [vwCl] at hq
section ES
variable {s : State} {args : Array Value}
theorem e_cls (hts : ∀ w ∈ lw_tbl, w.before args s = true) : ∃ D : va_G, ∀ (c : Nat) (q : vw_C), vwCl[c]? = some q → u_Kn s q.1 q.2.1 q.2.2 (D.1 c) (D.2 c) := by
  have h : ∀ c : Nat, ∃ r : ClassId × (Nat → Nat), ∀ q : vw_C, vwCl[c]? = some q → u_Kn s q.1 q.2.1 q.2.2 r.1 r.2 := by
    intro c
    cases hc : vwCl[c]? with
    | none => exact ⟨(0, fun _ => 0), fun q hq => by cases hq⟩
    | some q =>
      obtain ⟨C, T, N⟩ := q
      obtain ⟨ty, -, -, hin, -⟩ := mj_cls hc
      obtain ⟨cC, iS, hK⟩ := u_known (C := C) (T := T) (N := N) (n := N) hts (fun w hw => tw_lw (hin w hw)) (hts _ (ins_all c _ hc))
      exact ⟨(cC, iS), fun q hq => by cases hq; exact hK⟩
  obtain ⟨f, hf⟩ := Classical.axiomOfChoice h
  exact ⟨(fun c => (f c).1, fun c => (f c).2), hf⟩
theorem e_arr (hts : ∀ w ∈ lw_tbl, w.before args s = true) : ∃ cA : FieldType → ClassId, (∀ (k : Nat) (q : ClassId × FieldType), (mj_tys cA)[k]? = some q → ArrOfT s q.1 q.2 ∧ va_RA s q.1 q.2) ∧ ∃ kA : Class, s.vm.classes[cA (.array .int)]? = some kA ∧ kA.kind = .array (cA .int) (.array .int) := by
  obtain ⟨a1, k1, p1, f1, g1, h1⟩ := Cond.arrayClass_spec (hts (Cond.arrayClass .int) (List.mem_of_getElem? (i := 154) (by decide +kernel)))
  obtain ⟨a2, k2, p2, f2, g2, h2⟩ := Cond.arrayClass_spec (hts (Cond.arrayClass .boolean) (List.mem_of_getElem? (i := 155) (by decide +kernel)))
  obtain ⟨comp, a3, k3, f0, -, g3, h3, f3⟩ := arrayOverA_spec (hts (Cond.arrayOver (.array .int)) (List.mem_of_getElem? (i := 134) (by decide +kernel)))
  have e : comp = a1 := Option.some.inj (f0.symm.trans f1)
  subst e
  refine ⟨fun ty => match ty with
    | .int => comp
    | .boolean => a2
    | _ => a3, fun k q hq => ?_, k3, g3, h3⟩
  match k, hq with
  | 0, hq => cases hq; exact ⟨fun N z => ⟨(fun k h => by cases h), k1, g1, p1, h1⟩, f1⟩
  | 1, hq => cases hq; exact ⟨fun N z => ⟨(fun k h => by cases h), k2, g2, p2, h2⟩, f2⟩
  | 2, hq => cases hq; exact ⟨fun N z => ⟨(fun k h => by cases h), k3, g3, comp, h3⟩, f3⟩
  | k + 3, hq => simp [mj_tys] at hq
theorem e_tab {C n : String} {N : Nat} {f : Nat → Int32} (hl : (Cond.laysStatic C n "[I").before args s = true) (hini : (Cond.initialized C).before args s = true) (harr : (Cond.arrayOf (.static C n "[I") .int).before args s = true) (hlen : (Cond.eq (.length (.static C n "[I")) (.int (Int32.ofNat N))).before args s = true) (hel : ∀ j : Nat, j < N → (Cond.eq (.elem (.static C n "[I") (.int (Int32.ofNat j))) (.int (f j))).before args s = true) (hN : N < 2 ^ 31) : ∃ t : Nat, va_Z C n "[I" (.ref t) (fun q => s.heap.size ≤ q) s s.heap ∧ va_T .int t N (fun j => .int (f j)) (fun q => s.heap.size ≤ q) s s.heap := by
  have hA : ∀ a : Nat, a < s.heap.size → ¬ (fun q => s.heap.size ≤ q) a := fun a h => Nat.not_le.mpr h
  obtain ⟨t, h1, h2⟩ := va_Tof (f := fun j => .int (f j)) hN harr (va_eqt hlen) (fun j hj => va_eqt (hel j hj)) hA
  exact ⟨t, va_Zref hl hini h1 hA, h2⟩
theorem e_st (hts : ∀ w ∈ lw_tbl, w.before args s = true) (hs : ∀ w ∈ flatC (Jvm.Cond.and given_1 narrow_1), w.before args s = true) : ∃ sd : Nat → Nat, mj_St sd (fun q => s.heap.size ≤ q) s s.heap := by
  have f0 : ∀ j, j < 7 → Cond.eq (.elem (.static "EveryChild$Code" "LABELS" "[I") (.int (Int32.ofNat j))) (.int (([119, 104, 115, 116, 118, 99, 102] : List Int32).getD j 0)) ∈ flatC (Jvm.Cond.and given_1 narrow_1) := by decide +kernel
  have f1 : ∀ j, j < 7 → Cond.eq (.elem (.static "EveryChild$Code" "USUAL" "[I") (.int (Int32.ofNat j))) (.int (([60, 40, 1, 1, 0, 1, 0] : List Int32).getD j 0)) ∈ flatC (Jvm.Cond.and given_1 narrow_1) := by decide +kernel
  have f2 : ∀ j, j < 5 → Cond.eq (.elem (.static "EveryChild$Yard" "PER_ROOM" "[I") (.int (Int32.ofNat j))) (.int (([1, 2, 4, 1, 3] : List Int32).getD j 0)) ∈ flatC (Jvm.Cond.and given_1 narrow_1) := by decide +kernel
  obtain ⟨t0, z0, y0⟩ := e_tab (C := "EveryChild$Code") (n := "LABELS") (N := 7) (hts _ (List.mem_of_getElem? (i := 908) (by decide +kernel))) (hts _ (tw_lw ii_RX0)) (hs _ (by decide +kernel)) (hs _ (by decide +kernel)) (fun j hj => hs _ (f0 j hj)) (by decide)
  obtain ⟨t1, z1, y1⟩ := e_tab (C := "EveryChild$Code") (n := "USUAL") (N := 7) (hts _ (List.mem_of_getElem? (i := 757) (by decide +kernel))) (hts _ (tw_lw ii_RX0)) (hs _ (by decide +kernel)) (hs _ (by decide +kernel)) (fun j hj => hs _ (f1 j hj)) (by decide)
  obtain ⟨t2, z2, y2⟩ := e_tab (C := "EveryChild$Yard") (n := "PER_ROOM") (N := 5) (hts _ (List.mem_of_getElem? (i := 847) (by decide +kernel))) (hts _ (tw_lw ii_RX10)) (hs _ (by decide +kernel)) (hs _ (by decide +kernel)) (fun j hj => hs _ (f2 j hj)) (by decide)
  refine ⟨fun i => if i = 0 then t0 else if i = 1 then t1 else t2, fun i hi => ?_⟩
  match i, hi with
  | 0, _ => exact ⟨z0, fun n f hf => by cases hf; exact y0⟩
  | 1, _ => exact ⟨z1, fun n f hf => by cases hf; exact y1⟩
  | 2, _ => exact ⟨z2, fun n f hf => by cases hf; exact y2⟩
theorem e_str (hts : ∀ w ∈ lw_tbl, w.before args s = true) (hs : ∀ w ∈ flatC (Jvm.Cond.and given_1 narrow_1), w.before args s = true) : ∃ adK adV : Nat → Nat, vk_S 1 [7] [[119, 104, 115, 116, 118, 99, 102]] adK adV (fun q => s.heap.size ≤ q) s s.heap ∧ vk_R "EveryChildModel" 433 "whstvcf" (adK 0) s := by
  have f0 : ∀ j, j < 7 → Cond.eq (.elem (.field (.string "EveryChildModel" 433) "java/lang/String" "value" "[B") (.int (Int32.ofNat j))) (.int (([119, 104, 115, 116, 118, 99, 102] : List Int32).getD j 0)) ∈ flatC (Jvm.Cond.and given_1 narrow_1) := by decide +kernel
  have z : ∀ i : Nat, i < 1 → i = 0 := fun i hi => by omega
  obtain ⟨adK, adV, h1, h2⟩ := vk_Sof (args := args) (s := s) (N := 1) (tm := fun _ => .string "EveryChildModel" 433) (len := [7]) (byt := [[119, 104, 115, 116, 118, 99, 102]]) (A := fun q => s.heap.size ≤ q) (fun i hi => by rw [z i hi]; decide) (fun i hi => hs _ (by decide +kernel)) (fun i hi => hs _ (by decide +kernel)) (fun i hi => hs _ (by decide +kernel)) (fun i hi => by rw [z i hi]; exact hs _ (by decide +kernel)) (fun i hi j hj => by rw [z i hi] at hj ⊢; exact hs _ (f0 j hj)) (fun i j hi hj h => absurd ((z i hi).trans (z j hj).symm) h) (fun a h => Nat.not_le.mpr h)
  exact ⟨adK, adV, h1, vk_R.of (hts _ (List.mem_of_getElem? (i := 1934) (by decide +kernel))) (h2 0 (by decide))⟩
theorem e_qx (hts : ∀ w ∈ lw_tbl, w.before args s = true) (hs : ∀ w ∈ flatC (Jvm.Cond.and given_1 narrow_1), w.before args s = true) : qx (fun q => s.heap.size ≤ q) s s.heap := by
  have hA : ∀ a : Nat, a < s.heap.size → ¬ (fun q => s.heap.size ≤ q) a := fun a h => Nat.not_le.mpr h
  refine ⟨va_Zof (hts _ (List.mem_of_getElem? (i := 1944) (by decide +kernel))) (hts _ (tw_lw wq_iS)) (va_eqi (hs _ (by decide +kernel))) hA, ?_⟩
  rcases va_Zqof (C := "jdk/internal/util/Preconditions") (n := "SIOOBE_FORMATTER") (d := "Ljava/util/function/BiFunction;") (hts _ (List.mem_of_getElem? (i := 1952) (by decide +kernel))) (hts _ (tw_lw wq_iP)) (hs _ (by decide +kernel)) hA with h | ⟨t, h⟩
  · exact ⟨_, Or.inl rfl, h⟩
  · exact ⟨_, Or.inr ⟨t, rfl⟩, h⟩
theorem e_X (hts : ∀ w ∈ lw_tbl, w.before args s = true) (hs : ∀ w ∈ flatC (Jvm.Cond.and given_1 narrow_1), w.before args s = true) : ∃ sd adK adV : Nat → Nat, mj_X sd adK adV (fun q => s.heap.size ≤ q) s s.heap := by
  obtain ⟨sd, h1⟩ := e_st hts hs
  obtain ⟨adK, adV, h2, h3⟩ := e_str hts hs
  refine ⟨sd, adK, adV, fun w hw hn => ?_, ?_, h1, h3, h2⟩
  · have h6 := hts w hw
    cases w <;> first | exact va_Nw.of rfl h6 | exact (Bool.false_ne_true hn).elim
  · have h6 := hts (Cond.arrayOver (.array .int)) (List.mem_of_getElem? (i := 134) (by decide +kernel))
    unfold mj_AO
    simpa [Cond.before, Cond.holds, Cond.value] using h6
end ES
