/-! what mj_I says holds of the machine: fields, arrays, makings -/
section MJ
variable {p : Program} {l : Launch} {e : Env} {R : Room} {s : State} {m : MethodId} {args : Array Value} {below : List Frame} {meth : Method} {c : Code} {Q : State → Prop} {cc : ByteArray} {own : String} {ini : Bool} {lev : Nat} {D : va_G} {cA : FieldType → ClassId} {sd adK adV : Nat → Nat} {A : Nat → Prop} {n0 : Nat} {ad0 : Nat → Nat} {mc ms : Nat} {T : mj_T} {ret : Option Value → mj_H → Prop} {pc : Nat} {L st : List Value} {h : mj_H} {bc bs : Nat}
set_option maxHeartbeats 400000 in
theorem mj_fl {C : String} {Tt : u_T} {k i : Nat} (hts : ∀ w ∈ mj_tw, w.before args s = true) (hX : mj_X sd adK adV A s s.heap) (h : Cond.fieldLink own i C (Tt k).2.1 (Tt k).2.2.1 ∈ mj_tw ∨ ∃ host : String, Cond.fieldLinkNest own i C (Tt k).2.1 (Tt k).2.2.1 host ∈ lw_tbl) : (Cond.fieldLink own i C (Tt k).2.1 (Tt k).2.2.1).before args s = true ∨ ∃ host : String, (Cond.fieldLinkNest own i C (Tt k).2.1 (Tt k).2.2.1 host).before args s = true := by
  rcases h with h | ⟨host, h⟩
  · exact Or.inl (hts _ h)
  · exact Or.inr ⟨host, va_Nw.use rfl (hX.1 _ h rfl)⟩
theorem mj_val {ad sd : Nat → Nat} {fs : List Value} {k : Nat} {v : Value} (h : fs[k]? = some v) : (fs.map (mj_tv ad sd))[k]? = some (mj_tv ad sd v) := by
  rw [List.getElem?_map, h]; rfl
theorem mj_scs {n : Nat} {h : mj_H} {i : Nat} {q : mj_C} (hs : ∀ c ∈ h, mj_sc n c) (hq : mj_sc n q) : ∀ c ∈ h.set i q, mj_sc n c := fun c hc => by
  rcases List.mem_or_eq_of_mem_set hc with h1 | h1
  · exact hs c h1
  · rw [h1]; exact hq
set_option maxHeartbeats 400000 in
theorem mj_s_getfield {i : Nat} {K : mj_K} (hKG : ∀ pc L st h bc bs, K pc L st h bc bs → mj_Go p l e R s m args below meth c Q D cA sd A n0 ad0 mc ms T.1 pc L st h bc bs) (X : mj_Cx p l R s m args meth c cc own ini lev D cA sd adK adV A mc ms T) (hdg : decode cc pc = .ok (.getfield i, 3)) (hI : mj_I T ret K pc L st h bc bs (.getfield i)) : mj_Go p l e R s m args below meth c Q D cA sd A n0 ad0 mc ms T.1 pc L st h bc bs := by
  obtain ⟨hx, hb, hml, hown, hts, hK, hA, hX, hR, hin, hTF⟩ := X
  replace hI : match (generalizing := false) st, T.2.2.1 i with
    | .ref a :: r, some (ci, k) => (match (generalizing := false) h[a]? with
      | some (.inr (cj, fs)) => cj = ci ∧ (match (generalizing := false) fs[k]? with
        | some v => K (pc + 3) L (v :: r) h bc bs
        | none => False)
      | _ => False)
    | _, _ => False := hI
  split at hI
  · next a r ci k hT =>
    split at hI
    · next cj fs hc =>
      obtain ⟨rfl, hI⟩ := hI
      split at hI
      · next v hv =>
        intro ad H locs cells slots ls e1 e2 e3 e4 e5 hP hD hS hl b1 b2
        obtain ⟨C, Tt, N, g1, g2, g3, g4⟩ := hTF.1 i cj k hT
        obtain ⟨ty, y1, y2, y3, -⟩ := mj_cls g1
        have hsv : mj_sv h.length v := by
          have := e5 _ (List.mem_of_getElem? hc)
          exact this v (List.mem_of_getElem? hv)
        rcases mj_fl hts hX g4 with g5 | ⟨host, g5⟩
        · refine va_get (D := D) (ci := cj) (v := mj_tv ad sd v) (C := C) (T := Tt) (N := N) hx hb hts y3 hown hK.1 hP a (mj_ws_at hc) g1 k g2 g5 (fun _ h9 => by rw [← g3]; exact h9) (mj_val hv) hdg ?_
          exact hKG _ _ _ _ _ _ (hI) ad H locs cells slots ls e1 e2 (mj_cn hsv (mj_tl e3)) e4 e5 hP hD hS hl b1 b2
        · refine va_getN (D := D) (ci := cj) (v := mj_tv ad sd v) (C := C) (T := Tt) (N := N) hx hb hts y3 hown hK.1 hP a (mj_ws_at hc) g1 k g2 g5 (fun _ h9 => by rw [← g3]; exact h9) (mj_val hv) hdg ?_
          exact hKG _ _ _ _ _ _ (hI) ad H locs cells slots ls e1 e2 (mj_cn hsv (mj_tl e3)) e4 e5 hP hD hS hl b1 b2
      · exact hI.elim
    · exact hI.elim
  · exact hI.elim
set_option maxHeartbeats 400000 in
theorem mj_s_putfield {i : Nat} {K : mj_K} (hKG : ∀ pc L st h bc bs, K pc L st h bc bs → mj_Go p l e R s m args below meth c Q D cA sd A n0 ad0 mc ms T.1 pc L st h bc bs) (X : mj_Cx p l R s m args meth c cc own ini lev D cA sd adK adV A mc ms T) (hdg : decode cc pc = .ok (.putfield i, 3)) (hI : mj_I T ret K pc L st h bc bs (.putfield i)) : mj_Go p l e R s m args below meth c Q D cA sd A n0 ad0 mc ms T.1 pc L st h bc bs := by
  obtain ⟨hx, hb, hml, hown, hts, hK, hA, hX, hR, hin, hTF⟩ := X
  replace hI : match (generalizing := false) st, T.2.2.2.1 i with
    | .int x :: .ref a :: r, some (ci, k, true) => (match (generalizing := false) h[a]? with
      | some (.inr (cj, fs)) => cj = ci ∧ k < fs.length ∧ K (pc + 3) L r (h.set a (.inr (cj, fs.set k (.int x)))) bc bs
      | _ => False)
    | .ref x :: .ref a :: r, some (ci, k, false) => (match (generalizing := false) h[a]? with
      | some (.inr (cj, fs)) => cj = ci ∧ k < fs.length ∧ K (pc + 3) L r (h.set a (.inr (cj, fs.set k (.ref x)))) bc bs
      | _ => False)
    | _, _ => False := hI
  split at hI
  · next x a r ci k hT =>
    split at hI
    · next cj fs hc =>
      obtain ⟨rfl, hlen, hI⟩ := hI
      intro ad H locs cells slots ls e1 e2 e3 e4 e5 hP hD hS hl b1 b2
      obtain ⟨C, Tt, N, g1, g2, g3, g4, g5⟩ := hTF.2.1 i cj k _ hT
      obtain ⟨ty, y1, y2, y3, -⟩ := mj_cls g1
      have hsf : mj_sc h.length (.inr (cj, fs.set k (.int x))) := by
        have h8 := e5 _ (List.mem_of_getElem? hc)
        intro w hw
        rcases List.mem_or_eq_of_mem_set hw with h9 | h9
        · exact h8 w h9
        · rw [h9]; exact trivial
      have hfin : ∀ (H1 : Heap) (locs1 : List Loc), va_P D vwCl ((mj_ws cA ad sd h).set a (ad a, .inr (cj, (fs.map (mj_tv ad sd)).set k (mj_tv ad sd (.int x))))) H1 → va_D A ((mj_ws cA ad sd h).set a (ad a, .inr (cj, (fs.map (mj_tv ad sd)).set k (mj_tv ad sd (.int x))))) → va_S A s.heap H1 locs1 → W p l e R s m args below meth c H1 locs1 cells slots Q (F0 m (pc + 3) ls (r.map (mj_tv ad sd))) := by
        intro H1 locs1 hP hD hS
        have hq : ((mj_ws cA ad sd h).set a (ad a, .inr (cj, (fs.map (mj_tv ad sd)).set k (mj_tv ad sd (.int x))))) = mj_ws cA ad sd (h.set a (.inr (cj, fs.set k (.int x)))) := by
          rw [← mj_ws_set]
          simp only [mj_tc, List.map_set]
        rw [hq] at hP hD
        exact hKG _ _ _ _ _ _ (hI) ad H1 locs1 cells slots ls e1 (by rw [List.length_set]; exact e2) (by rw [List.length_set]; exact mj_tl (mj_tl e3)) (by rw [List.length_set]; exact e4) (by rw [List.length_set]; exact mj_scs e5 hsf) hP hD hS hl b1 b2
      have hd : ∃ ty', parseFieldDescriptor (Tt k).2.2.1 = some ty' ∧ narrow ty' (mj_tv ad sd (.int x)) = mj_tv ad sd (.int x) ∧ fits ty' (mj_tv ad sd (.int x)) = true := by
        rcases g5 with ⟨-, g5⟩ | ⟨g5, -⟩
        · exact ⟨.int, g5, rfl, rfl⟩
        · cases g5
      obtain ⟨ty', d1, d2, d3⟩ := hd
      rcases g4 with ⟨f1, g4⟩ | ⟨f1, f2, f3, f4⟩
      · rcases mj_fl hts hX g4 with g6 | ⟨host, g6⟩
        · exact va_put (D := D) (ci := cj) (v := mj_tv ad sd (.int x)) (ty := ty') (C := C) (T := Tt) (N := N) hx hb hts y3 ty y1 y2 hown hK.1 hP hD hS a (mj_ws_at hc) g1 k g2 g6 (fun _ h9 => by rw [← g3]; exact h9) f1 d1 d2 d3 (by rw [List.length_map]; exact hlen) hdg hfin
        · exact va_putN (D := D) (ci := cj) (v := mj_tv ad sd (.int x)) (ty := ty') (C := C) (T := Tt) (N := N) hx hb hts y3 ty y1 y2 hown hK.1 hP hD hS a (mj_ws_at hc) g1 k g2 g6 (fun _ h9 => by rw [← g3]; exact h9) f1 d1 d2 d3 (by rw [List.length_map]; exact hlen) hdg hfin
      · exact va_putF (D := D) (ci := cj) (v := mj_tv ad sd (.int x)) (ty := ty') (C := C) (T := Tt) (N := N) hx hb hts y3 ty y1 y2 hown hK.1 hP hD hS a (mj_ws_at hc) g1 k g2 (hts _ f4) (fun _ h9 => by rw [← g3]; exact h9) f1 (hin f2) (by rw [g3, f3]) d1 d2 d3 (by rw [List.length_map]; exact hlen) hdg hfin
    · exact hI.elim
  · next x a r ci k hT =>
    split at hI
    · next cj fs hc =>
      obtain ⟨rfl, hlen, hI⟩ := hI
      intro ad H locs cells slots ls e1 e2 e3 e4 e5 hP hD hS hl b1 b2
      obtain ⟨C, Tt, N, g1, g2, g3, g4, g5⟩ := hTF.2.1 i cj k _ hT
      obtain ⟨ty, y1, y2, y3, -⟩ := mj_cls g1
      have hsf : mj_sc h.length (.inr (cj, fs.set k (.ref x))) := by
        have h8 := e5 _ (List.mem_of_getElem? hc)
        intro w hw
        rcases List.mem_or_eq_of_mem_set hw with h9 | h9
        · exact h8 w h9
        · rw [h9]; exact mj_hd e3
      have hfin : ∀ (H1 : Heap) (locs1 : List Loc), va_P D vwCl ((mj_ws cA ad sd h).set a (ad a, .inr (cj, (fs.map (mj_tv ad sd)).set k (mj_tv ad sd (.ref x))))) H1 → va_D A ((mj_ws cA ad sd h).set a (ad a, .inr (cj, (fs.map (mj_tv ad sd)).set k (mj_tv ad sd (.ref x))))) → va_S A s.heap H1 locs1 → W p l e R s m args below meth c H1 locs1 cells slots Q (F0 m (pc + 3) ls (r.map (mj_tv ad sd))) := by
        intro H1 locs1 hP hD hS
        have hq : ((mj_ws cA ad sd h).set a (ad a, .inr (cj, (fs.map (mj_tv ad sd)).set k (mj_tv ad sd (.ref x))))) = mj_ws cA ad sd (h.set a (.inr (cj, fs.set k (.ref x)))) := by
          rw [← mj_ws_set]
          simp only [mj_tc, List.map_set]
        rw [hq] at hP hD
        exact hKG _ _ _ _ _ _ (hI) ad H1 locs1 cells slots ls e1 (by rw [List.length_set]; exact e2) (by rw [List.length_set]; exact mj_tl (mj_tl e3)) (by rw [List.length_set]; exact e4) (by rw [List.length_set]; exact mj_scs e5 hsf) hP hD hS hl b1 b2
      have hd : ∃ ty', parseFieldDescriptor (Tt k).2.2.1 = some ty' ∧ narrow ty' (mj_tv ad sd (.ref x)) = mj_tv ad sd (.ref x) ∧ fits ty' (mj_tv ad sd (.ref x)) = true := by
        rcases g5 with ⟨g5, -⟩ | ⟨-, ⟨n, g5⟩ | ⟨t, g5⟩⟩
        · cases g5
        · exact ⟨.object n, g5, rfl, rfl⟩
        · exact ⟨.array t, g5, rfl, rfl⟩
      obtain ⟨ty', d1, d2, d3⟩ := hd
      rcases g4 with ⟨f1, g4⟩ | ⟨f1, f2, f3, f4⟩
      · rcases mj_fl hts hX g4 with g6 | ⟨host, g6⟩
        · exact va_put (D := D) (ci := cj) (v := mj_tv ad sd (.ref x)) (ty := ty') (C := C) (T := Tt) (N := N) hx hb hts y3 ty y1 y2 hown hK.1 hP hD hS a (mj_ws_at hc) g1 k g2 g6 (fun _ h9 => by rw [← g3]; exact h9) f1 d1 d2 d3 (by rw [List.length_map]; exact hlen) hdg hfin
        · exact va_putN (D := D) (ci := cj) (v := mj_tv ad sd (.ref x)) (ty := ty') (C := C) (T := Tt) (N := N) hx hb hts y3 ty y1 y2 hown hK.1 hP hD hS a (mj_ws_at hc) g1 k g2 g6 (fun _ h9 => by rw [← g3]; exact h9) f1 d1 d2 d3 (by rw [List.length_map]; exact hlen) hdg hfin
      · exact va_putF (D := D) (ci := cj) (v := mj_tv ad sd (.ref x)) (ty := ty') (C := C) (T := Tt) (N := N) hx hb hts y3 ty y1 y2 hown hK.1 hP hD hS a (mj_ws_at hc) g1 k g2 (hts _ f4) (fun _ h9 => by rw [← g3]; exact h9) f1 (hin f2) (by rw [g3, f3]) d1 d2 d3 (by rw [List.length_map]; exact hlen) hdg hfin
    · exact hI.elim
  · exact hI.elim
set_option maxHeartbeats 400000 in
theorem mj_s_getstatic {i : Nat} {K : mj_K} (hKG : ∀ pc L st h bc bs, K pc L st h bc bs → mj_Go p l e R s m args below meth c Q D cA sd A n0 ad0 mc ms T.1 pc L st h bc bs) (X : mj_Cx p l R s m args meth c cc own ini lev D cA sd adK adV A mc ms T) (hdg : decode cc pc = .ok (.getstatic i, 3)) (hI : mj_I T ret K pc L st h bc bs (.getstatic i)) : mj_Go p l e R s m args below meth c Q D cA sd A n0 ad0 mc ms T.1 pc L st h bc bs := by
  obtain ⟨hx, hb, hml, hown, hts, hK, hA, hX, hR, hin, hTF⟩ := X
  replace hI : match (generalizing := false) T.2.2.2.2.2.1 i with
    | some k => k < 3 ∧ K (pc + 3) L (.float (UInt32.ofNat k) :: st) h bc bs
    | none => False := hI
  split at hI
  · next k hT =>
    intro ad H locs cells slots ls e1 e2 e3 e4 e5 hP hD hS hl b1 b2
    obtain ⟨g1, g2⟩ := hTF.2.2.2.1 i k hT
    have hk : (UInt32.ofNat k).toNat = k := by
      have := hI.1
      simp
      omega
    refine va_gets hx hb (v := .ref (sd k)) (hX.2.2.1 k hI.1).1 hS hown (hts _ g2) (fun _ h9 => by rw [← g1]; exact h9) hdg ?_
    have h7 := hKG _ _ _ _ _ _ (hI.2) ad H locs cells slots ls e1 e2 (mj_cn trivial e3) e4 e5 hP hD hS hl b1 b2
    simp only [List.map_cons, mj_tv, hk] at h7
    exact h7
  · exact hI.elim
set_option maxHeartbeats 400000 in
theorem mj_s_ldc {i : Nat} {K : mj_K} (hKG : ∀ pc L st h bc bs, K pc L st h bc bs → mj_Go p l e R s m args below meth c Q D cA sd A n0 ad0 mc ms T.1 pc L st h bc bs) (X : mj_Cx p l R s m args meth c cc own ini lev D cA sd adK adV A mc ms T) (hdg : decode cc pc = .ok (.ldc i, 2)) (hI : mj_I T ret K pc L st h bc bs (.ldc i)) : mj_Go p l e R s m args below meth c Q D cA sd A n0 ad0 mc ms T.1 pc L st h bc bs := by
  obtain ⟨hx, hb, hml, hown, hts, hK, hA, hX, hR, hin, hTF⟩ := X
  replace hI : match (generalizing := false) T.2.2.2.2.1 i with
    | some (.int x) => K (pc + 2) L (.int x :: st) h bc bs
    | _ => False := hI
  split at hI
  · next x hT =>
    intro ad H locs cells slots ls e1 e2 e3 e4 e5 hP hD hS hl b1 b2
    rcases hTF.2.2.1 i _ hT with ⟨z, g1, g2⟩ | ⟨z, g1, g2⟩
    · cases g1
      refine lv_ldc hx hb hown (hts _ g2) hdg ?_
      exact hKG _ _ _ _ _ _ (hI) ad H locs cells slots ls e1 e2 (mj_cn trivial e3) e4 e5 hP hD hS hl b1 b2
    · cases g1
  · exact hI.elim
set_option maxHeartbeats 400000 in
theorem mj_s_ldc_w {i : Nat} {K : mj_K} (hKG : ∀ pc L st h bc bs, K pc L st h bc bs → mj_Go p l e R s m args below meth c Q D cA sd A n0 ad0 mc ms T.1 pc L st h bc bs) (X : mj_Cx p l R s m args meth c cc own ini lev D cA sd adK adV A mc ms T) (hdg : decode cc pc = .ok (.ldc_w i, 3)) (hI : mj_I T ret K pc L st h bc bs (.ldc_w i)) : mj_Go p l e R s m args below meth c Q D cA sd A n0 ad0 mc ms T.1 pc L st h bc bs := by
  obtain ⟨hx, hb, hml, hown, hts, hK, hA, hX, hR, hin, hTF⟩ := X
  replace hI : match (generalizing := false) T.2.2.2.2.1 i with
    | some (.int x) => K (pc + 3) L (.int x :: st) h bc bs
    | _ => False := hI
  split at hI
  · next x hT =>
    intro ad H locs cells slots ls e1 e2 e3 e4 e5 hP hD hS hl b1 b2
    rcases hTF.2.2.1 i _ hT with ⟨z, g1, g2⟩ | ⟨z, g1, g2⟩
    · cases g1
      refine lv_ldcw hx hb hown (hts _ g2) hdg ?_
      exact hKG _ _ _ _ _ _ (hI) ad H locs cells slots ls e1 e2 (mj_cn trivial e3) e4 e5 hP hD hS hl b1 b2
    · cases g1
  · exact hI.elim
set_option maxHeartbeats 400000 in
theorem mj_s_ldc2_w {i : Nat} {K : mj_K} (hKG : ∀ pc L st h bc bs, K pc L st h bc bs → mj_Go p l e R s m args below meth c Q D cA sd A n0 ad0 mc ms T.1 pc L st h bc bs) (X : mj_Cx p l R s m args meth c cc own ini lev D cA sd adK adV A mc ms T) (hdg : decode cc pc = .ok (.ldc2_w i, 3)) (hI : mj_I T ret K pc L st h bc bs (.ldc2_w i)) : mj_Go p l e R s m args below meth c Q D cA sd A n0 ad0 mc ms T.1 pc L st h bc bs := by
  obtain ⟨hx, hb, hml, hown, hts, hK, hA, hX, hR, hin, hTF⟩ := X
  replace hI : match (generalizing := false) T.2.2.2.2.1 i with
    | some (.long x) => K (pc + 3) L (.long x :: st) h bc bs
    | _ => False := hI
  split at hI
  · next x hT =>
    intro ad H locs cells slots ls e1 e2 e3 e4 e5 hP hD hS hl b1 b2
    rcases hTF.2.2.1 i _ hT with ⟨z, g1, g2⟩ | ⟨z, g1, g2⟩
    · cases g1
    · cases g1
      refine lv_ldc2 hx hb hown (hts _ g2) hdg ?_
      exact hKG _ _ _ _ _ _ (hI) ad H locs cells slots ls e1 e2 (mj_cn trivial e3) e4 e5 hP hD hS hl b1 b2
  · exact hI.elim
set_option maxHeartbeats 400000 in
theorem mj_s_iaload {K : mj_K} (hKG : ∀ pc L st h bc bs, K pc L st h bc bs → mj_Go p l e R s m args below meth c Q D cA sd A n0 ad0 mc ms T.1 pc L st h bc bs) (X : mj_Cx p l R s m args meth c cc own ini lev D cA sd adK adV A mc ms T) (hdg : decode cc pc = .ok (.iaload, 1)) (hI : mj_I T ret K pc L st h bc bs .iaload) : mj_Go p l e R s m args below meth c Q D cA sd A n0 ad0 mc ms T.1 pc L st h bc bs := by
  obtain ⟨hx, hb, hml, hown, hts, hK, hA, hX, hR, hin, hTF⟩ := X
  replace hI : match (generalizing := false) st with
    | .int i :: .ref a :: r => (match (generalizing := false) h[a]? with
      | some (.inl (.int, n, .inl f)) => vp_in i n ∧ K (pc + 1) L (.int (f i.toNatClampNeg) :: r) h bc bs
      | _ => False)
    | .int i :: .float b :: r => (match (generalizing := false) mj_stat b.toNat with
      | some (n, f) => vp_in i n ∧ K (pc + 1) L (.int (f i.toNatClampNeg) :: r) h bc bs
      | none => False)
    | _ => False := hI
  split at hI
  · next i a r =>
    split at hI
    · next n f hc =>
      intro ad H locs cells slots ls e1 e2 e3 e4 e5 hP hD hS hl b1 b2
      refine va_iald hx hb hK.1 hP a 0 (mj_ws_at hc) rfl hI.1 hdg ?_
      exact hKG _ _ _ _ _ _ (hI.2) ad H locs cells slots ls e1 e2 (mj_cn trivial (mj_tl (mj_tl e3))) e4 e5 hP hD hS hl b1 b2
    · exact hI.elim
  · next i b r =>
    split at hI
    · next n f hq =>
      intro ad H locs cells slots ls e1 e2 e3 e4 e5 hP hD hS hl b1 b2
      have hb3 : b.toNat < 3 := by
        rcases Nat.lt_or_ge b.toNat 3 with z | z
        · exact z
        · exfalso
          obtain ⟨w, hw⟩ : ∃ w, b.toNat = w + 3 := ⟨b.toNat - 3, by omega⟩
          rw [hw] at hq
          simp [mj_stat] at hq
      refine va_ti hx hb ((hX.2.2.1 _ hb3).2 n f hq) hS hI.1 rfl hdg ?_
      exact hKG _ _ _ _ _ _ (hI.2) ad H locs cells slots ls e1 e2 (mj_cn trivial (mj_tl (mj_tl e3))) e4 e5 hP hD hS hl b1 b2
    · exact hI.elim
  · exact hI.elim
set_option maxHeartbeats 400000 in
theorem mj_s_baload {K : mj_K} (hKG : ∀ pc L st h bc bs, K pc L st h bc bs → mj_Go p l e R s m args below meth c Q D cA sd A n0 ad0 mc ms T.1 pc L st h bc bs) (X : mj_Cx p l R s m args meth c cc own ini lev D cA sd adK adV A mc ms T) (hdg : decode cc pc = .ok (.baload, 1)) (hI : mj_I T ret K pc L st h bc bs .baload) : mj_Go p l e R s m args below meth c Q D cA sd A n0 ad0 mc ms T.1 pc L st h bc bs := by
  obtain ⟨hx, hb, hml, hown, hts, hK, hA, hX, hR, hin, hTF⟩ := X
  replace hI : match (generalizing := false) st with
    | .int i :: .ref a :: r => (match (generalizing := false) h[a]? with
      | some (.inl (.boolean, n, .inl f)) => vp_in i n ∧ K (pc + 1) L (.int (f i.toNatClampNeg) :: r) h bc bs
      | _ => False)
    | _ => False := hI
  split at hI
  · next i a r =>
    split at hI
    · next n f hc =>
      intro ad H locs cells slots ls e1 e2 e3 e4 e5 hP hD hS hl b1 b2
      refine va_zald hx hb hK.1 hP a 1 (mj_ws_at hc) rfl hI.1 hdg ?_
      exact hKG _ _ _ _ _ _ (hI.2) ad H locs cells slots ls e1 e2 (mj_cn trivial (mj_tl (mj_tl e3))) e4 e5 hP hD hS hl b1 b2
    · exact hI.elim
  · exact hI.elim
set_option maxHeartbeats 400000 in
theorem mj_s_iastore {K : mj_K} (hKG : ∀ pc L st h bc bs, K pc L st h bc bs → mj_Go p l e R s m args below meth c Q D cA sd A n0 ad0 mc ms T.1 pc L st h bc bs) (X : mj_Cx p l R s m args meth c cc own ini lev D cA sd adK adV A mc ms T) (hdg : decode cc pc = .ok (.iastore, 1)) (hI : mj_I T ret K pc L st h bc bs .iastore) : mj_Go p l e R s m args below meth c Q D cA sd A n0 ad0 mc ms T.1 pc L st h bc bs := by
  obtain ⟨hx, hb, hml, hown, hts, hK, hA, hX, hR, hin, hTF⟩ := X
  replace hI : match (generalizing := false) st with
    | .int x :: .int i :: .ref a :: r => (match (generalizing := false) h[a]? with
      | some (.inl (.int, n, .inl f)) => vp_in i n ∧ K (pc + 1) L r (h.set a (.inl (.int, n, .inl (upd f i.toNatClampNeg x)))) bc bs
      | _ => False)
    | _ => False := hI
  split at hI
  · next x i a r =>
    split at hI
    · next n f hc =>
      intro ad H locs cells slots ls e1 e2 e3 e4 e5 hP hD hS hl b1 b2
      refine va_iast hx hb hK.1 hP hD hS a 0 (mj_ws_at hc) rfl hI.1 hdg (fun H1 locs1 hP hD hS => ?_)
      have hq : ((mj_ws cA ad sd h).set a (ad a, .inl (cA .int, n, .inl (upd f i.toNatClampNeg x)))) = mj_ws cA ad sd (h.set a (.inl (.int, n, .inl (upd f i.toNatClampNeg x)))) := by
        rw [← mj_ws_set]
        rfl
      have hP : va_P D vwCl ((mj_ws cA ad sd h).set a (ad a, .inl (cA .int, n, .inl (upd f i.toNatClampNeg x)))) H1 := hP
      have hD : va_D A ((mj_ws cA ad sd h).set a (ad a, .inl (cA .int, n, .inl (upd f i.toNatClampNeg x)))) := hD
      rw [hq] at hP hD
      exact hKG _ _ _ _ _ _ (hI.2) ad H1 locs1 cells slots ls e1 (by rw [List.length_set]; exact e2) (by rw [List.length_set]; exact mj_tl (mj_tl (mj_tl e3))) (by rw [List.length_set]; exact e4) (by rw [List.length_set]; exact mj_scs e5 trivial) hP hD hS hl b1 b2
    · exact hI.elim
  · exact hI.elim
set_option maxHeartbeats 400000 in
theorem mj_s_bastore {K : mj_K} (hKG : ∀ pc L st h bc bs, K pc L st h bc bs → mj_Go p l e R s m args below meth c Q D cA sd A n0 ad0 mc ms T.1 pc L st h bc bs) (X : mj_Cx p l R s m args meth c cc own ini lev D cA sd adK adV A mc ms T) (hdg : decode cc pc = .ok (.bastore, 1)) (hI : mj_I T ret K pc L st h bc bs .bastore) : mj_Go p l e R s m args below meth c Q D cA sd A n0 ad0 mc ms T.1 pc L st h bc bs := by
  obtain ⟨hx, hb, hml, hown, hts, hK, hA, hX, hR, hin, hTF⟩ := X
  replace hI : match (generalizing := false) st with
    | .int x :: .int i :: .ref a :: r => (match (generalizing := false) h[a]? with
      | some (.inl (.boolean, n, .inl f)) => vp_in i n ∧ K (pc + 1) L r (h.set a (.inl (.boolean, n, .inl (upd f i.toNatClampNeg (vp_nar .boolean x))))) bc bs
      | _ => False)
    | _ => False := hI
  split at hI
  · next x i a r =>
    split at hI
    · next n f hc =>
      intro ad H locs cells slots ls e1 e2 e3 e4 e5 hP hD hS hl b1 b2
      refine va_zast hx hb hK.1 hP hD hS a 1 (mj_ws_at hc) rfl hI.1 hdg (fun H1 locs1 hP hD hS => ?_)
      have hq : ((mj_ws cA ad sd h).set a (ad a, .inl (cA .boolean, n, .inl (upd f i.toNatClampNeg (vp_nar .boolean x))))) = mj_ws cA ad sd (h.set a (.inl (.boolean, n, .inl (upd f i.toNatClampNeg (vp_nar .boolean x))))) := by
        rw [← mj_ws_set]
        rfl
      have hP : va_P D vwCl ((mj_ws cA ad sd h).set a (ad a, .inl (cA .boolean, n, .inl (upd f i.toNatClampNeg (vp_nar .boolean x))))) H1 := hP
      have hD : va_D A ((mj_ws cA ad sd h).set a (ad a, .inl (cA .boolean, n, .inl (upd f i.toNatClampNeg (vp_nar .boolean x))))) := hD
      rw [hq] at hP hD
      exact hKG _ _ _ _ _ _ (hI.2) ad H1 locs1 cells slots ls e1 (by rw [List.length_set]; exact e2) (by rw [List.length_set]; exact mj_tl (mj_tl (mj_tl e3))) (by rw [List.length_set]; exact e4) (by rw [List.length_set]; exact mj_scs e5 trivial) hP hD hS hl b1 b2
    · exact hI.elim
  · exact hI.elim
set_option maxHeartbeats 400000 in
theorem mj_s_aaload {K : mj_K} (hKG : ∀ pc L st h bc bs, K pc L st h bc bs → mj_Go p l e R s m args below meth c Q D cA sd A n0 ad0 mc ms T.1 pc L st h bc bs) (X : mj_Cx p l R s m args meth c cc own ini lev D cA sd adK adV A mc ms T) (hdg : decode cc pc = .ok (.aaload, 1)) (hI : mj_I T ret K pc L st h bc bs .aaload) : mj_Go p l e R s m args below meth c Q D cA sd A n0 ad0 mc ms T.1 pc L st h bc bs := by
  obtain ⟨hx, hb, hml, hown, hts, hK, hA, hX, hR, hin, hTF⟩ := X
  replace hI : match (generalizing := false) st with
    | .int i :: .ref a :: r => (match (generalizing := false) h[a]? with
      | some (.inl (.array .int, n, .inr (.inr (.inr (.inr f))))) => vp_in i n ∧ K (pc + 1) L (va_rf (f i.toNatClampNeg) :: r) h bc bs
      | _ => False)
    | _ => False := hI
  split at hI
  · next i a r =>
    split at hI
    · next n f hc =>
      intro ad H locs cells slots ls e1 e2 e3 e4 e5 hP hD hS hl b1 b2
      have hlt : i.toNatClampNeg < n := Nat.not_le.mp fun q => hI.1 (Or.inr q)
      have hcell := hP a _ (mj_ws_at hc)
      have hty := (hK.1.2 2 (cA (.array .int), .array .int) rfl).1
      refine W.aald (v := va_rf ((f i.toNatClampNeg).map ad)) (ty := .array .int) hx hb (show H[ad a]? = some (vp_cell (cA (.array .int)) (n, .inr (.inr (.inr (.inr (fun j => (f j).map ad)))))) from hcell) (hty n (fun j => va_rf ((f j).map ad))) rfl (fun q => by cases q) (by show ¬ (i < 0 ∨ (arrV _ _ _).slots.size ≤ _); rw [arrV_size]; exact hI.1) (by show (arrV _ _ _).slots[_]? = _; rw [arrV_read _ _ hlt]) rfl rfl hdg ?_
      have hsf := e5 _ (List.mem_of_getElem? hc)
      have h7 := hKG _ _ _ _ _ _ (hI.2) ad H locs cells slots ls e1 e2 (mj_cn (by cases hf : f i.toNatClampNeg with | none => exact trivial | some z => exact hsf _ _ hf) (mj_tl (mj_tl e3))) e4 e5 hP hD hS hl b1 b2
      have h8 : mj_tv ad sd (va_rf (f i.toNatClampNeg)) = va_rf ((f i.toNatClampNeg).map ad) := by cases f i.toNatClampNeg <;> rfl
      simp only [List.map_cons, h8] at h7
      exact h7
    · exact hI.elim
  · exact hI.elim
set_option maxHeartbeats 400000 in
theorem mj_s_aastore {K : mj_K} (hKG : ∀ pc L st h bc bs, K pc L st h bc bs → mj_Go p l e R s m args below meth c Q D cA sd A n0 ad0 mc ms T.1 pc L st h bc bs) (X : mj_Cx p l R s m args meth c cc own ini lev D cA sd adK adV A mc ms T) (hdg : decode cc pc = .ok (.aastore, 1)) (hI : mj_I T ret K pc L st h bc bs .aastore) : mj_Go p l e R s m args below meth c Q D cA sd A n0 ad0 mc ms T.1 pc L st h bc bs := by
  obtain ⟨hx, hb, hml, hown, hts, hK, hA, hX, hR, hin, hTF⟩ := X
  replace hI : match (generalizing := false) st with
    | .ref v :: .int i :: .ref a :: r => (match (generalizing := false) h[a]?, h[v]? with
      | some (.inl (.array .int, n, .inr (.inr (.inr (.inr f))))), some (.inl (.int, _, .inl _)) => vp_in i n ∧ K (pc + 1) L r (h.set a (.inl (.array .int, n, .inr (.inr (.inr (.inr (va_up f i.toNatClampNeg (some v)))))))) bc bs
      | _, _ => False)
    | _ => False := hI
  split at hI
  · next v i a r =>
    split at hI
    · next n f nv fv hc hv =>
      intro ad H locs cells slots ls e1 e2 e3 e4 e5 hP hD hS hl b1 b2
      have hlt : i.toNatClampNeg < n := Nat.not_le.mp fun q => hI.1 (Or.inr q)
      have h0 : ¬ i < 0 := fun q => hI.1 (Or.inl q)
      have hcell : H[ad a]? = some (vp_cell (cA (.array .int)) (n, .inr (.inr (.inr (.inr (fun j => (f j).map ad)))))) := hP a _ (mj_ws_at hc)
      have hcv : H[ad v]? = some (vp_cell (cA .int) (nv, .inl fv)) := hP v _ (mj_ws_at hv)
      obtain ⟨kA, k1, k2⟩ := hK.2
      obtain ⟨-, kI, kI1, cI, kI2⟩ := (hK.1.2 0 (cA .int, .int) rfl).1 0 (fun _ => .null)
      refine W.aast (t := .array .int) (comp := cA .int) (k := kA) (kv := kI) (kcomp := kI) hx hb hcell (fun q h => by cases h) (fun h => by cases h) k1 k2 rfl kI1 ⟨h0, by show _ < (arrV _ _ _).slots.size; rw [arrV_size]; exact hlt⟩ hcv (fun q h => by cases h) kI1 (by show s.vm.assignable (cA .int) (cA .int) = true; show s.vm.assignableAux (255 + 1) (cA .int) (cA .int) = true; rw [Vm.assignableAux]; simp only [beq_self_eq_true, Bool.true_or]) rfl rfl hdg fun H1 he z oq => ?_
      have hset : va_at D vwCl (ad a, mj_tc cA ad sd (.inl (.array .int, n, .inr (.inr (.inr (.inr (va_up f i.toNatClampNeg (some v)))))))) H1 := by
        show H1[ad a]? = some (vp_cell _ _)
        rw [he]
        rw [vp_cell_q]
        show _ = some (vp_cell (cA (.array .int)) (n, .inr (.inr (.inr (.inr (fun j => (va_up f i.toNatClampNeg (some v) j).map ad))))))
        rw [vp_cell_q, arrV_store]
        congr 2
        funext q
        by_cases hq : q = i.toNatClampNeg
        · subst hq
          simp [updV, va_up, va_rf]
        · simp [updV, va_up, hq]
      have hP' := hP.set hD (mj_ws_at hc) hset oq
      have hD' := hD.set (e := mj_tc cA ad sd (.inl (.array .int, n, .inr (.inr (.inr (.inr (va_up f i.toNatClampNeg (some v)))))))) (mj_ws_at hc)
      rw [mj_ws_set] at hP' hD'
      have hvn : v < h.length := (List.getElem?_eq_some_iff.mp hv).1
      have hsf := e5 _ (List.mem_of_getElem? hc)
      exact hKG _ _ _ _ _ _ (hI.2) ad H1 _ cells slots ls e1 (by rw [List.length_set]; exact e2) (by rw [List.length_set]; exact mj_tl (mj_tl (mj_tl e3))) (by rw [List.length_set]; exact e4) (by
        rw [List.length_set]
        refine mj_scs e5 ?_
        intro j k hk
        by_cases hj : j = i.toNatClampNeg
        · rw [hj] at hk
          have hk : some v = some k := by simpa [va_up] using hk
          cases hk
          exact hvn
        · simp [va_up, hj] at hk; exact hsf j k hk) hP' hD' (hS.put z oq (hD.2 a _ (mj_ws_at hc))) hl b1 b2
    · exact hI.elim
  · exact hI.elim
set_option maxHeartbeats 400000 in
theorem mj_s_arraylength {K : mj_K} (hKG : ∀ pc L st h bc bs, K pc L st h bc bs → mj_Go p l e R s m args below meth c Q D cA sd A n0 ad0 mc ms T.1 pc L st h bc bs) (X : mj_Cx p l R s m args meth c cc own ini lev D cA sd adK adV A mc ms T) (hdg : decode cc pc = .ok (.arraylength, 1)) (hI : mj_I T ret K pc L st h bc bs .arraylength) : mj_Go p l e R s m args below meth c Q D cA sd A n0 ad0 mc ms T.1 pc L st h bc bs := by
  obtain ⟨hx, hb, hml, hown, hts, hK, hA, hX, hR, hin, hTF⟩ := X
  replace hI : match (generalizing := false) st with
    | .ref a :: r => (match (generalizing := false) h[a]? with
      | some (.inl (ty, n, _)) => mj_isA ty = true ∧ K (pc + 1) L (.int (nI n) :: r) h bc bs
      | _ => False)
    | .float b :: r => (match (generalizing := false) mj_stat b.toNat with
      | some (n, _) => K (pc + 1) L (.int (nI n) :: r) h bc bs
      | none => False)
    | _ => False := hI
  split at hI
  · next a r =>
    split at hI
    · next ty n x hc =>
      intro ad H locs cells slots ls e1 e2 e3 e4 e5 hP hD hS hl b1 b2
      have ht : ∃ t0 : Nat, (mj_tys cA)[t0]? = some (cA ty, ty) := by
        have h9 := hI.1
        unfold mj_isA at h9
        split at h9
        · exact ⟨0, rfl⟩
        · exact ⟨1, rfl⟩
        · exact ⟨2, rfl⟩
        · cases h9
      obtain ⟨t0, ht⟩ := ht
      refine va_alen hx hb hK.1 hP a t0 (cA := cA ty) (x := mj_ta ad (n, x)) (mj_ws_at hc) ht (v := nI n) (by rcases x with f | f | f | f | f <;> rfl) hdg ?_
      exact hKG _ _ _ _ _ _ (hI.2) ad H locs cells slots ls e1 e2 (mj_cn trivial (mj_tl e3)) e4 e5 hP hD hS hl b1 b2
    · exact hI.elim
  · next b r =>
    split at hI
    · next n f hq =>
      intro ad H locs cells slots ls e1 e2 e3 e4 e5 hP hD hS hl b1 b2
      have hb3 : b.toNat < 3 := by
        rcases Nat.lt_or_ge b.toNat 3 with z | z
        · exact z
        · exfalso
          obtain ⟨w, hw⟩ : ∃ w, b.toNat = w + 3 := ⟨b.toNat - 3, by omega⟩
          rw [hw] at hq
          simp [mj_stat] at hq
      refine va_tlen hx hb ((hX.2.2.1 _ hb3).2 n f hq) hS (v := nI n) rfl hdg ?_
      exact hKG _ _ _ _ _ _ (hI) ad H locs cells slots ls e1 e2 (mj_cn trivial (mj_tl e3)) e4 e5 hP hD hS hl b1 b2
    · exact hI.elim
  · exact hI.elim
/-- a cell comes: the names stay, the new one's name is the heap's length -/
theorem mj_push {H1 : Heap} {ad : Nat → Nat} {locs : List Loc} {q : mj_C} {cells slots dc ds : Nat} {ls : Array Slot} {st' : List Value} {pc' : Nat} (hI : mj_Go p l e R s m args below meth c Q D cA sd A n0 ad0 mc ms T.1 pc' L (.ref h.length :: st') (h ++ [q]) (bc - dc) (bs - ds))
    (e1 : ∀ k, k < n0 → ad k = ad0 k) (e2 : n0 ≤ h.length) (e3 : ∀ v ∈ st', mj_sv h.length v) (e4 : ∀ v ∈ L, mj_sv h.length v) (e5 : ∀ q ∈ h, mj_sc h.length q) (hl : lv_has ls T.1 (mj_lm (mj_tv ad sd) 0 L)) (b1 : cells + bc ≤ mc) (b2 : slots + bs ≤ ms) (d1 : dc ≤ bc) (d2 : ds ≤ bs) (hq : mj_sc h.length q) {a : Nat}
    (hP : va_P D vwCl (mj_ws cA ad sd h ++ [(a, mj_tc cA ad sd q)]) H1) (hD : va_D A (mj_ws cA ad sd h ++ [(a, mj_tc cA ad sd q)])) (hS : va_S A s.heap H1 locs) : W p l e R s m args below meth c H1 locs (cells + dc) (slots + ds) Q (F0 m pc' ls (.ref a :: st'.map (mj_tv ad sd))) := by
  have hk : ∀ k, k < h.length → (fun k => if k = h.length then a else ad k) k = ad k := fun k hk => if_neg (Nat.ne_of_lt hk)
  have hw := mj_ws_push (cA := cA) (ad := ad) (sd := sd) e5 a q
  rw [mj_tc_cong hq hk] at hw
  rw [← hw] at hP hD
  have hlen : (h ++ [q]).length = h.length + 1 := by simp
  have h7 := hI (fun k => if k = h.length then a else ad k) H1 locs (cells + dc) (slots + ds) ls (fun k h8 => (hk k (Nat.lt_of_lt_of_le h8 e2)).trans (e1 k h8)) (by omega) (by
      intro v hv
      rcases List.mem_cons.mp hv with h8 | h8
      · rw [h8, hlen]; exact Nat.lt_succ_self _
      · exact (e3 v h8).mono (by omega)) (fun v hv => (e4 v hv).mono (by omega)) (by
      intro z hz
      rcases List.mem_append.mp hz with h8 | h8
      · exact (e5 z h8).mono (by omega)
      · rw [List.mem_singleton.mp h8]; exact hq.mono (by omega)) hP hD hS (mj_lv_mono hl (fun z hz => by
        obtain ⟨j, v, f1, f2, f3⟩ := mj_lm_mem.mp hz
        rw [mj_tv_cong (e4 v (List.mem_of_getElem? f1)) hk] at f3
        exact mj_lm_mem.mpr ⟨j, v, f1, f2, f3⟩)) (by omega) (by omega)
  have h9 : (List.map (mj_tv (fun k => if k = h.length then a else ad k) sd) (.ref h.length :: st')) = .ref a :: st'.map (mj_tv ad sd) := by
    rw [List.map_cons, mj_tvs_cong e3 hk]
    simp [mj_tv]
  rw [h9] at h7
  exact h7
set_option maxHeartbeats 400000 in
theorem mj_ac0 : Cond.arrayClass (newarray.typeOf .int) ∈ mj_tw := mj_tw_in (List.mem_of_getElem? (i := 154) (by decide +kernel)) rfl
theorem mj_ac1 : Cond.arrayClass (newarray.typeOf .boolean) ∈ mj_tw := mj_tw_in (List.mem_of_getElem? (i := 155) (by decide +kernel)) rfl
set_option maxHeartbeats 400000 in
theorem mj_s_newarray {ty : ArrayType} {K : mj_K} (hKG : ∀ pc L st h bc bs, K pc L st h bc bs → mj_Go p l e R s m args below meth c Q D cA sd A n0 ad0 mc ms T.1 pc L st h bc bs) (X : mj_Cx p l R s m args meth c cc own ini lev D cA sd adK adV A mc ms T) (hdg : decode cc pc = .ok (.newarray ty, 2)) (hI : mj_I T ret K pc L st h bc bs (.newarray ty)) : mj_Go p l e R s m args below meth c Q D cA sd A n0 ad0 mc ms T.1 pc L st h bc bs := by
  obtain ⟨hx, hb, hml, hown, hts, hK, hA, hX, hR, hin, hTF⟩ := X
  replace hI : match (generalizing := false) st with
    | .int x :: r => ¬ x < 0 ∧ x.toNatClampNeg ≤ 100000 ∧ 1 ≤ bc ∧ x.toNatClampNeg ≤ bs ∧ (match (generalizing := false) ty with
      | .int => K (pc + 2) L (.ref h.length :: r) (h ++ [.inl (.int, x.toNatClampNeg, .inl (fun _ => 0))]) (bc - 1) (bs - x.toNatClampNeg)
      | .boolean => K (pc + 2) L (.ref h.length :: r) (h ++ [.inl (.boolean, x.toNatClampNeg, .inl (fun _ => 0))]) (bc - 1) (bs - x.toNatClampNeg)
      | _ => False)
    | _ => False := hI
  split at hI
  · next x r =>
    obtain ⟨h1, h2, h3, h4, hI⟩ := hI
    split at hI
    · 
      intro ad H locs cells slots ls e1 e2 e3 e4 e5 hP hD hS hl b1 b2
      have hPE : ∀ (q : Nat) (c1 : ClassId), va_K D vwCl (mj_tys cA ++ [(c1, .int)]) s → c1 = cA .int := by
        intro q c1 hk
        have g1 := (hk.2 3 (c1, .int) rfl).2
        have g2 := (hK.1.2 0 (cA .int, .int) rfl).2
        exact Option.some.inj (g1.symm.trans g2)
      have hby : x.toNatClampNeg * componentBytes .int ≤ 536870912 := by
        have h9 : componentBytes .int ≤ 4 := by decide
        have h8 := Nat.mul_le_mul h2 h9
        omega
      refine va_newa (atype := .int) (ty := .int) (a0 := (x.toNatClampNeg, .inl (fun _ => 0))) (N' := x.toNatClampNeg) hx hb (hts _ mj_ac0) rfl hK.1 hP hD hS hA (fun cA => rfl) h1 rfl hby (by rw [hR]; show _ ≤ mc; omega) (by rw [hR]; show _ ≤ ms; omega) hdg (fun q c1 H1 hK1 hP hD hS => ?_)
      have hc1 := hPE q c1 hK1
      subst hc1
      exact mj_push (dc := 1) (hKG _ _ _ _ _ _ hI) e1 e2 (mj_tl e3) e4 e5 hl b1 b2 h3 h4 trivial hP hD hS
    · 
      intro ad H locs cells slots ls e1 e2 e3 e4 e5 hP hD hS hl b1 b2
      have hPE : ∀ (q : Nat) (c1 : ClassId), va_K D vwCl (mj_tys cA ++ [(c1, .boolean)]) s → c1 = cA .boolean := by
        intro q c1 hk
        have g1 := (hk.2 3 (c1, .boolean) rfl).2
        have g2 := (hK.1.2 1 (cA .boolean, .boolean) rfl).2
        exact Option.some.inj (g1.symm.trans g2)
      have hby : x.toNatClampNeg * componentBytes .boolean ≤ 536870912 := by
        have h9 : componentBytes .boolean ≤ 4 := by decide
        have h8 := Nat.mul_le_mul h2 h9
        omega
      refine va_newa (atype := .boolean) (ty := .boolean) (a0 := (x.toNatClampNeg, .inl (fun _ => 0))) (N' := x.toNatClampNeg) hx hb (hts _ mj_ac1) rfl hK.1 hP hD hS hA (fun cA => rfl) h1 rfl hby (by rw [hR]; show _ ≤ mc; omega) (by rw [hR]; show _ ≤ ms; omega) hdg (fun q c1 H1 hK1 hP hD hS => ?_)
      have hc1 := hPE q c1 hK1
      subst hc1
      exact mj_push (dc := 1) (hKG _ _ _ _ _ _ hI) e1 e2 (mj_tl e3) e4 e5 hl b1 b2 h3 h4 trivial hP hD hS
    · exact hI.elim
  · exact hI.elim
set_option maxHeartbeats 400000 in
theorem mj_s_anewarray {i : Nat} {K : mj_K} (hKG : ∀ pc L st h bc bs, K pc L st h bc bs → mj_Go p l e R s m args below meth c Q D cA sd A n0 ad0 mc ms T.1 pc L st h bc bs) (X : mj_Cx p l R s m args meth c cc own ini lev D cA sd adK adV A mc ms T) (hdg : decode cc pc = .ok (.anewarray i, 3)) (hI : mj_I T ret K pc L st h bc bs (.anewarray i)) : mj_Go p l e R s m args below meth c Q D cA sd A n0 ad0 mc ms T.1 pc L st h bc bs := by
  obtain ⟨hx, hb, hml, hown, hts, hK, hA, hX, hR, hin, hTF⟩ := X
  replace hI : match (generalizing := false) st, T.2.2.2.2.2.2.1 i with
    | .int x :: r, some 99 => ¬ x < 0 ∧ x.toNatClampNeg ≤ 100000 ∧ 1 ≤ bc ∧ x.toNatClampNeg ≤ bs ∧ K (pc + 3) L (.ref h.length :: r) (h ++ [.inl (.array .int, x.toNatClampNeg, .inr (.inr (.inr (.inr (fun _ => none)))))]) (bc - 1) (bs - x.toNatClampNeg)
    | _, _ => False := hI
  split at hI
  · next x r hT =>
    obtain ⟨h1, h2, h3, h4, hI⟩ := hI
    intro ad H locs cells slots ls e1 e2 e3 e4 e5 hP hD hS hl b1 b2
    rcases hTF.2.2.2.2.1 i 99 hT with ⟨-, g1⟩ | ⟨C, Tt, N, g1, -⟩
    · refine W.anewA (t := .int) hx hb hown (hts _ g1) (show (Cond.arrayOver (.array .int)).before args s = true from hX.2.1) rfl hdg rfl h1 (by omega) (by rw [hR]; show _ ≤ mc; omega) (by rw [hR]; show _ ≤ ms; omega) fun c1 kA comp f1 f2 f3 f4 => ?_
      generalize hH1 : H.push ({ cls := c1, slots := Array.replicate x.toNatClampNeg .null, vm := .none } : Cell) = H1
      have z1 : H1.size = H.size + 1 := by rw [← hH1, Array.size_push]
      have w1 : H1[H.size]? = some (arrV c1 x.toNatClampNeg (fun _ => .null)) := by rw [← hH1, Array.getElem?_push_size, ← arrV_new]
      have o1 : ∀ q : Nat, q < H.size → H1[q]? = H[q]? := fun q hq => by rw [← hH1, Array.getElem?_push, if_neg (Nat.ne_of_lt hq)]
      have hk : ∀ (k : Nat) (z : Nat × va_E), (mj_ws cA ad sd h)[k]? = some z → H1[z.1]? = H[z.1]? := fun k z hz => o1 z.1 ((hP k z hz).lt)
      have hc1 : c1 = cA (.array .int) := by
        have g2 := (hK.1.2 2 (cA (.array .int), .array .int) rfl).2
        exact Option.some.inj (f1.symm.trans g2)
      subst hc1
      refine mj_push (dc := 1) (a := H.size) (q := .inl (.array .int, x.toNatClampNeg, .inr (.inr (.inr (.inr (fun _ => none)))))) (hKG _ _ _ _ _ _ hI) e1 e2 (mj_tl e3) e4 e5 hl b1 b2 h3 h4 (fun _ _ z => by cases z) ((hP.kept hk).app (fun k z hz => ?_)) (hD.push hP rfl (hA _ hS.1)) ⟨Nat.le_trans hS.1 (by omega), fun z u1 u2 => (o1 z (Nat.lt_of_lt_of_le u1 hS.1)).trans (hS.2.1 z u1 u2), hS.2.2⟩
      have hz2 : k < 1 := (List.getElem?_eq_some_iff.mp hz).1
      rw [show k = 0 by omega] at hz
      cases hz
      exact w1
    · simp [vwCl] at g1
  · exact hI.elim
set_option maxHeartbeats 400000 in
theorem mj_s_new {i : Nat} {K : mj_K} (hKG : ∀ pc L st h bc bs, K pc L st h bc bs → mj_Go p l e R s m args below meth c Q D cA sd A n0 ad0 mc ms T.1 pc L st h bc bs) (X : mj_Cx p l R s m args meth c cc own ini lev D cA sd adK adV A mc ms T) (hdg : decode cc pc = .ok (.new i, 3)) (hI : mj_I T ret K pc L st h bc bs (.new i)) : mj_Go p l e R s m args below meth c Q D cA sd A n0 ad0 mc ms T.1 pc L st h bc bs := by
  obtain ⟨hx, hb, hml, hown, hts, hK, hA, hX, hR, hin, hTF⟩ := X
  replace hI : match (generalizing := false) T.2.2.2.2.2.2.1 i with
    | some ci => ci < 13 ∧ 1 ≤ bc ∧ mj_nf ci ≤ bs ∧ K (pc + 3) L (.ref h.length :: st) (h ++ [.inr (ci, mj_dv ci)]) (bc - 1) (bs - mj_nf ci)
    | none => False := hI
  split at hI
  · next ci hT =>
    obtain ⟨h0, h1, h2, hI⟩ := hI
    intro ad H locs cells slots ls e1 e2 e3 e4 e5 hP hD hS hl b1 b2
    rcases hTF.2.2.2.2.1 i ci hT with ⟨g0, -⟩ | ⟨C, Tt, N, g1, g2, g3, g4⟩
    · omega
    · obtain ⟨ty, y1, y2, y3, y4⟩ := mj_cls g1
      have hnf : mj_nf ci = N := by unfold mj_nf; rw [g1]
      rw [hnf] at h2 hI
      have hdv : ∀ j, j < N → defaultValue (ty j) = vp_V ((mj_dv ci).map (mj_tv ad sd)) j := by
        intro j hj
        unfold mj_dv vp_V
        rw [g1]
        simp only [List.getD_eq_getElem?_getD, List.getElem?_map, List.getElem?_range hj, Option.map_some, Option.getD_some, y1 j hj]
        have h9 := y4 j hj
        cases hty : ty j <;> first | rfl | exact absurd hty h9
      have hsq : mj_sc h.length (.inr (ci, mj_dv ci)) := by
        intro v hv
        unfold mj_dv at hv
        rw [g1] at hv
        obtain ⟨j, -, rfl⟩ := List.mem_map.mp hv
        dsimp only
        cases parseFieldDescriptor (Tt j).2.2.1 with
        | none => exact trivial
        | some t => cases t <;> exact trivial
      refine va_new (ci := ci) (fs := (mj_dv ci).map (mj_tv ad sd)) (C := C) (T := Tt) (N := N) hx hb hts y3 ty y1 hown (hts _ g2) (hts _ g3) (hts _ g4) hK.1 hP hD hS hA g1 hdv (by rw [hR]; show _ ≤ mc; omega) (by rw [hR]; show _ ≤ ms; omega) hdg (fun q H1 hP hD hS => ?_)
      exact mj_push (dc := 1) (hKG _ _ _ _ _ _ hI) e1 e2 e3 e4 e5 hl b1 b2 h1 h2 hsq hP hD hS
  · exact hI.elim
end MJ
