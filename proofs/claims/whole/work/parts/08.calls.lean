/-! calls, returns; any instruction; a whole body -/
section MJ
variable {p : Program} {l : Launch} {e : Env} {R : Room} {s : State} {m : MethodId} {args : Array Value} {below : List Frame} {meth : Method} {c : Code} {Q : State → Prop} {cc : ByteArray} {own : String} {ini : Bool} {lev : Nat} {D : va_G} {cA : FieldType → ClassId} {sd adK adV : Nat → Nat} {A : Nat → Prop} {n0 : Nat} {ad0 : Nat → Nat} {mc ms : Nat} {T : mj_T} {ret : Option Value → mj_H → Prop} {pc : Nat} {L st : List Value} {h : mj_H} {bc bs : Nat}
theorem mj_blind {as : List Value} {B : State → Prop} (hB : ∀ (a : Array Value) (U : State) (g : JFrame) (mk : MethodId), B U → B (U.calling g mk a)) : FrameBlind (va_Pc as B) := fun a U g mk q => ⟨q.1, hB a U g mk q.2⟩
theorem mj_blindW {D : va_G} {cA : FieldType → ClassId} {sd adK adV ad : Nat → Nat} {h : mj_H} {sz : Nat} {as : List Value} {A : Nat → Prop} (vs : List Value) : FrameBlind (va_Pc vs (fun U => U.heap.size = sz ∧ mj_World D cA sd ad h (fun _ => True) U ∧ mj_X sd adK adV A U U.heap ∧ ∀ v ∈ as, mj_sv h.length v)) := by
  refine mj_blind fun a U g mk q => ?_
  obtain ⟨q1, ⟨p1, p2, p3⟩, q3, q4⟩ := q
  exact ⟨q1, ⟨p1, p2.moved (u := U) (U := U.calling g mk a) (Vm.Alike.refl U.vm), p3⟩, q3.same (u := U) (U := U.calling g mk a) rfl, q4⟩
theorem mj_twIn {y : MethodName} {b : ByteArray} {n : Nat} {r : Option FieldType} (h : Cond.code y b n r ∈ lw_tbl) : GoodIn mj_tw (Cond.code y b n r :: mj_tw) := by
  intro w hw
  rcases List.mem_cons.mp hw with rfl | hw
  · exact ⟨mj_tw_in h rfl, Or.inl rfl⟩
  · exact ⟨hw, good_of_word (List.mem_filter.mp hw).2⟩
/-- behind a call -/
theorem mj_after {K : mj_K} {ad : Nat → Nat} {H : Heap} {locs : List Loc} {cells slots c1 s1 : Nat} {ls : Array Slot} {st0 rest : List Value} {a : Array Value} (hKG : ∀ pc L st h bc bs, K pc L st h bc bs → mj_Go p l e R s m args below meth c Q D cA sd A n0 ad0 mc ms T.1 pc L st h bc bs) (hA : ∀ q, s.heap.size ≤ q → A q)
    (hr : va_Run p l e R s m args below meth c H locs cells slots c1 s1 (F0 m pc ls st0) (rest.map (mj_tv ad sd)) (mj_Q D cA sd ad h (fun r h' => K (pc + 3) L (r.toList ++ rest) h' (bc - c1) (bs - s1)) (va_A (mj_ws cA ad sd h) H.size) a) (va_A (mj_ws cA ad sd h) H.size))
    (e1 : ∀ k, k < n0 → ad k = ad0 k) (e2 : n0 ≤ h.length) (e3 : ∀ v ∈ rest, mj_sv h.length v) (e4 : ∀ v ∈ L, mj_sv h.length v) (hP : va_P D vwCl (mj_ws cA ad sd h) H) (hD : va_D A (mj_ws cA ad sd h)) (hS : va_S A s.heap H locs) (hl : lv_has ls T.1 (mj_lm (mj_tv ad sd) 0 L)) (b1 : cells + bc ≤ mc) (b2 : slots + bs ≤ ms) (d1 : c1 ≤ bc) (d2 : s1 ≤ bs) :
    W p l e R s m args below meth c H locs cells slots Q (F0 m pc ls st0) := by
  intro Tt hT XX
  obtain ⟨v, st₀, t, T', Lc, h0, X', hL, g1, g2, ⟨⟨r, h', ad', ho, hk, ha, hlen, hsv, hP', hK', hD', hsc⟩, hz, hkp⟩, stp⟩ := hr Tt hT XX
  have hv : v = r.map (mj_tv ad' sd) := by cases ho; rfl
  subst hv
  rw [h0] at hz hkp
  have hF : ∀ q, va_A (mj_ws cA ad sd h) H.size q → A q := by
    intro q hq
    rcases hq with ⟨k, e, hq⟩ | hq
    · exact hD.2 k (q, e) hq
    · exact hA q (Nat.le_trans hS.1 hq)
  have h9 := hKG _ _ _ _ _ _ hk ad' T'.heap (locs ++ Lc) (cells + c1) (slots + s1) ls (fun j hj => (ha j (Nat.lt_of_lt_of_le hj e2)).trans (e1 j hj)) (Nat.le_trans e2 hlen) (by
      intro w hw
      rcases List.mem_append.mp hw with h8 | h8
      · cases r with
        | none => cases h8
        | some x => rw [List.mem_singleton.mp h8]; exact hsv x rfl
      · exact (e3 w h8).mono hlen) (fun w hw => (e4 w hw).mono hlen) hsc (by rw [g1]; exact hP') (hD'.weaken (fun k q _ hq => hF q.1 hq)) ⟨Nat.le_trans hS.1 (by rw [g1]; exact hz), fun q h1 h2 => by rw [g1, hkp q (Nat.lt_of_lt_of_le h1 hS.1) (fun z => h2 (hF q z))]; exact hS.2.1 q h1 h2, fun q hq => by
      rcases List.mem_append.mp hq with h8 | h8
      · exact hS.2.2 q h8
      · exact hF _ (hL q h8)⟩ (mj_lv_mono hl (fun z hz => by
        obtain ⟨j, w, f1, f2, f3⟩ := mj_lm_mem.mp hz
        rw [mj_tv_cong (e4 w (List.mem_of_getElem? f1)) ha] at f3
        exact mj_lm_mem.mpr ⟨j, w, f1, f2, f3⟩)) (by omega) (by omega)
  have h10 : List.map (mj_tv ad' sd) (r.toList ++ rest) = (r.map (mj_tv ad' sd)).toList ++ rest.map (mj_tv ad sd) := by
    rw [List.map_append, mj_tvs_cong e3 ha]
    cases r <;> rfl
  rw [h10] at h9
  obtain ⟨t2, a1, b3⟩ := h9 T' rfl X'
  exact ⟨t2, stp t2 a1, b3⟩
theorem mj_len4 {ad : Nat → Nat} {ls : Array Slot} {g : List Value} {rest : List Value} (h : rest.length ≤ 4) : 2 * (F0 m pc ls g).monitorRoom + ((rest.map (mj_tv ad sd)).map fun v => v.category).sum ≤ 8 := by
  refine lv_room ?_
  have h1 : ∀ x : List Value, (x.map fun v => v.category).sum ≤ 2 * x.length := by
    intro x
    induction x with
    | nil => simp
    | cons v x ih => rcases lv_cat v with z | z <;> simp [z] <;> omega
  have h2 := h1 (rest.map (mj_tv ad sd))
  rw [List.length_map] at h2
  omega
theorem mj_pre {ad : Nat → Nat} {H : Heap} {locs : List Loc} {as : List Value} (hK : mj_Ky D cA s) (hX : mj_X sd adK adV A s s.heap) (hA : ∀ q, s.heap.size ≤ q → A q) (e5 : ∀ q ∈ h, mj_sc h.length q) (hP : va_P D vwCl (mj_ws cA ad sd h) H) (hD : va_D A (mj_ws cA ad sd h)) (hS : va_S A s.heap H locs) (ha : ∀ v ∈ as, mj_sv h.length v) (U : State) (hU : U.heap = H) (hW : s.WarmedH U.vm) :
    va_Pc (as.map (mj_tv ad sd)) (fun U => U.heap.size = H.size ∧ mj_World D cA sd ad h (fun _ => True) U ∧ mj_X sd adK adV (va_A (mj_ws cA ad sd h) H.size) U U.heap ∧ ∀ v ∈ as, mj_sv h.length v) (as.map (mj_tv ad sd)).toArray U := by
  refine ⟨rfl, by rw [hU], ⟨by rw [hU]; exact hP, hK.moved hW.alike, hD.weaken (fun _ _ _ _ => trivial), e5⟩, hX.go hW hS hU ?_, ha⟩
  intro q hq
  rcases hq with ⟨k, e, hq⟩ | hq
  · exact hD.2 k (q, e) hq
  · exact hA q (Nat.le_trans hS.1 hq)
theorem mj_hR {lev lev' c1 s1 maxL : Nat} (hR : R = mj_rm lev mc ms) (h1 : lev' < lev) (h2 : maxL ≤ 21) : (mj_rm lev' c1 s1).frames + 1 ≤ R.frames ∧ 8 + (maxL + 11) + (mj_rm lev' c1 s1).locals ≤ R.locals := by
  subst hR
  show lev' + 1 ≤ lev ∧ 8 + (maxL + 11) + 40 * lev' ≤ 40 * lev
  omega

set_option maxHeartbeats 400000 in
theorem mj_s_invokevirtual {i : Nat} {K : mj_K} (hKG : ∀ pc L st h bc bs, K pc L st h bc bs → mj_Go p l e R s m args below meth c Q D cA sd A n0 ad0 mc ms T.1 pc L st h bc bs) (X : mj_Cx p l R s m args meth c cc own ini lev D cA sd adK adV A mc ms T) (hdg : decode cc pc = .ok (.invokevirtual i, 3)) (hI : mj_I T ret K pc L st h bc bs (.invokevirtual i)) : mj_Go p l e R s m args below meth c Q D cA sd A n0 ad0 mc ms T.1 pc L st h bc bs := by
  obtain ⟨hx, hb, hml, hown, hts, hK, hA, hX, hR, hin, hTF⟩ := X
  replace hI : match (generalizing := false) T.2.2.2.2.2.2.2 i with
    | some (k, n, ci, c1, s1, cs) => k < 2 ∧ n ≤ st.length ∧ (st.drop n).length ≤ 4 ∧ c1 ≤ bc ∧ s1 ≤ bs ∧ (match (generalizing := false) (st.take n).reverse with
      | .ref a :: as => (match (generalizing := false) h[a]? with
        | some (.inr (cj, _)) => cj = ci ∧ cs (.ref a :: as) h fun r h' => K (pc + 3) L (r.toList ++ st.drop n) h' (bc - c1) (bs - s1)
        | _ => False)
      | _ => False)
    | none => False := hI
  split at hI
  · next k n ci c1 s1 cs hT =>
    obtain ⟨hk, hn, h4, d1, d2, hI⟩ := hI
    split at hI
    rotate_left
    · exact hI.elim
    rename_i a as hras
    split at hI
    rotate_left
    · exact hI.elim
    rename_i cj fs hc
    obtain ⟨rfl, hI⟩ := hI
    obtain ⟨y, bytes, maxL, rt, lev', na, hM, hlv, hmx, hcode, hini, hy, hkind⟩ := hTF.2.2.2.2.2 i _ hT
    dsimp only at hM hkind
    intro ad H locs cells slots ls e1 e2 e3 e4 e5 hP hD hS hl b1 b2
    have hstk : st = (st.take n).reverse.reverse ++ st.drop n := by rw [List.reverse_reverse, List.take_append_drop]
    have hres : ∀ v ∈ st.drop n, mj_sv h.length v := fun v hv => e3 v (List.mem_of_mem_drop hv)
    have hars : ∀ v ∈ (st.take n).reverse, mj_sv h.length v := fun v hv => e3 v (List.mem_of_mem_take (List.mem_reverse.mp hv))
    have hrlen : (st.take n).reverse.length = n := by rw [List.length_reverse, List.length_take]; omega
    have hfit : cells + c1 ≤ R.cells ∧ slots + s1 ≤ R.slots := by
      rw [hR]
      show cells + c1 ≤ mc ∧ slots + s1 ≤ ms
      omega
    rw [hras] at hstk hars hrlen
    have has : as.length + 1 = n := by simpa using hrlen
    have hb1 : st.map (mj_tv ad sd) = (as.map (mj_tv ad sd)).reverse ++ .ref (ad a) :: (st.drop n).map (mj_tv ad sd) := by
      conv => lhs; rw [hstk]
      simp [mj_tv]
    have hM2 := hM D cA sd adK adV ad (.ref a :: as) h _ H.size hI
    have hpre := mj_pre (adK := adK) (adV := adV) (as := .ref a :: as) hK hX hA e5 hP hD hS hars
    rcases hkind with ⟨k0, kn, k1, k2, k3, Tt, N, k4⟩ | ⟨k0, kn, ⟨host, k1⟩, k2, k3, Tt, N, k4⟩ | ⟨k0, -⟩ | ⟨k0, -⟩ | ⟨k0, -⟩ | ⟨k0, -⟩
    · have hrecv := va_recv (q := (y.cls, Tt, N)) (a := ad a) hK.1 hP (ci := cj) (q0 := a) k4 (mj_ws_at hc)
      refine mj_after hKG hA (va_runV (C := y.cls) (b := ad a) (As := as.map (mj_tv ad sd)) (n := na) (nL := T.1) ⟨hx, hb, hml, hown, hts⟩ hM2 ⟨callB_of na hts (mj_twIn hcode) rfl rfl rfl (hts _ hini) (hts _ k1) hy (mj_hR hR hlv hmx), hts _ k2, hts _ k3⟩ ⟨mj_blindW _, hrecv, hpre⟩ rfl (by rw [List.length_map]; omega) hl.1 hb1 (mj_len4 h4) hdg hfit) e1 e2 hres e4 hP hD hS hl b1 b2 d1 d2
    · have hrecv := va_recv (q := (y.cls, Tt, N)) (a := ad a) hK.1 hP (ci := cj) (q0 := a) k4 (mj_ws_at hc)
      refine mj_after hKG hA (va_runVN (C := y.cls) (host := host) (b := ad a) (As := as.map (mj_tv ad sd)) (n := na) (nL := T.1) ⟨hx, hb, hml, hown, hts⟩ hM2 ⟨va_cnB na hts (mj_twIn hcode) rfl rfl rfl (hX.1 _ k1 rfl) (hts _ hini) hy (mj_hR hR hlv hmx), hts _ k2, hts _ k3⟩ ⟨mj_blindW _, hrecv, hpre⟩ rfl (by rw [List.length_map]; omega) hl.1 hb1 (mj_len4 h4) hdg hfit) e1 e2 hres e4 hP hD hS hl b1 b2 d1 d2
    · omega
    · omega
    · omega
    · omega
  · exact hI.elim
set_option maxHeartbeats 400000 in
theorem mj_s_invokestatic {i : Nat} {K : mj_K} (hKG : ∀ pc L st h bc bs, K pc L st h bc bs → mj_Go p l e R s m args below meth c Q D cA sd A n0 ad0 mc ms T.1 pc L st h bc bs) (X : mj_Cx p l R s m args meth c cc own ini lev D cA sd adK adV A mc ms T) (hdg : decode cc pc = .ok (.invokestatic i, 3)) (hI : mj_I T ret K pc L st h bc bs (.invokestatic i)) : mj_Go p l e R s m args below meth c Q D cA sd A n0 ad0 mc ms T.1 pc L st h bc bs := by
  obtain ⟨hx, hb, hml, hown, hts, hK, hA, hX, hR, hin, hTF⟩ := X
  replace hI : match (generalizing := false) T.2.2.2.2.2.2.2 i with
    | some (k, n, _, c1, s1, cs) => (k = 2 ∨ k = 3) ∧ n ≤ st.length ∧ (st.drop n).length ≤ 4 ∧ c1 ≤ bc ∧ s1 ≤ bs ∧ cs (st.take n).reverse h fun r h' => K (pc + 3) L (r.toList ++ st.drop n) h' (bc - c1) (bs - s1)
    | none => False := hI
  split at hI
  · next k n ci c1 s1 cs hT =>
    obtain ⟨hk, hn, h4, d1, d2, hI⟩ := hI
    obtain ⟨y, bytes, maxL, rt, lev', na, hM, hlv, hmx, hcode, hini, hy, hkind⟩ := hTF.2.2.2.2.2 i _ hT
    dsimp only at hM hkind
    intro ad H locs cells slots ls e1 e2 e3 e4 e5 hP hD hS hl b1 b2
    have hstk : st = (st.take n).reverse.reverse ++ st.drop n := by rw [List.reverse_reverse, List.take_append_drop]
    have hres : ∀ v ∈ st.drop n, mj_sv h.length v := fun v hv => e3 v (List.mem_of_mem_drop hv)
    have hars : ∀ v ∈ (st.take n).reverse, mj_sv h.length v := fun v hv => e3 v (List.mem_of_mem_take (List.mem_reverse.mp hv))
    have hrlen : (st.take n).reverse.length = n := by rw [List.length_reverse, List.length_take]; omega
    have hfit : cells + c1 ≤ R.cells ∧ slots + s1 ≤ R.slots := by
      rw [hR]
      show cells + c1 ≤ mc ∧ slots + s1 ≤ ms
      omega
    have hb1 : st.map (mj_tv ad sd) = ((st.take n).reverse.map (mj_tv ad sd)).reverse ++ (st.drop n).map (mj_tv ad sd) := by
      conv => lhs; rw [hstk]
      simp
    have hM2 := hM D cA sd adK adV ad (st.take n).reverse h _ H.size hI
    have hpre := mj_pre (adK := adK) (adV := adV) hK hX hA e5 hP hD hS hars
    rcases hkind with ⟨k0, -⟩ | ⟨k0, -⟩ | ⟨k0, kn, k1, k2⟩ | ⟨k0, kn, ⟨host, k1⟩, k2⟩ | ⟨k0, -⟩ | ⟨k0, -⟩
    · omega
    · omega
    · refine mj_after hKG hA (va_runS (As := (st.take n).reverse.map (mj_tv ad sd)) (n := na) (nL := T.1) ⟨hx, hb, hml, hown, hts⟩ hM2 ⟨callB_of na hts (mj_twIn hcode) rfl rfl rfl (hts _ hini) (hts _ k1) hy (mj_hR hR hlv hmx), hts _ k2⟩ ⟨mj_blindW _, hpre⟩ rfl (by rw [List.length_map]; omega) hl.1 hb1 (mj_len4 h4) hdg hfit) e1 e2 hres e4 hP hD hS hl b1 b2 d1 d2
    · refine mj_after hKG hA (va_runSN (host := host) (As := (st.take n).reverse.map (mj_tv ad sd)) (n := na) (nL := T.1) ⟨hx, hb, hml, hown, hts⟩ hM2 ⟨va_cnB na hts (mj_twIn hcode) rfl rfl rfl (hX.1 _ k1 rfl) (hts _ hini) hy (mj_hR hR hlv hmx), hts _ k2, trivial⟩ ⟨mj_blindW _, hpre⟩ rfl (by rw [List.length_map]; omega) hl.1 hb1 (mj_len4 h4) hdg hfit) e1 e2 hres e4 hP hD hS hl b1 b2 d1 d2
    · omega
    · omega
  · exact hI.elim
set_option maxHeartbeats 400000 in
theorem mj_s_invokespecial {i : Nat} {K : mj_K} (hKG : ∀ pc L st h bc bs, K pc L st h bc bs → mj_Go p l e R s m args below meth c Q D cA sd A n0 ad0 mc ms T.1 pc L st h bc bs) (X : mj_Cx p l R s m args meth c cc own ini lev D cA sd adK adV A mc ms T) (hdg : decode cc pc = .ok (.invokespecial i, 3)) (hI : mj_I T ret K pc L st h bc bs (.invokespecial i)) : mj_Go p l e R s m args below meth c Q D cA sd A n0 ad0 mc ms T.1 pc L st h bc bs := by
  obtain ⟨hx, hb, hml, hown, hts, hK, hA, hX, hR, hin, hTF⟩ := X
  replace hI : match (generalizing := false) T.2.2.2.2.2.2.2 i with
    | some (k, n, _, c1, s1, cs) => (k = 4 ∨ k = 5) ∧ n ≤ st.length ∧ (st.drop n).length ≤ 4 ∧ c1 ≤ bc ∧ s1 ≤ bs ∧ (match (generalizing := false) (st.take n).reverse with
      | .ref a :: as => cs (.ref a :: as) h fun r h' => K (pc + 3) L (r.toList ++ st.drop n) h' (bc - c1) (bs - s1)
      | _ => False)
    | none => False := hI
  split at hI
  · next k n ci c1 s1 cs hT =>
    obtain ⟨hk, hn, h4, d1, d2, hI⟩ := hI
    split at hI
    rotate_left
    · exact hI.elim
    rename_i a as hras
    obtain ⟨y, bytes, maxL, rt, lev', na, hM, hlv, hmx, hcode, hini, hy, hkind⟩ := hTF.2.2.2.2.2 i _ hT
    dsimp only at hM hkind
    intro ad H locs cells slots ls e1 e2 e3 e4 e5 hP hD hS hl b1 b2
    have hstk : st = (st.take n).reverse.reverse ++ st.drop n := by rw [List.reverse_reverse, List.take_append_drop]
    have hres : ∀ v ∈ st.drop n, mj_sv h.length v := fun v hv => e3 v (List.mem_of_mem_drop hv)
    have hars : ∀ v ∈ (st.take n).reverse, mj_sv h.length v := fun v hv => e3 v (List.mem_of_mem_take (List.mem_reverse.mp hv))
    have hrlen : (st.take n).reverse.length = n := by rw [List.length_reverse, List.length_take]; omega
    have hfit : cells + c1 ≤ R.cells ∧ slots + s1 ≤ R.slots := by
      rw [hR]
      show cells + c1 ≤ mc ∧ slots + s1 ≤ ms
      omega
    rw [hras] at hstk hars hrlen
    have has : as.length + 1 = n := by simpa using hrlen
    have hb1 : st.map (mj_tv ad sd) = (as.map (mj_tv ad sd)).reverse ++ .ref (ad a) :: (st.drop n).map (mj_tv ad sd) := by
      conv => lhs; rw [hstk]
      simp [mj_tv]
    have hM2 := hM D cA sd adK adV ad (.ref a :: as) h _ H.size hI
    have hpre := mj_pre (adK := adK) (adV := adV) (as := .ref a :: as) hK hX hA e5 hP hD hS hars
    rcases hkind with ⟨k0, -⟩ | ⟨k0, -⟩ | ⟨k0, -⟩ | ⟨k0, -⟩ | ⟨k0, kn, k1, k2, k3, rfl⟩ | ⟨k0, kn, ⟨host, k1⟩, k2, k3, rfl⟩
    · omega
    · omega
    · omega
    · omega
    · refine mj_after hKG hA (va_runI (b := ad a) (As := as.map (mj_tv ad sd)) (n := na) (nL := T.1) ⟨hx, hb, hml, hown, hts⟩ hM2 ⟨callB_of na hts (mj_twIn hcode) rfl rfl rfl (hts _ hini) (hts _ k1) hy (mj_hR hR hlv hmx), k3, hts _ k2⟩ ⟨mj_blindW _, hpre⟩ rfl (by rw [List.length_map]; omega) hl.1 hb1 (mj_len4 h4) hdg hfit) e1 e2 hres e4 hP hD hS hl b1 b2 d1 d2
    · refine mj_after hKG hA (va_runIN (host := host) (b := ad a) (As := as.map (mj_tv ad sd)) (n := na) (nL := T.1) ⟨hx, hb, hml, hown, hts⟩ hM2 ⟨va_cnB na hts (mj_twIn hcode) rfl rfl rfl (hX.1 _ k1 rfl) (hts _ hini) hy (mj_hR hR hlv hmx), k3, hts _ k2⟩ ⟨mj_blindW _, hpre⟩ rfl (by rw [List.length_map]; omega) hl.1 hb1 (mj_len4 h4) hdg hfit) e1 e2 hres e4 hP hD hS hl b1 b2 d1 d2
  · exact hI.elim
set_option maxHeartbeats 400000 in
theorem mj_s_ireturn {h00 : mj_H} (hrt : meth.sig.returnType = T.2.1) (hlocks : meth.locks = false) {K : mj_K} (hKG : ∀ pc L st h bc bs, K pc L st h bc bs → mj_Go p l e R s m args below meth c (MQ below (mj_Q D cA sd ad0 h00 ret A) args s mc ms A) D cA sd A h00.length ad0 mc ms T.1 pc L st h bc bs) (X : mj_Cx p l R s m args meth c cc own ini lev D cA sd adK adV A mc ms T) (hdg : decode cc pc = .ok (.ireturn, 1)) (hI : mj_I T ret K pc L st h bc bs .ireturn) : mj_Go p l e R s m args below meth c (MQ below (mj_Q D cA sd ad0 h00 ret A) args s mc ms A) D cA sd A h00.length ad0 mc ms T.1 pc L st h bc bs := by
  obtain ⟨hx, hb, hml, hown, hts, hK, hA, hX, hR, hin, hTF⟩ := X
  replace hI : match (generalizing := false) st with
    | [.int x] => (match (generalizing := false) T.2.1 with
      | some .int => ret (some (.int x)) h
      | some .boolean => (x = 0 ∨ x = 1) ∧ ret (some (.int x)) h
      | _ => False)
    | _ => False := hI
  split at hI
  · next x =>
    split at hI
    · next hr =>
      intro ad H locs cells slots ls e1 e2 e3 e4 e5 hP hD hS hl b1 b2
      refine W.widen (k := mc) (n := ms) (by omega) (by omega) ?_
      exact W.iret (v := x) hx hb (hrt.trans hr) (fun t ht hW => ⟨⟨some (.int x), h, ad, rfl, hI, e1, e2, fun v hv => by cases hv; exact trivial, by rw [ht]; exact hP, hK.moved hW.alike, hD, e5⟩, hS.F ht⟩) hS.2.2 hdg hlocks
    · next hr =>
      intro ad H locs cells slots ls e1 e2 e3 e4 e5 hP hD hS hl b1 b2
      have hn : narrow .boolean (.int x) = .int x := by rcases hI.1 with z | z <;> (rw [z]; rfl)
      refine W.widen (k := mc) (n := ms) (by omega) (by omega) ?_
      exact W.zret (v := x) hx hb (hrt.trans hr) hn (fun t ht hW => ⟨⟨some (.int x), h, ad, rfl, hI.2, e1, e2, fun v hv => by cases hv; exact trivial, by rw [ht]; exact hP, hK.moved hW.alike, hD, e5⟩, hS.F ht⟩) hS.2.2 hdg hlocks
    · exact hI.elim
  · exact hI.elim
set_option maxHeartbeats 400000 in
theorem mj_s_lreturn {h00 : mj_H} (hrt : meth.sig.returnType = T.2.1) (hlocks : meth.locks = false) {K : mj_K} (hKG : ∀ pc L st h bc bs, K pc L st h bc bs → mj_Go p l e R s m args below meth c (MQ below (mj_Q D cA sd ad0 h00 ret A) args s mc ms A) D cA sd A h00.length ad0 mc ms T.1 pc L st h bc bs) (X : mj_Cx p l R s m args meth c cc own ini lev D cA sd adK adV A mc ms T) (hdg : decode cc pc = .ok (.lreturn, 1)) (hI : mj_I T ret K pc L st h bc bs .lreturn) : mj_Go p l e R s m args below meth c (MQ below (mj_Q D cA sd ad0 h00 ret A) args s mc ms A) D cA sd A h00.length ad0 mc ms T.1 pc L st h bc bs := by
  obtain ⟨hx, hb, hml, hown, hts, hK, hA, hX, hR, hin, hTF⟩ := X
  replace hI : match (generalizing := false) st with
    | [.long x] => T.2.1 = some .long ∧ ret (some (.long x)) h
    | _ => False := hI
  split at hI
  · next x =>
      intro ad H locs cells slots ls e1 e2 e3 e4 e5 hP hD hS hl b1 b2
      refine W.widen (k := mc) (n := ms) (by omega) (by omega) ?_
      exact W.lret (v := x) hx hb (hrt.trans hI.1) (fun t ht hW => ⟨⟨some (.long x), h, ad, rfl, hI.2, e1, e2, fun v hv => by cases hv; exact trivial, by rw [ht]; exact hP, hK.moved hW.alike, hD, e5⟩, hS.F ht⟩) hS.2.2 hdg hlocks
  · exact hI.elim
set_option maxHeartbeats 400000 in
theorem mj_s_areturn {h00 : mj_H} (hrt : meth.sig.returnType = T.2.1) (hlocks : meth.locks = false) {K : mj_K} (hKG : ∀ pc L st h bc bs, K pc L st h bc bs → mj_Go p l e R s m args below meth c (MQ below (mj_Q D cA sd ad0 h00 ret A) args s mc ms A) D cA sd A h00.length ad0 mc ms T.1 pc L st h bc bs) (X : mj_Cx p l R s m args meth c cc own ini lev D cA sd adK adV A mc ms T) (hdg : decode cc pc = .ok (.areturn, 1)) (hI : mj_I T ret K pc L st h bc bs .areturn) : mj_Go p l e R s m args below meth c (MQ below (mj_Q D cA sd ad0 h00 ret A) args s mc ms A) D cA sd A h00.length ad0 mc ms T.1 pc L st h bc bs := by
  obtain ⟨hx, hb, hml, hown, hts, hK, hA, hX, hR, hin, hTF⟩ := X
  replace hI : match (generalizing := false) st with
    | [.ref x] => T.2.1 = some (.array .int) ∧ ret (some (.ref x)) h
    | _ => False := hI
  split at hI
  · next x =>
      intro ad H locs cells slots ls e1 e2 e3 e4 e5 hP hD hS hl b1 b2
      refine W.widen (k := mc) (n := ms) (by omega) (by omega) ?_
      exact W.aret (v := .ref (ad x)) hx hb (hrt.trans hI.1) (Or.inr ⟨_, rfl⟩) (Or.inr ⟨_, rfl⟩) (fun t ht hW => ⟨⟨some (.ref x), h, ad, rfl, hI.2, e1, e2, fun v hv => by cases hv; exact mj_hd e3, by rw [ht]; exact hP, hK.moved hW.alike, hD, e5⟩, hS.F ht⟩) hS.2.2 hdg hlocks
  · exact hI.elim
set_option maxHeartbeats 400000 in
theorem mj_s_return_ {h00 : mj_H} (hrt : meth.sig.returnType = T.2.1) (hlocks : meth.locks = false) {K : mj_K} (hKG : ∀ pc L st h bc bs, K pc L st h bc bs → mj_Go p l e R s m args below meth c (MQ below (mj_Q D cA sd ad0 h00 ret A) args s mc ms A) D cA sd A h00.length ad0 mc ms T.1 pc L st h bc bs) (X : mj_Cx p l R s m args meth c cc own ini lev D cA sd adK adV A mc ms T) (hdg : decode cc pc = .ok (.return_, 1)) (hI : mj_I T ret K pc L st h bc bs .return_) : mj_Go p l e R s m args below meth c (MQ below (mj_Q D cA sd ad0 h00 ret A) args s mc ms A) D cA sd A h00.length ad0 mc ms T.1 pc L st h bc bs := by
  obtain ⟨hx, hb, hml, hown, hts, hK, hA, hX, hR, hin, hTF⟩ := X
  replace hI : match (generalizing := false) st with
    | [] => T.2.1 = none ∧ ret none h
    | _ => False := hI
  split at hI
  · 
      intro ad H locs cells slots ls e1 e2 e3 e4 e5 hP hD hS hl b1 b2
      refine W.widen (k := mc) (n := ms) (by omega) (by omega) ?_
      exact W.vret hx hb (hrt.trans hI.1) (fun t ht hW => ⟨⟨none, h, ad, rfl, hI.2, e1, e2, (fun v hv => by cases hv), by rw [ht]; exact hP, hK.moved hW.alike, hD, e5⟩, hS.F ht⟩) hS.2.2 hdg hlocks
  · exact hI.elim
/-- ANY INSTRUCTION: what mj_I says holds of the machine -/
theorem mj_true {h00 : mj_H} {K : mj_K} (hKG : ∀ pc L st h bc bs, K pc L st h bc bs → mj_Go p l e R s m args below meth c (MQ below (mj_Q D cA sd ad0 h00 ret A) args s mc ms A) D cA sd A h00.length ad0 mc ms T.1 pc L st h bc bs) (hrt : meth.sig.returnType = T.2.1) (hlocks : meth.locks = false) (X : mj_Cx p l R s m args meth c cc own ini lev D cA sd adK adV A mc ms T) (hI : mj_step cc T ret K pc L st h bc bs) : mj_Go p l e R s m args below meth c (MQ below (mj_Q D cA sd ad0 h00 ret A) args s mc ms A) D cA sd A h00.length ad0 mc ms T.1 pc L st h bc bs := by
  unfold mj_step at hI
  split at hI
  · next i n hdg =>
    obtain ⟨hn, hI⟩ := hI
    cases i
    case iconst => have hn := hn.resolve_left (by intro z; cases z); subst hn; exact mj_s_iconst hKG X hdg hI
    case bipush => have hn := hn.resolve_left (by intro z; cases z); subst hn; exact mj_s_bipush hKG X hdg hI
    case sipush => have hn := hn.resolve_left (by intro z; cases z); subst hn; exact mj_s_sipush hKG X hdg hI
    case lconst => have hn := hn.resolve_left (by intro z; cases z); subst hn; exact mj_s_lconst hKG X hdg hI
    case aconst_null => have hn := hn.resolve_left (by intro z; cases z); subst hn; exact mj_s_aconst_null hKG X hdg hI
    case iload_n => have hn := hn.resolve_left (by intro z; cases z); subst hn; exact mj_s_iload_n hKG X hdg hI
    case iload => have hn := hn.resolve_left (by intro z; cases z); subst hn; exact mj_s_iload hKG X hdg hI
    case lload_n => have hn := hn.resolve_left (by intro z; cases z); subst hn; exact mj_s_lload_n hKG X hdg hI
    case lload => have hn := hn.resolve_left (by intro z; cases z); subst hn; exact mj_s_lload hKG X hdg hI
    case aload_n => have hn := hn.resolve_left (by intro z; cases z); subst hn; exact mj_s_aload_n hKG X hdg hI
    case aload => have hn := hn.resolve_left (by intro z; cases z); subst hn; exact mj_s_aload hKG X hdg hI
    case istore_n => have hn := hn.resolve_left (by intro z; cases z); subst hn; exact mj_s_istore_n hKG X hdg hI
    case istore => have hn := hn.resolve_left (by intro z; cases z); subst hn; exact mj_s_istore hKG X hdg hI
    case lstore_n => have hn := hn.resolve_left (by intro z; cases z); subst hn; exact mj_s_lstore_n hKG X hdg hI
    case lstore => have hn := hn.resolve_left (by intro z; cases z); subst hn; exact mj_s_lstore hKG X hdg hI
    case astore_n => have hn := hn.resolve_left (by intro z; cases z); subst hn; exact mj_s_astore_n hKG X hdg hI
    case astore => have hn := hn.resolve_left (by intro z; cases z); subst hn; exact mj_s_astore hKG X hdg hI
    case iinc => have hn := hn.resolve_left (by intro z; cases z); subst hn; exact mj_s_iinc hKG X hdg hI
    case iadd => have hn := hn.resolve_left (by intro z; cases z); subst hn; exact mj_s_iadd hKG X hdg hI
    case isub => have hn := hn.resolve_left (by intro z; cases z); subst hn; exact mj_s_isub hKG X hdg hI
    case imul => have hn := hn.resolve_left (by intro z; cases z); subst hn; exact mj_s_imul hKG X hdg hI
    case iand => have hn := hn.resolve_left (by intro z; cases z); subst hn; exact mj_s_iand hKG X hdg hI
    case ior => have hn := hn.resolve_left (by intro z; cases z); subst hn; exact mj_s_ior hKG X hdg hI
    case ixor => have hn := hn.resolve_left (by intro z; cases z); subst hn; exact mj_s_ixor hKG X hdg hI
    case ishl => have hn := hn.resolve_left (by intro z; cases z); subst hn; exact mj_s_ishl hKG X hdg hI
    case ishr => have hn := hn.resolve_left (by intro z; cases z); subst hn; exact mj_s_ishr hKG X hdg hI
    case iushr => have hn := hn.resolve_left (by intro z; cases z); subst hn; exact mj_s_iushr hKG X hdg hI
    case ladd => have hn := hn.resolve_left (by intro z; cases z); subst hn; exact mj_s_ladd hKG X hdg hI
    case lsub => have hn := hn.resolve_left (by intro z; cases z); subst hn; exact mj_s_lsub hKG X hdg hI
    case lmul => have hn := hn.resolve_left (by intro z; cases z); subst hn; exact mj_s_lmul hKG X hdg hI
    case idiv => have hn := hn.resolve_left (by intro z; cases z); subst hn; exact mj_s_idiv hKG X hdg hI
    case irem => have hn := hn.resolve_left (by intro z; cases z); subst hn; exact mj_s_irem hKG X hdg hI
    case ldiv => have hn := hn.resolve_left (by intro z; cases z); subst hn; exact mj_s_ldiv hKG X hdg hI
    case ineg => have hn := hn.resolve_left (by intro z; cases z); subst hn; exact mj_s_ineg hKG X hdg hI
    case i2l => have hn := hn.resolve_left (by intro z; cases z); subst hn; exact mj_s_i2l hKG X hdg hI
    case l2i => have hn := hn.resolve_left (by intro z; cases z); subst hn; exact mj_s_l2i hKG X hdg hI
    case lcmp => have hn := hn.resolve_left (by intro z; cases z); subst hn; exact mj_s_lcmp hKG X hdg hI
    case dup => have hn := hn.resolve_left (by intro z; cases z); subst hn; exact mj_s_dup hKG X hdg hI
    case pop => have hn := hn.resolve_left (by intro z; cases z); subst hn; exact mj_s_pop hKG X hdg hI
    case dup2 => have hn := hn.resolve_left (by intro z; cases z); subst hn; exact mj_s_dup2 hKG X hdg hI
    case ifnull => have hn := hn.resolve_left (by intro z; cases z); subst hn; exact mj_s_ifnull hKG X hdg hI
    case ifnonnull => have hn := hn.resolve_left (by intro z; cases z); subst hn; exact mj_s_ifnonnull hKG X hdg hI
    case goto => have hn := hn.resolve_left (by intro z; cases z); subst hn; exact mj_s_goto hKG X hdg hI
    case tableswitch => exact mj_s_tableswitch hKG X hdg hI
    case lookupswitch => exact mj_s_lookupswitch hKG X hdg hI
    case getfield => have hn := hn.resolve_left (by intro z; cases z); subst hn; exact mj_s_getfield hKG X hdg hI
    case putfield => have hn := hn.resolve_left (by intro z; cases z); subst hn; exact mj_s_putfield hKG X hdg hI
    case getstatic => have hn := hn.resolve_left (by intro z; cases z); subst hn; exact mj_s_getstatic hKG X hdg hI
    case ldc => have hn := hn.resolve_left (by intro z; cases z); subst hn; exact mj_s_ldc hKG X hdg hI
    case ldc_w => have hn := hn.resolve_left (by intro z; cases z); subst hn; exact mj_s_ldc_w hKG X hdg hI
    case ldc2_w => have hn := hn.resolve_left (by intro z; cases z); subst hn; exact mj_s_ldc2_w hKG X hdg hI
    case iaload => have hn := hn.resolve_left (by intro z; cases z); subst hn; exact mj_s_iaload hKG X hdg hI
    case baload => have hn := hn.resolve_left (by intro z; cases z); subst hn; exact mj_s_baload hKG X hdg hI
    case aaload => have hn := hn.resolve_left (by intro z; cases z); subst hn; exact mj_s_aaload hKG X hdg hI
    case iastore => have hn := hn.resolve_left (by intro z; cases z); subst hn; exact mj_s_iastore hKG X hdg hI
    case bastore => have hn := hn.resolve_left (by intro z; cases z); subst hn; exact mj_s_bastore hKG X hdg hI
    case aastore => have hn := hn.resolve_left (by intro z; cases z); subst hn; exact mj_s_aastore hKG X hdg hI
    case arraylength => have hn := hn.resolve_left (by intro z; cases z); subst hn; exact mj_s_arraylength hKG X hdg hI
    case newarray => have hn := hn.resolve_left (by intro z; cases z); subst hn; exact mj_s_newarray hKG X hdg hI
    case anewarray => have hn := hn.resolve_left (by intro z; cases z); subst hn; exact mj_s_anewarray hKG X hdg hI
    case new => have hn := hn.resolve_left (by intro z; cases z); subst hn; exact mj_s_new hKG X hdg hI
    case invokevirtual => have hn := hn.resolve_left (by intro z; cases z); subst hn; exact mj_s_invokevirtual hKG X hdg hI
    case invokestatic => have hn := hn.resolve_left (by intro z; cases z); subst hn; exact mj_s_invokestatic hKG X hdg hI
    case invokespecial => have hn := hn.resolve_left (by intro z; cases z); subst hn; exact mj_s_invokespecial hKG X hdg hI
    case ireturn => have hn := hn.resolve_left (by intro z; cases z); subst hn; exact mj_s_ireturn hrt hlocks hKG X hdg hI
    case lreturn => have hn := hn.resolve_left (by intro z; cases z); subst hn; exact mj_s_lreturn hrt hlocks hKG X hdg hI
    case areturn => have hn := hn.resolve_left (by intro z; cases z); subst hn; exact mj_s_areturn hrt hlocks hKG X hdg hI
    case return_ => have hn := hn.resolve_left (by intro z; cases z); subst hn; exact mj_s_return_ hrt hlocks hKG X hdg hI
    case ifCond c0 off => have hn := hn.resolve_left (by intro z; cases z); subst hn; cases c0 <;> first | exact mj_s_if_eq hKG X hdg hI | exact mj_s_if_ne hKG X hdg hI | exact mj_s_if_lt hKG X hdg hI | exact mj_s_if_ge hKG X hdg hI | exact mj_s_if_gt hKG X hdg hI | exact mj_s_if_le hKG X hdg hI
    case if_icmp c0 off => have hn := hn.resolve_left (by intro z; cases z); subst hn; cases c0 <;> first | exact mj_s_icmp_eq hKG X hdg hI | exact mj_s_icmp_ne hKG X hdg hI | exact mj_s_icmp_lt hKG X hdg hI | exact mj_s_icmp_ge hKG X hdg hI | exact mj_s_icmp_gt hKG X hdg hI | exact mj_s_icmp_le hKG X hdg hI
    all_goals exact hI.elim
  · exact hI.elim
def mj_aok (n : Nat) (as : List Value) : Bool := decide ((mj_al as).length ≤ n) && as.all (fun v => mj_kn v && (match v with | .double _ => false | _ => true))
theorem mj_al_len (ad sd : Nat → Nat) : ∀ as : List Value, (∀ v ∈ as, mj_kn v = true ∧ ∀ x, v ≠ .double x) → (lg_sl (as.map (mj_tv ad sd))).length = (mj_al as).length
  | [], _ => rfl
  | v :: as, h => by
    have ih := mj_al_len ad sd as (fun w hw => h w (List.mem_cons_of_mem _ hw))
    have hv := h v List.mem_cons_self
    simp only [lg_sl, List.map_cons, List.flatMap_cons, List.length_append] at ih ⊢
    rw [ih]
    cases v with
    | double x => exact absurd rfl (hv.2 x)
    | _ => simp [mj_al, mj_tv, Value.category] <;> omega

/-- A METHOD'S BODY: for any G that holds wherever one instruction's demand holds, G holds at the entry: then the method keeps its contract -/
theorem mj_body {y : MethodName} {cc : ByteArray} {maxL : Nat} {rt : Option FieldType} {cs : mj_S} (ini : Bool) (T : mj_T) (hy : plainName y.cls = true) (hT : T.1 = maxL) (hr : T.2.1 = rt) (hini : ini = true → y.name = "<init>") (hTF : mj_TF l y.cls ini lev T)
    (hmain : ∀ (as : List Value) (h : mj_H) (k : Option Value → mj_H → Prop), cs as h k → mj_aok maxL as = true ∧ ∀ G : mj_K, (∀ K : mj_K, (∀ pc L st h bc bs, K pc L st h bc bs → G pc L st h bc bs) → ∀ pc L st h bc bs, mj_step cc T k K pc L st h bc bs → G pc L st h bc bs) → G 0 (mj_al as) [] h mc ms) : mj_Met l y cc maxL rt lev mc ms cs := by
  intro D cA sd adK adV ad as h k sz hc
  subst hT; subst hr
  refine Met.ofW (cc := cc) (maxL := T.1) (ret := T.2.1) hy rfl ?_
  intro p e s m args below meth c s₁ B hml hv
  obtain ⟨rfl, hsz, ⟨hP, hK, hD0, h5⟩, hX, hsv⟩ := hv
  have hts : ∀ w ∈ mj_tw, w.before (as.map (mj_tv ad sd)).toArray s = true := fun w hw => atoms_spec (ws := Cond.code y cc T.1 T.2.1 :: mj_tw) B.pre w (List.mem_cons_of_mem _ hw)
  have hown : s.vm.findClass y.cls = some m.cls := findClass_of_methodNamed B.named
  subst hsz
  obtain ⟨hok, hG⟩ := hmain as h k hc
  unfold mj_aok at hok
  rw [Bool.and_eq_true, decide_eq_true_eq] at hok
  have hkn : ∀ v ∈ as, mj_kn v = true ∧ ∀ x, v ≠ .double x := by
    intro v hv
    have := List.all_eq_true.mp hok.2 v hv
    rw [Bool.and_eq_true] at this
    refine ⟨this.1, fun x hx => ?_⟩
    rw [hx] at this
    exact Bool.false_ne_true this.2
  have hlen := mj_al_len ad sd as hkn
  have hl := lv_entry (as.map (mj_tv ad sd)) (n := T.1) (by rw [hlen]; exact hok.1)
  have X : mj_Cx p l (headSpec (Cond.code y cc T.1 T.2.1 :: mj_tw) (mj_rm lev mc ms)).room s m (as.map (mj_tv ad sd)).toArray meth c cc y.cls ini lev D cA sd adK adV (va_A (mj_ws cA ad sd h) s.heap.size) mc ms T :=
    ⟨B.exec, B.bytes, hml, hown, hts, hK, fun q hq => Or.inr hq, hX, rfl, fun hi => (name_of_methodNamed B.named B.method).1.trans (hini hi), hTF⟩
  have h9 := hG (mj_Go p l e (headSpec (Cond.code y cc T.1 T.2.1 :: mj_tw) (mj_rm lev mc ms)).room s m (as.map (mj_tv ad sd)).toArray below meth c (MQ below (mj_Q D cA sd ad h k (va_A (mj_ws cA ad sd h) s.heap.size)) (as.map (mj_tv ad sd)).toArray s mc ms (va_A (mj_ws cA ad sd h) s.heap.size)) D cA sd (va_A (mj_ws cA ad sd h) s.heap.size) h.length ad mc ms T.1)
    (fun K hKG pc L st h' bc bs hI => mj_true hKG B.returns B.notSynchronized X hI)
  rw [lg_entry_eq]
  refine h9 ad s.heap [] 0 0 _ (fun _ _ => rfl) (Nat.le_refl _) (fun v hv => by cases hv) (fun v hv => ?_) h5 hP hD0.self va_S.rf (mj_lv_mono hl (mj_al_lm ad sd as 0 hkn)) (by omega) (by omega)
  have hgo : ∀ x : List Value, (∀ v ∈ x, mj_sv h.length v) → ∀ v ∈ mj_al x, mj_sv h.length v := by
    intro x
    induction x with
    | nil => intro _ v hv; cases hv
    | cons w x ih =>
      intro hx v hv
      have ih := ih (fun v hv => hx v (List.mem_cons_of_mem _ hv))
      have hw := hx w List.mem_cons_self
      cases w <;> simp only [mj_al, List.mem_cons] at hv <;> first
        | (rcases hv with rfl | rfl | hv
           · exact trivial
           · exact trivial
           · exact ih v hv)
        | (rcases hv with rfl | hv
           · exact hw
           · exact ih v hv)
  exact hgo as hsv v hv
end MJ
/-- many instructions, till one of the places that are cut -/
def mj_W (cc : ByteArray) (T : mj_T) (k : Option Value → mj_H → Prop) (G : mj_K) (cut : Nat → Bool) : Nat → mj_K
  | 0 => G
  | n + 1 => fun pc L st h bc bs => if cut pc = true then G pc L st h bc bs else mj_step cc T k (mj_W cc T k G cut n) pc L st h bc bs
abbrev mj_cl (cc : ByteArray) (T : mj_T) (k : Option Value → mj_H → Prop) (G : mj_K) : Prop := ∀ K : mj_K, (∀ pc L st h bc bs, K pc L st h bc bs → G pc L st h bc bs) → ∀ pc L st h bc bs, mj_step cc T k K pc L st h bc bs → G pc L st h bc bs
theorem mj_W_G {cc : ByteArray} {T : mj_T} {k : Option Value → mj_H → Prop} {G : mj_K} (hG : mj_cl cc T k G) (cut : Nat → Bool) : ∀ (n : Nat) (pc : Nat) (L st : List Value) (h : mj_H) (bc bs : Nat), mj_W cc T k G cut n pc L st h bc bs → G pc L st h bc bs
  | 0, _, _, _, _, _, _, hw => hw
  | n + 1, pc, L, st, h, bc, bs, hw => by
    unfold mj_W at hw
    split at hw
    · exact hw
    · exact hG _ (mj_W_G hG cut n) _ _ _ _ _ _ hw
/-- the rule with which a walk begins: one instruction, then on till a cut -/
theorem mj_run {cc : ByteArray} {T : mj_T} {k : Option Value → mj_H → Prop} {G : mj_K} (hG : mj_cl cc T k G) (cut : Nat → Bool) (n : Nat) {pc : Nat} {L st : List Value} {h : mj_H} {bc bs : Nat} (hw : mj_step cc T k (mj_W cc T k G cut n) pc L st h bc bs) : G pc L st h bc bs := hG _ (mj_W_G hG cut n) _ _ _ _ _ _ hw
