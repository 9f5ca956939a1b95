/-! a call behind up to eight words; the end of a walk with such calls -/
def mj_isi : Value → Bool
  | .int _ => true
  | .ref _ => true
  | _ => false
def mj_c8 (cc : ByteArray) (T : mj_T) (G : mj_K) : Prop := ∀ (pc i : Nat) (L st : List Value) (h : mj_H) (bc bs : Nat), decode cc pc = .ok (.invokevirtual i, 3) → (match T.2.2.2.2.2.2.2 i with
    | some (k, n, ci, c1, s1, cs) => k < 2 ∧ n ≤ st.length ∧ ((st.drop n).length ≤ 8 ∧ (st.drop n).all mj_isi = true) ∧ c1 ≤ bc ∧ s1 ≤ bs ∧ (match (st.take n).reverse with
      | .ref a :: as => (match h[a]? with
        | some (.inr (cj, _)) => cj = ci ∧ cs (.ref a :: as) h fun r h' => G (pc + 3) L (r.toList ++ st.drop n) h' (bc - c1) (bs - s1)
        | _ => False)
      | _ => False)
    | none => False) → G pc L st h bc bs
section C8
variable {p : Program} {l : Launch} {e : Env} {R : Room} {s : State} {m : MethodId} {args : Array Value} {below : List Frame} {meth : Method} {c : Code} {Q : State → Prop} {cc : ByteArray} {own : String} {ini : Bool} {lev : Nat} {D : va_G} {cA : FieldType → ClassId} {sd adK adV : Nat → Nat} {A : Nat → Prop} {n0 : Nat} {ad0 : Nat → Nat} {mc ms : Nat} {T : mj_T} {ret : Option Value → mj_H → Prop} {pc : Nat} {L st : List Value} {h : mj_H} {bc bs : Nat}
theorem mj_len8 {ad : Nat → Nat} {ls : Array Slot} {g : List Value} {rest : List Value} (h : rest.length ≤ 8) (hi : rest.all mj_isi = true) : 2 * (F0 m pc ls g).monitorRoom + ((rest.map (mj_tv ad sd)).map fun v => v.category).sum ≤ 8 := by
  refine lv_room ?_
  have h1 : ∀ x : List Value, x.all mj_isi = true → ((x.map (mj_tv ad sd)).map fun v => v.category).sum = x.length := by
    intro x
    induction x with
    | nil => intro _; rfl
    | cons v x ih =>
      intro hx
      rw [List.all_cons, Bool.and_eq_true] at hx
      have h2 := ih hx.2
      simp only [List.map_cons, List.sum_cons, List.length_cons, h2]
      cases v <;> first | (simp [mj_tv, Value.category]; omega) | exact (Bool.false_ne_true hx.1).elim
  rw [h1 rest hi]
  exact h
set_option maxHeartbeats 400000 in
theorem mj_Go_c8 {nL : Nat} (hnL : T.1 = nL) (X : mj_Cx p l R s m args meth c cc own ini lev D cA sd adK adV A mc ms T) : mj_c8 cc T (mj_Go p l e R s m args below meth c Q D cA sd A n0 ad0 mc ms nL) := by
  subst hnL
  obtain ⟨hx, hb, hml, hown, hts, hK, hA, hX, hR, hin, hTF⟩ := X
  have hKG : ∀ pc L st h bc bs, mj_Go p l e R s m args below meth c Q D cA sd A n0 ad0 mc ms T.1 pc L st h bc bs → mj_Go p l e R s m args below meth c Q D cA sd A n0 ad0 mc ms T.1 pc L st h bc bs := fun _ _ _ _ _ _ z => z
  intro pc i L st h bc bs hdg hI
  split at hI
  · next k n ci c1 s1 cs hT =>
    obtain ⟨hk, hn, h4, d1, d2, hI⟩ := hI
    split at hI
    rotate_left
    · exact hI.elim
    rename_i a as hras
    split at hI
    rotate_left
    · exact hI.elim
    rename_i cj fs hc
    obtain ⟨rfl, hI⟩ := hI
    obtain ⟨y, bytes, maxL, rt, lev', na, hM, hlv, hmx, hcode, hini, hy, hkind⟩ := hTF.2.2.2.2.2 i _ hT
    dsimp only at hM hkind
    intro ad H locs cells slots ls e1 e2 e3 e4 e5 hP hD hS hl b1 b2
    have hstk : st = (st.take n).reverse.reverse ++ st.drop n := by rw [List.reverse_reverse, List.take_append_drop]
    have hres : ∀ v ∈ st.drop n, mj_sv h.length v := fun v hv => e3 v (List.mem_of_mem_drop hv)
    have hars : ∀ v ∈ (st.take n).reverse, mj_sv h.length v := fun v hv => e3 v (List.mem_of_mem_take (List.mem_reverse.mp hv))
    have hrlen : (st.take n).reverse.length = n := by rw [List.length_reverse, List.length_take]; omega
    have hfit : cells + c1 ≤ R.cells ∧ slots + s1 ≤ R.slots := by
      rw [hR]
      show cells + c1 ≤ mc ∧ slots + s1 ≤ ms
      omega
    rw [hras] at hstk hars hrlen
    have has : as.length + 1 = n := by simpa using hrlen
    have hb1 : st.map (mj_tv ad sd) = (as.map (mj_tv ad sd)).reverse ++ .ref (ad a) :: (st.drop n).map (mj_tv ad sd) := by
      conv => lhs; rw [hstk]
      simp [mj_tv]
    have hM2 := hM D cA sd adK adV ad (.ref a :: as) h _ H.size hI
    have hpre := mj_pre (adK := adK) (adV := adV) (as := .ref a :: as) hK hX hA e5 hP hD hS hars
    rcases hkind with ⟨k0, kn, k1, k2, k3, Tt, N, k4⟩ | ⟨k0, kn, ⟨host, k1⟩, k2, k3, Tt, N, k4⟩ | ⟨k0, -⟩ | ⟨k0, -⟩ | ⟨k0, -⟩ | ⟨k0, -⟩
    · have hrecv := va_recv (q := (y.cls, Tt, N)) (a := ad a) hK.1 hP (ci := cj) (q0 := a) k4 (mj_ws_at hc)
      refine mj_after hKG hA (va_runV (C := y.cls) (b := ad a) (As := as.map (mj_tv ad sd)) (n := na) (nL := T.1) ⟨hx, hb, hml, hown, hts⟩ hM2 ⟨callB_of na hts (mj_twIn hcode) rfl rfl rfl (hts _ hini) (hts _ k1) hy (mj_hR hR hlv hmx), hts _ k2, hts _ k3⟩ ⟨mj_blindW _, hrecv, hpre⟩ rfl (by rw [List.length_map]; omega) hl.1 hb1 (mj_len8 h4.1 h4.2) hdg hfit) e1 e2 hres e4 hP hD hS hl b1 b2 d1 d2
    · have hrecv := va_recv (q := (y.cls, Tt, N)) (a := ad a) hK.1 hP (ci := cj) (q0 := a) k4 (mj_ws_at hc)
      refine mj_after hKG hA (va_runVN (C := y.cls) (host := host) (b := ad a) (As := as.map (mj_tv ad sd)) (n := na) (nL := T.1) ⟨hx, hb, hml, hown, hts⟩ hM2 ⟨va_cnB na hts (mj_twIn hcode) rfl rfl rfl (hX.1 _ k1 rfl) (hts _ hini) hy (mj_hR hR hlv hmx), hts _ k2, hts _ k3⟩ ⟨mj_blindW _, hrecv, hpre⟩ rfl (by rw [List.length_map]; omega) hl.1 hb1 (mj_len8 h4.1 h4.2) hdg hfit) e1 e2 hres e4 hP hD hS hl b1 b2 d1 d2
    · omega
    · omega
    · omega
    · omega
  · exact hI.elim

theorem mj_body5 {y : MethodName} {cc : ByteArray} {maxL : Nat} {rt : Option FieldType} {cs : mj_S} (ini : Bool) (T : mj_T) (hy : plainName y.cls = true) (hT : T.1 = maxL) (hr : T.2.1 = rt) (hini : ini = true → y.name = "<init>") (hTF : mj_TF l y.cls ini lev T)
    (hmain : ∀ (as : List Value) (h : mj_H) (k : Option Value → mj_H → Prop), cs as h k → mj_aok maxL as = true ∧ ∀ G : mj_K, mj_cl2 cc T k G → mj_c8 cc T G → G 0 (mj_al as) [] h mc ms) : mj_Met l y cc maxL rt lev mc ms cs := by
  intro D cA sd adK adV ad as h k sz hc
  subst hT; subst hr
  refine Met.ofW (cc := cc) (maxL := T.1) (ret := T.2.1) hy rfl ?_
  intro p e s m args below meth c s₁ B hml hv
  obtain ⟨rfl, hsz, ⟨hP, hK, hD0, h5⟩, hX, hsv⟩ := hv
  have hts : ∀ w ∈ mj_tw, w.before (as.map (mj_tv ad sd)).toArray s = true := fun w hw => atoms_spec (ws := Cond.code y cc T.1 T.2.1 :: mj_tw) B.pre w (List.mem_cons_of_mem _ hw)
  have hown : s.vm.findClass y.cls = some m.cls := findClass_of_methodNamed B.named
  subst hsz
  obtain ⟨hok, hG⟩ := hmain as h k hc
  unfold mj_aok at hok
  rw [Bool.and_eq_true, decide_eq_true_eq] at hok
  have hkn : ∀ v ∈ as, mj_kn v = true ∧ ∀ x, v ≠ .double x := by
    intro v hv
    have := List.all_eq_true.mp hok.2 v hv
    rw [Bool.and_eq_true] at this
    refine ⟨this.1, fun x hx => ?_⟩
    rw [hx] at this
    exact Bool.false_ne_true this.2
  have hlen := mj_al_len ad sd as hkn
  have hl := lv_entry (as.map (mj_tv ad sd)) (n := T.1) (by rw [hlen]; exact hok.1)
  have X : mj_Cx p l (headSpec (Cond.code y cc T.1 T.2.1 :: mj_tw) (mj_rm lev mc ms)).room s m (as.map (mj_tv ad sd)).toArray meth c cc y.cls ini lev D cA sd adK adV (va_A (mj_ws cA ad sd h) s.heap.size) mc ms T :=
    ⟨B.exec, B.bytes, hml, hown, hts, hK, fun q hq => Or.inr hq, hX, rfl, fun hi => (name_of_methodNamed B.named B.method).1.trans (hini hi), hTF⟩
  have h9 := hG (mj_Go p l e (headSpec (Cond.code y cc T.1 T.2.1 :: mj_tw) (mj_rm lev mc ms)).room s m (as.map (mj_tv ad sd)).toArray below meth c (MQ below (mj_Q D cA sd ad h k (va_A (mj_ws cA ad sd h) s.heap.size)) (as.map (mj_tv ad sd)).toArray s mc ms (va_A (mj_ws cA ad sd h) s.heap.size)) D cA sd (va_A (mj_ws cA ad sd h) s.heap.size) h.length ad mc ms T.1)
    ⟨fun K hKG pc L st h' bc bs hI => mj_true hKG B.returns B.notSynchronized X hI, fun _ _ _ _ _ _ _ _ _ hw h1 h2 hg => mj_Go_wk hw h1 h2 hg⟩ (mj_Go_c8 rfl X)
  rw [lg_entry_eq]
  refine h9 ad s.heap [] 0 0 _ (fun _ _ => rfl) (Nat.le_refl _) (fun v hv => by cases hv) (fun v hv => ?_) h5 hP hD0.self va_S.rf (mj_lv_mono hl (mj_al_lm ad sd as 0 hkn)) (by omega) (by omega)
  have hgo : ∀ x : List Value, (∀ v ∈ x, mj_sv h.length v) → ∀ v ∈ mj_al x, mj_sv h.length v := by
    intro x
    induction x with
    | nil => intro _ v hv; cases hv
    | cons w x ih =>
      intro hx v hv
      have ih := ih (fun v hv => hx v (List.mem_cons_of_mem _ hv))
      have hw := hx w List.mem_cons_self
      cases w <;> simp only [mj_al, List.mem_cons] at hv <;> first
        | (rcases hv with rfl | rfl | hv
           · exact trivial
           · exact trivial
           · exact ih v hv)
        | (rcases hv with rfl | hv
           · exact hw
           · exact ih v hv)
  exact hgo as hsv v hv
end C8
