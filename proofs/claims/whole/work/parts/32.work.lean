/-! the reference's work -/
/-- the reference with its pile and the place where it reads -/
def Wk (t : St) (g : Nat → Int32) (p : Nat) : St := (upd t.1 1243 (nI p), va_up t.2.1 1242 g, t.2.2)
theorem Wk_1 (t : St) (g : Nat → Int32) (p : Nat) : (Wk t g p).1 1243 = nI p := rfl
theorem Wk_c (t : St) (g : Nat → Int32) (p : Nat) {q : Nat} (h : q < 8400) : rd (Wk t g p) 1230 8400 (nI q) = some (t.2.1 1230 q) := by
  rw [rd_nI h (by omega)]
  rfl
theorem Wk_l (t : St) (g : Nat → Int32) (p : Nat) {q : Nat} (h : q < 128) : rd (Wk t g p) 1241 128 (nI q) = some (t.2.1 1241 q) := by
  rw [rd_nI h (by omega)]
  rfl
theorem Wk_g (t : St) (g : Nat → Int32) (p : Nat) {q : Nat} (h : q < 200) : rd (Wk t g p) 1242 200 (nI q) = some (g q) := by
  rw [rd_nI h (by omega)]
  rfl
theorem Wk_w (t : St) (g : Nat → Int32) (p : Nat) {q : Nat} (h : q < 200) (v : Int32) : wr (Wk t g p) 1242 200 (nI q) v = some (Wk t (upd g q v) p) := by
  rw [wr_nI h (by omega)]
  unfold sA Wk
  simp only [va_upup, va_up_s]
theorem Wk_i (t : St) (g : Nat → Int32) (p q : Nat) : wI (Wk t g p) 1243 (nI q) = some (Wk t g q) := by
  rw [wI_ok]
  unfold pI Wk
  have : upd (upd t.1 1243 (nI p)) 1243 (nI q) = upd t.1 1243 (nI q) := by
    funext j; unfold upd; split <;> rfl
  simp only [this]
/-- the letters' places -/
def lch (i : Nat) : Nat := ([121, 105, 110, 108, 120, 114] : List Nat).getD i 0
theorem lch_nI {i : Nat} (h : i < 6) : ([121, 105, 110, 108, 120, 114] : List Int32).getD i 0 = nI (lch i) ∧ lch i < 128 := by
  have : i = 0 ∨ i = 1 ∨ i = 2 ∨ i = 3 ∨ i = 4 ∨ i = 5 := by omega
  rcases this with e | e | e | e | e | e <;> subst e <;> exact ⟨rfl, by decide⟩
def cdAt (t : St) (p : Nat) (l : List Int32) : Prop := ∀ (i : Nat) (x : Int32), l[i]? = some x → t.2.1 1230 (p + i) = x
theorem cdAt.tl {t : St} {p : Nat} {x : Int32} {l : List Int32} (h : cdAt t p (x :: l)) : cdAt t (p + 1) l := by
  intro i y hy
  have := h (i + 1) y (by rw [List.getElem?_cons_succ]; exact hy)
  rw [← this, show p + (i + 1) = p + 1 + i by omega]
theorem cdAt.hd {t : St} {p : Nat} {x : Int32} {l : List Int32} (h : cdAt t p (x :: l)) : t.2.1 1230 p = x := h 0 x rfl
theorem cdAt.app {t : St} : ∀ {l1 l2 : List Int32} {p : Nat}, cdAt t p (l1 ++ l2) → cdAt t (p + l1.length) l2
  | [], _, _, h => h
  | x :: l1, l2, p, h => by
    have := cdAt.app (l1 := l1) (l2 := l2) (p := p + 1) h.tl
    rw [List.length_cons]
    have e : p + (l1.length + 1) = p + 1 + l1.length := by omega
    rw [e]
    exact this
theorem cdAt.left {t : St} {l1 l2 : List Int32} {p : Nat} (h : cdAt t p (l1 ++ l2)) : cdAt t p l1 := fun i x hx => h i x (by rw [List.getElem?_append_left (List.getElem?_eq_some_iff.mp hx).1]; exact hx)
theorem M_num {t : St} {k : Int32} {p h : Nat} {g : Nat → Int32} (h63 : h < 64) (q0 : t.2.1 1230 p = 0) (q1 : t.2.1 1230 (p + 1) = k) (hp : p + 2 < 8400) : B_X12_work_2 (nI h, Wk t g p) = some (.inl (nI (h + 1), Wk t (upd g h k) (p + 2))) := by
  have n02 : ¬ (0 : Int32) = 2 := by decide
  have n03 : ¬ (0 : Int32) = 3 := by decide
  simp (disch := omega) only [B_X12_work_2, Wk_1, Wk_c, bind_some, q0, n02, n03, if_false, if_true, nI_1, Wk_i, q1, Wk_w]
theorem M_let {t : St} {c p h : Nat} {g : Nat → Int32} (h63 : h < 64) (q0 : t.2.1 1230 p = 1) (q1 : t.2.1 1230 (p + 1) = nI c) (hc : c < 128) (hp : p + 2 < 8400) : B_X12_work_2 (nI h, Wk t g p) = some (.inl (nI (h + 1), Wk t (upd g h (t.2.1 1241 c)) (p + 2))) := by
  have n12 : ¬ (1 : Int32) = 2 := by decide
  have n13 : ¬ (1 : Int32) = 3 := by decide
  have n10 : ¬ (1 : Int32) = 0 := by decide
  simp (disch := omega) only [B_X12_work_2, Wk_1, Wk_c, bind_some, q0, n12, n13, n10, if_false, if_true, nI_1, Wk_i, q1, Wk_l, Wk_w]
theorem M_not {t : St} {p h : Nat} {g : Nat → Int32} (h64 : h + 1 ≤ 64) (q0 : t.2.1 1230 p = 33) (hp : p + 1 < 8400) : B_X12_work_2 (nI (h + 1), Wk t g p) = some (.inl (nI (h + 1), Wk t (upd g h (if g h = 0 then 1 else 0)) (p + 1))) := by
  have m2 : ¬ (33 : Int32) = 2 := by decide
  have m3 : ¬ (33 : Int32) = 3 := by decide
  have m0 : ¬ (33 : Int32) = 0 := by decide
  have m1 : ¬ (33 : Int32) = 1 := by decide
  by_cases c5 : g h = 0
  · simp (disch := omega) only [B_X12_work_2, Wk_1, Wk_c, bind_some, q0, m2, m3, m0, m1, if_false, if_true, nI_1, Wk_i, nI_pred, Wk_g, c5, Wk_w]
  · simp (disch := omega) only [B_X12_work_2, Wk_1, Wk_c, bind_some, q0, m2, m3, m0, m1, if_false, if_true, nI_1, Wk_i, nI_pred, Wk_g, c5, Wk_w]
theorem nI_m1 (n : Nat) : nI (n + 1) + (-1) = nI n := by
  rw [← Int32.sub_eq_add_neg]
  exact nI_pred n
theorem M_bin {t : St} {x : Int32} {p h : Nat} {g : Nat → Int32} (h64 : h + 2 ≤ 64) (q0 : t.2.1 1230 p = x) (m2 : ¬ x = 2) (m3 : ¬ x = 3) (m0 : ¬ x = 0) (m1 : ¬ x = 1) (m33 : ¬ x = 33) (hp : p + 1 < 8400) : B_X12_work_2 (nI (h + 2), Wk t g p) = some (.inl (nI (h + 1), Wk t (upd g h (opv x (g h) (g (h + 1)))) (p + 1))) := by
  have e1 : nI (h + 2) + (-1) = nI (h + 1) := nI_m1 (h + 1)
  simp (disch := omega) only [B_X12_work_2, Wk_1, Wk_c, bind_some, q0, m2, m3, m0, m1, m33, if_false, nI_1, Wk_i, e1, nI_pred, Wk_g, both_opv, Wk_w]
theorem M_end2 {t : St} {p h : Nat} {g : Nat → Int32} (q0 : t.2.1 1230 p = 2) (hp : p < 8400) : B_X12_work_2 (nI h, Wk t g p) = some (.inr (Wk t g p)) := by
  show ((rd (Wk t g p) 1230 8400 ((Wk t g p).1 1243)).bind fun x1 => _) = _
  rw [Wk_1, Wk_c _ _ _ hp, bind_some, q0, if_pos rfl]
theorem M_end3 {t : St} {p h : Nat} {g : Nat → Int32} (q0 : t.2.1 1230 p = 3) (hp : p < 8400) : B_X12_work_2 (nI h, Wk t g p) = some (.inr (Wk t g p)) := by
  have n32 : ¬ (3 : Int32) = 2 := by decide
  show ((rd (Wk t g p) 1230 8400 ((Wk t g p).1 1243)).bind fun x1 => _) = _
  rw [Wk_1, Wk_c _ _ _ hp, bind_some, q0, if_neg n32, bind_some, if_pos rfl]
theorem M_end {t : St} {e : Int32} (he : e = 2 ∨ e = 3) {p h : Nat} {g : Nat → Int32} (q0 : t.2.1 1230 p = e) (hp : p < 8400) : B_X12_work_2 (nI h, Wk t g p) = some (.inr (Wk t g p)) := by
  rcases he with z | z
  · exact M_end2 (q0.trans z) hp
  · exact M_end3 (q0.trans z) hp
theorem M_workLoop {t : St} {e : Int32} (he : e = 2 ∨ e = 3) (l : List Int32) : ∀ (p h h2 : Nat) (g : Nat → Int32) (F : Nat), h ≤ 64 → tkH l h = some h2 → cdAt t p (l.flatMap tkM ++ [e]) → p + (l.flatMap tkM).length < 8400 → l.length < F → lp B_X12_work_2 F (nI h, Wk t g p) = some (Wk t (evS (fun i => t.2.1 1241 (lch i)) l g h).1 (p + (l.flatMap tkM).length)) := by
  induction l with
  | nil =>
    intro p h h2 g F h64 ht hc hp hF
    obtain ⟨F, rfl⟩ : ∃ F', F = F' + 1 := ⟨F - 1, by simp only [List.length_nil] at hF; omega⟩
    have h1 : t.2.1 1230 p = e := hc.hd
    simp only [List.flatMap_nil, List.length_nil, Nat.add_zero] at hp ⊢
    exact lp_r (M_end he h1 (by omega))
  | cons k l ih =>
    intro p h h2 g F h64 ht hc hp hF
    obtain ⟨F, rfl⟩ : ∃ F', F = F' + 1 := ⟨F - 1, by rw [List.length_cons] at hF; omega⟩
    have e1 : (10000 : Int32).toInt = 10000 := rfl
    have e2 : (20000 : Int32).toInt = 20000 := rfl
    rw [List.flatMap_cons] at hc hp ⊢
    rw [List.length_cons] at hF
    rw [List.append_assoc] at hc
    have hrest := hc.app
    rw [List.length_append] at hp ⊢
    have hleft := hc.left
    unfold tkH at ht
    unfold evS
    split at ht
    · next hk1 =>
      split at ht
      · next h63 =>
        by_cases c5 : k.toInt ≤ 9999
        · have hk : tkM k = [0, k] := by unfold tkM; rw [if_pos (by rw [i32_lt]; omega)]
          rw [hk] at hleft hrest hp ⊢
          have q0 := hleft.hd
          have q1 := hleft.tl.hd
          simp only [List.length_cons, List.length_nil] at hrest hp ⊢
          rw [if_pos c5, lp_l (M_num h63 q0 q1 (by omega))]
          have := ih (p + 2) (h + 1) h2 (upd g h k) F (by omega) ht hrest (by omega) (by omega)
          rw [show p + (0 + 1 + 1 + (List.flatMap tkM l).length) = p + 2 + (List.flatMap tkM l).length by omega, this]
        · have hk : tkM k = [1, nI (lch (k.toInt - 10000).toNat)] := by
            unfold tkM
            rw [if_neg (by rw [i32_lt]; omega), if_pos (by rw [i32_lt]; omega)]
            rw [(lch_nI (i := (k - 10000).toInt.toNat) (by rw [i32_sub (by omega) (by omega), e1]; omega)).1, i32_sub (by omega) (by omega), e1]
          have hl := (lch_nI (i := (k.toInt - 10000).toNat) (by omega)).2
          rw [hk] at hleft hrest hp ⊢
          have q0 := hleft.hd
          have q1 := hleft.tl.hd
          simp only [List.length_cons, List.length_nil] at hrest hp ⊢
          rw [if_neg c5, if_pos (show k.toInt ≤ 10005 by omega), lp_l (M_let h63 q0 q1 hl (by omega))]
          have := ih (p + 2) (h + 1) h2 (upd g h (t.2.1 1241 (lch (k.toInt - 10000).toNat))) F (by omega) ht hrest (by omega) (by omega)
          rw [show p + (0 + 1 + 1 + (List.flatMap tkM l).length) = p + 2 + (List.flatMap tkM l).length by omega, this]
      · cases ht
    · next hk1 =>
      split at ht
      · next hk2 =>
        split at ht
        · next h0 =>
          have ek : k.toInt = 20033 := by rw [hk2]; rfl
          have hk : tkM k = [33] := by rw [hk2]; rfl
          rw [hk] at hleft hrest hp ⊢
          have q0 := hleft.hd
          simp only [List.length_cons, List.length_nil] at hrest hp ⊢
          obtain ⟨h', rfl⟩ : ∃ h', h = h' + 1 := ⟨h - 1, by omega⟩
          simp only [if_neg (show ¬ k.toInt ≤ 9999 by omega), if_neg (show ¬ k.toInt ≤ 10005 by omega), if_pos hk2]
          rw [lp_l (M_not h64 q0 (by omega))]
          have := ih (p + 1) (h' + 1) h2 (upd g h' (if g h' = 0 then 1 else 0)) F h64 ht hrest (by omega) (by omega)
          rw [show p + (0 + 1 + (List.flatMap tkM l).length) = p + 1 + (List.flatMap tkM l).length by omega, this]
          rfl
        · cases ht
      · next hk2 =>
        split at ht
        · next hk3 =>
          split at ht
          · next h1 =>
            have ek : 20000 ≤ k.toInt := by rcases hk3 with z | z | z | z | z | z | z | z | z <;> rw [z] <;> decide
            have hk : tkM k = [k - 20000] := by unfold tkM; rw [if_neg (by rw [i32_lt]; omega), if_neg (by rw [i32_lt]; omega)]
            rw [hk] at hleft hrest hp ⊢
            have q0 := hleft.hd
            simp only [List.length_cons, List.length_nil] at hrest hp ⊢
            obtain ⟨h', rfl⟩ : ∃ h', h = h' + 2 := ⟨h - 2, by omega⟩
            simp only [if_neg (show ¬ k.toInt ≤ 9999 by omega), if_neg (show ¬ k.toInt ≤ 10005 by omega), if_neg hk2]
            have hm : ¬ k - 20000 = 2 ∧ ¬ k - 20000 = 3 ∧ ¬ k - 20000 = 0 ∧ ¬ k - 20000 = 1 ∧ ¬ k - 20000 = 33 := by
              rcases hk3 with z | z | z | z | z | z | z | z | z <;> rw [z] <;> decide
            obtain ⟨m2, m3, m0, m1, m33⟩ := hm
            rw [lp_l (M_bin h64 q0 m2 m3 m0 m1 m33 (by omega))]
            have e3 : h' + 2 - 1 = h' + 1 := by omega
            have e4 : h' + 2 - 2 = h' := by omega
            rw [e3] at ht
            rw [e3, e4]
            have := ih (p + 1) (h' + 1) h2 (upd g h' (opv (k - 20000) (g h') (g (h' + 1)))) F (by omega) ht hrest (by omega) (by omega)
            rw [show p + (0 + 1 + (List.flatMap tkM l).length) = p + 1 + (List.flatMap tkM l).length by omega, this]
          · cases ht
        · cases ht
theorem M_work {t : St} {e : Int32} (he : e = 2 ∨ e = 3) {l : List Int32} {p : Nat} {g : Nat → Int32} (ht : tkH l 0 = some 1) (hc : cdAt t p (l.flatMap tkM ++ [e])) (hp : p + (l.flatMap tkM).length < 8400) (hl : l.length < 100000) : F_X12_work (Wk t g p) = some ((evS (fun i => t.2.1 1241 (lch i)) l g 0).1 0, Wk t (evS (fun i => t.2.1 1241 (lch i)) l g 0).1 (p + (l.flatMap tkM).length + 1)) := by
  unfold F_X12_work F_X12_work_2
  have h := M_workLoop (t := t) he l p 0 1 g FU (by omega) ht hc hp (FU_lt (by omega))
  have e0 : (0 : Int32) = nI 0 := rfl
  rw [e0, h]
  simp only [bind_some, F_X12_work_174, Wk_1, nI_1, Wk_i]
  rw [e0, Wk_g _ _ _ (by omega)]
  rfl
