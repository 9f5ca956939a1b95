/-! the least school for a teacher -/
def okT (s t : St) (i : Nat) (y q : Int32) (U : Nat → Int32) (j : Nat) : Prop := 0 < (U j).toInt ∧ ∃ m, m < 8 ∧ bt (t.2.1 1218 j) m = true ∧ mayT s t i (t.2.1 1215 j) y q m = true
theorem and_0 (x y : Int32) : x &&& y = 0 ↔ ∀ m, m < 32 → ¬ (bt x m = true ∧ bt y m = true) := by
  constructor
  · rintro h m hm ⟨h1, h2⟩
    have h3 : bt (x &&& y) m = bt 0 m := by rw [h]
    rw [b_and, h1, h2, b_0] at h3
    cases h3
  · intro h
    refine b_ext (fun m hm => ?_)
    rw [b_and, b_0]
    have := h m hm
    cases h1 : bt x m
    · rfl
    · cases h2 : bt y m
      · rfl
      · exact absurd ⟨h1, h2⟩ this
theorem CL_810 (s : St) (V l f : Nat → Int32) (x : Int32) {c : Nat} (v : Int32) (hc : c < 4) : wr (CL (setA s 810 V) l f x) 810 4 (nI c) v = some (CL (setA s 810 (upd V c v)) l f x) := by
  rw [wr_nI hc (by omega)]
  refine congrArg (fun A => some (upd s.1 9 x, A, s.2.2)) ?_
  funext i
  show va_up (va_up (va_up (va_up s.2.1 810 V) 7 l) 8 f) 810 (upd V c v) i = _
  show _ = va_up (va_up (va_up s.2.1 810 (upd V c v)) 7 l) 8 f i
  unfold va_up
  by_cases e : i = 810
  · subst e; rfl
  · simp [e]
theorem RX.set810 {N : Int} {s t : St} (h : RX N s t) (V : Nat → Int32) : RX N (setA s 810 V) t := ⟨h.now, h.folk, h.cnt, h.rec, h.trt, h.sch, h.blt, h.shut, h.tape, h.yard, h.prom, h.given, h.staff, h.roof, h.site, h.purse, h.land, h.law, h.ref, h.row⟩
