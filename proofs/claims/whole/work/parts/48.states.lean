/-! teachers: states beside the relation -/
theorem RX.set1273 {N : Int} {s t : St} (h : RX N s t) (V : Nat → Int32) : RX N s (setA t 1273 V) := ⟨h.now, h.folk, h.cnt, h.rec, h.trt, h.sch, h.blt, h.shut, h.tape, h.yard, h.prom, h.given, h.staff, h.roof, h.site, h.purse, h.land, h.law, h.ref, h.row⟩
theorem RX.set1274 {N : Int} {s t : St} (h : RX N s t) (V : Nat → Int32) : RX N s (setA t 1274 V) := ⟨h.now, h.folk, h.cnt, h.rec, h.trt, h.sch, h.blt, h.shut, h.tape, h.yard, h.prom, h.given, h.staff, h.roof, h.site, h.purse, h.land, h.law, h.ref, h.row⟩
theorem RX.set808 {N : Int} {s t : St} (h : RX N s t) (V : Nat → Int32) : RX N (setA s 808 V) t := ⟨h.now, h.folk, h.cnt, h.rec, h.trt, h.sch, h.blt, h.shut, h.tape, h.yard, h.prom, h.given, h.staff, h.roof, h.site, h.purse, h.land, h.law, h.ref, h.row⟩
theorem RX.set809 {N : Int} {s t : St} (h : RX N s t) (V : Nat → Int32) : RX N (setA s 809 V) t := ⟨h.now, h.folk, h.cnt, h.rec, h.trt, h.sch, h.blt, h.shut, h.tape, h.yard, h.prom, h.given, h.staff, h.roof, h.site, h.purse, h.land, h.law, h.ref, h.row⟩
theorem wo_same {N : Int} {s t t' : St} (h : RX N s t) (e0 : t'.1 1240 = t.1 1240) (e1 : t'.2.1 1232 = t.2.1 1232) (e2 : t'.2.1 1233 = t.2.1 1233) (e3 : t'.2.1 1234 = t.2.1 1234) (k : Nat) (shire year q whose a b c d : Int32) : wo s t' k shire year q whose a b c d = wo s t k shire year q whose a b c d := by
  unfold wo
  rw [e0]
  refine lawB_L e1 e2 e3 (fun _ _ => rfl) _ (fun j hj => (lcl_of h.law j ?_).2.2.1)
  have h0 := h.law.2.1.1
  omega
theorem mayT_1273 {N : Int} {s t : St} (h : RX N s t) (V : Nat → Int32) (i : Nat) (shire y q : Int32) (m : Nat) : mayT s (setA t 1273 V) i shire y q m = mayT s t i shire y q m := by
  unfold mayT wq
  rw [wo_same (t' := setA t 1273 V) h rfl rfl rfl rfl]
  rfl
theorem mayT_1274 {N : Int} {s t : St} (h : RX N s t) (V : Nat → Int32) (i : Nat) (shire y q : Int32) (m : Nat) : mayT s (setA t 1274 V) i shire y q m = mayT s t i shire y q m := by
  unfold mayT wq
  rw [wo_same (t' := setA t 1274 V) h rfl rfl rfl rfl]
  rfl
