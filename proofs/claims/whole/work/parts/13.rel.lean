/-! HOW THE TWO HEAPS HANG TOGETHER: fields and arrays that hold the same; bounds of the counters -/
def relI : List (Nat × Nat) := [(1100, 1200), (101, 1212), (107, 1213), (113, 1280), (501, 1223), (901, 1235), (0, 1240), (702, 1256), (705, 1299), (1004, 1263), (1009, 1264), (1013, 1267), (802, 1275), (408, 1287), (409, 1288), (301, 1296), (303, 1297)]
def relA : List (Nat × Nat) := [(202, 1202), (102, 1204), (103, 1205), (104, 1206), (108, 1207), (109, 1208), (110, 1211), (111, 1209), (112, 1210), (114, 1276), (115, 1277), (116, 1279), (117, 1278), (502, 1214), (503, 1215), (504, 1216), (505, 1217), (506, 1218), (507, 1219), (509, 1221), (1012, 1222), (1011, 1262), (1015, 1266), (1005, 1257), (1006, 1258), (1007, 1259), (1008, 1260), (1010, 1261), (900, 1228), (1, 1232), (2, 1233), (3, 1234), (703, 1254), (706, 1298), (803, 1268), (804, 1269), (805, 1270), (806, 1271), (807, 1272), (401, 1281), (302, 1293)]
/-- the counters of the reference and their greatest values -/
def relS : List (Nat × Nat) := [(1212, 24), (1213, 200), (1280, 60), (1223, 20), (1235, 160), (1240, 20), (1256, 9), (1299, 6), (1263, 8), (1264, 10), (1267, 200), (1275, 40), (1287, 60), (1288, 60), (1296, 4), (1297, 40), (1200, 600)]
def RelI (I I' : Nat → Int32) : Prop := ∀ q ∈ relI, I q.1 = I' q.2
def RelA (A A' : Nat → Nat → Int32) : Prop := ∀ q ∈ relA, A q.1 = A' q.2
def RelS (I' : Nat → Int32) : Prop := ∀ q ∈ relS, ∃ n, n ≤ q.2 ∧ I' q.1 = nI n
theorem RelI.both {I I' : Nat → Int32} (h : RelI I I') {a b : Nat} (v : Int32) (hc : relI.all (fun q => (q.1 == a) == (q.2 == b)) = true) : RelI (upd I a v) (upd I' b v) := by
  intro q hq
  have h1 := List.all_eq_true.mp hc q hq
  simp only [beq_iff_eq] at h1
  unfold upd
  by_cases h2 : q.1 = a
  · have h3 : q.2 = b := by simpa [h2] using h1
    simp [h2, h3]
  · have h3 : ¬ q.2 = b := by intro z; rw [z] at h1; simp [h2] at h1
    simp [h2, h3, h q hq]
theorem RelI.left {I I' : Nat → Int32} (h : RelI I I') {a : Nat} (v : Int32) (hc : relI.all (fun q => q.1 != a) = true) : RelI (upd I a v) I' := by
  intro q hq
  have h1 := List.all_eq_true.mp hc q hq
  simp only [bne_iff_ne, ne_eq] at h1
  unfold upd
  simp [h1, h q hq]
theorem RelI.right {I I' : Nat → Int32} (h : RelI I I') {b : Nat} (v : Int32) (hc : relI.all (fun q => q.2 != b) = true) : RelI I (upd I' b v) := by
  intro q hq
  have h1 := List.all_eq_true.mp hc q hq
  simp only [bne_iff_ne, ne_eq] at h1
  unfold upd
  simp [h1, h q hq]
theorem RelA.both {A A' : Nat → Nat → Int32} (h : RelA A A') {a b : Nat} (v : Nat → Int32) (hc : relA.all (fun q => (q.1 == a) == (q.2 == b)) = true) : RelA (va_up A a v) (va_up A' b v) := by
  intro q hq
  have h1 := List.all_eq_true.mp hc q hq
  simp only [beq_iff_eq] at h1
  unfold va_up
  by_cases h2 : q.1 = a
  · have h3 : q.2 = b := by simpa [h2] using h1
    simp [h2, h3]
  · have h3 : ¬ q.2 = b := by intro z; rw [z] at h1; simp [h2] at h1
    simp [h2, h3, h q hq]
theorem RelA.left {A A' : Nat → Nat → Int32} (h : RelA A A') {a : Nat} (v : Nat → Int32) (hc : relA.all (fun q => q.1 != a) = true) : RelA (va_up A a v) A' := by
  intro q hq
  have h1 := List.all_eq_true.mp hc q hq
  simp only [bne_iff_ne, ne_eq] at h1
  unfold va_up
  simp [h1, h q hq]
theorem RelA.right {A A' : Nat → Nat → Int32} (h : RelA A A') {b : Nat} (v : Nat → Int32) (hc : relA.all (fun q => q.2 != b) = true) : RelA A (va_up A' b v) := by
  intro q hq
  have h1 := List.all_eq_true.mp hc q hq
  simp only [bne_iff_ne, ne_eq] at h1
  unfold va_up
  simp [h1, h q hq]
theorem RelS.other {I' : Nat → Int32} (h : RelS I') {b : Nat} (v : Int32) (hc : relS.all (fun q => q.1 != b) = true) : RelS (upd I' b v) := by
  intro q hq
  have h1 := List.all_eq_true.mp hc q hq
  simp only [bne_iff_ne, ne_eq] at h1
  obtain ⟨n, h2, h3⟩ := h q hq
  exact ⟨n, h2, by unfold upd; simp [h1, h3]⟩
theorem RelS.next {I' : Nat → Int32} (h : RelS I') {b m n : Nat} {v : Int32} (hv : v = nI n) (hn : n ≤ m) (hc : relS.all (fun q => q.1 != b || q.2 == m) = true) : RelS (upd I' b v) := by
  intro q hq
  have h1 := List.all_eq_true.mp hc q hq
  simp only [Bool.or_eq_true, bne_iff_ne, ne_eq, beq_iff_eq] at h1
  by_cases h2 : q.1 = b
  · refine ⟨n, ?_, ?_⟩
    · rw [h1.resolve_left (fun z => z h2)]; exact hn
    · unfold upd; simp [h2, hv]
  · obtain ⟨n', h3, h4⟩ := h q hq
    exact ⟨n', h3, by unfold upd; simp [h2, h4]⟩
/-- a method's weakest contract: its own walk -/
def mj_wp (cc : ByteArray) (T : mj_T) (maxL mc ms : Nat) : mj_S := fun as h k => mj_aok maxL as = true ∧ ∀ G : mj_K, mj_cl cc T k G → G 0 (mj_al as) [] h mc ms
def mj_Ff : mj_K := fun _ _ _ _ _ _ => False
theorem mj_W_F {cc : ByteArray} {T : mj_T} {k : Option Value → mj_H → Prop} {G : mj_K} (hG : mj_cl cc T k G) : ∀ (n : Nat) (pc : Nat) (L st : List Value) (h : mj_H) (bc bs : Nat), mj_W cc T k mj_Ff (fun _ => false) n pc L st h bc bs → G pc L st h bc bs
  | 0, _, _, _, _, _, _, hw => hw.elim
  | n + 1, pc, L, st, h, bc, bs, hw => hG _ (mj_W_F hG n) _ _ _ _ _ _ hw
/-- a walk without a cut opens a method's own contract -/
theorem mj_wp0 (n : Nat) {cc : ByteArray} {T : mj_T} {maxL mc ms : Nat} {as : List Value} {h : mj_H} {k : Option Value → mj_H → Prop} (h1 : mj_aok maxL as = true) (hw : mj_step cc T k (mj_W cc T k mj_Ff (fun _ => false) n) 0 (mj_al as) [] h mc ms) : mj_wp cc T maxL mc ms as h k := ⟨h1, fun G hG => hG _ (mj_W_F hG n) _ _ _ _ _ _ hw⟩
theorem RelI.eqs {I I' : Nat → Int32} (h : RelI I I') : I 1100 = I' 1200 ∧ I 101 = I' 1212 ∧ I 107 = I' 1213 ∧ I 113 = I' 1280 ∧ I 501 = I' 1223 ∧ I 901 = I' 1235 ∧ I 0 = I' 1240 ∧ I 702 = I' 1256 ∧ I 705 = I' 1299 ∧ I 1004 = I' 1263 ∧ I 1009 = I' 1264 ∧ I 1013 = I' 1267 ∧ I 802 = I' 1275 ∧ I 408 = I' 1287 ∧ I 409 = I' 1288 ∧ I 301 = I' 1296 ∧ I 303 = I' 1297 := by
  unfold RelI relI at h
  simpa only [List.forall_mem_cons, List.not_mem_nil, false_imp_iff, implies_true, and_true] using h
theorem RelA.eqs {A A' : Nat → Nat → Int32} (h : RelA A A') : A 202 = A' 1202 ∧ A 102 = A' 1204 ∧ A 103 = A' 1205 ∧ A 104 = A' 1206 ∧ A 108 = A' 1207 ∧ A 109 = A' 1208 ∧ A 110 = A' 1211 ∧ A 111 = A' 1209 ∧ A 112 = A' 1210 ∧ A 114 = A' 1276 ∧ A 115 = A' 1277 ∧ A 116 = A' 1279 ∧ A 117 = A' 1278 ∧ A 502 = A' 1214 ∧ A 503 = A' 1215 ∧ A 504 = A' 1216 ∧ A 505 = A' 1217 ∧ A 506 = A' 1218 ∧ A 507 = A' 1219 ∧ A 509 = A' 1221 ∧ A 1012 = A' 1222 ∧ A 1011 = A' 1262 ∧ A 1015 = A' 1266 ∧ A 1005 = A' 1257 ∧ A 1006 = A' 1258 ∧ A 1007 = A' 1259 ∧ A 1008 = A' 1260 ∧ A 1010 = A' 1261 ∧ A 900 = A' 1228 ∧ A 1 = A' 1232 ∧ A 2 = A' 1233 ∧ A 3 = A' 1234 ∧ A 703 = A' 1254 ∧ A 706 = A' 1298 ∧ A 803 = A' 1268 ∧ A 804 = A' 1269 ∧ A 805 = A' 1270 ∧ A 806 = A' 1271 ∧ A 807 = A' 1272 ∧ A 401 = A' 1281 ∧ A 302 = A' 1293 := by
  unfold RelA relA at h
  simpa only [List.forall_mem_cons, List.not_mem_nil, false_imp_iff, implies_true, and_true] using h
