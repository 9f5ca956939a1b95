/-! THE HEAPS: of the class (mkC) and of the reference (mkM), by numbers: an int field or an array of class c at slot k has the key 100 c + k -/
def sh_f (I : Nat → Int32) (q : Nat × Option Nat) : Value := match q.2 with
  | none => .int (I q.1)
  | some n => .ref n
def sh_c (ft : Nat → List (Nat × Option Nat)) (I : Nat → Int32) (A : Nat → Nat → Int32) (R : Nat → Nat → Option Nat) (q : Nat × Nat × Nat) : mj_C := match q.1 with
  | 0 => .inr (q.2.2, (ft q.2.2).map (sh_f I))
  | 1 => .inl (.int, q.2.1, .inl (A q.2.2))
  | 2 => .inl (.boolean, q.2.1, .inl (A q.2.2))
  | _ => .inl (.array .int, q.2.1, .inr (.inr (.inr (.inr (R q.2.2)))))
theorem sh_get {α β : Type} {t : List α} {f : α → β} {i : Nat} (q : α) (h : t[i]? = some q) : (t.map f)[i]? = some (f q) := by rw [List.getElem?_map, h]; rfl
theorem sh_len {α β : Type} {t : List α} {f : α → β} {n : Nat} (h : t.length = n) : (t.map f).length = n := by rw [List.length_map, h]
def sh_fb (t : List (Nat × Option Nat)) (k key : Nat) : Bool := decide (t[k]? = some (key, none)) && t.zipIdx.all (fun z => z.2 == k || z.1.1 != key)
theorem sh_fset {t : List (Nat × Option Nat)} {k key : Nat} (h : sh_fb t k key = true) (I : Nat → Int32) (v : Int32) : (t.map (sh_f I)).set k (.int v) = t.map (sh_f (upd I key v)) := by
  unfold sh_fb at h
  rw [Bool.and_eq_true, decide_eq_true_eq] at h
  obtain ⟨h1, h2⟩ := h
  apply List.ext_getElem?
  intro j
  rw [List.getElem?_set, List.getElem?_map, List.getElem?_map, List.length_map]
  by_cases hj : k = j
  · subst hj
    rw [if_pos rfl, if_pos (List.getElem?_eq_some_iff.mp h1).1, h1]
    simp [sh_f, upd]
  · rw [if_neg hj]
    cases hq : t[j]? with
    | none => rfl
    | some q =>
      have h3 := List.all_eq_true.mp h2 (q, j) (List.mem_zipIdx_iff_getElem?.mpr hq)
      simp only [Bool.or_eq_true, beq_iff_eq, bne_iff_ne, ne_eq] at h3
      have h4 : q.1 ≠ key := h3.resolve_left (fun z => hj z.symm)
      obtain ⟨q1, q2⟩ := q
      cases q2 with
      | none => simp [sh_f, upd, h4]
      | some n => rfl
def sh_ob (ft : Nat → List (Nat × Option Nat)) (t : List (Nat × Nat × Nat)) (i ci k key : Nat) : Bool := sh_fb (ft ci) k key && (decide (t[i]? = some (0, 0, ci)) && t.zipIdx.all (fun z => z.2 == i || z.1.1 != 0 || (ft z.1.2.2).all (fun q => q.1 != key)))
theorem sh_oset {ft : Nat → List (Nat × Option Nat)} {t : List (Nat × Nat × Nat)} {i ci k key : Nat} (h : sh_ob ft t i ci k key = true) (I : Nat → Int32) (A : Nat → Nat → Int32) (R : Nat → Nat → Option Nat) (v : Int32) : (t.map (sh_c ft I A R)).set i (.inr (ci, ((ft ci).map (sh_f I)).set k (.int v))) = t.map (sh_c ft (upd I key v) A R) := by
  unfold sh_ob at h
  rw [Bool.and_eq_true, Bool.and_eq_true, decide_eq_true_eq] at h
  obtain ⟨h0, h1, h2⟩ := h
  rw [sh_fset h0]
  apply List.ext_getElem?
  intro j
  rw [List.getElem?_set, List.getElem?_map, List.getElem?_map, List.length_map]
  by_cases hj : i = j
  · subst hj
    rw [if_pos rfl, if_pos (List.getElem?_eq_some_iff.mp h1).1, h1]
    rfl
  · rw [if_neg hj]
    cases hq : t[j]? with
    | none => rfl
    | some q =>
      have h3 := List.all_eq_true.mp h2 (q, j) (List.mem_zipIdx_iff_getElem?.mpr hq)
      simp only [Bool.or_eq_true, beq_iff_eq, bne_iff_ne, ne_eq, List.all_eq_true] at h3
      obtain ⟨q1, q2, q3⟩ := q
      simp only [Option.map_some]
      unfold sh_c
      dsimp only at h3 ⊢
      split
      · next he =>
        rcases h3 with (h4 | h4) | h4
        · exact absurd h4.symm hj
        · exact absurd rfl h4
        · congr 2
          congr 1
          apply List.map_congr_left
          intro z hz
          have h5 := h4 z hz
          obtain ⟨z1, z2⟩ := z
          cases z2 with
          | none => simp [sh_f, upd, h5]
          | some n => rfl
      · rfl
      · rfl
      · rfl
def sh_ab (t : List (Nat × Nat × Nat)) (i kd L key : Nat) : Bool := decide (t[i]? = some (kd, L, key)) && t.zipIdx.all (fun z => z.2 == i || z.1.1 == 0 || z.1.2.2 != key)
theorem sh_aset {ft : Nat → List (Nat × Option Nat)} {t : List (Nat × Nat × Nat)} {i L key : Nat} (h : sh_ab t i 1 L key = true) (I : Nat → Int32) (A : Nat → Nat → Int32) (R : Nat → Nat → Option Nat) (f : Nat → Int32) : (t.map (sh_c ft I A R)).set i (.inl (.int, L, .inl f)) = t.map (sh_c ft I (va_up A key f) R) := by
  unfold sh_ab at h
  rw [Bool.and_eq_true, decide_eq_true_eq] at h
  obtain ⟨h1, h2⟩ := h
  apply List.ext_getElem?
  intro j
  rw [List.getElem?_set, List.getElem?_map, List.getElem?_map, List.length_map]
  by_cases hj : i = j
  · subst hj
    rw [if_pos rfl, if_pos (List.getElem?_eq_some_iff.mp h1).1, h1]
    simp [sh_c, va_up]
  · rw [if_neg hj]
    cases hq : t[j]? with
    | none => rfl
    | some q =>
      have h3 := List.all_eq_true.mp h2 (q, j) (List.mem_zipIdx_iff_getElem?.mpr hq)
      simp only [Bool.or_eq_true, beq_iff_eq, bne_iff_ne, ne_eq] at h3
      obtain ⟨q1, q2, q3⟩ := q
      simp only [Option.map_some]
      unfold sh_c
      dsimp only at h3 ⊢
      split
      · rfl
      · rcases h3 with (h4 | h4) | h4
        · exact absurd h4.symm hj
        · cases h4
        · simp [va_up, h4]
      · rcases h3 with (h4 | h4) | h4
        · exact absurd h4.symm hj
        · cases h4
        · simp [va_up, h4]
      · rfl
theorem sh_bset {ft : Nat → List (Nat × Option Nat)} {t : List (Nat × Nat × Nat)} {i L key : Nat} (h : sh_ab t i 2 L key = true) (I : Nat → Int32) (A : Nat → Nat → Int32) (R : Nat → Nat → Option Nat) (f : Nat → Int32) : (t.map (sh_c ft I A R)).set i (.inl (.boolean, L, .inl f)) = t.map (sh_c ft I (va_up A key f) R) := by
  unfold sh_ab at h
  rw [Bool.and_eq_true, decide_eq_true_eq] at h
  obtain ⟨h1, h2⟩ := h
  apply List.ext_getElem?
  intro j
  rw [List.getElem?_set, List.getElem?_map, List.getElem?_map, List.length_map]
  by_cases hj : i = j
  · subst hj
    rw [if_pos rfl, if_pos (List.getElem?_eq_some_iff.mp h1).1, h1]
    simp [sh_c, va_up]
  · rw [if_neg hj]
    cases hq : t[j]? with
    | none => rfl
    | some q =>
      have h3 := List.all_eq_true.mp h2 (q, j) (List.mem_zipIdx_iff_getElem?.mpr hq)
      simp only [Bool.or_eq_true, beq_iff_eq, bne_iff_ne, ne_eq] at h3
      obtain ⟨q1, q2, q3⟩ := q
      simp only [Option.map_some]
      unfold sh_c
      dsimp only at h3 ⊢
      split
      · rfl
      · rcases h3 with (h4 | h4) | h4
        · exact absurd h4.symm hj
        · cases h4
        · simp [va_up, h4]
      · rcases h3 with (h4 | h4) | h4
        · exact absurd h4.symm hj
        · cases h4
        · simp [va_up, h4]
      · rfl
theorem sh_rset {ft : Nat → List (Nat × Option Nat)} {t : List (Nat × Nat × Nat)} {i L key : Nat} (h : sh_ab t i 3 L key = true) (I : Nat → Int32) (A : Nat → Nat → Int32) (R : Nat → Nat → Option Nat) (f : Nat → Option Nat) : (t.map (sh_c ft I A R)).set i (.inl (.array .int, L, .inr (.inr (.inr (.inr f))))) = t.map (sh_c ft I A (va_up R key f)) := by
  unfold sh_ab at h
  rw [Bool.and_eq_true, decide_eq_true_eq] at h
  obtain ⟨h1, h2⟩ := h
  apply List.ext_getElem?
  intro j
  rw [List.getElem?_set, List.getElem?_map, List.getElem?_map, List.length_map]
  by_cases hj : i = j
  · subst hj
    rw [if_pos rfl, if_pos (List.getElem?_eq_some_iff.mp h1).1, h1]
    simp [sh_c, va_up]
  · rw [if_neg hj]
    cases hq : t[j]? with
    | none => rfl
    | some q =>
      have h3 := List.all_eq_true.mp h2 (q, j) (List.mem_zipIdx_iff_getElem?.mpr hq)
      simp only [Bool.or_eq_true, beq_iff_eq, bne_iff_ne, ne_eq] at h3
      obtain ⟨q1, q2, q3⟩ := q
      simp only [Option.map_some]
      unfold sh_c
      dsimp only at h3 ⊢
      split
      · rfl
      · rfl
      · rfl
      · rcases h3 with (h4 | h4) | h4
        · exact absurd h4.symm hj
        · next hx0 hx1 hx2 => exact absurd h4 (by intro z; first | exact hx0 z | exact hx1 z | exact hx2 z)
        · simp [va_up, h4]
def ftM : Nat → List (Nat × Option Nat) := fun _ => [(1200, none), (1201, some 1), (1202, some 2), (1203, some 3), (1204, some 4), (1205, some 5), (1206, some 6), (1207, some 7), (1208, some 8), (1209, some 9), (1210, some 10), (1211, some 11), (1212, none), (1213, none), (1214, some 12), (1215, some 13), (1216, some 14), (1217, some 15), (1218, some 16), (1219, some 17), (1220, some 18), (1221, some 19), (1222, some 20), (1223, none), (1224, some 21), (1225, some 22), (1226, none), (1227, some 23), (1228, some 24), (1229, some 25), (1230, some 26), (1231, some 27), (1232, some 28), (1233, some 29), (1234, some 30), (1235, none), (1236, none), (1237, none), (1238, none), (1239, none), (1240, none), (1241, some 31), (1242, some 32), (1243, none), (1244, none), (1245, some 33), (1246, some 34), (1247, some 35), (1248, some 36), (1249, some 37), (1250, some 38), (1251, some 39), (1252, some 40), (1253, some 41), (1254, some 42), (1255, some 43), (1256, none), (1257, some 44), (1258, some 45), (1259, some 46), (1260, some 47), (1261, some 48), (1262, some 49), (1263, none), (1264, none), (1265, some 50), (1266, some 51), (1267, none), (1268, some 52), (1269, some 53), (1270, some 54), (1271, some 55), (1272, some 56), (1273, some 57), (1274, some 58), (1275, none), (1276, some 59), (1277, some 60), (1278, some 61), (1279, some 62), (1280, none), (1281, some 63), (1282, some 64), (1283, some 65), (1284, some 66), (1285, some 67), (1286, some 68), (1287, none), (1288, none), (1289, some 69), (1290, some 70), (1291, some 71), (1292, some 72), (1293, some 73), (1294, some 74), (1295, some 75), (1296, none), (1297, none), (1298, some 76), (1299, none)]
def tM : List (Nat × Nat × Nat) := [(0, 0, 12), (1, 240, 1201), (2, 601, 1202), (1, 120, 1203), (1, 24, 1204), (1, 24, 1205), (1, 24, 1206), (1, 200, 1207), (1, 200, 1208), (1, 200, 1209), (1, 200, 1210), (1, 200, 1211), (1, 20, 1214), (1, 20, 1215), (1, 20, 1216), (1, 20, 1217), (1, 20, 1218), (1, 20, 1219), (1, 20, 1220), (2, 20, 1221), (1, 100, 1222), (1, 4096, 1224), (1, 4096, 1225), (2, 20, 1227), (1, 160, 1228), (1, 420, 1229), (1, 8400, 1230), (1, 20, 1231), (1, 20, 1232), (1, 20, 1233), (1, 20, 1234), (1, 128, 1241), (1, 200, 1242), (1, 480, 1245), (1, 20, 1246), (1, 24, 1247), (1, 480, 1248), (2, 480, 1249), (1, 480, 1250), (1, 20, 1251), (1, 24, 1252), (1, 20, 1253), (1, 9, 1254), (1, 24, 1255), (1, 8, 1257), (1, 8, 1258), (1, 8, 1259), (1, 8, 1260), (1, 10, 1261), (1, 5, 1262), (1, 20, 1265), (1, 480, 1266), (1, 40, 1268), (1, 40, 1269), (1, 40, 1270), (1, 40, 1271), (1, 40, 1272), (1, 40, 1273), (1, 20, 1274), (1, 60, 1276), (1, 60, 1277), (1, 60, 1278), (1, 60, 1279), (1, 5, 1281), (1, 60, 1282), (1, 60, 1283), (1, 60, 1284), (2, 60, 1285), (1, 20, 1286), (1, 24, 1289), (1, 24, 1290), (2, 24, 1291), (1, 4, 1292), (1, 4, 1293), (1, 40, 1294), (1, 40, 1295), (1, 48, 1298)]
def mkM (I : Nat → Int32) (A : Nat → Nat → Int32) : mj_H := tM.map (sh_c ftM I A (fun _ _ => none))
def fM (I : Nat → Int32) : List Value := (ftM 12).map (sh_f I)
theorem shM_get (I : Nat → Int32) (A : Nat → Nat → Int32) {i : Nat} (q : Nat × Nat × Nat) (h : tM[i]? = some q) : (mkM I A)[i]? = some (sh_c ftM I A (fun _ _ => none) q) := sh_get (f := sh_c ftM I A (fun _ _ => none)) q h
theorem shM_f (I : Nat → Int32) {i : Nat} (q : Nat × Option Nat) (h : (ftM 12)[i]? = some q) : (fM I)[i]? = some (sh_f I q) := sh_get (f := sh_f I) q h
theorem gM_0 (I : Nat → Int32) (A : Nat → Nat → Int32) : (mkM I A)[0]? = some (.inr (12, fM I)) := shM_get I A (0, 0, 12) (by decide +kernel)
theorem gMfl (I : Nat → Int32) (A : Nat → Nat → Int32) : (fM I).length = 100 := sh_len (t := ftM 12) (f := sh_f I) (by decide +kernel)
theorem gMlen (I : Nat → Int32) (A : Nat → Nat → Int32) : (mkM I A).length = 77 := sh_len (t := tM) (f := sh_c ftM I A (fun _ _ => none)) (by decide +kernel)
theorem gM_1 (I : Nat → Int32) (A : Nat → Nat → Int32) : (mkM I A)[1]? = some (.inl (.int, 240, .inl (A 1201))) := shM_get I A (1, 240, 1201) (by decide +kernel)
theorem gM_2 (I : Nat → Int32) (A : Nat → Nat → Int32) : (mkM I A)[2]? = some (.inl (.boolean, 601, .inl (A 1202))) := shM_get I A (2, 601, 1202) (by decide +kernel)
theorem gM_3 (I : Nat → Int32) (A : Nat → Nat → Int32) : (mkM I A)[3]? = some (.inl (.int, 120, .inl (A 1203))) := shM_get I A (1, 120, 1203) (by decide +kernel)
theorem gM_4 (I : Nat → Int32) (A : Nat → Nat → Int32) : (mkM I A)[4]? = some (.inl (.int, 24, .inl (A 1204))) := shM_get I A (1, 24, 1204) (by decide +kernel)
theorem gM_5 (I : Nat → Int32) (A : Nat → Nat → Int32) : (mkM I A)[5]? = some (.inl (.int, 24, .inl (A 1205))) := shM_get I A (1, 24, 1205) (by decide +kernel)
theorem gM_6 (I : Nat → Int32) (A : Nat → Nat → Int32) : (mkM I A)[6]? = some (.inl (.int, 24, .inl (A 1206))) := shM_get I A (1, 24, 1206) (by decide +kernel)
theorem gM_7 (I : Nat → Int32) (A : Nat → Nat → Int32) : (mkM I A)[7]? = some (.inl (.int, 200, .inl (A 1207))) := shM_get I A (1, 200, 1207) (by decide +kernel)
theorem gM_8 (I : Nat → Int32) (A : Nat → Nat → Int32) : (mkM I A)[8]? = some (.inl (.int, 200, .inl (A 1208))) := shM_get I A (1, 200, 1208) (by decide +kernel)
theorem gM_9 (I : Nat → Int32) (A : Nat → Nat → Int32) : (mkM I A)[9]? = some (.inl (.int, 200, .inl (A 1209))) := shM_get I A (1, 200, 1209) (by decide +kernel)
theorem gM_10 (I : Nat → Int32) (A : Nat → Nat → Int32) : (mkM I A)[10]? = some (.inl (.int, 200, .inl (A 1210))) := shM_get I A (1, 200, 1210) (by decide +kernel)
theorem gM_11 (I : Nat → Int32) (A : Nat → Nat → Int32) : (mkM I A)[11]? = some (.inl (.int, 200, .inl (A 1211))) := shM_get I A (1, 200, 1211) (by decide +kernel)
theorem gM_12 (I : Nat → Int32) (A : Nat → Nat → Int32) : (mkM I A)[12]? = some (.inl (.int, 20, .inl (A 1214))) := shM_get I A (1, 20, 1214) (by decide +kernel)
theorem gM_13 (I : Nat → Int32) (A : Nat → Nat → Int32) : (mkM I A)[13]? = some (.inl (.int, 20, .inl (A 1215))) := shM_get I A (1, 20, 1215) (by decide +kernel)
theorem gM_14 (I : Nat → Int32) (A : Nat → Nat → Int32) : (mkM I A)[14]? = some (.inl (.int, 20, .inl (A 1216))) := shM_get I A (1, 20, 1216) (by decide +kernel)
theorem gM_15 (I : Nat → Int32) (A : Nat → Nat → Int32) : (mkM I A)[15]? = some (.inl (.int, 20, .inl (A 1217))) := shM_get I A (1, 20, 1217) (by decide +kernel)
theorem gM_16 (I : Nat → Int32) (A : Nat → Nat → Int32) : (mkM I A)[16]? = some (.inl (.int, 20, .inl (A 1218))) := shM_get I A (1, 20, 1218) (by decide +kernel)
theorem gM_17 (I : Nat → Int32) (A : Nat → Nat → Int32) : (mkM I A)[17]? = some (.inl (.int, 20, .inl (A 1219))) := shM_get I A (1, 20, 1219) (by decide +kernel)
theorem gM_18 (I : Nat → Int32) (A : Nat → Nat → Int32) : (mkM I A)[18]? = some (.inl (.int, 20, .inl (A 1220))) := shM_get I A (1, 20, 1220) (by decide +kernel)
theorem gM_19 (I : Nat → Int32) (A : Nat → Nat → Int32) : (mkM I A)[19]? = some (.inl (.boolean, 20, .inl (A 1221))) := shM_get I A (2, 20, 1221) (by decide +kernel)
theorem gM_20 (I : Nat → Int32) (A : Nat → Nat → Int32) : (mkM I A)[20]? = some (.inl (.int, 100, .inl (A 1222))) := shM_get I A (1, 100, 1222) (by decide +kernel)
theorem gM_21 (I : Nat → Int32) (A : Nat → Nat → Int32) : (mkM I A)[21]? = some (.inl (.int, 4096, .inl (A 1224))) := shM_get I A (1, 4096, 1224) (by decide +kernel)
theorem gM_22 (I : Nat → Int32) (A : Nat → Nat → Int32) : (mkM I A)[22]? = some (.inl (.int, 4096, .inl (A 1225))) := shM_get I A (1, 4096, 1225) (by decide +kernel)
theorem gM_23 (I : Nat → Int32) (A : Nat → Nat → Int32) : (mkM I A)[23]? = some (.inl (.boolean, 20, .inl (A 1227))) := shM_get I A (2, 20, 1227) (by decide +kernel)
theorem gM_24 (I : Nat → Int32) (A : Nat → Nat → Int32) : (mkM I A)[24]? = some (.inl (.int, 160, .inl (A 1228))) := shM_get I A (1, 160, 1228) (by decide +kernel)
theorem gM_25 (I : Nat → Int32) (A : Nat → Nat → Int32) : (mkM I A)[25]? = some (.inl (.int, 420, .inl (A 1229))) := shM_get I A (1, 420, 1229) (by decide +kernel)
theorem gM_26 (I : Nat → Int32) (A : Nat → Nat → Int32) : (mkM I A)[26]? = some (.inl (.int, 8400, .inl (A 1230))) := shM_get I A (1, 8400, 1230) (by decide +kernel)
theorem gM_27 (I : Nat → Int32) (A : Nat → Nat → Int32) : (mkM I A)[27]? = some (.inl (.int, 20, .inl (A 1231))) := shM_get I A (1, 20, 1231) (by decide +kernel)
theorem gM_28 (I : Nat → Int32) (A : Nat → Nat → Int32) : (mkM I A)[28]? = some (.inl (.int, 20, .inl (A 1232))) := shM_get I A (1, 20, 1232) (by decide +kernel)
theorem gM_29 (I : Nat → Int32) (A : Nat → Nat → Int32) : (mkM I A)[29]? = some (.inl (.int, 20, .inl (A 1233))) := shM_get I A (1, 20, 1233) (by decide +kernel)
theorem gM_30 (I : Nat → Int32) (A : Nat → Nat → Int32) : (mkM I A)[30]? = some (.inl (.int, 20, .inl (A 1234))) := shM_get I A (1, 20, 1234) (by decide +kernel)
theorem gM_31 (I : Nat → Int32) (A : Nat → Nat → Int32) : (mkM I A)[31]? = some (.inl (.int, 128, .inl (A 1241))) := shM_get I A (1, 128, 1241) (by decide +kernel)
theorem gM_32 (I : Nat → Int32) (A : Nat → Nat → Int32) : (mkM I A)[32]? = some (.inl (.int, 200, .inl (A 1242))) := shM_get I A (1, 200, 1242) (by decide +kernel)
theorem gM_33 (I : Nat → Int32) (A : Nat → Nat → Int32) : (mkM I A)[33]? = some (.inl (.int, 480, .inl (A 1245))) := shM_get I A (1, 480, 1245) (by decide +kernel)
theorem gM_34 (I : Nat → Int32) (A : Nat → Nat → Int32) : (mkM I A)[34]? = some (.inl (.int, 20, .inl (A 1246))) := shM_get I A (1, 20, 1246) (by decide +kernel)
theorem gM_35 (I : Nat → Int32) (A : Nat → Nat → Int32) : (mkM I A)[35]? = some (.inl (.int, 24, .inl (A 1247))) := shM_get I A (1, 24, 1247) (by decide +kernel)
theorem gM_36 (I : Nat → Int32) (A : Nat → Nat → Int32) : (mkM I A)[36]? = some (.inl (.int, 480, .inl (A 1248))) := shM_get I A (1, 480, 1248) (by decide +kernel)
theorem gM_37 (I : Nat → Int32) (A : Nat → Nat → Int32) : (mkM I A)[37]? = some (.inl (.boolean, 480, .inl (A 1249))) := shM_get I A (2, 480, 1249) (by decide +kernel)
theorem gM_38 (I : Nat → Int32) (A : Nat → Nat → Int32) : (mkM I A)[38]? = some (.inl (.int, 480, .inl (A 1250))) := shM_get I A (1, 480, 1250) (by decide +kernel)
theorem gM_39 (I : Nat → Int32) (A : Nat → Nat → Int32) : (mkM I A)[39]? = some (.inl (.int, 20, .inl (A 1251))) := shM_get I A (1, 20, 1251) (by decide +kernel)
theorem gM_40 (I : Nat → Int32) (A : Nat → Nat → Int32) : (mkM I A)[40]? = some (.inl (.int, 24, .inl (A 1252))) := shM_get I A (1, 24, 1252) (by decide +kernel)
theorem gM_41 (I : Nat → Int32) (A : Nat → Nat → Int32) : (mkM I A)[41]? = some (.inl (.int, 20, .inl (A 1253))) := shM_get I A (1, 20, 1253) (by decide +kernel)
theorem gM_42 (I : Nat → Int32) (A : Nat → Nat → Int32) : (mkM I A)[42]? = some (.inl (.int, 9, .inl (A 1254))) := shM_get I A (1, 9, 1254) (by decide +kernel)
theorem gM_43 (I : Nat → Int32) (A : Nat → Nat → Int32) : (mkM I A)[43]? = some (.inl (.int, 24, .inl (A 1255))) := shM_get I A (1, 24, 1255) (by decide +kernel)
theorem gM_44 (I : Nat → Int32) (A : Nat → Nat → Int32) : (mkM I A)[44]? = some (.inl (.int, 8, .inl (A 1257))) := shM_get I A (1, 8, 1257) (by decide +kernel)
theorem gM_45 (I : Nat → Int32) (A : Nat → Nat → Int32) : (mkM I A)[45]? = some (.inl (.int, 8, .inl (A 1258))) := shM_get I A (1, 8, 1258) (by decide +kernel)
theorem gM_46 (I : Nat → Int32) (A : Nat → Nat → Int32) : (mkM I A)[46]? = some (.inl (.int, 8, .inl (A 1259))) := shM_get I A (1, 8, 1259) (by decide +kernel)
theorem gM_47 (I : Nat → Int32) (A : Nat → Nat → Int32) : (mkM I A)[47]? = some (.inl (.int, 8, .inl (A 1260))) := shM_get I A (1, 8, 1260) (by decide +kernel)
theorem gM_48 (I : Nat → Int32) (A : Nat → Nat → Int32) : (mkM I A)[48]? = some (.inl (.int, 10, .inl (A 1261))) := shM_get I A (1, 10, 1261) (by decide +kernel)
theorem gM_49 (I : Nat → Int32) (A : Nat → Nat → Int32) : (mkM I A)[49]? = some (.inl (.int, 5, .inl (A 1262))) := shM_get I A (1, 5, 1262) (by decide +kernel)
theorem gM_50 (I : Nat → Int32) (A : Nat → Nat → Int32) : (mkM I A)[50]? = some (.inl (.int, 20, .inl (A 1265))) := shM_get I A (1, 20, 1265) (by decide +kernel)
theorem gM_51 (I : Nat → Int32) (A : Nat → Nat → Int32) : (mkM I A)[51]? = some (.inl (.int, 480, .inl (A 1266))) := shM_get I A (1, 480, 1266) (by decide +kernel)
theorem gM_52 (I : Nat → Int32) (A : Nat → Nat → Int32) : (mkM I A)[52]? = some (.inl (.int, 40, .inl (A 1268))) := shM_get I A (1, 40, 1268) (by decide +kernel)
theorem gM_53 (I : Nat → Int32) (A : Nat → Nat → Int32) : (mkM I A)[53]? = some (.inl (.int, 40, .inl (A 1269))) := shM_get I A (1, 40, 1269) (by decide +kernel)
theorem gM_54 (I : Nat → Int32) (A : Nat → Nat → Int32) : (mkM I A)[54]? = some (.inl (.int, 40, .inl (A 1270))) := shM_get I A (1, 40, 1270) (by decide +kernel)
theorem gM_55 (I : Nat → Int32) (A : Nat → Nat → Int32) : (mkM I A)[55]? = some (.inl (.int, 40, .inl (A 1271))) := shM_get I A (1, 40, 1271) (by decide +kernel)
theorem gM_56 (I : Nat → Int32) (A : Nat → Nat → Int32) : (mkM I A)[56]? = some (.inl (.int, 40, .inl (A 1272))) := shM_get I A (1, 40, 1272) (by decide +kernel)
theorem gM_57 (I : Nat → Int32) (A : Nat → Nat → Int32) : (mkM I A)[57]? = some (.inl (.int, 40, .inl (A 1273))) := shM_get I A (1, 40, 1273) (by decide +kernel)
theorem gM_58 (I : Nat → Int32) (A : Nat → Nat → Int32) : (mkM I A)[58]? = some (.inl (.int, 20, .inl (A 1274))) := shM_get I A (1, 20, 1274) (by decide +kernel)
theorem gM_59 (I : Nat → Int32) (A : Nat → Nat → Int32) : (mkM I A)[59]? = some (.inl (.int, 60, .inl (A 1276))) := shM_get I A (1, 60, 1276) (by decide +kernel)
theorem gM_60 (I : Nat → Int32) (A : Nat → Nat → Int32) : (mkM I A)[60]? = some (.inl (.int, 60, .inl (A 1277))) := shM_get I A (1, 60, 1277) (by decide +kernel)
theorem gM_61 (I : Nat → Int32) (A : Nat → Nat → Int32) : (mkM I A)[61]? = some (.inl (.int, 60, .inl (A 1278))) := shM_get I A (1, 60, 1278) (by decide +kernel)
theorem gM_62 (I : Nat → Int32) (A : Nat → Nat → Int32) : (mkM I A)[62]? = some (.inl (.int, 60, .inl (A 1279))) := shM_get I A (1, 60, 1279) (by decide +kernel)
theorem gM_63 (I : Nat → Int32) (A : Nat → Nat → Int32) : (mkM I A)[63]? = some (.inl (.int, 5, .inl (A 1281))) := shM_get I A (1, 5, 1281) (by decide +kernel)
theorem gM_64 (I : Nat → Int32) (A : Nat → Nat → Int32) : (mkM I A)[64]? = some (.inl (.int, 60, .inl (A 1282))) := shM_get I A (1, 60, 1282) (by decide +kernel)
theorem gM_65 (I : Nat → Int32) (A : Nat → Nat → Int32) : (mkM I A)[65]? = some (.inl (.int, 60, .inl (A 1283))) := shM_get I A (1, 60, 1283) (by decide +kernel)
theorem gM_66 (I : Nat → Int32) (A : Nat → Nat → Int32) : (mkM I A)[66]? = some (.inl (.int, 60, .inl (A 1284))) := shM_get I A (1, 60, 1284) (by decide +kernel)
theorem gM_67 (I : Nat → Int32) (A : Nat → Nat → Int32) : (mkM I A)[67]? = some (.inl (.boolean, 60, .inl (A 1285))) := shM_get I A (2, 60, 1285) (by decide +kernel)
theorem gM_68 (I : Nat → Int32) (A : Nat → Nat → Int32) : (mkM I A)[68]? = some (.inl (.int, 20, .inl (A 1286))) := shM_get I A (1, 20, 1286) (by decide +kernel)
theorem gM_69 (I : Nat → Int32) (A : Nat → Nat → Int32) : (mkM I A)[69]? = some (.inl (.int, 24, .inl (A 1289))) := shM_get I A (1, 24, 1289) (by decide +kernel)
theorem gM_70 (I : Nat → Int32) (A : Nat → Nat → Int32) : (mkM I A)[70]? = some (.inl (.int, 24, .inl (A 1290))) := shM_get I A (1, 24, 1290) (by decide +kernel)
theorem gM_71 (I : Nat → Int32) (A : Nat → Nat → Int32) : (mkM I A)[71]? = some (.inl (.boolean, 24, .inl (A 1291))) := shM_get I A (2, 24, 1291) (by decide +kernel)
theorem gM_72 (I : Nat → Int32) (A : Nat → Nat → Int32) : (mkM I A)[72]? = some (.inl (.int, 4, .inl (A 1292))) := shM_get I A (1, 4, 1292) (by decide +kernel)
theorem gM_73 (I : Nat → Int32) (A : Nat → Nat → Int32) : (mkM I A)[73]? = some (.inl (.int, 4, .inl (A 1293))) := shM_get I A (1, 4, 1293) (by decide +kernel)
theorem gM_74 (I : Nat → Int32) (A : Nat → Nat → Int32) : (mkM I A)[74]? = some (.inl (.int, 40, .inl (A 1294))) := shM_get I A (1, 40, 1294) (by decide +kernel)
theorem gM_75 (I : Nat → Int32) (A : Nat → Nat → Int32) : (mkM I A)[75]? = some (.inl (.int, 40, .inl (A 1295))) := shM_get I A (1, 40, 1295) (by decide +kernel)
theorem gM_76 (I : Nat → Int32) (A : Nat → Nat → Int32) : (mkM I A)[76]? = some (.inl (.int, 48, .inl (A 1298))) := shM_get I A (1, 48, 1298) (by decide +kernel)
theorem gMf_0 (I : Nat → Int32) : (fM I)[0]? = some (.int (I 1200)) := shM_f I (1200, none) (by decide +kernel)
theorem gMf_1 (I : Nat → Int32) : (fM I)[1]? = some (.ref 1) := shM_f I (1201, some 1) (by decide +kernel)
theorem gMf_2 (I : Nat → Int32) : (fM I)[2]? = some (.ref 2) := shM_f I (1202, some 2) (by decide +kernel)
theorem gMf_3 (I : Nat → Int32) : (fM I)[3]? = some (.ref 3) := shM_f I (1203, some 3) (by decide +kernel)
theorem gMf_4 (I : Nat → Int32) : (fM I)[4]? = some (.ref 4) := shM_f I (1204, some 4) (by decide +kernel)
theorem gMf_5 (I : Nat → Int32) : (fM I)[5]? = some (.ref 5) := shM_f I (1205, some 5) (by decide +kernel)
theorem gMf_6 (I : Nat → Int32) : (fM I)[6]? = some (.ref 6) := shM_f I (1206, some 6) (by decide +kernel)
theorem gMf_7 (I : Nat → Int32) : (fM I)[7]? = some (.ref 7) := shM_f I (1207, some 7) (by decide +kernel)
theorem gMf_8 (I : Nat → Int32) : (fM I)[8]? = some (.ref 8) := shM_f I (1208, some 8) (by decide +kernel)
theorem gMf_9 (I : Nat → Int32) : (fM I)[9]? = some (.ref 9) := shM_f I (1209, some 9) (by decide +kernel)
theorem gMf_10 (I : Nat → Int32) : (fM I)[10]? = some (.ref 10) := shM_f I (1210, some 10) (by decide +kernel)
theorem gMf_11 (I : Nat → Int32) : (fM I)[11]? = some (.ref 11) := shM_f I (1211, some 11) (by decide +kernel)
theorem gMf_12 (I : Nat → Int32) : (fM I)[12]? = some (.int (I 1212)) := shM_f I (1212, none) (by decide +kernel)
theorem gMf_13 (I : Nat → Int32) : (fM I)[13]? = some (.int (I 1213)) := shM_f I (1213, none) (by decide +kernel)
theorem gMf_14 (I : Nat → Int32) : (fM I)[14]? = some (.ref 12) := shM_f I (1214, some 12) (by decide +kernel)
theorem gMf_15 (I : Nat → Int32) : (fM I)[15]? = some (.ref 13) := shM_f I (1215, some 13) (by decide +kernel)
theorem gMf_16 (I : Nat → Int32) : (fM I)[16]? = some (.ref 14) := shM_f I (1216, some 14) (by decide +kernel)
theorem gMf_17 (I : Nat → Int32) : (fM I)[17]? = some (.ref 15) := shM_f I (1217, some 15) (by decide +kernel)
theorem gMf_18 (I : Nat → Int32) : (fM I)[18]? = some (.ref 16) := shM_f I (1218, some 16) (by decide +kernel)
theorem gMf_19 (I : Nat → Int32) : (fM I)[19]? = some (.ref 17) := shM_f I (1219, some 17) (by decide +kernel)
theorem gMf_20 (I : Nat → Int32) : (fM I)[20]? = some (.ref 18) := shM_f I (1220, some 18) (by decide +kernel)
theorem gMf_21 (I : Nat → Int32) : (fM I)[21]? = some (.ref 19) := shM_f I (1221, some 19) (by decide +kernel)
theorem gMf_22 (I : Nat → Int32) : (fM I)[22]? = some (.ref 20) := shM_f I (1222, some 20) (by decide +kernel)
theorem gMf_23 (I : Nat → Int32) : (fM I)[23]? = some (.int (I 1223)) := shM_f I (1223, none) (by decide +kernel)
theorem gMf_24 (I : Nat → Int32) : (fM I)[24]? = some (.ref 21) := shM_f I (1224, some 21) (by decide +kernel)
theorem gMf_25 (I : Nat → Int32) : (fM I)[25]? = some (.ref 22) := shM_f I (1225, some 22) (by decide +kernel)
theorem gMf_26 (I : Nat → Int32) : (fM I)[26]? = some (.int (I 1226)) := shM_f I (1226, none) (by decide +kernel)
theorem gMf_27 (I : Nat → Int32) : (fM I)[27]? = some (.ref 23) := shM_f I (1227, some 23) (by decide +kernel)
theorem gMf_28 (I : Nat → Int32) : (fM I)[28]? = some (.ref 24) := shM_f I (1228, some 24) (by decide +kernel)
theorem gMf_29 (I : Nat → Int32) : (fM I)[29]? = some (.ref 25) := shM_f I (1229, some 25) (by decide +kernel)
theorem gMf_30 (I : Nat → Int32) : (fM I)[30]? = some (.ref 26) := shM_f I (1230, some 26) (by decide +kernel)
theorem gMf_31 (I : Nat → Int32) : (fM I)[31]? = some (.ref 27) := shM_f I (1231, some 27) (by decide +kernel)
theorem gMf_32 (I : Nat → Int32) : (fM I)[32]? = some (.ref 28) := shM_f I (1232, some 28) (by decide +kernel)
theorem gMf_33 (I : Nat → Int32) : (fM I)[33]? = some (.ref 29) := shM_f I (1233, some 29) (by decide +kernel)
theorem gMf_34 (I : Nat → Int32) : (fM I)[34]? = some (.ref 30) := shM_f I (1234, some 30) (by decide +kernel)
theorem gMf_35 (I : Nat → Int32) : (fM I)[35]? = some (.int (I 1235)) := shM_f I (1235, none) (by decide +kernel)
theorem gMf_36 (I : Nat → Int32) : (fM I)[36]? = some (.int (I 1236)) := shM_f I (1236, none) (by decide +kernel)
theorem gMf_37 (I : Nat → Int32) : (fM I)[37]? = some (.int (I 1237)) := shM_f I (1237, none) (by decide +kernel)
theorem gMf_38 (I : Nat → Int32) : (fM I)[38]? = some (.int (I 1238)) := shM_f I (1238, none) (by decide +kernel)
theorem gMf_39 (I : Nat → Int32) : (fM I)[39]? = some (.int (I 1239)) := shM_f I (1239, none) (by decide +kernel)
theorem gMf_40 (I : Nat → Int32) : (fM I)[40]? = some (.int (I 1240)) := shM_f I (1240, none) (by decide +kernel)
theorem gMf_41 (I : Nat → Int32) : (fM I)[41]? = some (.ref 31) := shM_f I (1241, some 31) (by decide +kernel)
theorem gMf_42 (I : Nat → Int32) : (fM I)[42]? = some (.ref 32) := shM_f I (1242, some 32) (by decide +kernel)
theorem gMf_43 (I : Nat → Int32) : (fM I)[43]? = some (.int (I 1243)) := shM_f I (1243, none) (by decide +kernel)
theorem gMf_44 (I : Nat → Int32) : (fM I)[44]? = some (.int (I 1244)) := shM_f I (1244, none) (by decide +kernel)
theorem gMf_45 (I : Nat → Int32) : (fM I)[45]? = some (.ref 33) := shM_f I (1245, some 33) (by decide +kernel)
theorem gMf_46 (I : Nat → Int32) : (fM I)[46]? = some (.ref 34) := shM_f I (1246, some 34) (by decide +kernel)
theorem gMf_47 (I : Nat → Int32) : (fM I)[47]? = some (.ref 35) := shM_f I (1247, some 35) (by decide +kernel)
theorem gMf_48 (I : Nat → Int32) : (fM I)[48]? = some (.ref 36) := shM_f I (1248, some 36) (by decide +kernel)
theorem gMf_49 (I : Nat → Int32) : (fM I)[49]? = some (.ref 37) := shM_f I (1249, some 37) (by decide +kernel)
theorem gMf_50 (I : Nat → Int32) : (fM I)[50]? = some (.ref 38) := shM_f I (1250, some 38) (by decide +kernel)
theorem gMf_51 (I : Nat → Int32) : (fM I)[51]? = some (.ref 39) := shM_f I (1251, some 39) (by decide +kernel)
theorem gMf_52 (I : Nat → Int32) : (fM I)[52]? = some (.ref 40) := shM_f I (1252, some 40) (by decide +kernel)
theorem gMf_53 (I : Nat → Int32) : (fM I)[53]? = some (.ref 41) := shM_f I (1253, some 41) (by decide +kernel)
theorem gMf_54 (I : Nat → Int32) : (fM I)[54]? = some (.ref 42) := shM_f I (1254, some 42) (by decide +kernel)
theorem gMf_55 (I : Nat → Int32) : (fM I)[55]? = some (.ref 43) := shM_f I (1255, some 43) (by decide +kernel)
theorem gMf_56 (I : Nat → Int32) : (fM I)[56]? = some (.int (I 1256)) := shM_f I (1256, none) (by decide +kernel)
theorem gMf_57 (I : Nat → Int32) : (fM I)[57]? = some (.ref 44) := shM_f I (1257, some 44) (by decide +kernel)
theorem gMf_58 (I : Nat → Int32) : (fM I)[58]? = some (.ref 45) := shM_f I (1258, some 45) (by decide +kernel)
theorem gMf_59 (I : Nat → Int32) : (fM I)[59]? = some (.ref 46) := shM_f I (1259, some 46) (by decide +kernel)
theorem gMf_60 (I : Nat → Int32) : (fM I)[60]? = some (.ref 47) := shM_f I (1260, some 47) (by decide +kernel)
theorem gMf_61 (I : Nat → Int32) : (fM I)[61]? = some (.ref 48) := shM_f I (1261, some 48) (by decide +kernel)
theorem gMf_62 (I : Nat → Int32) : (fM I)[62]? = some (.ref 49) := shM_f I (1262, some 49) (by decide +kernel)
theorem gMf_63 (I : Nat → Int32) : (fM I)[63]? = some (.int (I 1263)) := shM_f I (1263, none) (by decide +kernel)
theorem gMf_64 (I : Nat → Int32) : (fM I)[64]? = some (.int (I 1264)) := shM_f I (1264, none) (by decide +kernel)
theorem gMf_65 (I : Nat → Int32) : (fM I)[65]? = some (.ref 50) := shM_f I (1265, some 50) (by decide +kernel)
theorem gMf_66 (I : Nat → Int32) : (fM I)[66]? = some (.ref 51) := shM_f I (1266, some 51) (by decide +kernel)
theorem gMf_67 (I : Nat → Int32) : (fM I)[67]? = some (.int (I 1267)) := shM_f I (1267, none) (by decide +kernel)
theorem gMf_68 (I : Nat → Int32) : (fM I)[68]? = some (.ref 52) := shM_f I (1268, some 52) (by decide +kernel)
theorem gMf_69 (I : Nat → Int32) : (fM I)[69]? = some (.ref 53) := shM_f I (1269, some 53) (by decide +kernel)
theorem gMf_70 (I : Nat → Int32) : (fM I)[70]? = some (.ref 54) := shM_f I (1270, some 54) (by decide +kernel)
theorem gMf_71 (I : Nat → Int32) : (fM I)[71]? = some (.ref 55) := shM_f I (1271, some 55) (by decide +kernel)
theorem gMf_72 (I : Nat → Int32) : (fM I)[72]? = some (.ref 56) := shM_f I (1272, some 56) (by decide +kernel)
theorem gMf_73 (I : Nat → Int32) : (fM I)[73]? = some (.ref 57) := shM_f I (1273, some 57) (by decide +kernel)
theorem gMf_74 (I : Nat → Int32) : (fM I)[74]? = some (.ref 58) := shM_f I (1274, some 58) (by decide +kernel)
theorem gMf_75 (I : Nat → Int32) : (fM I)[75]? = some (.int (I 1275)) := shM_f I (1275, none) (by decide +kernel)
theorem gMf_76 (I : Nat → Int32) : (fM I)[76]? = some (.ref 59) := shM_f I (1276, some 59) (by decide +kernel)
theorem gMf_77 (I : Nat → Int32) : (fM I)[77]? = some (.ref 60) := shM_f I (1277, some 60) (by decide +kernel)
theorem gMf_78 (I : Nat → Int32) : (fM I)[78]? = some (.ref 61) := shM_f I (1278, some 61) (by decide +kernel)
theorem gMf_79 (I : Nat → Int32) : (fM I)[79]? = some (.ref 62) := shM_f I (1279, some 62) (by decide +kernel)
theorem gMf_80 (I : Nat → Int32) : (fM I)[80]? = some (.int (I 1280)) := shM_f I (1280, none) (by decide +kernel)
theorem gMf_81 (I : Nat → Int32) : (fM I)[81]? = some (.ref 63) := shM_f I (1281, some 63) (by decide +kernel)
theorem gMf_82 (I : Nat → Int32) : (fM I)[82]? = some (.ref 64) := shM_f I (1282, some 64) (by decide +kernel)
theorem gMf_83 (I : Nat → Int32) : (fM I)[83]? = some (.ref 65) := shM_f I (1283, some 65) (by decide +kernel)
theorem gMf_84 (I : Nat → Int32) : (fM I)[84]? = some (.ref 66) := shM_f I (1284, some 66) (by decide +kernel)
theorem gMf_85 (I : Nat → Int32) : (fM I)[85]? = some (.ref 67) := shM_f I (1285, some 67) (by decide +kernel)
theorem gMf_86 (I : Nat → Int32) : (fM I)[86]? = some (.ref 68) := shM_f I (1286, some 68) (by decide +kernel)
theorem gMf_87 (I : Nat → Int32) : (fM I)[87]? = some (.int (I 1287)) := shM_f I (1287, none) (by decide +kernel)
theorem gMf_88 (I : Nat → Int32) : (fM I)[88]? = some (.int (I 1288)) := shM_f I (1288, none) (by decide +kernel)
theorem gMf_89 (I : Nat → Int32) : (fM I)[89]? = some (.ref 69) := shM_f I (1289, some 69) (by decide +kernel)
theorem gMf_90 (I : Nat → Int32) : (fM I)[90]? = some (.ref 70) := shM_f I (1290, some 70) (by decide +kernel)
theorem gMf_91 (I : Nat → Int32) : (fM I)[91]? = some (.ref 71) := shM_f I (1291, some 71) (by decide +kernel)
theorem gMf_92 (I : Nat → Int32) : (fM I)[92]? = some (.ref 72) := shM_f I (1292, some 72) (by decide +kernel)
theorem gMf_93 (I : Nat → Int32) : (fM I)[93]? = some (.ref 73) := shM_f I (1293, some 73) (by decide +kernel)
theorem gMf_94 (I : Nat → Int32) : (fM I)[94]? = some (.ref 74) := shM_f I (1294, some 74) (by decide +kernel)
theorem gMf_95 (I : Nat → Int32) : (fM I)[95]? = some (.ref 75) := shM_f I (1295, some 75) (by decide +kernel)
theorem gMf_96 (I : Nat → Int32) : (fM I)[96]? = some (.int (I 1296)) := shM_f I (1296, none) (by decide +kernel)
theorem gMf_97 (I : Nat → Int32) : (fM I)[97]? = some (.int (I 1297)) := shM_f I (1297, none) (by decide +kernel)
theorem gMf_98 (I : Nat → Int32) : (fM I)[98]? = some (.ref 76) := shM_f I (1298, some 76) (by decide +kernel)
theorem gMf_99 (I : Nat → Int32) : (fM I)[99]? = some (.int (I 1299)) := shM_f I (1299, none) (by decide +kernel)
theorem sMf_0 (I : Nat → Int32) (A : Nat → Nat → Int32) (v : Int32) : (mkM I A).set 0 (.inr (12, (fM I).set 0 (.int v))) = mkM (upd I 1200 v) A := sh_oset (ft := ftM) (t := tM) (i := 0) (ci := 12) (k := 0) (key := 1200) (by decide +kernel) I A (fun _ _ => none) v
theorem sMf_12 (I : Nat → Int32) (A : Nat → Nat → Int32) (v : Int32) : (mkM I A).set 0 (.inr (12, (fM I).set 12 (.int v))) = mkM (upd I 1212 v) A := sh_oset (ft := ftM) (t := tM) (i := 0) (ci := 12) (k := 12) (key := 1212) (by decide +kernel) I A (fun _ _ => none) v
theorem sMf_13 (I : Nat → Int32) (A : Nat → Nat → Int32) (v : Int32) : (mkM I A).set 0 (.inr (12, (fM I).set 13 (.int v))) = mkM (upd I 1213 v) A := sh_oset (ft := ftM) (t := tM) (i := 0) (ci := 12) (k := 13) (key := 1213) (by decide +kernel) I A (fun _ _ => none) v
theorem sMf_23 (I : Nat → Int32) (A : Nat → Nat → Int32) (v : Int32) : (mkM I A).set 0 (.inr (12, (fM I).set 23 (.int v))) = mkM (upd I 1223 v) A := sh_oset (ft := ftM) (t := tM) (i := 0) (ci := 12) (k := 23) (key := 1223) (by decide +kernel) I A (fun _ _ => none) v
theorem sMf_26 (I : Nat → Int32) (A : Nat → Nat → Int32) (v : Int32) : (mkM I A).set 0 (.inr (12, (fM I).set 26 (.int v))) = mkM (upd I 1226 v) A := sh_oset (ft := ftM) (t := tM) (i := 0) (ci := 12) (k := 26) (key := 1226) (by decide +kernel) I A (fun _ _ => none) v
theorem sMf_35 (I : Nat → Int32) (A : Nat → Nat → Int32) (v : Int32) : (mkM I A).set 0 (.inr (12, (fM I).set 35 (.int v))) = mkM (upd I 1235 v) A := sh_oset (ft := ftM) (t := tM) (i := 0) (ci := 12) (k := 35) (key := 1235) (by decide +kernel) I A (fun _ _ => none) v
theorem sMf_36 (I : Nat → Int32) (A : Nat → Nat → Int32) (v : Int32) : (mkM I A).set 0 (.inr (12, (fM I).set 36 (.int v))) = mkM (upd I 1236 v) A := sh_oset (ft := ftM) (t := tM) (i := 0) (ci := 12) (k := 36) (key := 1236) (by decide +kernel) I A (fun _ _ => none) v
theorem sMf_37 (I : Nat → Int32) (A : Nat → Nat → Int32) (v : Int32) : (mkM I A).set 0 (.inr (12, (fM I).set 37 (.int v))) = mkM (upd I 1237 v) A := sh_oset (ft := ftM) (t := tM) (i := 0) (ci := 12) (k := 37) (key := 1237) (by decide +kernel) I A (fun _ _ => none) v
theorem sMf_38 (I : Nat → Int32) (A : Nat → Nat → Int32) (v : Int32) : (mkM I A).set 0 (.inr (12, (fM I).set 38 (.int v))) = mkM (upd I 1238 v) A := sh_oset (ft := ftM) (t := tM) (i := 0) (ci := 12) (k := 38) (key := 1238) (by decide +kernel) I A (fun _ _ => none) v
theorem sMf_39 (I : Nat → Int32) (A : Nat → Nat → Int32) (v : Int32) : (mkM I A).set 0 (.inr (12, (fM I).set 39 (.int v))) = mkM (upd I 1239 v) A := sh_oset (ft := ftM) (t := tM) (i := 0) (ci := 12) (k := 39) (key := 1239) (by decide +kernel) I A (fun _ _ => none) v
theorem sMf_40 (I : Nat → Int32) (A : Nat → Nat → Int32) (v : Int32) : (mkM I A).set 0 (.inr (12, (fM I).set 40 (.int v))) = mkM (upd I 1240 v) A := sh_oset (ft := ftM) (t := tM) (i := 0) (ci := 12) (k := 40) (key := 1240) (by decide +kernel) I A (fun _ _ => none) v
theorem sMf_43 (I : Nat → Int32) (A : Nat → Nat → Int32) (v : Int32) : (mkM I A).set 0 (.inr (12, (fM I).set 43 (.int v))) = mkM (upd I 1243 v) A := sh_oset (ft := ftM) (t := tM) (i := 0) (ci := 12) (k := 43) (key := 1243) (by decide +kernel) I A (fun _ _ => none) v
theorem sMf_44 (I : Nat → Int32) (A : Nat → Nat → Int32) (v : Int32) : (mkM I A).set 0 (.inr (12, (fM I).set 44 (.int v))) = mkM (upd I 1244 v) A := sh_oset (ft := ftM) (t := tM) (i := 0) (ci := 12) (k := 44) (key := 1244) (by decide +kernel) I A (fun _ _ => none) v
theorem sMf_56 (I : Nat → Int32) (A : Nat → Nat → Int32) (v : Int32) : (mkM I A).set 0 (.inr (12, (fM I).set 56 (.int v))) = mkM (upd I 1256 v) A := sh_oset (ft := ftM) (t := tM) (i := 0) (ci := 12) (k := 56) (key := 1256) (by decide +kernel) I A (fun _ _ => none) v
theorem sMf_63 (I : Nat → Int32) (A : Nat → Nat → Int32) (v : Int32) : (mkM I A).set 0 (.inr (12, (fM I).set 63 (.int v))) = mkM (upd I 1263 v) A := sh_oset (ft := ftM) (t := tM) (i := 0) (ci := 12) (k := 63) (key := 1263) (by decide +kernel) I A (fun _ _ => none) v
theorem sMf_64 (I : Nat → Int32) (A : Nat → Nat → Int32) (v : Int32) : (mkM I A).set 0 (.inr (12, (fM I).set 64 (.int v))) = mkM (upd I 1264 v) A := sh_oset (ft := ftM) (t := tM) (i := 0) (ci := 12) (k := 64) (key := 1264) (by decide +kernel) I A (fun _ _ => none) v
theorem sMf_67 (I : Nat → Int32) (A : Nat → Nat → Int32) (v : Int32) : (mkM I A).set 0 (.inr (12, (fM I).set 67 (.int v))) = mkM (upd I 1267 v) A := sh_oset (ft := ftM) (t := tM) (i := 0) (ci := 12) (k := 67) (key := 1267) (by decide +kernel) I A (fun _ _ => none) v
theorem sMf_75 (I : Nat → Int32) (A : Nat → Nat → Int32) (v : Int32) : (mkM I A).set 0 (.inr (12, (fM I).set 75 (.int v))) = mkM (upd I 1275 v) A := sh_oset (ft := ftM) (t := tM) (i := 0) (ci := 12) (k := 75) (key := 1275) (by decide +kernel) I A (fun _ _ => none) v
theorem sMf_80 (I : Nat → Int32) (A : Nat → Nat → Int32) (v : Int32) : (mkM I A).set 0 (.inr (12, (fM I).set 80 (.int v))) = mkM (upd I 1280 v) A := sh_oset (ft := ftM) (t := tM) (i := 0) (ci := 12) (k := 80) (key := 1280) (by decide +kernel) I A (fun _ _ => none) v
theorem sMf_87 (I : Nat → Int32) (A : Nat → Nat → Int32) (v : Int32) : (mkM I A).set 0 (.inr (12, (fM I).set 87 (.int v))) = mkM (upd I 1287 v) A := sh_oset (ft := ftM) (t := tM) (i := 0) (ci := 12) (k := 87) (key := 1287) (by decide +kernel) I A (fun _ _ => none) v
theorem sMf_88 (I : Nat → Int32) (A : Nat → Nat → Int32) (v : Int32) : (mkM I A).set 0 (.inr (12, (fM I).set 88 (.int v))) = mkM (upd I 1288 v) A := sh_oset (ft := ftM) (t := tM) (i := 0) (ci := 12) (k := 88) (key := 1288) (by decide +kernel) I A (fun _ _ => none) v
theorem sMf_96 (I : Nat → Int32) (A : Nat → Nat → Int32) (v : Int32) : (mkM I A).set 0 (.inr (12, (fM I).set 96 (.int v))) = mkM (upd I 1296 v) A := sh_oset (ft := ftM) (t := tM) (i := 0) (ci := 12) (k := 96) (key := 1296) (by decide +kernel) I A (fun _ _ => none) v
theorem sMf_97 (I : Nat → Int32) (A : Nat → Nat → Int32) (v : Int32) : (mkM I A).set 0 (.inr (12, (fM I).set 97 (.int v))) = mkM (upd I 1297 v) A := sh_oset (ft := ftM) (t := tM) (i := 0) (ci := 12) (k := 97) (key := 1297) (by decide +kernel) I A (fun _ _ => none) v
theorem sMf_99 (I : Nat → Int32) (A : Nat → Nat → Int32) (v : Int32) : (mkM I A).set 0 (.inr (12, (fM I).set 99 (.int v))) = mkM (upd I 1299 v) A := sh_oset (ft := ftM) (t := tM) (i := 0) (ci := 12) (k := 99) (key := 1299) (by decide +kernel) I A (fun _ _ => none) v
theorem sMa_1 (I : Nat → Int32) (A : Nat → Nat → Int32) (f : Nat → Int32) : (mkM I A).set 1 (.inl (.int, 240, .inl f)) = mkM I (va_up A 1201 f) := sh_aset (ft := ftM) (t := tM) (i := 1) (L := 240) (key := 1201) (by decide +kernel) I A (fun _ _ => none) f
theorem sMa_2 (I : Nat → Int32) (A : Nat → Nat → Int32) (f : Nat → Int32) : (mkM I A).set 2 (.inl (.boolean, 601, .inl f)) = mkM I (va_up A 1202 f) := sh_bset (ft := ftM) (t := tM) (i := 2) (L := 601) (key := 1202) (by decide +kernel) I A (fun _ _ => none) f
theorem sMa_3 (I : Nat → Int32) (A : Nat → Nat → Int32) (f : Nat → Int32) : (mkM I A).set 3 (.inl (.int, 120, .inl f)) = mkM I (va_up A 1203 f) := sh_aset (ft := ftM) (t := tM) (i := 3) (L := 120) (key := 1203) (by decide +kernel) I A (fun _ _ => none) f
theorem sMa_4 (I : Nat → Int32) (A : Nat → Nat → Int32) (f : Nat → Int32) : (mkM I A).set 4 (.inl (.int, 24, .inl f)) = mkM I (va_up A 1204 f) := sh_aset (ft := ftM) (t := tM) (i := 4) (L := 24) (key := 1204) (by decide +kernel) I A (fun _ _ => none) f
theorem sMa_5 (I : Nat → Int32) (A : Nat → Nat → Int32) (f : Nat → Int32) : (mkM I A).set 5 (.inl (.int, 24, .inl f)) = mkM I (va_up A 1205 f) := sh_aset (ft := ftM) (t := tM) (i := 5) (L := 24) (key := 1205) (by decide +kernel) I A (fun _ _ => none) f
theorem sMa_6 (I : Nat → Int32) (A : Nat → Nat → Int32) (f : Nat → Int32) : (mkM I A).set 6 (.inl (.int, 24, .inl f)) = mkM I (va_up A 1206 f) := sh_aset (ft := ftM) (t := tM) (i := 6) (L := 24) (key := 1206) (by decide +kernel) I A (fun _ _ => none) f
theorem sMa_7 (I : Nat → Int32) (A : Nat → Nat → Int32) (f : Nat → Int32) : (mkM I A).set 7 (.inl (.int, 200, .inl f)) = mkM I (va_up A 1207 f) := sh_aset (ft := ftM) (t := tM) (i := 7) (L := 200) (key := 1207) (by decide +kernel) I A (fun _ _ => none) f
theorem sMa_8 (I : Nat → Int32) (A : Nat → Nat → Int32) (f : Nat → Int32) : (mkM I A).set 8 (.inl (.int, 200, .inl f)) = mkM I (va_up A 1208 f) := sh_aset (ft := ftM) (t := tM) (i := 8) (L := 200) (key := 1208) (by decide +kernel) I A (fun _ _ => none) f
theorem sMa_9 (I : Nat → Int32) (A : Nat → Nat → Int32) (f : Nat → Int32) : (mkM I A).set 9 (.inl (.int, 200, .inl f)) = mkM I (va_up A 1209 f) := sh_aset (ft := ftM) (t := tM) (i := 9) (L := 200) (key := 1209) (by decide +kernel) I A (fun _ _ => none) f
theorem sMa_10 (I : Nat → Int32) (A : Nat → Nat → Int32) (f : Nat → Int32) : (mkM I A).set 10 (.inl (.int, 200, .inl f)) = mkM I (va_up A 1210 f) := sh_aset (ft := ftM) (t := tM) (i := 10) (L := 200) (key := 1210) (by decide +kernel) I A (fun _ _ => none) f
theorem sMa_11 (I : Nat → Int32) (A : Nat → Nat → Int32) (f : Nat → Int32) : (mkM I A).set 11 (.inl (.int, 200, .inl f)) = mkM I (va_up A 1211 f) := sh_aset (ft := ftM) (t := tM) (i := 11) (L := 200) (key := 1211) (by decide +kernel) I A (fun _ _ => none) f
theorem sMa_12 (I : Nat → Int32) (A : Nat → Nat → Int32) (f : Nat → Int32) : (mkM I A).set 12 (.inl (.int, 20, .inl f)) = mkM I (va_up A 1214 f) := sh_aset (ft := ftM) (t := tM) (i := 12) (L := 20) (key := 1214) (by decide +kernel) I A (fun _ _ => none) f
theorem sMa_13 (I : Nat → Int32) (A : Nat → Nat → Int32) (f : Nat → Int32) : (mkM I A).set 13 (.inl (.int, 20, .inl f)) = mkM I (va_up A 1215 f) := sh_aset (ft := ftM) (t := tM) (i := 13) (L := 20) (key := 1215) (by decide +kernel) I A (fun _ _ => none) f
theorem sMa_14 (I : Nat → Int32) (A : Nat → Nat → Int32) (f : Nat → Int32) : (mkM I A).set 14 (.inl (.int, 20, .inl f)) = mkM I (va_up A 1216 f) := sh_aset (ft := ftM) (t := tM) (i := 14) (L := 20) (key := 1216) (by decide +kernel) I A (fun _ _ => none) f
theorem sMa_15 (I : Nat → Int32) (A : Nat → Nat → Int32) (f : Nat → Int32) : (mkM I A).set 15 (.inl (.int, 20, .inl f)) = mkM I (va_up A 1217 f) := sh_aset (ft := ftM) (t := tM) (i := 15) (L := 20) (key := 1217) (by decide +kernel) I A (fun _ _ => none) f
theorem sMa_16 (I : Nat → Int32) (A : Nat → Nat → Int32) (f : Nat → Int32) : (mkM I A).set 16 (.inl (.int, 20, .inl f)) = mkM I (va_up A 1218 f) := sh_aset (ft := ftM) (t := tM) (i := 16) (L := 20) (key := 1218) (by decide +kernel) I A (fun _ _ => none) f
theorem sMa_17 (I : Nat → Int32) (A : Nat → Nat → Int32) (f : Nat → Int32) : (mkM I A).set 17 (.inl (.int, 20, .inl f)) = mkM I (va_up A 1219 f) := sh_aset (ft := ftM) (t := tM) (i := 17) (L := 20) (key := 1219) (by decide +kernel) I A (fun _ _ => none) f
theorem sMa_18 (I : Nat → Int32) (A : Nat → Nat → Int32) (f : Nat → Int32) : (mkM I A).set 18 (.inl (.int, 20, .inl f)) = mkM I (va_up A 1220 f) := sh_aset (ft := ftM) (t := tM) (i := 18) (L := 20) (key := 1220) (by decide +kernel) I A (fun _ _ => none) f
theorem sMa_19 (I : Nat → Int32) (A : Nat → Nat → Int32) (f : Nat → Int32) : (mkM I A).set 19 (.inl (.boolean, 20, .inl f)) = mkM I (va_up A 1221 f) := sh_bset (ft := ftM) (t := tM) (i := 19) (L := 20) (key := 1221) (by decide +kernel) I A (fun _ _ => none) f
theorem sMa_20 (I : Nat → Int32) (A : Nat → Nat → Int32) (f : Nat → Int32) : (mkM I A).set 20 (.inl (.int, 100, .inl f)) = mkM I (va_up A 1222 f) := sh_aset (ft := ftM) (t := tM) (i := 20) (L := 100) (key := 1222) (by decide +kernel) I A (fun _ _ => none) f
theorem sMa_21 (I : Nat → Int32) (A : Nat → Nat → Int32) (f : Nat → Int32) : (mkM I A).set 21 (.inl (.int, 4096, .inl f)) = mkM I (va_up A 1224 f) := sh_aset (ft := ftM) (t := tM) (i := 21) (L := 4096) (key := 1224) (by decide +kernel) I A (fun _ _ => none) f
theorem sMa_22 (I : Nat → Int32) (A : Nat → Nat → Int32) (f : Nat → Int32) : (mkM I A).set 22 (.inl (.int, 4096, .inl f)) = mkM I (va_up A 1225 f) := sh_aset (ft := ftM) (t := tM) (i := 22) (L := 4096) (key := 1225) (by decide +kernel) I A (fun _ _ => none) f
theorem sMa_23 (I : Nat → Int32) (A : Nat → Nat → Int32) (f : Nat → Int32) : (mkM I A).set 23 (.inl (.boolean, 20, .inl f)) = mkM I (va_up A 1227 f) := sh_bset (ft := ftM) (t := tM) (i := 23) (L := 20) (key := 1227) (by decide +kernel) I A (fun _ _ => none) f
theorem sMa_24 (I : Nat → Int32) (A : Nat → Nat → Int32) (f : Nat → Int32) : (mkM I A).set 24 (.inl (.int, 160, .inl f)) = mkM I (va_up A 1228 f) := sh_aset (ft := ftM) (t := tM) (i := 24) (L := 160) (key := 1228) (by decide +kernel) I A (fun _ _ => none) f
theorem sMa_25 (I : Nat → Int32) (A : Nat → Nat → Int32) (f : Nat → Int32) : (mkM I A).set 25 (.inl (.int, 420, .inl f)) = mkM I (va_up A 1229 f) := sh_aset (ft := ftM) (t := tM) (i := 25) (L := 420) (key := 1229) (by decide +kernel) I A (fun _ _ => none) f
theorem sMa_26 (I : Nat → Int32) (A : Nat → Nat → Int32) (f : Nat → Int32) : (mkM I A).set 26 (.inl (.int, 8400, .inl f)) = mkM I (va_up A 1230 f) := sh_aset (ft := ftM) (t := tM) (i := 26) (L := 8400) (key := 1230) (by decide +kernel) I A (fun _ _ => none) f
theorem sMa_27 (I : Nat → Int32) (A : Nat → Nat → Int32) (f : Nat → Int32) : (mkM I A).set 27 (.inl (.int, 20, .inl f)) = mkM I (va_up A 1231 f) := sh_aset (ft := ftM) (t := tM) (i := 27) (L := 20) (key := 1231) (by decide +kernel) I A (fun _ _ => none) f
theorem sMa_28 (I : Nat → Int32) (A : Nat → Nat → Int32) (f : Nat → Int32) : (mkM I A).set 28 (.inl (.int, 20, .inl f)) = mkM I (va_up A 1232 f) := sh_aset (ft := ftM) (t := tM) (i := 28) (L := 20) (key := 1232) (by decide +kernel) I A (fun _ _ => none) f
theorem sMa_29 (I : Nat → Int32) (A : Nat → Nat → Int32) (f : Nat → Int32) : (mkM I A).set 29 (.inl (.int, 20, .inl f)) = mkM I (va_up A 1233 f) := sh_aset (ft := ftM) (t := tM) (i := 29) (L := 20) (key := 1233) (by decide +kernel) I A (fun _ _ => none) f
theorem sMa_30 (I : Nat → Int32) (A : Nat → Nat → Int32) (f : Nat → Int32) : (mkM I A).set 30 (.inl (.int, 20, .inl f)) = mkM I (va_up A 1234 f) := sh_aset (ft := ftM) (t := tM) (i := 30) (L := 20) (key := 1234) (by decide +kernel) I A (fun _ _ => none) f
theorem sMa_31 (I : Nat → Int32) (A : Nat → Nat → Int32) (f : Nat → Int32) : (mkM I A).set 31 (.inl (.int, 128, .inl f)) = mkM I (va_up A 1241 f) := sh_aset (ft := ftM) (t := tM) (i := 31) (L := 128) (key := 1241) (by decide +kernel) I A (fun _ _ => none) f
theorem sMa_32 (I : Nat → Int32) (A : Nat → Nat → Int32) (f : Nat → Int32) : (mkM I A).set 32 (.inl (.int, 200, .inl f)) = mkM I (va_up A 1242 f) := sh_aset (ft := ftM) (t := tM) (i := 32) (L := 200) (key := 1242) (by decide +kernel) I A (fun _ _ => none) f
theorem sMa_33 (I : Nat → Int32) (A : Nat → Nat → Int32) (f : Nat → Int32) : (mkM I A).set 33 (.inl (.int, 480, .inl f)) = mkM I (va_up A 1245 f) := sh_aset (ft := ftM) (t := tM) (i := 33) (L := 480) (key := 1245) (by decide +kernel) I A (fun _ _ => none) f
theorem sMa_34 (I : Nat → Int32) (A : Nat → Nat → Int32) (f : Nat → Int32) : (mkM I A).set 34 (.inl (.int, 20, .inl f)) = mkM I (va_up A 1246 f) := sh_aset (ft := ftM) (t := tM) (i := 34) (L := 20) (key := 1246) (by decide +kernel) I A (fun _ _ => none) f
theorem sMa_35 (I : Nat → Int32) (A : Nat → Nat → Int32) (f : Nat → Int32) : (mkM I A).set 35 (.inl (.int, 24, .inl f)) = mkM I (va_up A 1247 f) := sh_aset (ft := ftM) (t := tM) (i := 35) (L := 24) (key := 1247) (by decide +kernel) I A (fun _ _ => none) f
theorem sMa_36 (I : Nat → Int32) (A : Nat → Nat → Int32) (f : Nat → Int32) : (mkM I A).set 36 (.inl (.int, 480, .inl f)) = mkM I (va_up A 1248 f) := sh_aset (ft := ftM) (t := tM) (i := 36) (L := 480) (key := 1248) (by decide +kernel) I A (fun _ _ => none) f
theorem sMa_37 (I : Nat → Int32) (A : Nat → Nat → Int32) (f : Nat → Int32) : (mkM I A).set 37 (.inl (.boolean, 480, .inl f)) = mkM I (va_up A 1249 f) := sh_bset (ft := ftM) (t := tM) (i := 37) (L := 480) (key := 1249) (by decide +kernel) I A (fun _ _ => none) f
theorem sMa_38 (I : Nat → Int32) (A : Nat → Nat → Int32) (f : Nat → Int32) : (mkM I A).set 38 (.inl (.int, 480, .inl f)) = mkM I (va_up A 1250 f) := sh_aset (ft := ftM) (t := tM) (i := 38) (L := 480) (key := 1250) (by decide +kernel) I A (fun _ _ => none) f
theorem sMa_39 (I : Nat → Int32) (A : Nat → Nat → Int32) (f : Nat → Int32) : (mkM I A).set 39 (.inl (.int, 20, .inl f)) = mkM I (va_up A 1251 f) := sh_aset (ft := ftM) (t := tM) (i := 39) (L := 20) (key := 1251) (by decide +kernel) I A (fun _ _ => none) f
theorem sMa_40 (I : Nat → Int32) (A : Nat → Nat → Int32) (f : Nat → Int32) : (mkM I A).set 40 (.inl (.int, 24, .inl f)) = mkM I (va_up A 1252 f) := sh_aset (ft := ftM) (t := tM) (i := 40) (L := 24) (key := 1252) (by decide +kernel) I A (fun _ _ => none) f
theorem sMa_41 (I : Nat → Int32) (A : Nat → Nat → Int32) (f : Nat → Int32) : (mkM I A).set 41 (.inl (.int, 20, .inl f)) = mkM I (va_up A 1253 f) := sh_aset (ft := ftM) (t := tM) (i := 41) (L := 20) (key := 1253) (by decide +kernel) I A (fun _ _ => none) f
theorem sMa_42 (I : Nat → Int32) (A : Nat → Nat → Int32) (f : Nat → Int32) : (mkM I A).set 42 (.inl (.int, 9, .inl f)) = mkM I (va_up A 1254 f) := sh_aset (ft := ftM) (t := tM) (i := 42) (L := 9) (key := 1254) (by decide +kernel) I A (fun _ _ => none) f
theorem sMa_43 (I : Nat → Int32) (A : Nat → Nat → Int32) (f : Nat → Int32) : (mkM I A).set 43 (.inl (.int, 24, .inl f)) = mkM I (va_up A 1255 f) := sh_aset (ft := ftM) (t := tM) (i := 43) (L := 24) (key := 1255) (by decide +kernel) I A (fun _ _ => none) f
theorem sMa_44 (I : Nat → Int32) (A : Nat → Nat → Int32) (f : Nat → Int32) : (mkM I A).set 44 (.inl (.int, 8, .inl f)) = mkM I (va_up A 1257 f) := sh_aset (ft := ftM) (t := tM) (i := 44) (L := 8) (key := 1257) (by decide +kernel) I A (fun _ _ => none) f
theorem sMa_45 (I : Nat → Int32) (A : Nat → Nat → Int32) (f : Nat → Int32) : (mkM I A).set 45 (.inl (.int, 8, .inl f)) = mkM I (va_up A 1258 f) := sh_aset (ft := ftM) (t := tM) (i := 45) (L := 8) (key := 1258) (by decide +kernel) I A (fun _ _ => none) f
theorem sMa_46 (I : Nat → Int32) (A : Nat → Nat → Int32) (f : Nat → Int32) : (mkM I A).set 46 (.inl (.int, 8, .inl f)) = mkM I (va_up A 1259 f) := sh_aset (ft := ftM) (t := tM) (i := 46) (L := 8) (key := 1259) (by decide +kernel) I A (fun _ _ => none) f
theorem sMa_47 (I : Nat → Int32) (A : Nat → Nat → Int32) (f : Nat → Int32) : (mkM I A).set 47 (.inl (.int, 8, .inl f)) = mkM I (va_up A 1260 f) := sh_aset (ft := ftM) (t := tM) (i := 47) (L := 8) (key := 1260) (by decide +kernel) I A (fun _ _ => none) f
theorem sMa_48 (I : Nat → Int32) (A : Nat → Nat → Int32) (f : Nat → Int32) : (mkM I A).set 48 (.inl (.int, 10, .inl f)) = mkM I (va_up A 1261 f) := sh_aset (ft := ftM) (t := tM) (i := 48) (L := 10) (key := 1261) (by decide +kernel) I A (fun _ _ => none) f
theorem sMa_49 (I : Nat → Int32) (A : Nat → Nat → Int32) (f : Nat → Int32) : (mkM I A).set 49 (.inl (.int, 5, .inl f)) = mkM I (va_up A 1262 f) := sh_aset (ft := ftM) (t := tM) (i := 49) (L := 5) (key := 1262) (by decide +kernel) I A (fun _ _ => none) f
theorem sMa_50 (I : Nat → Int32) (A : Nat → Nat → Int32) (f : Nat → Int32) : (mkM I A).set 50 (.inl (.int, 20, .inl f)) = mkM I (va_up A 1265 f) := sh_aset (ft := ftM) (t := tM) (i := 50) (L := 20) (key := 1265) (by decide +kernel) I A (fun _ _ => none) f
theorem sMa_51 (I : Nat → Int32) (A : Nat → Nat → Int32) (f : Nat → Int32) : (mkM I A).set 51 (.inl (.int, 480, .inl f)) = mkM I (va_up A 1266 f) := sh_aset (ft := ftM) (t := tM) (i := 51) (L := 480) (key := 1266) (by decide +kernel) I A (fun _ _ => none) f
theorem sMa_52 (I : Nat → Int32) (A : Nat → Nat → Int32) (f : Nat → Int32) : (mkM I A).set 52 (.inl (.int, 40, .inl f)) = mkM I (va_up A 1268 f) := sh_aset (ft := ftM) (t := tM) (i := 52) (L := 40) (key := 1268) (by decide +kernel) I A (fun _ _ => none) f
theorem sMa_53 (I : Nat → Int32) (A : Nat → Nat → Int32) (f : Nat → Int32) : (mkM I A).set 53 (.inl (.int, 40, .inl f)) = mkM I (va_up A 1269 f) := sh_aset (ft := ftM) (t := tM) (i := 53) (L := 40) (key := 1269) (by decide +kernel) I A (fun _ _ => none) f
theorem sMa_54 (I : Nat → Int32) (A : Nat → Nat → Int32) (f : Nat → Int32) : (mkM I A).set 54 (.inl (.int, 40, .inl f)) = mkM I (va_up A 1270 f) := sh_aset (ft := ftM) (t := tM) (i := 54) (L := 40) (key := 1270) (by decide +kernel) I A (fun _ _ => none) f
theorem sMa_55 (I : Nat → Int32) (A : Nat → Nat → Int32) (f : Nat → Int32) : (mkM I A).set 55 (.inl (.int, 40, .inl f)) = mkM I (va_up A 1271 f) := sh_aset (ft := ftM) (t := tM) (i := 55) (L := 40) (key := 1271) (by decide +kernel) I A (fun _ _ => none) f
theorem sMa_56 (I : Nat → Int32) (A : Nat → Nat → Int32) (f : Nat → Int32) : (mkM I A).set 56 (.inl (.int, 40, .inl f)) = mkM I (va_up A 1272 f) := sh_aset (ft := ftM) (t := tM) (i := 56) (L := 40) (key := 1272) (by decide +kernel) I A (fun _ _ => none) f
theorem sMa_57 (I : Nat → Int32) (A : Nat → Nat → Int32) (f : Nat → Int32) : (mkM I A).set 57 (.inl (.int, 40, .inl f)) = mkM I (va_up A 1273 f) := sh_aset (ft := ftM) (t := tM) (i := 57) (L := 40) (key := 1273) (by decide +kernel) I A (fun _ _ => none) f
theorem sMa_58 (I : Nat → Int32) (A : Nat → Nat → Int32) (f : Nat → Int32) : (mkM I A).set 58 (.inl (.int, 20, .inl f)) = mkM I (va_up A 1274 f) := sh_aset (ft := ftM) (t := tM) (i := 58) (L := 20) (key := 1274) (by decide +kernel) I A (fun _ _ => none) f
theorem sMa_59 (I : Nat → Int32) (A : Nat → Nat → Int32) (f : Nat → Int32) : (mkM I A).set 59 (.inl (.int, 60, .inl f)) = mkM I (va_up A 1276 f) := sh_aset (ft := ftM) (t := tM) (i := 59) (L := 60) (key := 1276) (by decide +kernel) I A (fun _ _ => none) f
theorem sMa_60 (I : Nat → Int32) (A : Nat → Nat → Int32) (f : Nat → Int32) : (mkM I A).set 60 (.inl (.int, 60, .inl f)) = mkM I (va_up A 1277 f) := sh_aset (ft := ftM) (t := tM) (i := 60) (L := 60) (key := 1277) (by decide +kernel) I A (fun _ _ => none) f
theorem sMa_61 (I : Nat → Int32) (A : Nat → Nat → Int32) (f : Nat → Int32) : (mkM I A).set 61 (.inl (.int, 60, .inl f)) = mkM I (va_up A 1278 f) := sh_aset (ft := ftM) (t := tM) (i := 61) (L := 60) (key := 1278) (by decide +kernel) I A (fun _ _ => none) f
theorem sMa_62 (I : Nat → Int32) (A : Nat → Nat → Int32) (f : Nat → Int32) : (mkM I A).set 62 (.inl (.int, 60, .inl f)) = mkM I (va_up A 1279 f) := sh_aset (ft := ftM) (t := tM) (i := 62) (L := 60) (key := 1279) (by decide +kernel) I A (fun _ _ => none) f
theorem sMa_63 (I : Nat → Int32) (A : Nat → Nat → Int32) (f : Nat → Int32) : (mkM I A).set 63 (.inl (.int, 5, .inl f)) = mkM I (va_up A 1281 f) := sh_aset (ft := ftM) (t := tM) (i := 63) (L := 5) (key := 1281) (by decide +kernel) I A (fun _ _ => none) f
theorem sMa_64 (I : Nat → Int32) (A : Nat → Nat → Int32) (f : Nat → Int32) : (mkM I A).set 64 (.inl (.int, 60, .inl f)) = mkM I (va_up A 1282 f) := sh_aset (ft := ftM) (t := tM) (i := 64) (L := 60) (key := 1282) (by decide +kernel) I A (fun _ _ => none) f
theorem sMa_65 (I : Nat → Int32) (A : Nat → Nat → Int32) (f : Nat → Int32) : (mkM I A).set 65 (.inl (.int, 60, .inl f)) = mkM I (va_up A 1283 f) := sh_aset (ft := ftM) (t := tM) (i := 65) (L := 60) (key := 1283) (by decide +kernel) I A (fun _ _ => none) f
theorem sMa_66 (I : Nat → Int32) (A : Nat → Nat → Int32) (f : Nat → Int32) : (mkM I A).set 66 (.inl (.int, 60, .inl f)) = mkM I (va_up A 1284 f) := sh_aset (ft := ftM) (t := tM) (i := 66) (L := 60) (key := 1284) (by decide +kernel) I A (fun _ _ => none) f
theorem sMa_67 (I : Nat → Int32) (A : Nat → Nat → Int32) (f : Nat → Int32) : (mkM I A).set 67 (.inl (.boolean, 60, .inl f)) = mkM I (va_up A 1285 f) := sh_bset (ft := ftM) (t := tM) (i := 67) (L := 60) (key := 1285) (by decide +kernel) I A (fun _ _ => none) f
theorem sMa_68 (I : Nat → Int32) (A : Nat → Nat → Int32) (f : Nat → Int32) : (mkM I A).set 68 (.inl (.int, 20, .inl f)) = mkM I (va_up A 1286 f) := sh_aset (ft := ftM) (t := tM) (i := 68) (L := 20) (key := 1286) (by decide +kernel) I A (fun _ _ => none) f
theorem sMa_69 (I : Nat → Int32) (A : Nat → Nat → Int32) (f : Nat → Int32) : (mkM I A).set 69 (.inl (.int, 24, .inl f)) = mkM I (va_up A 1289 f) := sh_aset (ft := ftM) (t := tM) (i := 69) (L := 24) (key := 1289) (by decide +kernel) I A (fun _ _ => none) f
theorem sMa_70 (I : Nat → Int32) (A : Nat → Nat → Int32) (f : Nat → Int32) : (mkM I A).set 70 (.inl (.int, 24, .inl f)) = mkM I (va_up A 1290 f) := sh_aset (ft := ftM) (t := tM) (i := 70) (L := 24) (key := 1290) (by decide +kernel) I A (fun _ _ => none) f
theorem sMa_71 (I : Nat → Int32) (A : Nat → Nat → Int32) (f : Nat → Int32) : (mkM I A).set 71 (.inl (.boolean, 24, .inl f)) = mkM I (va_up A 1291 f) := sh_bset (ft := ftM) (t := tM) (i := 71) (L := 24) (key := 1291) (by decide +kernel) I A (fun _ _ => none) f
theorem sMa_72 (I : Nat → Int32) (A : Nat → Nat → Int32) (f : Nat → Int32) : (mkM I A).set 72 (.inl (.int, 4, .inl f)) = mkM I (va_up A 1292 f) := sh_aset (ft := ftM) (t := tM) (i := 72) (L := 4) (key := 1292) (by decide +kernel) I A (fun _ _ => none) f
theorem sMa_73 (I : Nat → Int32) (A : Nat → Nat → Int32) (f : Nat → Int32) : (mkM I A).set 73 (.inl (.int, 4, .inl f)) = mkM I (va_up A 1293 f) := sh_aset (ft := ftM) (t := tM) (i := 73) (L := 4) (key := 1293) (by decide +kernel) I A (fun _ _ => none) f
theorem sMa_74 (I : Nat → Int32) (A : Nat → Nat → Int32) (f : Nat → Int32) : (mkM I A).set 74 (.inl (.int, 40, .inl f)) = mkM I (va_up A 1294 f) := sh_aset (ft := ftM) (t := tM) (i := 74) (L := 40) (key := 1294) (by decide +kernel) I A (fun _ _ => none) f
theorem sMa_75 (I : Nat → Int32) (A : Nat → Nat → Int32) (f : Nat → Int32) : (mkM I A).set 75 (.inl (.int, 40, .inl f)) = mkM I (va_up A 1295 f) := sh_aset (ft := ftM) (t := tM) (i := 75) (L := 40) (key := 1295) (by decide +kernel) I A (fun _ _ => none) f
theorem sMa_76 (I : Nat → Int32) (A : Nat → Nat → Int32) (f : Nat → Int32) : (mkM I A).set 76 (.inl (.int, 48, .inl f)) = mkM I (va_up A 1298 f) := sh_aset (ft := ftM) (t := tM) (i := 76) (L := 48) (key := 1298) (by decide +kernel) I A (fun _ _ => none) f
def ftC : Nat → List (Nat × Option Nat)
  | 0 => [(0, none), (1, some 12), (2, some 13), (3, some 14), (4, some 15), (5, some 16), (6, some 17), (7, some 18), (8, some 19), (9, none)]
  | 1 => [(100, some 11), (101, none), (102, some 21), (103, some 22), (104, some 23), (105, some 24), (106, some 25), (107, none), (108, some 26), (109, some 27), (110, some 28), (111, some 29), (112, some 30), (113, none), (114, some 31), (115, some 32), (116, some 33), (117, some 34)]
  | 2 => [(200, some 2), (201, some 3), (202, some 4), (203, some 5), (204, some 6)]
  | 3 => [(300, some 11), (301, none), (302, some 86), (303, none), (304, some 87), (305, some 88)]
  | 4 => [(400, some 35), (401, some 74), (402, some 75), (403, some 76), (404, some 77), (405, some 78), (406, some 79), (407, some 80), (408, none), (409, none)]
  | 5 => [(500, some 11), (501, none), (502, some 36), (503, some 37), (504, some 38), (505, some 39), (506, some 40), (507, some 41), (508, some 42), (509, some 43), (510, some 44)]
  | 6 => [(600, some 1), (601, some 11), (602, some 20), (603, some 35), (604, some 56), (605, some 57), (606, some 58), (607, some 59), (608, some 60), (609, some 61), (610, some 62), (611, some 63)]
  | 7 => [(700, some 1), (701, some 20), (702, none), (703, some 82), (704, some 83), (705, none), (706, some 84)]
  | 8 => [(800, some 11), (801, some 35), (802, none), (803, some 65), (804, some 66), (805, some 67), (806, some 68), (807, some 69), (808, some 70), (809, some 71), (810, some 72)]
  | 9 => [(900, some 8), (901, none), (902, none), (903, none), (904, none), (905, some 9), (906, none), (907, some 10), (908, none), (909, none)]
  | 10 => [(1000, some 1), (1001, some 11), (1002, some 20), (1003, some 35), (1004, none), (1005, some 46), (1006, some 47), (1007, some 48), (1008, some 49), (1009, none), (1010, some 50), (1011, some 51), (1012, some 52), (1013, none), (1014, some 53), (1015, some 54)]
  | 11 => [(1100, none), (1101, some 1), (1102, some 7), (1103, some 11), (1104, some 20), (1105, some 35), (1106, some 45), (1107, some 55), (1108, some 64), (1109, some 73), (1110, some 81), (1111, some 85)]
  | _ => []
def tC : List (Nat × Nat × Nat) := [(0, 0, 11), (0, 0, 2), (1, 120, 200), (1, 120, 201), (2, 601, 202), (3, 240, 203), (2, 240, 204), (0, 0, 9), (1, 160, 900), (1, 160, 905), (1, 164, 907), (0, 0, 0), (1, 20, 1), (1, 20, 2), (1, 20, 3), (1, 20, 4), (3, 20, 5), (3, 20, 6), (1, 6, 7), (1, 64, 8), (0, 0, 1), (1, 24, 102), (1, 24, 103), (1, 24, 104), (1, 24, 105), (1, 24, 106), (1, 200, 108), (1, 200, 109), (1, 200, 110), (1, 200, 111), (1, 200, 112), (1, 60, 114), (1, 60, 115), (1, 60, 116), (1, 60, 117), (0, 0, 5), (1, 20, 502), (1, 20, 503), (1, 20, 504), (1, 20, 505), (1, 20, 506), (1, 20, 507), (1, 20, 508), (2, 20, 509), (1, 601, 510), (0, 0, 10), (1, 8, 1005), (1, 8, 1006), (1, 8, 1007), (1, 8, 1008), (1, 10, 1010), (1, 5, 1011), (1, 100, 1012), (2, 480, 1014), (1, 480, 1015), (0, 0, 6), (1, 480, 604), (1, 480, 605), (1, 24, 606), (1, 20, 607), (2, 20, 608), (1, 24, 609), (1, 20, 610), (1, 24, 611), (0, 0, 8), (1, 40, 803), (1, 40, 804), (1, 40, 805), (1, 40, 806), (1, 40, 807), (1, 40, 808), (1, 20, 809), (1, 4, 810), (0, 0, 4), (1, 5, 401), (2, 20, 402), (1, 20, 403), (1, 20, 404), (1, 20, 405), (1, 8, 406), (1, 8, 407), (0, 0, 7), (1, 9, 703), (1, 24, 704), (1, 48, 706), (0, 0, 3), (1, 4, 302), (1, 8, 304), (1, 8, 305)]
def fC11 (I : Nat → Int32) : List Value := (ftC 11).map (sh_f I)
def fC2 (I : Nat → Int32) : List Value := (ftC 2).map (sh_f I)
def fC9 (I : Nat → Int32) : List Value := (ftC 9).map (sh_f I)
def fC0 (I : Nat → Int32) : List Value := (ftC 0).map (sh_f I)
def fC1 (I : Nat → Int32) : List Value := (ftC 1).map (sh_f I)
def fC5 (I : Nat → Int32) : List Value := (ftC 5).map (sh_f I)
def fC10 (I : Nat → Int32) : List Value := (ftC 10).map (sh_f I)
def fC6 (I : Nat → Int32) : List Value := (ftC 6).map (sh_f I)
def fC8 (I : Nat → Int32) : List Value := (ftC 8).map (sh_f I)
def fC4 (I : Nat → Int32) : List Value := (ftC 4).map (sh_f I)
def fC7 (I : Nat → Int32) : List Value := (ftC 7).map (sh_f I)
def fC3 (I : Nat → Int32) : List Value := (ftC 3).map (sh_f I)
def mkC0 (I : Nat → Int32) (A : Nat → Nat → Int32) (R : Nat → Nat → Option Nat) : mj_H := tC.map (sh_c ftC I A R)
/-- with the arrays that came later: rows of walks, programs, clauses -/
def mkC (I : Nat → Int32) (A : Nat → Nat → Int32) (R : Nat → Nat → Option Nat) (d : List (Nat × (Nat → Int32))) : mj_H := mkC0 I A R ++ d.map (fun q => .inl (.int, q.1, .inl q.2))
theorem mkC0_len (I : Nat → Int32) (A : Nat → Nat → Int32) (R : Nat → Nat → Option Nat) : (mkC0 I A R).length = 89 := sh_len (t := tC) (f := sh_c ftC I A R) (by decide +kernel)
theorem mkC_at (I : Nat → Int32) (A : Nat → Nat → Int32) (R : Nat → Nat → Option Nat) (d : List (Nat × (Nat → Int32))) {i : Nat} {c : mj_C} (h : (mkC0 I A R)[i]? = some c) : (mkC I A R d)[i]? = some c := by
  unfold mkC
  rw [List.getElem?_append_left (List.getElem?_eq_some_iff.mp h).1]
  exact h
theorem shC_get (I : Nat → Int32) (A : Nat → Nat → Int32) (R : Nat → Nat → Option Nat) (d : List (Nat × (Nat → Int32))) {i : Nat} (q : Nat × Nat × Nat) (h : tC[i]? = some q) : (mkC I A R d)[i]? = some (sh_c ftC I A R q) := mkC_at I A R d (sh_get (f := sh_c ftC I A R) q h)
theorem mkC_st (I : Nat → Int32) (A : Nat → Nat → Int32) (R : Nat → Nat → Option Nat) (I' : Nat → Int32) (A' : Nat → Nat → Int32) (R' : Nat → Nat → Option Nat) (d : List (Nat × (Nat → Int32))) {i : Nat} {c : mj_C} (hi : i < 89) (h : (mkC0 I A R).set i c = mkC0 I' A' R') : (mkC I A R d).set i c = mkC I' A' R' d := by
  unfold mkC
  rw [List.set_append_left _ _ (by rw [mkC0_len]; exact hi), h]
theorem gC_0 (I : Nat → Int32) (A : Nat → Nat → Int32) (R : Nat → Nat → Option Nat) (d : List (Nat × (Nat → Int32))) : (mkC I A R d)[0]? = some (.inr (11, fC11 I)) := shC_get I A R d (0, 0, 11) (by decide +kernel)
theorem gC_1 (I : Nat → Int32) (A : Nat → Nat → Int32) (R : Nat → Nat → Option Nat) (d : List (Nat × (Nat → Int32))) : (mkC I A R d)[1]? = some (.inr (2, fC2 I)) := shC_get I A R d (0, 0, 2) (by decide +kernel)
theorem gC_2 (I : Nat → Int32) (A : Nat → Nat → Int32) (R : Nat → Nat → Option Nat) (d : List (Nat × (Nat → Int32))) : (mkC I A R d)[2]? = some (.inl (.int, 120, .inl (A 200))) := shC_get I A R d (1, 120, 200) (by decide +kernel)
theorem gC_3 (I : Nat → Int32) (A : Nat → Nat → Int32) (R : Nat → Nat → Option Nat) (d : List (Nat × (Nat → Int32))) : (mkC I A R d)[3]? = some (.inl (.int, 120, .inl (A 201))) := shC_get I A R d (1, 120, 201) (by decide +kernel)
theorem gC_4 (I : Nat → Int32) (A : Nat → Nat → Int32) (R : Nat → Nat → Option Nat) (d : List (Nat × (Nat → Int32))) : (mkC I A R d)[4]? = some (.inl (.boolean, 601, .inl (A 202))) := shC_get I A R d (2, 601, 202) (by decide +kernel)
theorem gC_5 (I : Nat → Int32) (A : Nat → Nat → Int32) (R : Nat → Nat → Option Nat) (d : List (Nat × (Nat → Int32))) : (mkC I A R d)[5]? = some (.inl (.array .int, 240, .inr (.inr (.inr (.inr (R 203)))))) := shC_get I A R d (3, 240, 203) (by decide +kernel)
theorem gC_6 (I : Nat → Int32) (A : Nat → Nat → Int32) (R : Nat → Nat → Option Nat) (d : List (Nat × (Nat → Int32))) : (mkC I A R d)[6]? = some (.inl (.boolean, 240, .inl (A 204))) := shC_get I A R d (2, 240, 204) (by decide +kernel)
theorem gC_7 (I : Nat → Int32) (A : Nat → Nat → Int32) (R : Nat → Nat → Option Nat) (d : List (Nat × (Nat → Int32))) : (mkC I A R d)[7]? = some (.inr (9, fC9 I)) := shC_get I A R d (0, 0, 9) (by decide +kernel)
theorem gC_8 (I : Nat → Int32) (A : Nat → Nat → Int32) (R : Nat → Nat → Option Nat) (d : List (Nat × (Nat → Int32))) : (mkC I A R d)[8]? = some (.inl (.int, 160, .inl (A 900))) := shC_get I A R d (1, 160, 900) (by decide +kernel)
theorem gC_9 (I : Nat → Int32) (A : Nat → Nat → Int32) (R : Nat → Nat → Option Nat) (d : List (Nat × (Nat → Int32))) : (mkC I A R d)[9]? = some (.inl (.int, 160, .inl (A 905))) := shC_get I A R d (1, 160, 905) (by decide +kernel)
theorem gC_10 (I : Nat → Int32) (A : Nat → Nat → Int32) (R : Nat → Nat → Option Nat) (d : List (Nat × (Nat → Int32))) : (mkC I A R d)[10]? = some (.inl (.int, 164, .inl (A 907))) := shC_get I A R d (1, 164, 907) (by decide +kernel)
theorem gC_11 (I : Nat → Int32) (A : Nat → Nat → Int32) (R : Nat → Nat → Option Nat) (d : List (Nat × (Nat → Int32))) : (mkC I A R d)[11]? = some (.inr (0, fC0 I)) := shC_get I A R d (0, 0, 0) (by decide +kernel)
theorem gC_12 (I : Nat → Int32) (A : Nat → Nat → Int32) (R : Nat → Nat → Option Nat) (d : List (Nat × (Nat → Int32))) : (mkC I A R d)[12]? = some (.inl (.int, 20, .inl (A 1))) := shC_get I A R d (1, 20, 1) (by decide +kernel)
theorem gC_13 (I : Nat → Int32) (A : Nat → Nat → Int32) (R : Nat → Nat → Option Nat) (d : List (Nat × (Nat → Int32))) : (mkC I A R d)[13]? = some (.inl (.int, 20, .inl (A 2))) := shC_get I A R d (1, 20, 2) (by decide +kernel)
theorem gC_14 (I : Nat → Int32) (A : Nat → Nat → Int32) (R : Nat → Nat → Option Nat) (d : List (Nat × (Nat → Int32))) : (mkC I A R d)[14]? = some (.inl (.int, 20, .inl (A 3))) := shC_get I A R d (1, 20, 3) (by decide +kernel)
theorem gC_15 (I : Nat → Int32) (A : Nat → Nat → Int32) (R : Nat → Nat → Option Nat) (d : List (Nat × (Nat → Int32))) : (mkC I A R d)[15]? = some (.inl (.int, 20, .inl (A 4))) := shC_get I A R d (1, 20, 4) (by decide +kernel)
theorem gC_16 (I : Nat → Int32) (A : Nat → Nat → Int32) (R : Nat → Nat → Option Nat) (d : List (Nat × (Nat → Int32))) : (mkC I A R d)[16]? = some (.inl (.array .int, 20, .inr (.inr (.inr (.inr (R 5)))))) := shC_get I A R d (3, 20, 5) (by decide +kernel)
theorem gC_17 (I : Nat → Int32) (A : Nat → Nat → Int32) (R : Nat → Nat → Option Nat) (d : List (Nat × (Nat → Int32))) : (mkC I A R d)[17]? = some (.inl (.array .int, 20, .inr (.inr (.inr (.inr (R 6)))))) := shC_get I A R d (3, 20, 6) (by decide +kernel)
theorem gC_18 (I : Nat → Int32) (A : Nat → Nat → Int32) (R : Nat → Nat → Option Nat) (d : List (Nat × (Nat → Int32))) : (mkC I A R d)[18]? = some (.inl (.int, 6, .inl (A 7))) := shC_get I A R d (1, 6, 7) (by decide +kernel)
theorem gC_19 (I : Nat → Int32) (A : Nat → Nat → Int32) (R : Nat → Nat → Option Nat) (d : List (Nat × (Nat → Int32))) : (mkC I A R d)[19]? = some (.inl (.int, 64, .inl (A 8))) := shC_get I A R d (1, 64, 8) (by decide +kernel)
theorem gC_20 (I : Nat → Int32) (A : Nat → Nat → Int32) (R : Nat → Nat → Option Nat) (d : List (Nat × (Nat → Int32))) : (mkC I A R d)[20]? = some (.inr (1, fC1 I)) := shC_get I A R d (0, 0, 1) (by decide +kernel)
theorem gC_21 (I : Nat → Int32) (A : Nat → Nat → Int32) (R : Nat → Nat → Option Nat) (d : List (Nat × (Nat → Int32))) : (mkC I A R d)[21]? = some (.inl (.int, 24, .inl (A 102))) := shC_get I A R d (1, 24, 102) (by decide +kernel)
theorem gC_22 (I : Nat → Int32) (A : Nat → Nat → Int32) (R : Nat → Nat → Option Nat) (d : List (Nat × (Nat → Int32))) : (mkC I A R d)[22]? = some (.inl (.int, 24, .inl (A 103))) := shC_get I A R d (1, 24, 103) (by decide +kernel)
theorem gC_23 (I : Nat → Int32) (A : Nat → Nat → Int32) (R : Nat → Nat → Option Nat) (d : List (Nat × (Nat → Int32))) : (mkC I A R d)[23]? = some (.inl (.int, 24, .inl (A 104))) := shC_get I A R d (1, 24, 104) (by decide +kernel)
theorem gC_24 (I : Nat → Int32) (A : Nat → Nat → Int32) (R : Nat → Nat → Option Nat) (d : List (Nat × (Nat → Int32))) : (mkC I A R d)[24]? = some (.inl (.int, 24, .inl (A 105))) := shC_get I A R d (1, 24, 105) (by decide +kernel)
theorem gC_25 (I : Nat → Int32) (A : Nat → Nat → Int32) (R : Nat → Nat → Option Nat) (d : List (Nat × (Nat → Int32))) : (mkC I A R d)[25]? = some (.inl (.int, 24, .inl (A 106))) := shC_get I A R d (1, 24, 106) (by decide +kernel)
theorem gC_26 (I : Nat → Int32) (A : Nat → Nat → Int32) (R : Nat → Nat → Option Nat) (d : List (Nat × (Nat → Int32))) : (mkC I A R d)[26]? = some (.inl (.int, 200, .inl (A 108))) := shC_get I A R d (1, 200, 108) (by decide +kernel)
theorem gC_27 (I : Nat → Int32) (A : Nat → Nat → Int32) (R : Nat → Nat → Option Nat) (d : List (Nat × (Nat → Int32))) : (mkC I A R d)[27]? = some (.inl (.int, 200, .inl (A 109))) := shC_get I A R d (1, 200, 109) (by decide +kernel)
theorem gC_28 (I : Nat → Int32) (A : Nat → Nat → Int32) (R : Nat → Nat → Option Nat) (d : List (Nat × (Nat → Int32))) : (mkC I A R d)[28]? = some (.inl (.int, 200, .inl (A 110))) := shC_get I A R d (1, 200, 110) (by decide +kernel)
theorem gC_29 (I : Nat → Int32) (A : Nat → Nat → Int32) (R : Nat → Nat → Option Nat) (d : List (Nat × (Nat → Int32))) : (mkC I A R d)[29]? = some (.inl (.int, 200, .inl (A 111))) := shC_get I A R d (1, 200, 111) (by decide +kernel)
theorem gC_30 (I : Nat → Int32) (A : Nat → Nat → Int32) (R : Nat → Nat → Option Nat) (d : List (Nat × (Nat → Int32))) : (mkC I A R d)[30]? = some (.inl (.int, 200, .inl (A 112))) := shC_get I A R d (1, 200, 112) (by decide +kernel)
theorem gC_31 (I : Nat → Int32) (A : Nat → Nat → Int32) (R : Nat → Nat → Option Nat) (d : List (Nat × (Nat → Int32))) : (mkC I A R d)[31]? = some (.inl (.int, 60, .inl (A 114))) := shC_get I A R d (1, 60, 114) (by decide +kernel)
theorem gC_32 (I : Nat → Int32) (A : Nat → Nat → Int32) (R : Nat → Nat → Option Nat) (d : List (Nat × (Nat → Int32))) : (mkC I A R d)[32]? = some (.inl (.int, 60, .inl (A 115))) := shC_get I A R d (1, 60, 115) (by decide +kernel)
theorem gC_33 (I : Nat → Int32) (A : Nat → Nat → Int32) (R : Nat → Nat → Option Nat) (d : List (Nat × (Nat → Int32))) : (mkC I A R d)[33]? = some (.inl (.int, 60, .inl (A 116))) := shC_get I A R d (1, 60, 116) (by decide +kernel)
theorem gC_34 (I : Nat → Int32) (A : Nat → Nat → Int32) (R : Nat → Nat → Option Nat) (d : List (Nat × (Nat → Int32))) : (mkC I A R d)[34]? = some (.inl (.int, 60, .inl (A 117))) := shC_get I A R d (1, 60, 117) (by decide +kernel)
theorem gC_35 (I : Nat → Int32) (A : Nat → Nat → Int32) (R : Nat → Nat → Option Nat) (d : List (Nat × (Nat → Int32))) : (mkC I A R d)[35]? = some (.inr (5, fC5 I)) := shC_get I A R d (0, 0, 5) (by decide +kernel)
theorem gC_36 (I : Nat → Int32) (A : Nat → Nat → Int32) (R : Nat → Nat → Option Nat) (d : List (Nat × (Nat → Int32))) : (mkC I A R d)[36]? = some (.inl (.int, 20, .inl (A 502))) := shC_get I A R d (1, 20, 502) (by decide +kernel)
theorem gC_37 (I : Nat → Int32) (A : Nat → Nat → Int32) (R : Nat → Nat → Option Nat) (d : List (Nat × (Nat → Int32))) : (mkC I A R d)[37]? = some (.inl (.int, 20, .inl (A 503))) := shC_get I A R d (1, 20, 503) (by decide +kernel)
theorem gC_38 (I : Nat → Int32) (A : Nat → Nat → Int32) (R : Nat → Nat → Option Nat) (d : List (Nat × (Nat → Int32))) : (mkC I A R d)[38]? = some (.inl (.int, 20, .inl (A 504))) := shC_get I A R d (1, 20, 504) (by decide +kernel)
theorem gC_39 (I : Nat → Int32) (A : Nat → Nat → Int32) (R : Nat → Nat → Option Nat) (d : List (Nat × (Nat → Int32))) : (mkC I A R d)[39]? = some (.inl (.int, 20, .inl (A 505))) := shC_get I A R d (1, 20, 505) (by decide +kernel)
theorem gC_40 (I : Nat → Int32) (A : Nat → Nat → Int32) (R : Nat → Nat → Option Nat) (d : List (Nat × (Nat → Int32))) : (mkC I A R d)[40]? = some (.inl (.int, 20, .inl (A 506))) := shC_get I A R d (1, 20, 506) (by decide +kernel)
theorem gC_41 (I : Nat → Int32) (A : Nat → Nat → Int32) (R : Nat → Nat → Option Nat) (d : List (Nat × (Nat → Int32))) : (mkC I A R d)[41]? = some (.inl (.int, 20, .inl (A 507))) := shC_get I A R d (1, 20, 507) (by decide +kernel)
theorem gC_42 (I : Nat → Int32) (A : Nat → Nat → Int32) (R : Nat → Nat → Option Nat) (d : List (Nat × (Nat → Int32))) : (mkC I A R d)[42]? = some (.inl (.int, 20, .inl (A 508))) := shC_get I A R d (1, 20, 508) (by decide +kernel)
theorem gC_43 (I : Nat → Int32) (A : Nat → Nat → Int32) (R : Nat → Nat → Option Nat) (d : List (Nat × (Nat → Int32))) : (mkC I A R d)[43]? = some (.inl (.boolean, 20, .inl (A 509))) := shC_get I A R d (2, 20, 509) (by decide +kernel)
theorem gC_44 (I : Nat → Int32) (A : Nat → Nat → Int32) (R : Nat → Nat → Option Nat) (d : List (Nat × (Nat → Int32))) : (mkC I A R d)[44]? = some (.inl (.int, 601, .inl (A 510))) := shC_get I A R d (1, 601, 510) (by decide +kernel)
theorem gC_45 (I : Nat → Int32) (A : Nat → Nat → Int32) (R : Nat → Nat → Option Nat) (d : List (Nat × (Nat → Int32))) : (mkC I A R d)[45]? = some (.inr (10, fC10 I)) := shC_get I A R d (0, 0, 10) (by decide +kernel)
theorem gC_46 (I : Nat → Int32) (A : Nat → Nat → Int32) (R : Nat → Nat → Option Nat) (d : List (Nat × (Nat → Int32))) : (mkC I A R d)[46]? = some (.inl (.int, 8, .inl (A 1005))) := shC_get I A R d (1, 8, 1005) (by decide +kernel)
theorem gC_47 (I : Nat → Int32) (A : Nat → Nat → Int32) (R : Nat → Nat → Option Nat) (d : List (Nat × (Nat → Int32))) : (mkC I A R d)[47]? = some (.inl (.int, 8, .inl (A 1006))) := shC_get I A R d (1, 8, 1006) (by decide +kernel)
theorem gC_48 (I : Nat → Int32) (A : Nat → Nat → Int32) (R : Nat → Nat → Option Nat) (d : List (Nat × (Nat → Int32))) : (mkC I A R d)[48]? = some (.inl (.int, 8, .inl (A 1007))) := shC_get I A R d (1, 8, 1007) (by decide +kernel)
theorem gC_49 (I : Nat → Int32) (A : Nat → Nat → Int32) (R : Nat → Nat → Option Nat) (d : List (Nat × (Nat → Int32))) : (mkC I A R d)[49]? = some (.inl (.int, 8, .inl (A 1008))) := shC_get I A R d (1, 8, 1008) (by decide +kernel)
theorem gC_50 (I : Nat → Int32) (A : Nat → Nat → Int32) (R : Nat → Nat → Option Nat) (d : List (Nat × (Nat → Int32))) : (mkC I A R d)[50]? = some (.inl (.int, 10, .inl (A 1010))) := shC_get I A R d (1, 10, 1010) (by decide +kernel)
theorem gC_51 (I : Nat → Int32) (A : Nat → Nat → Int32) (R : Nat → Nat → Option Nat) (d : List (Nat × (Nat → Int32))) : (mkC I A R d)[51]? = some (.inl (.int, 5, .inl (A 1011))) := shC_get I A R d (1, 5, 1011) (by decide +kernel)
theorem gC_52 (I : Nat → Int32) (A : Nat → Nat → Int32) (R : Nat → Nat → Option Nat) (d : List (Nat × (Nat → Int32))) : (mkC I A R d)[52]? = some (.inl (.int, 100, .inl (A 1012))) := shC_get I A R d (1, 100, 1012) (by decide +kernel)
theorem gC_53 (I : Nat → Int32) (A : Nat → Nat → Int32) (R : Nat → Nat → Option Nat) (d : List (Nat × (Nat → Int32))) : (mkC I A R d)[53]? = some (.inl (.boolean, 480, .inl (A 1014))) := shC_get I A R d (2, 480, 1014) (by decide +kernel)
theorem gC_54 (I : Nat → Int32) (A : Nat → Nat → Int32) (R : Nat → Nat → Option Nat) (d : List (Nat × (Nat → Int32))) : (mkC I A R d)[54]? = some (.inl (.int, 480, .inl (A 1015))) := shC_get I A R d (1, 480, 1015) (by decide +kernel)
theorem gC_55 (I : Nat → Int32) (A : Nat → Nat → Int32) (R : Nat → Nat → Option Nat) (d : List (Nat × (Nat → Int32))) : (mkC I A R d)[55]? = some (.inr (6, fC6 I)) := shC_get I A R d (0, 0, 6) (by decide +kernel)
theorem gC_56 (I : Nat → Int32) (A : Nat → Nat → Int32) (R : Nat → Nat → Option Nat) (d : List (Nat × (Nat → Int32))) : (mkC I A R d)[56]? = some (.inl (.int, 480, .inl (A 604))) := shC_get I A R d (1, 480, 604) (by decide +kernel)
theorem gC_57 (I : Nat → Int32) (A : Nat → Nat → Int32) (R : Nat → Nat → Option Nat) (d : List (Nat × (Nat → Int32))) : (mkC I A R d)[57]? = some (.inl (.int, 480, .inl (A 605))) := shC_get I A R d (1, 480, 605) (by decide +kernel)
theorem gC_58 (I : Nat → Int32) (A : Nat → Nat → Int32) (R : Nat → Nat → Option Nat) (d : List (Nat × (Nat → Int32))) : (mkC I A R d)[58]? = some (.inl (.int, 24, .inl (A 606))) := shC_get I A R d (1, 24, 606) (by decide +kernel)
theorem gC_59 (I : Nat → Int32) (A : Nat → Nat → Int32) (R : Nat → Nat → Option Nat) (d : List (Nat × (Nat → Int32))) : (mkC I A R d)[59]? = some (.inl (.int, 20, .inl (A 607))) := shC_get I A R d (1, 20, 607) (by decide +kernel)
theorem gC_60 (I : Nat → Int32) (A : Nat → Nat → Int32) (R : Nat → Nat → Option Nat) (d : List (Nat × (Nat → Int32))) : (mkC I A R d)[60]? = some (.inl (.boolean, 20, .inl (A 608))) := shC_get I A R d (2, 20, 608) (by decide +kernel)
theorem gC_61 (I : Nat → Int32) (A : Nat → Nat → Int32) (R : Nat → Nat → Option Nat) (d : List (Nat × (Nat → Int32))) : (mkC I A R d)[61]? = some (.inl (.int, 24, .inl (A 609))) := shC_get I A R d (1, 24, 609) (by decide +kernel)
theorem gC_62 (I : Nat → Int32) (A : Nat → Nat → Int32) (R : Nat → Nat → Option Nat) (d : List (Nat × (Nat → Int32))) : (mkC I A R d)[62]? = some (.inl (.int, 20, .inl (A 610))) := shC_get I A R d (1, 20, 610) (by decide +kernel)
theorem gC_63 (I : Nat → Int32) (A : Nat → Nat → Int32) (R : Nat → Nat → Option Nat) (d : List (Nat × (Nat → Int32))) : (mkC I A R d)[63]? = some (.inl (.int, 24, .inl (A 611))) := shC_get I A R d (1, 24, 611) (by decide +kernel)
theorem gC_64 (I : Nat → Int32) (A : Nat → Nat → Int32) (R : Nat → Nat → Option Nat) (d : List (Nat × (Nat → Int32))) : (mkC I A R d)[64]? = some (.inr (8, fC8 I)) := shC_get I A R d (0, 0, 8) (by decide +kernel)
theorem gC_65 (I : Nat → Int32) (A : Nat → Nat → Int32) (R : Nat → Nat → Option Nat) (d : List (Nat × (Nat → Int32))) : (mkC I A R d)[65]? = some (.inl (.int, 40, .inl (A 803))) := shC_get I A R d (1, 40, 803) (by decide +kernel)
theorem gC_66 (I : Nat → Int32) (A : Nat → Nat → Int32) (R : Nat → Nat → Option Nat) (d : List (Nat × (Nat → Int32))) : (mkC I A R d)[66]? = some (.inl (.int, 40, .inl (A 804))) := shC_get I A R d (1, 40, 804) (by decide +kernel)
theorem gC_67 (I : Nat → Int32) (A : Nat → Nat → Int32) (R : Nat → Nat → Option Nat) (d : List (Nat × (Nat → Int32))) : (mkC I A R d)[67]? = some (.inl (.int, 40, .inl (A 805))) := shC_get I A R d (1, 40, 805) (by decide +kernel)
theorem gC_68 (I : Nat → Int32) (A : Nat → Nat → Int32) (R : Nat → Nat → Option Nat) (d : List (Nat × (Nat → Int32))) : (mkC I A R d)[68]? = some (.inl (.int, 40, .inl (A 806))) := shC_get I A R d (1, 40, 806) (by decide +kernel)
theorem gC_69 (I : Nat → Int32) (A : Nat → Nat → Int32) (R : Nat → Nat → Option Nat) (d : List (Nat × (Nat → Int32))) : (mkC I A R d)[69]? = some (.inl (.int, 40, .inl (A 807))) := shC_get I A R d (1, 40, 807) (by decide +kernel)
theorem gC_70 (I : Nat → Int32) (A : Nat → Nat → Int32) (R : Nat → Nat → Option Nat) (d : List (Nat × (Nat → Int32))) : (mkC I A R d)[70]? = some (.inl (.int, 40, .inl (A 808))) := shC_get I A R d (1, 40, 808) (by decide +kernel)
theorem gC_71 (I : Nat → Int32) (A : Nat → Nat → Int32) (R : Nat → Nat → Option Nat) (d : List (Nat × (Nat → Int32))) : (mkC I A R d)[71]? = some (.inl (.int, 20, .inl (A 809))) := shC_get I A R d (1, 20, 809) (by decide +kernel)
theorem gC_72 (I : Nat → Int32) (A : Nat → Nat → Int32) (R : Nat → Nat → Option Nat) (d : List (Nat × (Nat → Int32))) : (mkC I A R d)[72]? = some (.inl (.int, 4, .inl (A 810))) := shC_get I A R d (1, 4, 810) (by decide +kernel)
theorem gC_73 (I : Nat → Int32) (A : Nat → Nat → Int32) (R : Nat → Nat → Option Nat) (d : List (Nat × (Nat → Int32))) : (mkC I A R d)[73]? = some (.inr (4, fC4 I)) := shC_get I A R d (0, 0, 4) (by decide +kernel)
theorem gC_74 (I : Nat → Int32) (A : Nat → Nat → Int32) (R : Nat → Nat → Option Nat) (d : List (Nat × (Nat → Int32))) : (mkC I A R d)[74]? = some (.inl (.int, 5, .inl (A 401))) := shC_get I A R d (1, 5, 401) (by decide +kernel)
theorem gC_75 (I : Nat → Int32) (A : Nat → Nat → Int32) (R : Nat → Nat → Option Nat) (d : List (Nat × (Nat → Int32))) : (mkC I A R d)[75]? = some (.inl (.boolean, 20, .inl (A 402))) := shC_get I A R d (2, 20, 402) (by decide +kernel)
theorem gC_76 (I : Nat → Int32) (A : Nat → Nat → Int32) (R : Nat → Nat → Option Nat) (d : List (Nat × (Nat → Int32))) : (mkC I A R d)[76]? = some (.inl (.int, 20, .inl (A 403))) := shC_get I A R d (1, 20, 403) (by decide +kernel)
theorem gC_77 (I : Nat → Int32) (A : Nat → Nat → Int32) (R : Nat → Nat → Option Nat) (d : List (Nat × (Nat → Int32))) : (mkC I A R d)[77]? = some (.inl (.int, 20, .inl (A 404))) := shC_get I A R d (1, 20, 404) (by decide +kernel)
theorem gC_78 (I : Nat → Int32) (A : Nat → Nat → Int32) (R : Nat → Nat → Option Nat) (d : List (Nat × (Nat → Int32))) : (mkC I A R d)[78]? = some (.inl (.int, 20, .inl (A 405))) := shC_get I A R d (1, 20, 405) (by decide +kernel)
theorem gC_79 (I : Nat → Int32) (A : Nat → Nat → Int32) (R : Nat → Nat → Option Nat) (d : List (Nat × (Nat → Int32))) : (mkC I A R d)[79]? = some (.inl (.int, 8, .inl (A 406))) := shC_get I A R d (1, 8, 406) (by decide +kernel)
theorem gC_80 (I : Nat → Int32) (A : Nat → Nat → Int32) (R : Nat → Nat → Option Nat) (d : List (Nat × (Nat → Int32))) : (mkC I A R d)[80]? = some (.inl (.int, 8, .inl (A 407))) := shC_get I A R d (1, 8, 407) (by decide +kernel)
theorem gC_81 (I : Nat → Int32) (A : Nat → Nat → Int32) (R : Nat → Nat → Option Nat) (d : List (Nat × (Nat → Int32))) : (mkC I A R d)[81]? = some (.inr (7, fC7 I)) := shC_get I A R d (0, 0, 7) (by decide +kernel)
theorem gC_82 (I : Nat → Int32) (A : Nat → Nat → Int32) (R : Nat → Nat → Option Nat) (d : List (Nat × (Nat → Int32))) : (mkC I A R d)[82]? = some (.inl (.int, 9, .inl (A 703))) := shC_get I A R d (1, 9, 703) (by decide +kernel)
theorem gC_83 (I : Nat → Int32) (A : Nat → Nat → Int32) (R : Nat → Nat → Option Nat) (d : List (Nat × (Nat → Int32))) : (mkC I A R d)[83]? = some (.inl (.int, 24, .inl (A 704))) := shC_get I A R d (1, 24, 704) (by decide +kernel)
theorem gC_84 (I : Nat → Int32) (A : Nat → Nat → Int32) (R : Nat → Nat → Option Nat) (d : List (Nat × (Nat → Int32))) : (mkC I A R d)[84]? = some (.inl (.int, 48, .inl (A 706))) := shC_get I A R d (1, 48, 706) (by decide +kernel)
theorem gC_85 (I : Nat → Int32) (A : Nat → Nat → Int32) (R : Nat → Nat → Option Nat) (d : List (Nat × (Nat → Int32))) : (mkC I A R d)[85]? = some (.inr (3, fC3 I)) := shC_get I A R d (0, 0, 3) (by decide +kernel)
theorem gC_86 (I : Nat → Int32) (A : Nat → Nat → Int32) (R : Nat → Nat → Option Nat) (d : List (Nat × (Nat → Int32))) : (mkC I A R d)[86]? = some (.inl (.int, 4, .inl (A 302))) := shC_get I A R d (1, 4, 302) (by decide +kernel)
theorem gC_87 (I : Nat → Int32) (A : Nat → Nat → Int32) (R : Nat → Nat → Option Nat) (d : List (Nat × (Nat → Int32))) : (mkC I A R d)[87]? = some (.inl (.int, 8, .inl (A 304))) := shC_get I A R d (1, 8, 304) (by decide +kernel)
theorem gC_88 (I : Nat → Int32) (A : Nat → Nat → Int32) (R : Nat → Nat → Option Nat) (d : List (Nat × (Nat → Int32))) : (mkC I A R d)[88]? = some (.inl (.int, 8, .inl (A 305))) := shC_get I A R d (1, 8, 305) (by decide +kernel)
theorem gCf11_0 (I : Nat → Int32) : (fC11 I)[0]? = some (.int (I 1100)) := sh_get (t := ftC 11) (f := sh_f I) (1100, none) (by decide +kernel)
theorem gCf11_1 (I : Nat → Int32) : (fC11 I)[1]? = some (.ref 1) := sh_get (t := ftC 11) (f := sh_f I) (1101, some 1) (by decide +kernel)
theorem gCf11_2 (I : Nat → Int32) : (fC11 I)[2]? = some (.ref 7) := sh_get (t := ftC 11) (f := sh_f I) (1102, some 7) (by decide +kernel)
theorem gCf11_3 (I : Nat → Int32) : (fC11 I)[3]? = some (.ref 11) := sh_get (t := ftC 11) (f := sh_f I) (1103, some 11) (by decide +kernel)
theorem gCf11_4 (I : Nat → Int32) : (fC11 I)[4]? = some (.ref 20) := sh_get (t := ftC 11) (f := sh_f I) (1104, some 20) (by decide +kernel)
theorem gCf11_5 (I : Nat → Int32) : (fC11 I)[5]? = some (.ref 35) := sh_get (t := ftC 11) (f := sh_f I) (1105, some 35) (by decide +kernel)
theorem gCf11_6 (I : Nat → Int32) : (fC11 I)[6]? = some (.ref 45) := sh_get (t := ftC 11) (f := sh_f I) (1106, some 45) (by decide +kernel)
theorem gCf11_7 (I : Nat → Int32) : (fC11 I)[7]? = some (.ref 55) := sh_get (t := ftC 11) (f := sh_f I) (1107, some 55) (by decide +kernel)
theorem gCf11_8 (I : Nat → Int32) : (fC11 I)[8]? = some (.ref 64) := sh_get (t := ftC 11) (f := sh_f I) (1108, some 64) (by decide +kernel)
theorem gCf11_9 (I : Nat → Int32) : (fC11 I)[9]? = some (.ref 73) := sh_get (t := ftC 11) (f := sh_f I) (1109, some 73) (by decide +kernel)
theorem gCf11_10 (I : Nat → Int32) : (fC11 I)[10]? = some (.ref 81) := sh_get (t := ftC 11) (f := sh_f I) (1110, some 81) (by decide +kernel)
theorem gCf11_11 (I : Nat → Int32) : (fC11 I)[11]? = some (.ref 85) := sh_get (t := ftC 11) (f := sh_f I) (1111, some 85) (by decide +kernel)
theorem gCf11len (I : Nat → Int32) : (fC11 I).length = 12 := sh_len (t := ftC 11) (f := sh_f I) (by decide +kernel)
theorem gCf2_0 (I : Nat → Int32) : (fC2 I)[0]? = some (.ref 2) := sh_get (t := ftC 2) (f := sh_f I) (200, some 2) (by decide +kernel)
theorem gCf2_1 (I : Nat → Int32) : (fC2 I)[1]? = some (.ref 3) := sh_get (t := ftC 2) (f := sh_f I) (201, some 3) (by decide +kernel)
theorem gCf2_2 (I : Nat → Int32) : (fC2 I)[2]? = some (.ref 4) := sh_get (t := ftC 2) (f := sh_f I) (202, some 4) (by decide +kernel)
theorem gCf2_3 (I : Nat → Int32) : (fC2 I)[3]? = some (.ref 5) := sh_get (t := ftC 2) (f := sh_f I) (203, some 5) (by decide +kernel)
theorem gCf2_4 (I : Nat → Int32) : (fC2 I)[4]? = some (.ref 6) := sh_get (t := ftC 2) (f := sh_f I) (204, some 6) (by decide +kernel)
theorem gCf2len (I : Nat → Int32) : (fC2 I).length = 5 := sh_len (t := ftC 2) (f := sh_f I) (by decide +kernel)
theorem gCf9_0 (I : Nat → Int32) : (fC9 I)[0]? = some (.ref 8) := sh_get (t := ftC 9) (f := sh_f I) (900, some 8) (by decide +kernel)
theorem gCf9_1 (I : Nat → Int32) : (fC9 I)[1]? = some (.int (I 901)) := sh_get (t := ftC 9) (f := sh_f I) (901, none) (by decide +kernel)
theorem gCf9_2 (I : Nat → Int32) : (fC9 I)[2]? = some (.int (I 902)) := sh_get (t := ftC 9) (f := sh_f I) (902, none) (by decide +kernel)
theorem gCf9_3 (I : Nat → Int32) : (fC9 I)[3]? = some (.int (I 903)) := sh_get (t := ftC 9) (f := sh_f I) (903, none) (by decide +kernel)
theorem gCf9_4 (I : Nat → Int32) : (fC9 I)[4]? = some (.int (I 904)) := sh_get (t := ftC 9) (f := sh_f I) (904, none) (by decide +kernel)
theorem gCf9_5 (I : Nat → Int32) : (fC9 I)[5]? = some (.ref 9) := sh_get (t := ftC 9) (f := sh_f I) (905, some 9) (by decide +kernel)
theorem gCf9_6 (I : Nat → Int32) : (fC9 I)[6]? = some (.int (I 906)) := sh_get (t := ftC 9) (f := sh_f I) (906, none) (by decide +kernel)
theorem gCf9_7 (I : Nat → Int32) : (fC9 I)[7]? = some (.ref 10) := sh_get (t := ftC 9) (f := sh_f I) (907, some 10) (by decide +kernel)
theorem gCf9_8 (I : Nat → Int32) : (fC9 I)[8]? = some (.int (I 908)) := sh_get (t := ftC 9) (f := sh_f I) (908, none) (by decide +kernel)
theorem gCf9_9 (I : Nat → Int32) : (fC9 I)[9]? = some (.int (I 909)) := sh_get (t := ftC 9) (f := sh_f I) (909, none) (by decide +kernel)
theorem gCf9len (I : Nat → Int32) : (fC9 I).length = 10 := sh_len (t := ftC 9) (f := sh_f I) (by decide +kernel)
theorem gCf0_0 (I : Nat → Int32) : (fC0 I)[0]? = some (.int (I 0)) := sh_get (t := ftC 0) (f := sh_f I) (0, none) (by decide +kernel)
theorem gCf0_1 (I : Nat → Int32) : (fC0 I)[1]? = some (.ref 12) := sh_get (t := ftC 0) (f := sh_f I) (1, some 12) (by decide +kernel)
theorem gCf0_2 (I : Nat → Int32) : (fC0 I)[2]? = some (.ref 13) := sh_get (t := ftC 0) (f := sh_f I) (2, some 13) (by decide +kernel)
theorem gCf0_3 (I : Nat → Int32) : (fC0 I)[3]? = some (.ref 14) := sh_get (t := ftC 0) (f := sh_f I) (3, some 14) (by decide +kernel)
theorem gCf0_4 (I : Nat → Int32) : (fC0 I)[4]? = some (.ref 15) := sh_get (t := ftC 0) (f := sh_f I) (4, some 15) (by decide +kernel)
theorem gCf0_5 (I : Nat → Int32) : (fC0 I)[5]? = some (.ref 16) := sh_get (t := ftC 0) (f := sh_f I) (5, some 16) (by decide +kernel)
theorem gCf0_6 (I : Nat → Int32) : (fC0 I)[6]? = some (.ref 17) := sh_get (t := ftC 0) (f := sh_f I) (6, some 17) (by decide +kernel)
theorem gCf0_7 (I : Nat → Int32) : (fC0 I)[7]? = some (.ref 18) := sh_get (t := ftC 0) (f := sh_f I) (7, some 18) (by decide +kernel)
theorem gCf0_8 (I : Nat → Int32) : (fC0 I)[8]? = some (.ref 19) := sh_get (t := ftC 0) (f := sh_f I) (8, some 19) (by decide +kernel)
theorem gCf0_9 (I : Nat → Int32) : (fC0 I)[9]? = some (.int (I 9)) := sh_get (t := ftC 0) (f := sh_f I) (9, none) (by decide +kernel)
theorem gCf0len (I : Nat → Int32) : (fC0 I).length = 10 := sh_len (t := ftC 0) (f := sh_f I) (by decide +kernel)
theorem gCf1_0 (I : Nat → Int32) : (fC1 I)[0]? = some (.ref 11) := sh_get (t := ftC 1) (f := sh_f I) (100, some 11) (by decide +kernel)
theorem gCf1_1 (I : Nat → Int32) : (fC1 I)[1]? = some (.int (I 101)) := sh_get (t := ftC 1) (f := sh_f I) (101, none) (by decide +kernel)
theorem gCf1_2 (I : Nat → Int32) : (fC1 I)[2]? = some (.ref 21) := sh_get (t := ftC 1) (f := sh_f I) (102, some 21) (by decide +kernel)
theorem gCf1_3 (I : Nat → Int32) : (fC1 I)[3]? = some (.ref 22) := sh_get (t := ftC 1) (f := sh_f I) (103, some 22) (by decide +kernel)
theorem gCf1_4 (I : Nat → Int32) : (fC1 I)[4]? = some (.ref 23) := sh_get (t := ftC 1) (f := sh_f I) (104, some 23) (by decide +kernel)
theorem gCf1_5 (I : Nat → Int32) : (fC1 I)[5]? = some (.ref 24) := sh_get (t := ftC 1) (f := sh_f I) (105, some 24) (by decide +kernel)
theorem gCf1_6 (I : Nat → Int32) : (fC1 I)[6]? = some (.ref 25) := sh_get (t := ftC 1) (f := sh_f I) (106, some 25) (by decide +kernel)
theorem gCf1_7 (I : Nat → Int32) : (fC1 I)[7]? = some (.int (I 107)) := sh_get (t := ftC 1) (f := sh_f I) (107, none) (by decide +kernel)
theorem gCf1_8 (I : Nat → Int32) : (fC1 I)[8]? = some (.ref 26) := sh_get (t := ftC 1) (f := sh_f I) (108, some 26) (by decide +kernel)
theorem gCf1_9 (I : Nat → Int32) : (fC1 I)[9]? = some (.ref 27) := sh_get (t := ftC 1) (f := sh_f I) (109, some 27) (by decide +kernel)
theorem gCf1_10 (I : Nat → Int32) : (fC1 I)[10]? = some (.ref 28) := sh_get (t := ftC 1) (f := sh_f I) (110, some 28) (by decide +kernel)
theorem gCf1_11 (I : Nat → Int32) : (fC1 I)[11]? = some (.ref 29) := sh_get (t := ftC 1) (f := sh_f I) (111, some 29) (by decide +kernel)
theorem gCf1_12 (I : Nat → Int32) : (fC1 I)[12]? = some (.ref 30) := sh_get (t := ftC 1) (f := sh_f I) (112, some 30) (by decide +kernel)
theorem gCf1_13 (I : Nat → Int32) : (fC1 I)[13]? = some (.int (I 113)) := sh_get (t := ftC 1) (f := sh_f I) (113, none) (by decide +kernel)
theorem gCf1_14 (I : Nat → Int32) : (fC1 I)[14]? = some (.ref 31) := sh_get (t := ftC 1) (f := sh_f I) (114, some 31) (by decide +kernel)
theorem gCf1_15 (I : Nat → Int32) : (fC1 I)[15]? = some (.ref 32) := sh_get (t := ftC 1) (f := sh_f I) (115, some 32) (by decide +kernel)
theorem gCf1_16 (I : Nat → Int32) : (fC1 I)[16]? = some (.ref 33) := sh_get (t := ftC 1) (f := sh_f I) (116, some 33) (by decide +kernel)
theorem gCf1_17 (I : Nat → Int32) : (fC1 I)[17]? = some (.ref 34) := sh_get (t := ftC 1) (f := sh_f I) (117, some 34) (by decide +kernel)
theorem gCf1len (I : Nat → Int32) : (fC1 I).length = 18 := sh_len (t := ftC 1) (f := sh_f I) (by decide +kernel)
theorem gCf5_0 (I : Nat → Int32) : (fC5 I)[0]? = some (.ref 11) := sh_get (t := ftC 5) (f := sh_f I) (500, some 11) (by decide +kernel)
theorem gCf5_1 (I : Nat → Int32) : (fC5 I)[1]? = some (.int (I 501)) := sh_get (t := ftC 5) (f := sh_f I) (501, none) (by decide +kernel)
theorem gCf5_2 (I : Nat → Int32) : (fC5 I)[2]? = some (.ref 36) := sh_get (t := ftC 5) (f := sh_f I) (502, some 36) (by decide +kernel)
theorem gCf5_3 (I : Nat → Int32) : (fC5 I)[3]? = some (.ref 37) := sh_get (t := ftC 5) (f := sh_f I) (503, some 37) (by decide +kernel)
theorem gCf5_4 (I : Nat → Int32) : (fC5 I)[4]? = some (.ref 38) := sh_get (t := ftC 5) (f := sh_f I) (504, some 38) (by decide +kernel)
theorem gCf5_5 (I : Nat → Int32) : (fC5 I)[5]? = some (.ref 39) := sh_get (t := ftC 5) (f := sh_f I) (505, some 39) (by decide +kernel)
theorem gCf5_6 (I : Nat → Int32) : (fC5 I)[6]? = some (.ref 40) := sh_get (t := ftC 5) (f := sh_f I) (506, some 40) (by decide +kernel)
theorem gCf5_7 (I : Nat → Int32) : (fC5 I)[7]? = some (.ref 41) := sh_get (t := ftC 5) (f := sh_f I) (507, some 41) (by decide +kernel)
theorem gCf5_8 (I : Nat → Int32) : (fC5 I)[8]? = some (.ref 42) := sh_get (t := ftC 5) (f := sh_f I) (508, some 42) (by decide +kernel)
theorem gCf5_9 (I : Nat → Int32) : (fC5 I)[9]? = some (.ref 43) := sh_get (t := ftC 5) (f := sh_f I) (509, some 43) (by decide +kernel)
theorem gCf5_10 (I : Nat → Int32) : (fC5 I)[10]? = some (.ref 44) := sh_get (t := ftC 5) (f := sh_f I) (510, some 44) (by decide +kernel)
theorem gCf5len (I : Nat → Int32) : (fC5 I).length = 11 := sh_len (t := ftC 5) (f := sh_f I) (by decide +kernel)
theorem gCf10_0 (I : Nat → Int32) : (fC10 I)[0]? = some (.ref 1) := sh_get (t := ftC 10) (f := sh_f I) (1000, some 1) (by decide +kernel)
theorem gCf10_1 (I : Nat → Int32) : (fC10 I)[1]? = some (.ref 11) := sh_get (t := ftC 10) (f := sh_f I) (1001, some 11) (by decide +kernel)
theorem gCf10_2 (I : Nat → Int32) : (fC10 I)[2]? = some (.ref 20) := sh_get (t := ftC 10) (f := sh_f I) (1002, some 20) (by decide +kernel)
theorem gCf10_3 (I : Nat → Int32) : (fC10 I)[3]? = some (.ref 35) := sh_get (t := ftC 10) (f := sh_f I) (1003, some 35) (by decide +kernel)
theorem gCf10_4 (I : Nat → Int32) : (fC10 I)[4]? = some (.int (I 1004)) := sh_get (t := ftC 10) (f := sh_f I) (1004, none) (by decide +kernel)
theorem gCf10_5 (I : Nat → Int32) : (fC10 I)[5]? = some (.ref 46) := sh_get (t := ftC 10) (f := sh_f I) (1005, some 46) (by decide +kernel)
theorem gCf10_6 (I : Nat → Int32) : (fC10 I)[6]? = some (.ref 47) := sh_get (t := ftC 10) (f := sh_f I) (1006, some 47) (by decide +kernel)
theorem gCf10_7 (I : Nat → Int32) : (fC10 I)[7]? = some (.ref 48) := sh_get (t := ftC 10) (f := sh_f I) (1007, some 48) (by decide +kernel)
theorem gCf10_8 (I : Nat → Int32) : (fC10 I)[8]? = some (.ref 49) := sh_get (t := ftC 10) (f := sh_f I) (1008, some 49) (by decide +kernel)
theorem gCf10_9 (I : Nat → Int32) : (fC10 I)[9]? = some (.int (I 1009)) := sh_get (t := ftC 10) (f := sh_f I) (1009, none) (by decide +kernel)
theorem gCf10_10 (I : Nat → Int32) : (fC10 I)[10]? = some (.ref 50) := sh_get (t := ftC 10) (f := sh_f I) (1010, some 50) (by decide +kernel)
theorem gCf10_11 (I : Nat → Int32) : (fC10 I)[11]? = some (.ref 51) := sh_get (t := ftC 10) (f := sh_f I) (1011, some 51) (by decide +kernel)
theorem gCf10_12 (I : Nat → Int32) : (fC10 I)[12]? = some (.ref 52) := sh_get (t := ftC 10) (f := sh_f I) (1012, some 52) (by decide +kernel)
theorem gCf10_13 (I : Nat → Int32) : (fC10 I)[13]? = some (.int (I 1013)) := sh_get (t := ftC 10) (f := sh_f I) (1013, none) (by decide +kernel)
theorem gCf10_14 (I : Nat → Int32) : (fC10 I)[14]? = some (.ref 53) := sh_get (t := ftC 10) (f := sh_f I) (1014, some 53) (by decide +kernel)
theorem gCf10_15 (I : Nat → Int32) : (fC10 I)[15]? = some (.ref 54) := sh_get (t := ftC 10) (f := sh_f I) (1015, some 54) (by decide +kernel)
theorem gCf10len (I : Nat → Int32) : (fC10 I).length = 16 := sh_len (t := ftC 10) (f := sh_f I) (by decide +kernel)
theorem gCf6_0 (I : Nat → Int32) : (fC6 I)[0]? = some (.ref 1) := sh_get (t := ftC 6) (f := sh_f I) (600, some 1) (by decide +kernel)
theorem gCf6_1 (I : Nat → Int32) : (fC6 I)[1]? = some (.ref 11) := sh_get (t := ftC 6) (f := sh_f I) (601, some 11) (by decide +kernel)
theorem gCf6_2 (I : Nat → Int32) : (fC6 I)[2]? = some (.ref 20) := sh_get (t := ftC 6) (f := sh_f I) (602, some 20) (by decide +kernel)
theorem gCf6_3 (I : Nat → Int32) : (fC6 I)[3]? = some (.ref 35) := sh_get (t := ftC 6) (f := sh_f I) (603, some 35) (by decide +kernel)
theorem gCf6_4 (I : Nat → Int32) : (fC6 I)[4]? = some (.ref 56) := sh_get (t := ftC 6) (f := sh_f I) (604, some 56) (by decide +kernel)
theorem gCf6_5 (I : Nat → Int32) : (fC6 I)[5]? = some (.ref 57) := sh_get (t := ftC 6) (f := sh_f I) (605, some 57) (by decide +kernel)
theorem gCf6_6 (I : Nat → Int32) : (fC6 I)[6]? = some (.ref 58) := sh_get (t := ftC 6) (f := sh_f I) (606, some 58) (by decide +kernel)
theorem gCf6_7 (I : Nat → Int32) : (fC6 I)[7]? = some (.ref 59) := sh_get (t := ftC 6) (f := sh_f I) (607, some 59) (by decide +kernel)
theorem gCf6_8 (I : Nat → Int32) : (fC6 I)[8]? = some (.ref 60) := sh_get (t := ftC 6) (f := sh_f I) (608, some 60) (by decide +kernel)
theorem gCf6_9 (I : Nat → Int32) : (fC6 I)[9]? = some (.ref 61) := sh_get (t := ftC 6) (f := sh_f I) (609, some 61) (by decide +kernel)
theorem gCf6_10 (I : Nat → Int32) : (fC6 I)[10]? = some (.ref 62) := sh_get (t := ftC 6) (f := sh_f I) (610, some 62) (by decide +kernel)
theorem gCf6_11 (I : Nat → Int32) : (fC6 I)[11]? = some (.ref 63) := sh_get (t := ftC 6) (f := sh_f I) (611, some 63) (by decide +kernel)
theorem gCf6len (I : Nat → Int32) : (fC6 I).length = 12 := sh_len (t := ftC 6) (f := sh_f I) (by decide +kernel)
theorem gCf8_0 (I : Nat → Int32) : (fC8 I)[0]? = some (.ref 11) := sh_get (t := ftC 8) (f := sh_f I) (800, some 11) (by decide +kernel)
theorem gCf8_1 (I : Nat → Int32) : (fC8 I)[1]? = some (.ref 35) := sh_get (t := ftC 8) (f := sh_f I) (801, some 35) (by decide +kernel)
theorem gCf8_2 (I : Nat → Int32) : (fC8 I)[2]? = some (.int (I 802)) := sh_get (t := ftC 8) (f := sh_f I) (802, none) (by decide +kernel)
theorem gCf8_3 (I : Nat → Int32) : (fC8 I)[3]? = some (.ref 65) := sh_get (t := ftC 8) (f := sh_f I) (803, some 65) (by decide +kernel)
theorem gCf8_4 (I : Nat → Int32) : (fC8 I)[4]? = some (.ref 66) := sh_get (t := ftC 8) (f := sh_f I) (804, some 66) (by decide +kernel)
theorem gCf8_5 (I : Nat → Int32) : (fC8 I)[5]? = some (.ref 67) := sh_get (t := ftC 8) (f := sh_f I) (805, some 67) (by decide +kernel)
theorem gCf8_6 (I : Nat → Int32) : (fC8 I)[6]? = some (.ref 68) := sh_get (t := ftC 8) (f := sh_f I) (806, some 68) (by decide +kernel)
theorem gCf8_7 (I : Nat → Int32) : (fC8 I)[7]? = some (.ref 69) := sh_get (t := ftC 8) (f := sh_f I) (807, some 69) (by decide +kernel)
theorem gCf8_8 (I : Nat → Int32) : (fC8 I)[8]? = some (.ref 70) := sh_get (t := ftC 8) (f := sh_f I) (808, some 70) (by decide +kernel)
theorem gCf8_9 (I : Nat → Int32) : (fC8 I)[9]? = some (.ref 71) := sh_get (t := ftC 8) (f := sh_f I) (809, some 71) (by decide +kernel)
theorem gCf8_10 (I : Nat → Int32) : (fC8 I)[10]? = some (.ref 72) := sh_get (t := ftC 8) (f := sh_f I) (810, some 72) (by decide +kernel)
theorem gCf8len (I : Nat → Int32) : (fC8 I).length = 11 := sh_len (t := ftC 8) (f := sh_f I) (by decide +kernel)
theorem gCf4_0 (I : Nat → Int32) : (fC4 I)[0]? = some (.ref 35) := sh_get (t := ftC 4) (f := sh_f I) (400, some 35) (by decide +kernel)
theorem gCf4_1 (I : Nat → Int32) : (fC4 I)[1]? = some (.ref 74) := sh_get (t := ftC 4) (f := sh_f I) (401, some 74) (by decide +kernel)
theorem gCf4_2 (I : Nat → Int32) : (fC4 I)[2]? = some (.ref 75) := sh_get (t := ftC 4) (f := sh_f I) (402, some 75) (by decide +kernel)
theorem gCf4_3 (I : Nat → Int32) : (fC4 I)[3]? = some (.ref 76) := sh_get (t := ftC 4) (f := sh_f I) (403, some 76) (by decide +kernel)
theorem gCf4_4 (I : Nat → Int32) : (fC4 I)[4]? = some (.ref 77) := sh_get (t := ftC 4) (f := sh_f I) (404, some 77) (by decide +kernel)
theorem gCf4_5 (I : Nat → Int32) : (fC4 I)[5]? = some (.ref 78) := sh_get (t := ftC 4) (f := sh_f I) (405, some 78) (by decide +kernel)
theorem gCf4_6 (I : Nat → Int32) : (fC4 I)[6]? = some (.ref 79) := sh_get (t := ftC 4) (f := sh_f I) (406, some 79) (by decide +kernel)
theorem gCf4_7 (I : Nat → Int32) : (fC4 I)[7]? = some (.ref 80) := sh_get (t := ftC 4) (f := sh_f I) (407, some 80) (by decide +kernel)
theorem gCf4_8 (I : Nat → Int32) : (fC4 I)[8]? = some (.int (I 408)) := sh_get (t := ftC 4) (f := sh_f I) (408, none) (by decide +kernel)
theorem gCf4_9 (I : Nat → Int32) : (fC4 I)[9]? = some (.int (I 409)) := sh_get (t := ftC 4) (f := sh_f I) (409, none) (by decide +kernel)
theorem gCf4len (I : Nat → Int32) : (fC4 I).length = 10 := sh_len (t := ftC 4) (f := sh_f I) (by decide +kernel)
theorem gCf7_0 (I : Nat → Int32) : (fC7 I)[0]? = some (.ref 1) := sh_get (t := ftC 7) (f := sh_f I) (700, some 1) (by decide +kernel)
theorem gCf7_1 (I : Nat → Int32) : (fC7 I)[1]? = some (.ref 20) := sh_get (t := ftC 7) (f := sh_f I) (701, some 20) (by decide +kernel)
theorem gCf7_2 (I : Nat → Int32) : (fC7 I)[2]? = some (.int (I 702)) := sh_get (t := ftC 7) (f := sh_f I) (702, none) (by decide +kernel)
theorem gCf7_3 (I : Nat → Int32) : (fC7 I)[3]? = some (.ref 82) := sh_get (t := ftC 7) (f := sh_f I) (703, some 82) (by decide +kernel)
theorem gCf7_4 (I : Nat → Int32) : (fC7 I)[4]? = some (.ref 83) := sh_get (t := ftC 7) (f := sh_f I) (704, some 83) (by decide +kernel)
theorem gCf7_5 (I : Nat → Int32) : (fC7 I)[5]? = some (.int (I 705)) := sh_get (t := ftC 7) (f := sh_f I) (705, none) (by decide +kernel)
theorem gCf7_6 (I : Nat → Int32) : (fC7 I)[6]? = some (.ref 84) := sh_get (t := ftC 7) (f := sh_f I) (706, some 84) (by decide +kernel)
theorem gCf7len (I : Nat → Int32) : (fC7 I).length = 7 := sh_len (t := ftC 7) (f := sh_f I) (by decide +kernel)
theorem gCf3_0 (I : Nat → Int32) : (fC3 I)[0]? = some (.ref 11) := sh_get (t := ftC 3) (f := sh_f I) (300, some 11) (by decide +kernel)
theorem gCf3_1 (I : Nat → Int32) : (fC3 I)[1]? = some (.int (I 301)) := sh_get (t := ftC 3) (f := sh_f I) (301, none) (by decide +kernel)
theorem gCf3_2 (I : Nat → Int32) : (fC3 I)[2]? = some (.ref 86) := sh_get (t := ftC 3) (f := sh_f I) (302, some 86) (by decide +kernel)
theorem gCf3_3 (I : Nat → Int32) : (fC3 I)[3]? = some (.int (I 303)) := sh_get (t := ftC 3) (f := sh_f I) (303, none) (by decide +kernel)
theorem gCf3_4 (I : Nat → Int32) : (fC3 I)[4]? = some (.ref 87) := sh_get (t := ftC 3) (f := sh_f I) (304, some 87) (by decide +kernel)
theorem gCf3_5 (I : Nat → Int32) : (fC3 I)[5]? = some (.ref 88) := sh_get (t := ftC 3) (f := sh_f I) (305, some 88) (by decide +kernel)
theorem gCf3len (I : Nat → Int32) : (fC3 I).length = 6 := sh_len (t := ftC 3) (f := sh_f I) (by decide +kernel)
theorem sCf_11_0 (I : Nat → Int32) (A : Nat → Nat → Int32) (R : Nat → Nat → Option Nat) (d : List (Nat × (Nat → Int32))) (v : Int32) : (mkC I A R d).set 0 (.inr (11, (fC11 I).set 0 (.int v))) = mkC (upd I 1100 v) A R d := mkC_st _ _ _ _ _ _ _ (Nat.le_of_ble_eq_true rfl) (sh_oset (ft := ftC) (t := tC) (i := 0) (ci := 11) (k := 0) (key := 1100) (by decide +kernel) I A R v)
theorem sCf_9_1 (I : Nat → Int32) (A : Nat → Nat → Int32) (R : Nat → Nat → Option Nat) (d : List (Nat × (Nat → Int32))) (v : Int32) : (mkC I A R d).set 7 (.inr (9, (fC9 I).set 1 (.int v))) = mkC (upd I 901 v) A R d := mkC_st _ _ _ _ _ _ _ (Nat.le_of_ble_eq_true rfl) (sh_oset (ft := ftC) (t := tC) (i := 7) (ci := 9) (k := 1) (key := 901) (by decide +kernel) I A R v)
theorem sCf_9_2 (I : Nat → Int32) (A : Nat → Nat → Int32) (R : Nat → Nat → Option Nat) (d : List (Nat × (Nat → Int32))) (v : Int32) : (mkC I A R d).set 7 (.inr (9, (fC9 I).set 2 (.int v))) = mkC (upd I 902 v) A R d := mkC_st _ _ _ _ _ _ _ (Nat.le_of_ble_eq_true rfl) (sh_oset (ft := ftC) (t := tC) (i := 7) (ci := 9) (k := 2) (key := 902) (by decide +kernel) I A R v)
theorem sCf_9_3 (I : Nat → Int32) (A : Nat → Nat → Int32) (R : Nat → Nat → Option Nat) (d : List (Nat × (Nat → Int32))) (v : Int32) : (mkC I A R d).set 7 (.inr (9, (fC9 I).set 3 (.int v))) = mkC (upd I 903 v) A R d := mkC_st _ _ _ _ _ _ _ (Nat.le_of_ble_eq_true rfl) (sh_oset (ft := ftC) (t := tC) (i := 7) (ci := 9) (k := 3) (key := 903) (by decide +kernel) I A R v)
theorem sCf_9_4 (I : Nat → Int32) (A : Nat → Nat → Int32) (R : Nat → Nat → Option Nat) (d : List (Nat × (Nat → Int32))) (v : Int32) : (mkC I A R d).set 7 (.inr (9, (fC9 I).set 4 (.int v))) = mkC (upd I 904 v) A R d := mkC_st _ _ _ _ _ _ _ (Nat.le_of_ble_eq_true rfl) (sh_oset (ft := ftC) (t := tC) (i := 7) (ci := 9) (k := 4) (key := 904) (by decide +kernel) I A R v)
theorem sCf_9_6 (I : Nat → Int32) (A : Nat → Nat → Int32) (R : Nat → Nat → Option Nat) (d : List (Nat × (Nat → Int32))) (v : Int32) : (mkC I A R d).set 7 (.inr (9, (fC9 I).set 6 (.int v))) = mkC (upd I 906 v) A R d := mkC_st _ _ _ _ _ _ _ (Nat.le_of_ble_eq_true rfl) (sh_oset (ft := ftC) (t := tC) (i := 7) (ci := 9) (k := 6) (key := 906) (by decide +kernel) I A R v)
theorem sCf_9_8 (I : Nat → Int32) (A : Nat → Nat → Int32) (R : Nat → Nat → Option Nat) (d : List (Nat × (Nat → Int32))) (v : Int32) : (mkC I A R d).set 7 (.inr (9, (fC9 I).set 8 (.int v))) = mkC (upd I 908 v) A R d := mkC_st _ _ _ _ _ _ _ (Nat.le_of_ble_eq_true rfl) (sh_oset (ft := ftC) (t := tC) (i := 7) (ci := 9) (k := 8) (key := 908) (by decide +kernel) I A R v)
theorem sCf_9_9 (I : Nat → Int32) (A : Nat → Nat → Int32) (R : Nat → Nat → Option Nat) (d : List (Nat × (Nat → Int32))) (v : Int32) : (mkC I A R d).set 7 (.inr (9, (fC9 I).set 9 (.int v))) = mkC (upd I 909 v) A R d := mkC_st _ _ _ _ _ _ _ (Nat.le_of_ble_eq_true rfl) (sh_oset (ft := ftC) (t := tC) (i := 7) (ci := 9) (k := 9) (key := 909) (by decide +kernel) I A R v)
theorem sCf_0_0 (I : Nat → Int32) (A : Nat → Nat → Int32) (R : Nat → Nat → Option Nat) (d : List (Nat × (Nat → Int32))) (v : Int32) : (mkC I A R d).set 11 (.inr (0, (fC0 I).set 0 (.int v))) = mkC (upd I 0 v) A R d := mkC_st _ _ _ _ _ _ _ (Nat.le_of_ble_eq_true rfl) (sh_oset (ft := ftC) (t := tC) (i := 11) (ci := 0) (k := 0) (key := 0) (by decide +kernel) I A R v)
theorem sCf_0_9 (I : Nat → Int32) (A : Nat → Nat → Int32) (R : Nat → Nat → Option Nat) (d : List (Nat × (Nat → Int32))) (v : Int32) : (mkC I A R d).set 11 (.inr (0, (fC0 I).set 9 (.int v))) = mkC (upd I 9 v) A R d := mkC_st _ _ _ _ _ _ _ (Nat.le_of_ble_eq_true rfl) (sh_oset (ft := ftC) (t := tC) (i := 11) (ci := 0) (k := 9) (key := 9) (by decide +kernel) I A R v)
theorem sCf_1_1 (I : Nat → Int32) (A : Nat → Nat → Int32) (R : Nat → Nat → Option Nat) (d : List (Nat × (Nat → Int32))) (v : Int32) : (mkC I A R d).set 20 (.inr (1, (fC1 I).set 1 (.int v))) = mkC (upd I 101 v) A R d := mkC_st _ _ _ _ _ _ _ (Nat.le_of_ble_eq_true rfl) (sh_oset (ft := ftC) (t := tC) (i := 20) (ci := 1) (k := 1) (key := 101) (by decide +kernel) I A R v)
theorem sCf_1_7 (I : Nat → Int32) (A : Nat → Nat → Int32) (R : Nat → Nat → Option Nat) (d : List (Nat × (Nat → Int32))) (v : Int32) : (mkC I A R d).set 20 (.inr (1, (fC1 I).set 7 (.int v))) = mkC (upd I 107 v) A R d := mkC_st _ _ _ _ _ _ _ (Nat.le_of_ble_eq_true rfl) (sh_oset (ft := ftC) (t := tC) (i := 20) (ci := 1) (k := 7) (key := 107) (by decide +kernel) I A R v)
theorem sCf_1_13 (I : Nat → Int32) (A : Nat → Nat → Int32) (R : Nat → Nat → Option Nat) (d : List (Nat × (Nat → Int32))) (v : Int32) : (mkC I A R d).set 20 (.inr (1, (fC1 I).set 13 (.int v))) = mkC (upd I 113 v) A R d := mkC_st _ _ _ _ _ _ _ (Nat.le_of_ble_eq_true rfl) (sh_oset (ft := ftC) (t := tC) (i := 20) (ci := 1) (k := 13) (key := 113) (by decide +kernel) I A R v)
theorem sCf_5_1 (I : Nat → Int32) (A : Nat → Nat → Int32) (R : Nat → Nat → Option Nat) (d : List (Nat × (Nat → Int32))) (v : Int32) : (mkC I A R d).set 35 (.inr (5, (fC5 I).set 1 (.int v))) = mkC (upd I 501 v) A R d := mkC_st _ _ _ _ _ _ _ (Nat.le_of_ble_eq_true rfl) (sh_oset (ft := ftC) (t := tC) (i := 35) (ci := 5) (k := 1) (key := 501) (by decide +kernel) I A R v)
theorem sCf_10_4 (I : Nat → Int32) (A : Nat → Nat → Int32) (R : Nat → Nat → Option Nat) (d : List (Nat × (Nat → Int32))) (v : Int32) : (mkC I A R d).set 45 (.inr (10, (fC10 I).set 4 (.int v))) = mkC (upd I 1004 v) A R d := mkC_st _ _ _ _ _ _ _ (Nat.le_of_ble_eq_true rfl) (sh_oset (ft := ftC) (t := tC) (i := 45) (ci := 10) (k := 4) (key := 1004) (by decide +kernel) I A R v)
theorem sCf_10_9 (I : Nat → Int32) (A : Nat → Nat → Int32) (R : Nat → Nat → Option Nat) (d : List (Nat × (Nat → Int32))) (v : Int32) : (mkC I A R d).set 45 (.inr (10, (fC10 I).set 9 (.int v))) = mkC (upd I 1009 v) A R d := mkC_st _ _ _ _ _ _ _ (Nat.le_of_ble_eq_true rfl) (sh_oset (ft := ftC) (t := tC) (i := 45) (ci := 10) (k := 9) (key := 1009) (by decide +kernel) I A R v)
theorem sCf_10_13 (I : Nat → Int32) (A : Nat → Nat → Int32) (R : Nat → Nat → Option Nat) (d : List (Nat × (Nat → Int32))) (v : Int32) : (mkC I A R d).set 45 (.inr (10, (fC10 I).set 13 (.int v))) = mkC (upd I 1013 v) A R d := mkC_st _ _ _ _ _ _ _ (Nat.le_of_ble_eq_true rfl) (sh_oset (ft := ftC) (t := tC) (i := 45) (ci := 10) (k := 13) (key := 1013) (by decide +kernel) I A R v)
theorem sCf_8_2 (I : Nat → Int32) (A : Nat → Nat → Int32) (R : Nat → Nat → Option Nat) (d : List (Nat × (Nat → Int32))) (v : Int32) : (mkC I A R d).set 64 (.inr (8, (fC8 I).set 2 (.int v))) = mkC (upd I 802 v) A R d := mkC_st _ _ _ _ _ _ _ (Nat.le_of_ble_eq_true rfl) (sh_oset (ft := ftC) (t := tC) (i := 64) (ci := 8) (k := 2) (key := 802) (by decide +kernel) I A R v)
theorem sCf_4_8 (I : Nat → Int32) (A : Nat → Nat → Int32) (R : Nat → Nat → Option Nat) (d : List (Nat × (Nat → Int32))) (v : Int32) : (mkC I A R d).set 73 (.inr (4, (fC4 I).set 8 (.int v))) = mkC (upd I 408 v) A R d := mkC_st _ _ _ _ _ _ _ (Nat.le_of_ble_eq_true rfl) (sh_oset (ft := ftC) (t := tC) (i := 73) (ci := 4) (k := 8) (key := 408) (by decide +kernel) I A R v)
theorem sCf_4_9 (I : Nat → Int32) (A : Nat → Nat → Int32) (R : Nat → Nat → Option Nat) (d : List (Nat × (Nat → Int32))) (v : Int32) : (mkC I A R d).set 73 (.inr (4, (fC4 I).set 9 (.int v))) = mkC (upd I 409 v) A R d := mkC_st _ _ _ _ _ _ _ (Nat.le_of_ble_eq_true rfl) (sh_oset (ft := ftC) (t := tC) (i := 73) (ci := 4) (k := 9) (key := 409) (by decide +kernel) I A R v)
theorem sCf_7_2 (I : Nat → Int32) (A : Nat → Nat → Int32) (R : Nat → Nat → Option Nat) (d : List (Nat × (Nat → Int32))) (v : Int32) : (mkC I A R d).set 81 (.inr (7, (fC7 I).set 2 (.int v))) = mkC (upd I 702 v) A R d := mkC_st _ _ _ _ _ _ _ (Nat.le_of_ble_eq_true rfl) (sh_oset (ft := ftC) (t := tC) (i := 81) (ci := 7) (k := 2) (key := 702) (by decide +kernel) I A R v)
theorem sCf_7_5 (I : Nat → Int32) (A : Nat → Nat → Int32) (R : Nat → Nat → Option Nat) (d : List (Nat × (Nat → Int32))) (v : Int32) : (mkC I A R d).set 81 (.inr (7, (fC7 I).set 5 (.int v))) = mkC (upd I 705 v) A R d := mkC_st _ _ _ _ _ _ _ (Nat.le_of_ble_eq_true rfl) (sh_oset (ft := ftC) (t := tC) (i := 81) (ci := 7) (k := 5) (key := 705) (by decide +kernel) I A R v)
theorem sCf_3_1 (I : Nat → Int32) (A : Nat → Nat → Int32) (R : Nat → Nat → Option Nat) (d : List (Nat × (Nat → Int32))) (v : Int32) : (mkC I A R d).set 85 (.inr (3, (fC3 I).set 1 (.int v))) = mkC (upd I 301 v) A R d := mkC_st _ _ _ _ _ _ _ (Nat.le_of_ble_eq_true rfl) (sh_oset (ft := ftC) (t := tC) (i := 85) (ci := 3) (k := 1) (key := 301) (by decide +kernel) I A R v)
theorem sCf_3_3 (I : Nat → Int32) (A : Nat → Nat → Int32) (R : Nat → Nat → Option Nat) (d : List (Nat × (Nat → Int32))) (v : Int32) : (mkC I A R d).set 85 (.inr (3, (fC3 I).set 3 (.int v))) = mkC (upd I 303 v) A R d := mkC_st _ _ _ _ _ _ _ (Nat.le_of_ble_eq_true rfl) (sh_oset (ft := ftC) (t := tC) (i := 85) (ci := 3) (k := 3) (key := 303) (by decide +kernel) I A R v)
theorem sCa_2 (I : Nat → Int32) (A : Nat → Nat → Int32) (R : Nat → Nat → Option Nat) (d : List (Nat × (Nat → Int32))) (f : Nat → Int32) : (mkC I A R d).set 2 (.inl (.int, 120, .inl f)) = mkC I (va_up A 200 f) R d := mkC_st _ _ _ _ _ _ _ (Nat.le_of_ble_eq_true rfl) (sh_aset (ft := ftC) (t := tC) (i := 2) (L := 120) (key := 200) (by decide +kernel) I A R f)
theorem sCa_3 (I : Nat → Int32) (A : Nat → Nat → Int32) (R : Nat → Nat → Option Nat) (d : List (Nat × (Nat → Int32))) (f : Nat → Int32) : (mkC I A R d).set 3 (.inl (.int, 120, .inl f)) = mkC I (va_up A 201 f) R d := mkC_st _ _ _ _ _ _ _ (Nat.le_of_ble_eq_true rfl) (sh_aset (ft := ftC) (t := tC) (i := 3) (L := 120) (key := 201) (by decide +kernel) I A R f)
theorem sCa_4 (I : Nat → Int32) (A : Nat → Nat → Int32) (R : Nat → Nat → Option Nat) (d : List (Nat × (Nat → Int32))) (f : Nat → Int32) : (mkC I A R d).set 4 (.inl (.boolean, 601, .inl f)) = mkC I (va_up A 202 f) R d := mkC_st _ _ _ _ _ _ _ (Nat.le_of_ble_eq_true rfl) (sh_bset (ft := ftC) (t := tC) (i := 4) (L := 601) (key := 202) (by decide +kernel) I A R f)
theorem sCa_6 (I : Nat → Int32) (A : Nat → Nat → Int32) (R : Nat → Nat → Option Nat) (d : List (Nat × (Nat → Int32))) (f : Nat → Int32) : (mkC I A R d).set 6 (.inl (.boolean, 240, .inl f)) = mkC I (va_up A 204 f) R d := mkC_st _ _ _ _ _ _ _ (Nat.le_of_ble_eq_true rfl) (sh_bset (ft := ftC) (t := tC) (i := 6) (L := 240) (key := 204) (by decide +kernel) I A R f)
theorem sCa_8 (I : Nat → Int32) (A : Nat → Nat → Int32) (R : Nat → Nat → Option Nat) (d : List (Nat × (Nat → Int32))) (f : Nat → Int32) : (mkC I A R d).set 8 (.inl (.int, 160, .inl f)) = mkC I (va_up A 900 f) R d := mkC_st _ _ _ _ _ _ _ (Nat.le_of_ble_eq_true rfl) (sh_aset (ft := ftC) (t := tC) (i := 8) (L := 160) (key := 900) (by decide +kernel) I A R f)
theorem sCa_9 (I : Nat → Int32) (A : Nat → Nat → Int32) (R : Nat → Nat → Option Nat) (d : List (Nat × (Nat → Int32))) (f : Nat → Int32) : (mkC I A R d).set 9 (.inl (.int, 160, .inl f)) = mkC I (va_up A 905 f) R d := mkC_st _ _ _ _ _ _ _ (Nat.le_of_ble_eq_true rfl) (sh_aset (ft := ftC) (t := tC) (i := 9) (L := 160) (key := 905) (by decide +kernel) I A R f)
theorem sCa_10 (I : Nat → Int32) (A : Nat → Nat → Int32) (R : Nat → Nat → Option Nat) (d : List (Nat × (Nat → Int32))) (f : Nat → Int32) : (mkC I A R d).set 10 (.inl (.int, 164, .inl f)) = mkC I (va_up A 907 f) R d := mkC_st _ _ _ _ _ _ _ (Nat.le_of_ble_eq_true rfl) (sh_aset (ft := ftC) (t := tC) (i := 10) (L := 164) (key := 907) (by decide +kernel) I A R f)
theorem sCa_12 (I : Nat → Int32) (A : Nat → Nat → Int32) (R : Nat → Nat → Option Nat) (d : List (Nat × (Nat → Int32))) (f : Nat → Int32) : (mkC I A R d).set 12 (.inl (.int, 20, .inl f)) = mkC I (va_up A 1 f) R d := mkC_st _ _ _ _ _ _ _ (Nat.le_of_ble_eq_true rfl) (sh_aset (ft := ftC) (t := tC) (i := 12) (L := 20) (key := 1) (by decide +kernel) I A R f)
theorem sCa_13 (I : Nat → Int32) (A : Nat → Nat → Int32) (R : Nat → Nat → Option Nat) (d : List (Nat × (Nat → Int32))) (f : Nat → Int32) : (mkC I A R d).set 13 (.inl (.int, 20, .inl f)) = mkC I (va_up A 2 f) R d := mkC_st _ _ _ _ _ _ _ (Nat.le_of_ble_eq_true rfl) (sh_aset (ft := ftC) (t := tC) (i := 13) (L := 20) (key := 2) (by decide +kernel) I A R f)
theorem sCa_14 (I : Nat → Int32) (A : Nat → Nat → Int32) (R : Nat → Nat → Option Nat) (d : List (Nat × (Nat → Int32))) (f : Nat → Int32) : (mkC I A R d).set 14 (.inl (.int, 20, .inl f)) = mkC I (va_up A 3 f) R d := mkC_st _ _ _ _ _ _ _ (Nat.le_of_ble_eq_true rfl) (sh_aset (ft := ftC) (t := tC) (i := 14) (L := 20) (key := 3) (by decide +kernel) I A R f)
theorem sCa_15 (I : Nat → Int32) (A : Nat → Nat → Int32) (R : Nat → Nat → Option Nat) (d : List (Nat × (Nat → Int32))) (f : Nat → Int32) : (mkC I A R d).set 15 (.inl (.int, 20, .inl f)) = mkC I (va_up A 4 f) R d := mkC_st _ _ _ _ _ _ _ (Nat.le_of_ble_eq_true rfl) (sh_aset (ft := ftC) (t := tC) (i := 15) (L := 20) (key := 4) (by decide +kernel) I A R f)
theorem sCa_18 (I : Nat → Int32) (A : Nat → Nat → Int32) (R : Nat → Nat → Option Nat) (d : List (Nat × (Nat → Int32))) (f : Nat → Int32) : (mkC I A R d).set 18 (.inl (.int, 6, .inl f)) = mkC I (va_up A 7 f) R d := mkC_st _ _ _ _ _ _ _ (Nat.le_of_ble_eq_true rfl) (sh_aset (ft := ftC) (t := tC) (i := 18) (L := 6) (key := 7) (by decide +kernel) I A R f)
theorem sCa_19 (I : Nat → Int32) (A : Nat → Nat → Int32) (R : Nat → Nat → Option Nat) (d : List (Nat × (Nat → Int32))) (f : Nat → Int32) : (mkC I A R d).set 19 (.inl (.int, 64, .inl f)) = mkC I (va_up A 8 f) R d := mkC_st _ _ _ _ _ _ _ (Nat.le_of_ble_eq_true rfl) (sh_aset (ft := ftC) (t := tC) (i := 19) (L := 64) (key := 8) (by decide +kernel) I A R f)
theorem sCa_21 (I : Nat → Int32) (A : Nat → Nat → Int32) (R : Nat → Nat → Option Nat) (d : List (Nat × (Nat → Int32))) (f : Nat → Int32) : (mkC I A R d).set 21 (.inl (.int, 24, .inl f)) = mkC I (va_up A 102 f) R d := mkC_st _ _ _ _ _ _ _ (Nat.le_of_ble_eq_true rfl) (sh_aset (ft := ftC) (t := tC) (i := 21) (L := 24) (key := 102) (by decide +kernel) I A R f)
theorem sCa_22 (I : Nat → Int32) (A : Nat → Nat → Int32) (R : Nat → Nat → Option Nat) (d : List (Nat × (Nat → Int32))) (f : Nat → Int32) : (mkC I A R d).set 22 (.inl (.int, 24, .inl f)) = mkC I (va_up A 103 f) R d := mkC_st _ _ _ _ _ _ _ (Nat.le_of_ble_eq_true rfl) (sh_aset (ft := ftC) (t := tC) (i := 22) (L := 24) (key := 103) (by decide +kernel) I A R f)
theorem sCa_23 (I : Nat → Int32) (A : Nat → Nat → Int32) (R : Nat → Nat → Option Nat) (d : List (Nat × (Nat → Int32))) (f : Nat → Int32) : (mkC I A R d).set 23 (.inl (.int, 24, .inl f)) = mkC I (va_up A 104 f) R d := mkC_st _ _ _ _ _ _ _ (Nat.le_of_ble_eq_true rfl) (sh_aset (ft := ftC) (t := tC) (i := 23) (L := 24) (key := 104) (by decide +kernel) I A R f)
theorem sCa_24 (I : Nat → Int32) (A : Nat → Nat → Int32) (R : Nat → Nat → Option Nat) (d : List (Nat × (Nat → Int32))) (f : Nat → Int32) : (mkC I A R d).set 24 (.inl (.int, 24, .inl f)) = mkC I (va_up A 105 f) R d := mkC_st _ _ _ _ _ _ _ (Nat.le_of_ble_eq_true rfl) (sh_aset (ft := ftC) (t := tC) (i := 24) (L := 24) (key := 105) (by decide +kernel) I A R f)
theorem sCa_25 (I : Nat → Int32) (A : Nat → Nat → Int32) (R : Nat → Nat → Option Nat) (d : List (Nat × (Nat → Int32))) (f : Nat → Int32) : (mkC I A R d).set 25 (.inl (.int, 24, .inl f)) = mkC I (va_up A 106 f) R d := mkC_st _ _ _ _ _ _ _ (Nat.le_of_ble_eq_true rfl) (sh_aset (ft := ftC) (t := tC) (i := 25) (L := 24) (key := 106) (by decide +kernel) I A R f)
theorem sCa_26 (I : Nat → Int32) (A : Nat → Nat → Int32) (R : Nat → Nat → Option Nat) (d : List (Nat × (Nat → Int32))) (f : Nat → Int32) : (mkC I A R d).set 26 (.inl (.int, 200, .inl f)) = mkC I (va_up A 108 f) R d := mkC_st _ _ _ _ _ _ _ (Nat.le_of_ble_eq_true rfl) (sh_aset (ft := ftC) (t := tC) (i := 26) (L := 200) (key := 108) (by decide +kernel) I A R f)
theorem sCa_27 (I : Nat → Int32) (A : Nat → Nat → Int32) (R : Nat → Nat → Option Nat) (d : List (Nat × (Nat → Int32))) (f : Nat → Int32) : (mkC I A R d).set 27 (.inl (.int, 200, .inl f)) = mkC I (va_up A 109 f) R d := mkC_st _ _ _ _ _ _ _ (Nat.le_of_ble_eq_true rfl) (sh_aset (ft := ftC) (t := tC) (i := 27) (L := 200) (key := 109) (by decide +kernel) I A R f)
theorem sCa_28 (I : Nat → Int32) (A : Nat → Nat → Int32) (R : Nat → Nat → Option Nat) (d : List (Nat × (Nat → Int32))) (f : Nat → Int32) : (mkC I A R d).set 28 (.inl (.int, 200, .inl f)) = mkC I (va_up A 110 f) R d := mkC_st _ _ _ _ _ _ _ (Nat.le_of_ble_eq_true rfl) (sh_aset (ft := ftC) (t := tC) (i := 28) (L := 200) (key := 110) (by decide +kernel) I A R f)
theorem sCa_29 (I : Nat → Int32) (A : Nat → Nat → Int32) (R : Nat → Nat → Option Nat) (d : List (Nat × (Nat → Int32))) (f : Nat → Int32) : (mkC I A R d).set 29 (.inl (.int, 200, .inl f)) = mkC I (va_up A 111 f) R d := mkC_st _ _ _ _ _ _ _ (Nat.le_of_ble_eq_true rfl) (sh_aset (ft := ftC) (t := tC) (i := 29) (L := 200) (key := 111) (by decide +kernel) I A R f)
theorem sCa_30 (I : Nat → Int32) (A : Nat → Nat → Int32) (R : Nat → Nat → Option Nat) (d : List (Nat × (Nat → Int32))) (f : Nat → Int32) : (mkC I A R d).set 30 (.inl (.int, 200, .inl f)) = mkC I (va_up A 112 f) R d := mkC_st _ _ _ _ _ _ _ (Nat.le_of_ble_eq_true rfl) (sh_aset (ft := ftC) (t := tC) (i := 30) (L := 200) (key := 112) (by decide +kernel) I A R f)
theorem sCa_31 (I : Nat → Int32) (A : Nat → Nat → Int32) (R : Nat → Nat → Option Nat) (d : List (Nat × (Nat → Int32))) (f : Nat → Int32) : (mkC I A R d).set 31 (.inl (.int, 60, .inl f)) = mkC I (va_up A 114 f) R d := mkC_st _ _ _ _ _ _ _ (Nat.le_of_ble_eq_true rfl) (sh_aset (ft := ftC) (t := tC) (i := 31) (L := 60) (key := 114) (by decide +kernel) I A R f)
theorem sCa_32 (I : Nat → Int32) (A : Nat → Nat → Int32) (R : Nat → Nat → Option Nat) (d : List (Nat × (Nat → Int32))) (f : Nat → Int32) : (mkC I A R d).set 32 (.inl (.int, 60, .inl f)) = mkC I (va_up A 115 f) R d := mkC_st _ _ _ _ _ _ _ (Nat.le_of_ble_eq_true rfl) (sh_aset (ft := ftC) (t := tC) (i := 32) (L := 60) (key := 115) (by decide +kernel) I A R f)
theorem sCa_33 (I : Nat → Int32) (A : Nat → Nat → Int32) (R : Nat → Nat → Option Nat) (d : List (Nat × (Nat → Int32))) (f : Nat → Int32) : (mkC I A R d).set 33 (.inl (.int, 60, .inl f)) = mkC I (va_up A 116 f) R d := mkC_st _ _ _ _ _ _ _ (Nat.le_of_ble_eq_true rfl) (sh_aset (ft := ftC) (t := tC) (i := 33) (L := 60) (key := 116) (by decide +kernel) I A R f)
theorem sCa_34 (I : Nat → Int32) (A : Nat → Nat → Int32) (R : Nat → Nat → Option Nat) (d : List (Nat × (Nat → Int32))) (f : Nat → Int32) : (mkC I A R d).set 34 (.inl (.int, 60, .inl f)) = mkC I (va_up A 117 f) R d := mkC_st _ _ _ _ _ _ _ (Nat.le_of_ble_eq_true rfl) (sh_aset (ft := ftC) (t := tC) (i := 34) (L := 60) (key := 117) (by decide +kernel) I A R f)
theorem sCa_36 (I : Nat → Int32) (A : Nat → Nat → Int32) (R : Nat → Nat → Option Nat) (d : List (Nat × (Nat → Int32))) (f : Nat → Int32) : (mkC I A R d).set 36 (.inl (.int, 20, .inl f)) = mkC I (va_up A 502 f) R d := mkC_st _ _ _ _ _ _ _ (Nat.le_of_ble_eq_true rfl) (sh_aset (ft := ftC) (t := tC) (i := 36) (L := 20) (key := 502) (by decide +kernel) I A R f)
theorem sCa_37 (I : Nat → Int32) (A : Nat → Nat → Int32) (R : Nat → Nat → Option Nat) (d : List (Nat × (Nat → Int32))) (f : Nat → Int32) : (mkC I A R d).set 37 (.inl (.int, 20, .inl f)) = mkC I (va_up A 503 f) R d := mkC_st _ _ _ _ _ _ _ (Nat.le_of_ble_eq_true rfl) (sh_aset (ft := ftC) (t := tC) (i := 37) (L := 20) (key := 503) (by decide +kernel) I A R f)
theorem sCa_38 (I : Nat → Int32) (A : Nat → Nat → Int32) (R : Nat → Nat → Option Nat) (d : List (Nat × (Nat → Int32))) (f : Nat → Int32) : (mkC I A R d).set 38 (.inl (.int, 20, .inl f)) = mkC I (va_up A 504 f) R d := mkC_st _ _ _ _ _ _ _ (Nat.le_of_ble_eq_true rfl) (sh_aset (ft := ftC) (t := tC) (i := 38) (L := 20) (key := 504) (by decide +kernel) I A R f)
theorem sCa_39 (I : Nat → Int32) (A : Nat → Nat → Int32) (R : Nat → Nat → Option Nat) (d : List (Nat × (Nat → Int32))) (f : Nat → Int32) : (mkC I A R d).set 39 (.inl (.int, 20, .inl f)) = mkC I (va_up A 505 f) R d := mkC_st _ _ _ _ _ _ _ (Nat.le_of_ble_eq_true rfl) (sh_aset (ft := ftC) (t := tC) (i := 39) (L := 20) (key := 505) (by decide +kernel) I A R f)
theorem sCa_40 (I : Nat → Int32) (A : Nat → Nat → Int32) (R : Nat → Nat → Option Nat) (d : List (Nat × (Nat → Int32))) (f : Nat → Int32) : (mkC I A R d).set 40 (.inl (.int, 20, .inl f)) = mkC I (va_up A 506 f) R d := mkC_st _ _ _ _ _ _ _ (Nat.le_of_ble_eq_true rfl) (sh_aset (ft := ftC) (t := tC) (i := 40) (L := 20) (key := 506) (by decide +kernel) I A R f)
theorem sCa_41 (I : Nat → Int32) (A : Nat → Nat → Int32) (R : Nat → Nat → Option Nat) (d : List (Nat × (Nat → Int32))) (f : Nat → Int32) : (mkC I A R d).set 41 (.inl (.int, 20, .inl f)) = mkC I (va_up A 507 f) R d := mkC_st _ _ _ _ _ _ _ (Nat.le_of_ble_eq_true rfl) (sh_aset (ft := ftC) (t := tC) (i := 41) (L := 20) (key := 507) (by decide +kernel) I A R f)
theorem sCa_42 (I : Nat → Int32) (A : Nat → Nat → Int32) (R : Nat → Nat → Option Nat) (d : List (Nat × (Nat → Int32))) (f : Nat → Int32) : (mkC I A R d).set 42 (.inl (.int, 20, .inl f)) = mkC I (va_up A 508 f) R d := mkC_st _ _ _ _ _ _ _ (Nat.le_of_ble_eq_true rfl) (sh_aset (ft := ftC) (t := tC) (i := 42) (L := 20) (key := 508) (by decide +kernel) I A R f)
theorem sCa_43 (I : Nat → Int32) (A : Nat → Nat → Int32) (R : Nat → Nat → Option Nat) (d : List (Nat × (Nat → Int32))) (f : Nat → Int32) : (mkC I A R d).set 43 (.inl (.boolean, 20, .inl f)) = mkC I (va_up A 509 f) R d := mkC_st _ _ _ _ _ _ _ (Nat.le_of_ble_eq_true rfl) (sh_bset (ft := ftC) (t := tC) (i := 43) (L := 20) (key := 509) (by decide +kernel) I A R f)
theorem sCa_44 (I : Nat → Int32) (A : Nat → Nat → Int32) (R : Nat → Nat → Option Nat) (d : List (Nat × (Nat → Int32))) (f : Nat → Int32) : (mkC I A R d).set 44 (.inl (.int, 601, .inl f)) = mkC I (va_up A 510 f) R d := mkC_st _ _ _ _ _ _ _ (Nat.le_of_ble_eq_true rfl) (sh_aset (ft := ftC) (t := tC) (i := 44) (L := 601) (key := 510) (by decide +kernel) I A R f)
theorem sCa_46 (I : Nat → Int32) (A : Nat → Nat → Int32) (R : Nat → Nat → Option Nat) (d : List (Nat × (Nat → Int32))) (f : Nat → Int32) : (mkC I A R d).set 46 (.inl (.int, 8, .inl f)) = mkC I (va_up A 1005 f) R d := mkC_st _ _ _ _ _ _ _ (Nat.le_of_ble_eq_true rfl) (sh_aset (ft := ftC) (t := tC) (i := 46) (L := 8) (key := 1005) (by decide +kernel) I A R f)
theorem sCa_47 (I : Nat → Int32) (A : Nat → Nat → Int32) (R : Nat → Nat → Option Nat) (d : List (Nat × (Nat → Int32))) (f : Nat → Int32) : (mkC I A R d).set 47 (.inl (.int, 8, .inl f)) = mkC I (va_up A 1006 f) R d := mkC_st _ _ _ _ _ _ _ (Nat.le_of_ble_eq_true rfl) (sh_aset (ft := ftC) (t := tC) (i := 47) (L := 8) (key := 1006) (by decide +kernel) I A R f)
theorem sCa_48 (I : Nat → Int32) (A : Nat → Nat → Int32) (R : Nat → Nat → Option Nat) (d : List (Nat × (Nat → Int32))) (f : Nat → Int32) : (mkC I A R d).set 48 (.inl (.int, 8, .inl f)) = mkC I (va_up A 1007 f) R d := mkC_st _ _ _ _ _ _ _ (Nat.le_of_ble_eq_true rfl) (sh_aset (ft := ftC) (t := tC) (i := 48) (L := 8) (key := 1007) (by decide +kernel) I A R f)
theorem sCa_49 (I : Nat → Int32) (A : Nat → Nat → Int32) (R : Nat → Nat → Option Nat) (d : List (Nat × (Nat → Int32))) (f : Nat → Int32) : (mkC I A R d).set 49 (.inl (.int, 8, .inl f)) = mkC I (va_up A 1008 f) R d := mkC_st _ _ _ _ _ _ _ (Nat.le_of_ble_eq_true rfl) (sh_aset (ft := ftC) (t := tC) (i := 49) (L := 8) (key := 1008) (by decide +kernel) I A R f)
theorem sCa_50 (I : Nat → Int32) (A : Nat → Nat → Int32) (R : Nat → Nat → Option Nat) (d : List (Nat × (Nat → Int32))) (f : Nat → Int32) : (mkC I A R d).set 50 (.inl (.int, 10, .inl f)) = mkC I (va_up A 1010 f) R d := mkC_st _ _ _ _ _ _ _ (Nat.le_of_ble_eq_true rfl) (sh_aset (ft := ftC) (t := tC) (i := 50) (L := 10) (key := 1010) (by decide +kernel) I A R f)
theorem sCa_51 (I : Nat → Int32) (A : Nat → Nat → Int32) (R : Nat → Nat → Option Nat) (d : List (Nat × (Nat → Int32))) (f : Nat → Int32) : (mkC I A R d).set 51 (.inl (.int, 5, .inl f)) = mkC I (va_up A 1011 f) R d := mkC_st _ _ _ _ _ _ _ (Nat.le_of_ble_eq_true rfl) (sh_aset (ft := ftC) (t := tC) (i := 51) (L := 5) (key := 1011) (by decide +kernel) I A R f)
theorem sCa_52 (I : Nat → Int32) (A : Nat → Nat → Int32) (R : Nat → Nat → Option Nat) (d : List (Nat × (Nat → Int32))) (f : Nat → Int32) : (mkC I A R d).set 52 (.inl (.int, 100, .inl f)) = mkC I (va_up A 1012 f) R d := mkC_st _ _ _ _ _ _ _ (Nat.le_of_ble_eq_true rfl) (sh_aset (ft := ftC) (t := tC) (i := 52) (L := 100) (key := 1012) (by decide +kernel) I A R f)
theorem sCa_53 (I : Nat → Int32) (A : Nat → Nat → Int32) (R : Nat → Nat → Option Nat) (d : List (Nat × (Nat → Int32))) (f : Nat → Int32) : (mkC I A R d).set 53 (.inl (.boolean, 480, .inl f)) = mkC I (va_up A 1014 f) R d := mkC_st _ _ _ _ _ _ _ (Nat.le_of_ble_eq_true rfl) (sh_bset (ft := ftC) (t := tC) (i := 53) (L := 480) (key := 1014) (by decide +kernel) I A R f)
theorem sCa_54 (I : Nat → Int32) (A : Nat → Nat → Int32) (R : Nat → Nat → Option Nat) (d : List (Nat × (Nat → Int32))) (f : Nat → Int32) : (mkC I A R d).set 54 (.inl (.int, 480, .inl f)) = mkC I (va_up A 1015 f) R d := mkC_st _ _ _ _ _ _ _ (Nat.le_of_ble_eq_true rfl) (sh_aset (ft := ftC) (t := tC) (i := 54) (L := 480) (key := 1015) (by decide +kernel) I A R f)
theorem sCa_56 (I : Nat → Int32) (A : Nat → Nat → Int32) (R : Nat → Nat → Option Nat) (d : List (Nat × (Nat → Int32))) (f : Nat → Int32) : (mkC I A R d).set 56 (.inl (.int, 480, .inl f)) = mkC I (va_up A 604 f) R d := mkC_st _ _ _ _ _ _ _ (Nat.le_of_ble_eq_true rfl) (sh_aset (ft := ftC) (t := tC) (i := 56) (L := 480) (key := 604) (by decide +kernel) I A R f)
theorem sCa_57 (I : Nat → Int32) (A : Nat → Nat → Int32) (R : Nat → Nat → Option Nat) (d : List (Nat × (Nat → Int32))) (f : Nat → Int32) : (mkC I A R d).set 57 (.inl (.int, 480, .inl f)) = mkC I (va_up A 605 f) R d := mkC_st _ _ _ _ _ _ _ (Nat.le_of_ble_eq_true rfl) (sh_aset (ft := ftC) (t := tC) (i := 57) (L := 480) (key := 605) (by decide +kernel) I A R f)
theorem sCa_58 (I : Nat → Int32) (A : Nat → Nat → Int32) (R : Nat → Nat → Option Nat) (d : List (Nat × (Nat → Int32))) (f : Nat → Int32) : (mkC I A R d).set 58 (.inl (.int, 24, .inl f)) = mkC I (va_up A 606 f) R d := mkC_st _ _ _ _ _ _ _ (Nat.le_of_ble_eq_true rfl) (sh_aset (ft := ftC) (t := tC) (i := 58) (L := 24) (key := 606) (by decide +kernel) I A R f)
theorem sCa_59 (I : Nat → Int32) (A : Nat → Nat → Int32) (R : Nat → Nat → Option Nat) (d : List (Nat × (Nat → Int32))) (f : Nat → Int32) : (mkC I A R d).set 59 (.inl (.int, 20, .inl f)) = mkC I (va_up A 607 f) R d := mkC_st _ _ _ _ _ _ _ (Nat.le_of_ble_eq_true rfl) (sh_aset (ft := ftC) (t := tC) (i := 59) (L := 20) (key := 607) (by decide +kernel) I A R f)
theorem sCa_60 (I : Nat → Int32) (A : Nat → Nat → Int32) (R : Nat → Nat → Option Nat) (d : List (Nat × (Nat → Int32))) (f : Nat → Int32) : (mkC I A R d).set 60 (.inl (.boolean, 20, .inl f)) = mkC I (va_up A 608 f) R d := mkC_st _ _ _ _ _ _ _ (Nat.le_of_ble_eq_true rfl) (sh_bset (ft := ftC) (t := tC) (i := 60) (L := 20) (key := 608) (by decide +kernel) I A R f)
theorem sCa_61 (I : Nat → Int32) (A : Nat → Nat → Int32) (R : Nat → Nat → Option Nat) (d : List (Nat × (Nat → Int32))) (f : Nat → Int32) : (mkC I A R d).set 61 (.inl (.int, 24, .inl f)) = mkC I (va_up A 609 f) R d := mkC_st _ _ _ _ _ _ _ (Nat.le_of_ble_eq_true rfl) (sh_aset (ft := ftC) (t := tC) (i := 61) (L := 24) (key := 609) (by decide +kernel) I A R f)
theorem sCa_62 (I : Nat → Int32) (A : Nat → Nat → Int32) (R : Nat → Nat → Option Nat) (d : List (Nat × (Nat → Int32))) (f : Nat → Int32) : (mkC I A R d).set 62 (.inl (.int, 20, .inl f)) = mkC I (va_up A 610 f) R d := mkC_st _ _ _ _ _ _ _ (Nat.le_of_ble_eq_true rfl) (sh_aset (ft := ftC) (t := tC) (i := 62) (L := 20) (key := 610) (by decide +kernel) I A R f)
theorem sCa_63 (I : Nat → Int32) (A : Nat → Nat → Int32) (R : Nat → Nat → Option Nat) (d : List (Nat × (Nat → Int32))) (f : Nat → Int32) : (mkC I A R d).set 63 (.inl (.int, 24, .inl f)) = mkC I (va_up A 611 f) R d := mkC_st _ _ _ _ _ _ _ (Nat.le_of_ble_eq_true rfl) (sh_aset (ft := ftC) (t := tC) (i := 63) (L := 24) (key := 611) (by decide +kernel) I A R f)
theorem sCa_65 (I : Nat → Int32) (A : Nat → Nat → Int32) (R : Nat → Nat → Option Nat) (d : List (Nat × (Nat → Int32))) (f : Nat → Int32) : (mkC I A R d).set 65 (.inl (.int, 40, .inl f)) = mkC I (va_up A 803 f) R d := mkC_st _ _ _ _ _ _ _ (Nat.le_of_ble_eq_true rfl) (sh_aset (ft := ftC) (t := tC) (i := 65) (L := 40) (key := 803) (by decide +kernel) I A R f)
theorem sCa_66 (I : Nat → Int32) (A : Nat → Nat → Int32) (R : Nat → Nat → Option Nat) (d : List (Nat × (Nat → Int32))) (f : Nat → Int32) : (mkC I A R d).set 66 (.inl (.int, 40, .inl f)) = mkC I (va_up A 804 f) R d := mkC_st _ _ _ _ _ _ _ (Nat.le_of_ble_eq_true rfl) (sh_aset (ft := ftC) (t := tC) (i := 66) (L := 40) (key := 804) (by decide +kernel) I A R f)
theorem sCa_67 (I : Nat → Int32) (A : Nat → Nat → Int32) (R : Nat → Nat → Option Nat) (d : List (Nat × (Nat → Int32))) (f : Nat → Int32) : (mkC I A R d).set 67 (.inl (.int, 40, .inl f)) = mkC I (va_up A 805 f) R d := mkC_st _ _ _ _ _ _ _ (Nat.le_of_ble_eq_true rfl) (sh_aset (ft := ftC) (t := tC) (i := 67) (L := 40) (key := 805) (by decide +kernel) I A R f)
theorem sCa_68 (I : Nat → Int32) (A : Nat → Nat → Int32) (R : Nat → Nat → Option Nat) (d : List (Nat × (Nat → Int32))) (f : Nat → Int32) : (mkC I A R d).set 68 (.inl (.int, 40, .inl f)) = mkC I (va_up A 806 f) R d := mkC_st _ _ _ _ _ _ _ (Nat.le_of_ble_eq_true rfl) (sh_aset (ft := ftC) (t := tC) (i := 68) (L := 40) (key := 806) (by decide +kernel) I A R f)
theorem sCa_69 (I : Nat → Int32) (A : Nat → Nat → Int32) (R : Nat → Nat → Option Nat) (d : List (Nat × (Nat → Int32))) (f : Nat → Int32) : (mkC I A R d).set 69 (.inl (.int, 40, .inl f)) = mkC I (va_up A 807 f) R d := mkC_st _ _ _ _ _ _ _ (Nat.le_of_ble_eq_true rfl) (sh_aset (ft := ftC) (t := tC) (i := 69) (L := 40) (key := 807) (by decide +kernel) I A R f)
theorem sCa_70 (I : Nat → Int32) (A : Nat → Nat → Int32) (R : Nat → Nat → Option Nat) (d : List (Nat × (Nat → Int32))) (f : Nat → Int32) : (mkC I A R d).set 70 (.inl (.int, 40, .inl f)) = mkC I (va_up A 808 f) R d := mkC_st _ _ _ _ _ _ _ (Nat.le_of_ble_eq_true rfl) (sh_aset (ft := ftC) (t := tC) (i := 70) (L := 40) (key := 808) (by decide +kernel) I A R f)
theorem sCa_71 (I : Nat → Int32) (A : Nat → Nat → Int32) (R : Nat → Nat → Option Nat) (d : List (Nat × (Nat → Int32))) (f : Nat → Int32) : (mkC I A R d).set 71 (.inl (.int, 20, .inl f)) = mkC I (va_up A 809 f) R d := mkC_st _ _ _ _ _ _ _ (Nat.le_of_ble_eq_true rfl) (sh_aset (ft := ftC) (t := tC) (i := 71) (L := 20) (key := 809) (by decide +kernel) I A R f)
theorem sCa_72 (I : Nat → Int32) (A : Nat → Nat → Int32) (R : Nat → Nat → Option Nat) (d : List (Nat × (Nat → Int32))) (f : Nat → Int32) : (mkC I A R d).set 72 (.inl (.int, 4, .inl f)) = mkC I (va_up A 810 f) R d := mkC_st _ _ _ _ _ _ _ (Nat.le_of_ble_eq_true rfl) (sh_aset (ft := ftC) (t := tC) (i := 72) (L := 4) (key := 810) (by decide +kernel) I A R f)
theorem sCa_74 (I : Nat → Int32) (A : Nat → Nat → Int32) (R : Nat → Nat → Option Nat) (d : List (Nat × (Nat → Int32))) (f : Nat → Int32) : (mkC I A R d).set 74 (.inl (.int, 5, .inl f)) = mkC I (va_up A 401 f) R d := mkC_st _ _ _ _ _ _ _ (Nat.le_of_ble_eq_true rfl) (sh_aset (ft := ftC) (t := tC) (i := 74) (L := 5) (key := 401) (by decide +kernel) I A R f)
theorem sCa_75 (I : Nat → Int32) (A : Nat → Nat → Int32) (R : Nat → Nat → Option Nat) (d : List (Nat × (Nat → Int32))) (f : Nat → Int32) : (mkC I A R d).set 75 (.inl (.boolean, 20, .inl f)) = mkC I (va_up A 402 f) R d := mkC_st _ _ _ _ _ _ _ (Nat.le_of_ble_eq_true rfl) (sh_bset (ft := ftC) (t := tC) (i := 75) (L := 20) (key := 402) (by decide +kernel) I A R f)
theorem sCa_76 (I : Nat → Int32) (A : Nat → Nat → Int32) (R : Nat → Nat → Option Nat) (d : List (Nat × (Nat → Int32))) (f : Nat → Int32) : (mkC I A R d).set 76 (.inl (.int, 20, .inl f)) = mkC I (va_up A 403 f) R d := mkC_st _ _ _ _ _ _ _ (Nat.le_of_ble_eq_true rfl) (sh_aset (ft := ftC) (t := tC) (i := 76) (L := 20) (key := 403) (by decide +kernel) I A R f)
theorem sCa_77 (I : Nat → Int32) (A : Nat → Nat → Int32) (R : Nat → Nat → Option Nat) (d : List (Nat × (Nat → Int32))) (f : Nat → Int32) : (mkC I A R d).set 77 (.inl (.int, 20, .inl f)) = mkC I (va_up A 404 f) R d := mkC_st _ _ _ _ _ _ _ (Nat.le_of_ble_eq_true rfl) (sh_aset (ft := ftC) (t := tC) (i := 77) (L := 20) (key := 404) (by decide +kernel) I A R f)
theorem sCa_78 (I : Nat → Int32) (A : Nat → Nat → Int32) (R : Nat → Nat → Option Nat) (d : List (Nat × (Nat → Int32))) (f : Nat → Int32) : (mkC I A R d).set 78 (.inl (.int, 20, .inl f)) = mkC I (va_up A 405 f) R d := mkC_st _ _ _ _ _ _ _ (Nat.le_of_ble_eq_true rfl) (sh_aset (ft := ftC) (t := tC) (i := 78) (L := 20) (key := 405) (by decide +kernel) I A R f)
theorem sCa_79 (I : Nat → Int32) (A : Nat → Nat → Int32) (R : Nat → Nat → Option Nat) (d : List (Nat × (Nat → Int32))) (f : Nat → Int32) : (mkC I A R d).set 79 (.inl (.int, 8, .inl f)) = mkC I (va_up A 406 f) R d := mkC_st _ _ _ _ _ _ _ (Nat.le_of_ble_eq_true rfl) (sh_aset (ft := ftC) (t := tC) (i := 79) (L := 8) (key := 406) (by decide +kernel) I A R f)
theorem sCa_80 (I : Nat → Int32) (A : Nat → Nat → Int32) (R : Nat → Nat → Option Nat) (d : List (Nat × (Nat → Int32))) (f : Nat → Int32) : (mkC I A R d).set 80 (.inl (.int, 8, .inl f)) = mkC I (va_up A 407 f) R d := mkC_st _ _ _ _ _ _ _ (Nat.le_of_ble_eq_true rfl) (sh_aset (ft := ftC) (t := tC) (i := 80) (L := 8) (key := 407) (by decide +kernel) I A R f)
theorem sCa_82 (I : Nat → Int32) (A : Nat → Nat → Int32) (R : Nat → Nat → Option Nat) (d : List (Nat × (Nat → Int32))) (f : Nat → Int32) : (mkC I A R d).set 82 (.inl (.int, 9, .inl f)) = mkC I (va_up A 703 f) R d := mkC_st _ _ _ _ _ _ _ (Nat.le_of_ble_eq_true rfl) (sh_aset (ft := ftC) (t := tC) (i := 82) (L := 9) (key := 703) (by decide +kernel) I A R f)
theorem sCa_83 (I : Nat → Int32) (A : Nat → Nat → Int32) (R : Nat → Nat → Option Nat) (d : List (Nat × (Nat → Int32))) (f : Nat → Int32) : (mkC I A R d).set 83 (.inl (.int, 24, .inl f)) = mkC I (va_up A 704 f) R d := mkC_st _ _ _ _ _ _ _ (Nat.le_of_ble_eq_true rfl) (sh_aset (ft := ftC) (t := tC) (i := 83) (L := 24) (key := 704) (by decide +kernel) I A R f)
theorem sCa_84 (I : Nat → Int32) (A : Nat → Nat → Int32) (R : Nat → Nat → Option Nat) (d : List (Nat × (Nat → Int32))) (f : Nat → Int32) : (mkC I A R d).set 84 (.inl (.int, 48, .inl f)) = mkC I (va_up A 706 f) R d := mkC_st _ _ _ _ _ _ _ (Nat.le_of_ble_eq_true rfl) (sh_aset (ft := ftC) (t := tC) (i := 84) (L := 48) (key := 706) (by decide +kernel) I A R f)
theorem sCa_86 (I : Nat → Int32) (A : Nat → Nat → Int32) (R : Nat → Nat → Option Nat) (d : List (Nat × (Nat → Int32))) (f : Nat → Int32) : (mkC I A R d).set 86 (.inl (.int, 4, .inl f)) = mkC I (va_up A 302 f) R d := mkC_st _ _ _ _ _ _ _ (Nat.le_of_ble_eq_true rfl) (sh_aset (ft := ftC) (t := tC) (i := 86) (L := 4) (key := 302) (by decide +kernel) I A R f)
theorem sCa_87 (I : Nat → Int32) (A : Nat → Nat → Int32) (R : Nat → Nat → Option Nat) (d : List (Nat × (Nat → Int32))) (f : Nat → Int32) : (mkC I A R d).set 87 (.inl (.int, 8, .inl f)) = mkC I (va_up A 304 f) R d := mkC_st _ _ _ _ _ _ _ (Nat.le_of_ble_eq_true rfl) (sh_aset (ft := ftC) (t := tC) (i := 87) (L := 8) (key := 304) (by decide +kernel) I A R f)
theorem sCa_88 (I : Nat → Int32) (A : Nat → Nat → Int32) (R : Nat → Nat → Option Nat) (d : List (Nat × (Nat → Int32))) (f : Nat → Int32) : (mkC I A R d).set 88 (.inl (.int, 8, .inl f)) = mkC I (va_up A 305 f) R d := mkC_st _ _ _ _ _ _ _ (Nat.le_of_ble_eq_true rfl) (sh_aset (ft := ftC) (t := tC) (i := 88) (L := 8) (key := 305) (by decide +kernel) I A R f)
theorem sCr_5 (I : Nat → Int32) (A : Nat → Nat → Int32) (R : Nat → Nat → Option Nat) (d : List (Nat × (Nat → Int32))) (f : Nat → Option Nat) : (mkC I A R d).set 5 (.inl (.array .int, 240, .inr (.inr (.inr (.inr f))))) = mkC I A (va_up R 203 f) d := mkC_st _ _ _ _ _ _ _ (Nat.le_of_ble_eq_true rfl) (sh_rset (ft := ftC) (t := tC) (i := 5) (L := 240) (key := 203) (by decide +kernel) I A R f)
theorem sCr_16 (I : Nat → Int32) (A : Nat → Nat → Int32) (R : Nat → Nat → Option Nat) (d : List (Nat × (Nat → Int32))) (f : Nat → Option Nat) : (mkC I A R d).set 16 (.inl (.array .int, 20, .inr (.inr (.inr (.inr f))))) = mkC I A (va_up R 5 f) d := mkC_st _ _ _ _ _ _ _ (Nat.le_of_ble_eq_true rfl) (sh_rset (ft := ftC) (t := tC) (i := 16) (L := 20) (key := 5) (by decide +kernel) I A R f)
theorem sCr_17 (I : Nat → Int32) (A : Nat → Nat → Int32) (R : Nat → Nat → Option Nat) (d : List (Nat × (Nat → Int32))) (f : Nat → Option Nat) : (mkC I A R d).set 17 (.inl (.array .int, 20, .inr (.inr (.inr (.inr f))))) = mkC I A (va_up R 6 f) d := mkC_st _ _ _ _ _ _ _ (Nat.le_of_ble_eq_true rfl) (sh_rset (ft := ftC) (t := tC) (i := 17) (L := 20) (key := 6) (by decide +kernel) I A R f)
