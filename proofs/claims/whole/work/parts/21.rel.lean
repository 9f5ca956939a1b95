/-! HOW THE TWO STATES HANG TOGETHER (s: the class, t: the reference; N: calls so far) -/
/-- places of arrays that hold arrays -/
def rfk (k i : Nat) : Prop := (k = 203 ∧ i < 240) ∨ ((k = 5 ∨ k = 6) ∧ i < 20)
abbrev Cla : Type := Nat × List Int32 × List Int32
def seg (P : Nat → Int32) (a b : Nat) : List Int32 := (List.range (b - a)).map fun i => P (a + i)
/-- the clauses of a law, as the class holds them -/
def clC (s : St) (j : Nat) (cl : List Cla) : Prop := ∃ (a b m : Nat) (P Q : Nat → Int32), s.2.2.1 5 j = some a ∧ s.2.2.2[a - 89]? = some (m, P) ∧ s.2.2.1 6 j = some b ∧ s.2.2.2[b - 89]? = some (4 * cl.length, Q) ∧ m ≤ 160 ∧ cl.length ≤ 41 ∧ ∀ (i : Nat) (c : Cla), cl[i]? = some c → ∃ x y z : Nat, Q (4 * i) = nI c.1 ∧ Q (4 * i + 1) = nI x ∧ Q (4 * i + 2) = nI y ∧ Q (4 * i + 3) = nI z ∧ x ≤ y ∧ y ≤ z ∧ z ≤ m ∧ c.2.1 = seg P x y ∧ c.2.2 = seg P y z
/-- a step of the class's program as the reference writes it -/
def tkM (k : Int32) : List Int32 := if k < 10000 then [0, k] else if k < 20000 then [1, ([121, 105, 110, 108, 120, 114] : List Int32).getD (k - 10000).toInt.toNat 0] else [k - 20000]
def caM (c : Cla) : List Int32 := [stA 0 c.1] ++ (if c.2.1 = [] then [0, 1] else c.2.1.flatMap tkM) ++ [2] ++ c.2.2.flatMap tkM ++ [3]
def clM (t : St) (j : Nat) (cl : List Cla) : Prop := t.2.1 1231 j = nI (cl.flatMap caM).length ∧ (cl.flatMap caM).length ≤ 420 ∧ ∀ (i : Nat) (x : Int32), (cl.flatMap caM)[i]? = some x → t.2.1 1230 (420 * j + i) = x
/-- a program's stack: from h to the answer's height, at most 64 high -/
def tkH : List Int32 → Nat → Option Nat
  | [], h => some h
  | k :: l, h => if (0 ≤ k.toInt ∧ k.toInt ≤ 9999) ∨ (10000 ≤ k.toInt ∧ k.toInt ≤ 10005) then (if h < 64 then tkH l (h + 1) else none) else if k = 20033 then (if 0 < h then tkH l h else none) else if k = 20043 ∨ k = 20045 ∨ k = 20042 ∨ k = 20047 ∨ k = 20061 ∨ k = 20060 ∨ k = 20062 ∨ k = 20038 ∨ k = 20124 then (if 1 < h then tkH l (h - 1) else none) else none
def clW (cl : List Cla) : Prop := ∀ c ∈ cl, c.1 < 7 ∧ (c.2.1 = [] ∨ tkH c.2.1 0 = some 1) ∧ tkH c.2.2 0 = some 1
/-- the walks from a cell: told later -/
def nbs (c : Nat) : List Nat := (if 0 < c % 12 then [c - 1] else []) ++ (if c % 12 < 11 then [c + 1] else []) ++ (if 12 ≤ c then [c - 12] else []) ++ (if c < 108 then [c + 12] else [])
/-- F is the least way's sum: no way is none -/
def isF (m : Nat → Int) (b : Nat) (F : Nat → Option Nat) : Prop := F b = some 0 ∧ ∀ c, c < 120 → c ≠ b → (m c = 0 → F c = none) ∧ (m c ≠ 0 → (∀ o ∈ nbs c, ∀ x, F o = some x → ∃ y, F c = some y ∧ (y : Int) ≤ x + m c) ∧ ∀ y, F c = some y → ∃ o ∈ nbs c, ∃ x, F o = some x ∧ (y : Int) = x + m c)
def isD (D W : Nat → Int32) (n : Nat) (f : Nat → Int32) : Prop := ∃ F : Nat → Option Nat, isF (fun c => if n < 120 then (D c).toInt else (W c).toInt) (n % 120) F ∧ ∀ c, c < 120 → f c = match F c with
  | some x => nI x
  | none => 100000000
/-- shut after n words: their parity -/
def shp (f g : Nat → Int32) (j w : Int32) : Nat → Bool
  | 0 => false
  | n + 1 => if f n = j ∧ g n ≤ w then !(shp f g j w n) else shp f g j w n
/-- of n roofs how many a maker laid, how many of those were taken -/
def cnR (f : Nat → Int32) (m : Int32) : Nat → Nat
  | 0 => 0
  | n + 1 => cnR f m n + if f n = m then 1 else 0
def cnT (f g : Nat → Int32) (m : Int32) : Nat → Nat
  | 0 => 0
  | n + 1 => cnT f g m n + if f n = m ∧ ¬ g n = 0 then 1 else 0
/-- what n bills ask of a sort -/
def owd (f g : Nat → Int32) (j : Int32) : Nat → Int32
  | 0 => 0
  | n + 1 => owd f g j n + if f n = j then g n else 0
def RNow (s t : St) : Prop := s.1 1100 = t.1 1200 ∧ inR (t.1 1200) 0 600
def RFolk (s t : St) : Prop := s.1 101 = t.1 1212 ∧ inR (t.1 1212) 0 24 ∧ s.2.1 102 = t.2.1 1204 ∧ s.2.1 103 = t.2.1 1205 ∧ s.2.1 104 = t.2.1 1206 ∧ (∀ j, inR (t.2.1 1204 j) 0 119) ∧ (∀ j, inR (t.2.1 1205 j) 0 3) ∧ (∀ j, inR (t.2.1 1206 j) 0 7)
def RCnt (s t : St) : Prop := s.1 107 = t.1 1213 ∧ inR (t.1 1213) 0 200 ∧ s.2.1 108 = t.2.1 1207 ∧ s.2.1 109 = t.2.1 1208 ∧ s.2.1 110 = t.2.1 1211 ∧ s.2.1 111 = t.2.1 1209 ∧ s.2.1 112 = t.2.1 1210 ∧ (∀ j, inR (t.2.1 1208 j) 0 11) ∧ (∀ j, inR (t.2.1 1209 j) 0 999) ∧ (∀ j, inR (t.2.1 1210 j) 0 999)
def RRec (s t : St) : Prop := s.1 113 = t.1 1280 ∧ inR (t.1 1280) 0 60 ∧ s.2.1 114 = t.2.1 1276 ∧ s.2.1 115 = t.2.1 1277 ∧ s.2.1 116 = t.2.1 1279 ∧ s.2.1 117 = t.2.1 1278 ∧ (∀ j, inR (t.2.1 1278 j) 0 1998)
def RTrt (s t : St) : Prop := ∀ j, j < 24 → (t.2.1 1291 j = 0 ∧ s.2.1 105 j = -1) ∨ (t.2.1 1291 j = 1 ∧ s.2.1 105 j = t.2.1 1289 j ∧ inR (t.2.1 1289 j) 0 11 ∧ s.2.1 106 j = t.2.1 1290 j)
def RSch (s t : St) : Prop := s.1 501 = t.1 1223 ∧ inR (t.1 1223) 0 20 ∧ s.2.1 502 = t.2.1 1214 ∧ s.2.1 503 = t.2.1 1215 ∧ s.2.1 504 = t.2.1 1216 ∧ s.2.1 505 = t.2.1 1217 ∧ s.2.1 506 = t.2.1 1218 ∧ s.2.1 507 = t.2.1 1219 ∧ s.2.1 509 = t.2.1 1221 ∧ (∀ j, inR (t.2.1 1214 j) 0 119) ∧ (∀ j, inR (t.2.1 1215 j) 0 3) ∧ (∀ j, inR (t.2.1 1216 j) 0 20) ∧ (∀ j, inR (t.2.1 1217 j) 0 3) ∧ (∀ j, inR (t.2.1 1218 j) 0 255) ∧ (∀ j, inR (t.2.1 1221 j) 0 1) ∧ (∀ j : Nat, (j : Int) < (t.1 1223).toInt → 1 ≤ (t.2.1 1217 j).toInt)
def RBlt (s t : St) : Prop := ∀ j : Nat, j < 20 → ((j : Int) < (t.1 1223).toInt → s.2.1 508 j = t.2.1 1220 j) ∧ ((t.1 1223).toInt ≤ j → s.2.1 508 j = -1) ∧ inR (s.2.1 508 j) (-1) 600
def RShut (N : Int) (s t : St) : Prop := inR (t.1 1226) 0 N ∧ (∀ k : Nat, (k : Int) < (t.1 1226).toInt → inR (t.2.1 1225 k) 0 (t.1 1200).toInt) ∧ ∀ j : Nat, j < 20 → (∀ w : Nat, w ≤ 600 → bt (s.2.1 510 w) j = shp (t.2.1 1224) (t.2.1 1225) (nI j) (nI w) (t.1 1226).toInt.toNat) ∧ t.2.1 1227 j = bI (shp (t.2.1 1224) (t.2.1 1225) (nI j) 600 (t.1 1226).toInt.toNat)
def RTape (s t : St) : Prop := s.1 901 = t.1 1235 ∧ inR (t.1 1235) 0 160 ∧ s.2.1 900 = t.2.1 1228 ∧ (∀ j, inR (t.2.1 1228 j) 0 255) ∧ (∀ j : Nat, (j : Int) < (t.1 1235).toInt → 1 ≤ (t.2.1 1228 j).toInt)
def RYard (s t : St) : Prop := s.1 1004 = t.1 1263 ∧ inR (t.1 1263) 0 8 ∧ s.2.1 1005 = t.2.1 1257 ∧ s.2.1 1006 = t.2.1 1258 ∧ s.2.1 1007 = t.2.1 1259 ∧ s.2.1 1008 = t.2.1 1260 ∧ (∀ j, inR (t.2.1 1257 j) 0 4) ∧ s.1 1009 = t.1 1264 ∧ inR (t.1 1264) 0 10 ∧ s.2.1 1010 = t.2.1 1261 ∧ s.2.1 1011 = t.2.1 1262 ∧ s.2.1 1012 = t.2.1 1222
def RProm (s t : St) : Prop := ∀ v j : Nat, v < 24 → j < 20 → s.2.1 1014 (20 * v + j) = bI (bt (t.2.1 1265 j) v)
def RGiven (s t : St) : Prop := s.1 1013 = t.1 1267 ∧ inR (t.1 1267) 0 200 ∧ s.2.1 1015 = t.2.1 1266
def RStaff (s t : St) : Prop := s.1 802 = t.1 1275 ∧ inR (t.1 1275) 0 40 ∧ s.2.1 803 = t.2.1 1268 ∧ s.2.1 804 = t.2.1 1269 ∧ s.2.1 805 = t.2.1 1270 ∧ s.2.1 806 = t.2.1 1271 ∧ s.2.1 807 = t.2.1 1272 ∧ (∀ j, inR (t.2.1 1268 j) 0 11) ∧ (∀ j, inR (t.2.1 1270 j) 0 255)
def RRoof (s t : St) : Prop := s.2.1 401 = t.2.1 1281 ∧ s.1 408 = t.1 1287 ∧ inR (t.1 1287) 0 60 ∧ s.1 409 = t.1 1288 ∧ inR (t.1 1288) 0 60 ∧ (∀ j : Nat, j < 8 → s.2.1 406 j = nI (cnR (t.2.1 1282) (nI j) (t.1 1287).toInt.toNat) ∧ s.2.1 407 j = nI (cnT (t.2.1 1282) (t.2.1 1285) (nI j) (t.1 1287).toInt.toNat)) ∧ (∀ j : Nat, j < 20 → (t.1 1223).toInt ≤ j → s.2.1 402 j = 0) ∧ (∀ r : Nat, r < 60 → (t.1 1287).toInt ≤ r → t.2.1 1285 r = 0) ∧ (∀ r : Nat, r < 60 → inR (t.2.1 1283 r) 0 4 ∧ inR (t.2.1 1285 r) 0 1 ∧ inR (t.2.1 1282 r) 0 7) ∧ ∀ j : Nat, j < 20 → (j : Int) < (t.1 1223).toInt → (s.2.1 402 j = 0 ∧ t.2.1 1286 j = -1) ∨ (s.2.1 402 j = 1 ∧ ∃ r : Nat, (r : Int) < (t.1 1287).toInt ∧ t.2.1 1286 j = nI r ∧ s.2.1 403 j = t.2.1 1283 r ∧ s.2.1 404 j = t.2.1 1282 r ∧ s.2.1 405 j = t.2.1 1284 r ∧ t.2.1 1285 r = 0 ∧ ∀ i : Nat, i < 20 → (i : Int) < (t.1 1223).toInt → t.2.1 1286 i = nI r → i = j)
def RSite (s t : St) : Prop := s.1 702 = t.1 1256 ∧ inR (t.1 1256) 0 9 ∧ s.2.1 703 = t.2.1 1254 ∧ (∀ j, inR (t.2.1 1254 j) 0 119) ∧ s.1 705 = t.1 1299 ∧ inR (t.1 1299) 0 6 ∧ s.2.1 706 = t.2.1 1298 ∧ (∀ j, inR (t.2.1 1298 j) 0 9)
def RPurse (s t : St) : Prop := s.1 301 = t.1 1296 ∧ inR (t.1 1296) 0 4 ∧ s.2.1 302 = t.2.1 1293 ∧ s.1 303 = t.1 1297 ∧ inR (t.1 1297) 0 40 ∧ (∀ j, inR (t.2.1 1294 j) 0 7) ∧ (∀ j, inR (t.2.1 1293 j) 0 1000000) ∧ (∀ j, inR (t.2.1 1295 j) 0 100000) ∧ ∀ j : Nat, j < 8 → s.2.1 304 j = owd (t.2.1 1294) (t.2.1 1295) (nI j) (t.1 1297).toInt.toNat
def RLand (s t : St) : Prop := s.2.1 202 = t.2.1 1202 ∧ (∀ j, inR (t.2.1 1202 j) 0 1) ∧ ∀ j : Nat, j < 120 → s.2.1 200 j = t.2.1 1201 j ∧ s.2.1 201 j = t.2.1 1201 (120 + j) ∧ inR (t.2.1 1201 j) 1 99 ∧ inR (t.2.1 1201 (120 + j)) 0 99
def RLaw (s t : St) : Prop := s.1 0 = t.1 1240 ∧ inR (t.1 1240) 0 20 ∧ s.2.1 1 = t.2.1 1232 ∧ s.2.1 2 = t.2.1 1233 ∧ s.2.1 3 = t.2.1 1234 ∧ (∀ j, inR (t.2.1 1232 j) (-1) 3) ∧ (∀ j, inR (t.2.1 1233 j) 0 11) ∧ ∀ j : Nat, (j : Int) < (t.1 1240).toInt → ∃ cl, clC s j cl ∧ clM t j cl ∧ clW cl ∧ ∀ k : Nat, k < 7 → (bt (s.2.1 4 j) k = true ↔ ∃ c ∈ cl, c.1 = k)
def RRef (s t : St) : Prop := (∀ k i k2 i2 a : Nat, rfk k i → rfk k2 i2 → s.2.2.1 k i = some a → s.2.2.1 k2 i2 = some a → k = k2 ∧ i = i2) ∧ ∀ k i a : Nat, rfk k i → s.2.2.1 k i = some a → 89 ≤ a ∧ a < 89 + s.2.2.2.length
def RRow (s t : St) : Prop := ∀ n : Nat, n < 240 → inR (s.2.1 204 n) 0 1 ∧ (∀ a, s.2.2.1 203 n = some a → ∃ f, s.2.2.2[a - 89]? = some (120, f) ∧ (s.2.1 204 n = 1 → isD (s.2.1 200) (s.2.1 201) n f)) ∧ (s.2.2.1 203 n = none → s.2.1 204 n = 0)
def RX : Int → St → St → Prop := fun N s t => RNow s t ∧ RFolk s t ∧ RCnt s t ∧ RRec s t ∧ RTrt s t ∧ RSch s t ∧ RBlt s t ∧ RShut N s t ∧ RTape s t ∧ RYard s t ∧ RProm s t ∧ RGiven s t ∧ RStaff s t ∧ RRoof s t ∧ RSite s t ∧ RPurse s t ∧ RLand s t ∧ RLaw s t ∧ RRef s t ∧ RRow s t
theorem RX.now {N : Int} {s t : St} (h : RX N s t) : RNow s t := h.1
theorem RX.folk {N : Int} {s t : St} (h : RX N s t) : RFolk s t := h.2.1
theorem RX.cnt {N : Int} {s t : St} (h : RX N s t) : RCnt s t := h.2.2.1
theorem RX.rec {N : Int} {s t : St} (h : RX N s t) : RRec s t := h.2.2.2.1
theorem RX.trt {N : Int} {s t : St} (h : RX N s t) : RTrt s t := h.2.2.2.2.1
theorem RX.sch {N : Int} {s t : St} (h : RX N s t) : RSch s t := h.2.2.2.2.2.1
theorem RX.blt {N : Int} {s t : St} (h : RX N s t) : RBlt s t := h.2.2.2.2.2.2.1
theorem RX.shut {N : Int} {s t : St} (h : RX N s t) : RShut N s t := h.2.2.2.2.2.2.2.1
theorem RX.tape {N : Int} {s t : St} (h : RX N s t) : RTape s t := h.2.2.2.2.2.2.2.2.1
theorem RX.yard {N : Int} {s t : St} (h : RX N s t) : RYard s t := h.2.2.2.2.2.2.2.2.2.1
theorem RX.prom {N : Int} {s t : St} (h : RX N s t) : RProm s t := h.2.2.2.2.2.2.2.2.2.2.1
theorem RX.given {N : Int} {s t : St} (h : RX N s t) : RGiven s t := h.2.2.2.2.2.2.2.2.2.2.2.1
theorem RX.staff {N : Int} {s t : St} (h : RX N s t) : RStaff s t := h.2.2.2.2.2.2.2.2.2.2.2.2.1
theorem RX.roof {N : Int} {s t : St} (h : RX N s t) : RRoof s t := h.2.2.2.2.2.2.2.2.2.2.2.2.2.1
theorem RX.site {N : Int} {s t : St} (h : RX N s t) : RSite s t := h.2.2.2.2.2.2.2.2.2.2.2.2.2.2.1
theorem RX.purse {N : Int} {s t : St} (h : RX N s t) : RPurse s t := h.2.2.2.2.2.2.2.2.2.2.2.2.2.2.2.1
theorem RX.land {N : Int} {s t : St} (h : RX N s t) : RLand s t := h.2.2.2.2.2.2.2.2.2.2.2.2.2.2.2.2.1
theorem RX.law {N : Int} {s t : St} (h : RX N s t) : RLaw s t := h.2.2.2.2.2.2.2.2.2.2.2.2.2.2.2.2.2.1
theorem RX.ref {N : Int} {s t : St} (h : RX N s t) : RRef s t := h.2.2.2.2.2.2.2.2.2.2.2.2.2.2.2.2.2.2.1
theorem RX.row {N : Int} {s t : St} (h : RX N s t) : RRow s t := h.2.2.2.2.2.2.2.2.2.2.2.2.2.2.2.2.2.2.2
theorem RX.up {N : Int} {s t : St} (h : RX N s t) : RX (N + 1) s t := ⟨h.now, h.folk, h.cnt, h.rec, h.trt, h.sch, h.blt, ⟨⟨h.shut.1.1, Int.le_trans h.shut.1.2 (by omega)⟩, h.shut.2⟩, h.tape, h.yard, h.prom, h.given, h.staff, h.roof, h.site, h.purse, h.land, h.law, h.ref, h.row⟩
/-- the invariant with the laws and the kept walks, which are told later -/
def Two (R : St → St → Prop) (a b : Option (Int32 × St)) : Prop := ∃ r s t, a = some (r, s) ∧ b = some (r, t) ∧ R s t
theorem Two_ret {R : St → St → Prop} {s t : St} (r : Int32) (h : R s t) : Two R (some (r, s)) (some (r, t)) := ⟨r, s, t, rfl, rfl, h⟩
theorem Two_ite {R : St → St → Prop} {c : Prop} {d1 d2 : Decidable c} {a a' b b' : Option (Int32 × St)} (h1 : c → Two R a b) (h2 : ¬ c → Two R a' b') : Two R (@ite _ c d1 a a') (@ite _ c d2 b b') := by
  by_cases hc : c
  · rw [if_pos hc, if_pos hc]; exact h1 hc
  · rw [if_neg hc, if_neg hc]; exact h2 hc
theorem inR_upd {f : Nat → Int32} {i : Nat} {v : Int32} {lo hi : Int} (h : ∀ j, inR (f j) lo hi) (hv : inR v lo hi) : ∀ j, inR (upd f i v j) lo hi := by
  intro j
  unfold upd
  split
  · exact hv
  · exact h j
theorem inb_R {x a b : Int32} (h : ¬ inb x a b = false) : inR x a.toInt b.toInt := by
  rw [Bool.not_eq_false] at h
  exact inb_iff.mp h
