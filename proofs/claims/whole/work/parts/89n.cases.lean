/-! the law's fifty cases -/
set_option maxRecDepth 20000 in
theorem case_0 {l : Launch} {L : Nat} {xs : Nat → Int32} {q1 q2 : Nat} {G : lK} (hG : LCl l L xs q1 q2 G) {N : Int} {u t : St} {i : Int32} {bc bs : Nat} (h : RX N u t) (hN : N ≤ 600) (hi : ∀ j : Nat, j ≤ 8 → vp_in (i + nI j) L) (h1 : 25 ≤ bc) (h2 : 3000 ≤ bs) (hend : ∀ u' t', RX (N + 1) u' t' → G 2350 i [] u' t' (bc - 25) (bs - 3000)) : G 248 i [] u t bc bs := by
  obtain ⟨d248, d249, d250, d251, d252, d253, d254, d257, d258, d259, d260, d261, d262, d263, d266⟩ := DL_0
  obtain ⟨r, u', t', e1, e2, h'⟩ := P_weeks h (xs (i + nI 1).toNatClampNeg)
  refine (hG.2.1 _ _ _ _ _ _ _).1 d248 ?_
  refine hG.1 _ 252 (nI 1) _ _ _ _ _ _ d249 d250 (Or.inl ⟨_, d251, rfl, rfl⟩) d252 d253 (hi 1 (by decide)) ?_
  refine hG.2.2.2.2.1 254 _ _ _ _ _ _ _ _ _ [xs (i + nI 1).toNatClampNeg] [] _ _ _ _ _ d254 (LM_X11_weeks l) rfl (Nat.zero_le 4) (by omega) (by omega) ⟨_, u, rfl, rfl, (r, u'), e1, r, u', rfl, rfl, ?_⟩
  refine (hG.2.1 _ _ _ _ _ _ _).2 d257 ?_
  refine hG.1 _ 261 (nI 1) _ _ _ _ _ _ d258 d259 (Or.inl ⟨_, d260, rfl, rfl⟩) d261 d262 (hi 1 (by decide)) ?_
  refine hG.2.2.2.2.2.1 263 _ _ _ _ _ _ _ _ _ [xs (i + nI 1).toNatClampNeg] [.int r] _ _ _ _ _ d263 (LM_X12_weeks l) rfl (Nat.le_of_ble_eq_true rfl) (Nat.zero_le _) (Nat.zero_le _) ⟨_, t, rfl, rfl, (r, t'), e2, r, t', rfl, rfl, ?_⟩
  refine hG.2.2.2.1 _ 2350 _ _ _ _ _ _ _ _ d266 (by decide +kernel) ?_
  exact hG.2.2.2.2.2.2 _ _ _ _ _ _ _ _ _ (by omega) (by omega) (hend _ _ h')
set_option maxRecDepth 20000 in
theorem case_1 {l : Launch} {L : Nat} {xs : Nat → Int32} {q1 q2 : Nat} {G : lK} (hG : LCl l L xs q1 q2 G) {N : Int} {u t : St} {i : Int32} {bc bs : Nat} (h : RX N u t) (hN : N ≤ 600) (hi : ∀ j : Nat, j ≤ 8 → vp_in (i + nI j) L) (h1 : 25 ≤ bc) (h2 : 3000 ≤ bs) (hend : ∀ u' t', RX (N + 1) u' t' → G 2350 i [] u' t' (bc - 25) (bs - 3000)) : G 271 i [] u t bc bs := by
  obtain ⟨d271, d272, d273, d274, d275, d276, d277, d278, d279, d280, d281, d282, d283, d284, d285, d286, d287, d288, d289, d290, d291, d292, d293, d294, d295, d296, d297, d298, d299, d301, d302, d303, d306, d307, d308, d309, d310, d311, d312, d313, d314, d315, d316, d317, d318, d319, d320, d321, d322, d323, d324, d325, d326, d327, d328, d329, d330, d331, d332, d333, d334, d336, d337, d338, d341⟩ := DL_1
  obtain ⟨r, u', t', e1, e2, h'⟩ := P_draw h (xs (i + nI 1).toNatClampNeg) (xs (i + nI 2).toNatClampNeg) (xs (i + nI 3).toNatClampNeg) (xs (i + nI 4).toNatClampNeg) (xs (i + nI 5).toNatClampNeg) (xs (i + nI 6).toNatClampNeg)
  refine (hG.2.1 _ _ _ _ _ _ _).1 d271 ?_
  refine hG.1 _ 275 (nI 1) _ _ _ _ _ _ d272 d273 (Or.inl ⟨_, d274, rfl, rfl⟩) d275 d276 (hi 1 (by decide)) ?_
  refine hG.1 _ 280 (nI 2) _ _ _ _ _ _ d277 d278 (Or.inl ⟨_, d279, rfl, rfl⟩) d280 d281 (hi 2 (by decide)) ?_
  refine hG.1 _ 285 (nI 3) _ _ _ _ _ _ d282 d283 (Or.inl ⟨_, d284, rfl, rfl⟩) d285 d286 (hi 3 (by decide)) ?_
  refine hG.1 _ 290 (nI 4) _ _ _ _ _ _ d287 d288 (Or.inl ⟨_, d289, rfl, rfl⟩) d290 d291 (hi 4 (by decide)) ?_
  refine hG.1 _ 295 (nI 5) _ _ _ _ _ _ d292 d293 (Or.inl ⟨_, d294, rfl, rfl⟩) d295 d296 (hi 5 (by decide)) ?_
  refine hG.1 _ 301 (nI 6) _ _ _ _ _ _ d297 d298 (Or.inr (Or.inl ⟨_, d299, rfl, rfl⟩)) d301 d302 (hi 6 (by decide)) ?_
  refine hG.2.2.2.2.1 303 _ _ _ _ _ _ _ _ _ [xs (i + nI 1).toNatClampNeg, xs (i + nI 2).toNatClampNeg, xs (i + nI 3).toNatClampNeg, xs (i + nI 4).toNatClampNeg, xs (i + nI 5).toNatClampNeg, xs (i + nI 6).toNatClampNeg] [] _ _ _ _ _ d303 (LM_X11_draw l) rfl (Nat.zero_le 4) (by omega) (by omega) ⟨_, _, _, _, _, _, u, rfl, rfl, (r, u'), e1, r, u', rfl, rfl, ?_⟩
  refine (hG.2.1 _ _ _ _ _ _ _).2 d306 ?_
  refine hG.1 _ 310 (nI 1) _ _ _ _ _ _ d307 d308 (Or.inl ⟨_, d309, rfl, rfl⟩) d310 d311 (hi 1 (by decide)) ?_
  refine hG.1 _ 315 (nI 2) _ _ _ _ _ _ d312 d313 (Or.inl ⟨_, d314, rfl, rfl⟩) d315 d316 (hi 2 (by decide)) ?_
  refine hG.1 _ 320 (nI 3) _ _ _ _ _ _ d317 d318 (Or.inl ⟨_, d319, rfl, rfl⟩) d320 d321 (hi 3 (by decide)) ?_
  refine hG.1 _ 325 (nI 4) _ _ _ _ _ _ d322 d323 (Or.inl ⟨_, d324, rfl, rfl⟩) d325 d326 (hi 4 (by decide)) ?_
  refine hG.1 _ 330 (nI 5) _ _ _ _ _ _ d327 d328 (Or.inl ⟨_, d329, rfl, rfl⟩) d330 d331 (hi 5 (by decide)) ?_
  refine hG.1 _ 336 (nI 6) _ _ _ _ _ _ d332 d333 (Or.inr (Or.inl ⟨_, d334, rfl, rfl⟩)) d336 d337 (hi 6 (by decide)) ?_
  refine hG.2.2.2.2.2.1 338 _ _ _ _ _ _ _ _ _ [xs (i + nI 1).toNatClampNeg, xs (i + nI 2).toNatClampNeg, xs (i + nI 3).toNatClampNeg, xs (i + nI 4).toNatClampNeg, xs (i + nI 5).toNatClampNeg, xs (i + nI 6).toNatClampNeg] [.int r] _ _ _ _ _ d338 (LM_X12_draw l) rfl (Nat.le_of_ble_eq_true rfl) (Nat.zero_le _) (Nat.zero_le _) ⟨_, _, _, _, _, _, t, rfl, rfl, (r, t'), e2, r, t', rfl, rfl, ?_⟩
  refine hG.2.2.2.1 _ 2350 _ _ _ _ _ _ _ _ d341 (by decide +kernel) ?_
  exact hG.2.2.2.2.2.2 _ _ _ _ _ _ _ _ _ (by omega) (by omega) (hend _ _ h')
set_option maxRecDepth 20000 in
theorem case_2 {l : Launch} {L : Nat} {xs : Nat → Int32} {q1 q2 : Nat} {G : lK} (hG : LCl l L xs q1 q2 G) {N : Int} {u t : St} {i : Int32} {bc bs : Nat} (h : RX N u t) (hN : N ≤ 600) (hi : ∀ j : Nat, j ≤ 8 → vp_in (i + nI j) L) (h1 : 25 ≤ bc) (h2 : 3000 ≤ bs) (hend : ∀ u' t', RX (N + 1) u' t' → G 2350 i [] u' t' (bc - 25) (bs - 3000)) : G 346 i [] u t bc bs := by
  obtain ⟨d346, d347, d348, d349, d350, d351, d352, d353, d354, d355, d356, d357, d358, d359, d360, d361, d362, d365, d366, d367, d368, d369, d370, d371, d372, d373, d374, d375, d376, d377, d378, d379, d380, d381, d384⟩ := DL_2
  obtain ⟨r, u', t', e1, e2, h'⟩ := P_walk h (xs (i + nI 1).toNatClampNeg) (xs (i + nI 2).toNatClampNeg) (xs (i + nI 3).toNatClampNeg)
  refine (hG.2.1 _ _ _ _ _ _ _).1 d346 ?_
  refine hG.1 _ 350 (nI 1) _ _ _ _ _ _ d347 d348 (Or.inl ⟨_, d349, rfl, rfl⟩) d350 d351 (hi 1 (by decide)) ?_
  refine hG.1 _ 355 (nI 2) _ _ _ _ _ _ d352 d353 (Or.inl ⟨_, d354, rfl, rfl⟩) d355 d356 (hi 2 (by decide)) ?_
  refine hG.1 _ 360 (nI 3) _ _ _ _ _ _ d357 d358 (Or.inl ⟨_, d359, rfl, rfl⟩) d360 d361 (hi 3 (by decide)) ?_
  refine hG.2.2.2.2.1 362 _ _ _ _ _ _ _ _ _ [xs (i + nI 1).toNatClampNeg, xs (i + nI 2).toNatClampNeg, xs (i + nI 3).toNatClampNeg] [] _ _ _ _ _ d362 (LM_X11_walk l) rfl (Nat.zero_le 4) (by omega) (by omega) ⟨_, _, _, u, rfl, rfl, (r, u'), e1, r, u', rfl, rfl, ?_⟩
  refine (hG.2.1 _ _ _ _ _ _ _).2 d365 ?_
  refine hG.1 _ 369 (nI 1) _ _ _ _ _ _ d366 d367 (Or.inl ⟨_, d368, rfl, rfl⟩) d369 d370 (hi 1 (by decide)) ?_
  refine hG.1 _ 374 (nI 2) _ _ _ _ _ _ d371 d372 (Or.inl ⟨_, d373, rfl, rfl⟩) d374 d375 (hi 2 (by decide)) ?_
  refine hG.1 _ 379 (nI 3) _ _ _ _ _ _ d376 d377 (Or.inl ⟨_, d378, rfl, rfl⟩) d379 d380 (hi 3 (by decide)) ?_
  refine hG.2.2.2.2.2.1 381 _ _ _ _ _ _ _ _ _ [xs (i + nI 1).toNatClampNeg, xs (i + nI 2).toNatClampNeg, xs (i + nI 3).toNatClampNeg] [.int r] _ _ _ _ _ d381 (LM_X12_walk l) rfl (Nat.le_of_ble_eq_true rfl) (Nat.zero_le _) (Nat.zero_le _) ⟨_, _, _, t, rfl, rfl, (r, t'), e2, r, t', rfl, rfl, ?_⟩
  refine hG.2.2.2.1 _ 2350 _ _ _ _ _ _ _ _ d384 (by decide +kernel) ?_
  exact hG.2.2.2.2.2.2 _ _ _ _ _ _ _ _ _ (by omega) (by omega) (hend _ _ h')
set_option maxRecDepth 20000 in
theorem case_3 {l : Launch} {L : Nat} {xs : Nat → Int32} {q1 q2 : Nat} {G : lK} (hG : LCl l L xs q1 q2 G) {N : Int} {u t : St} {i : Int32} {bc bs : Nat} (h : RX N u t) (hN : N ≤ 600) (hi : ∀ j : Nat, j ≤ 8 → vp_in (i + nI j) L) (h1 : 25 ≤ bc) (h2 : 3000 ≤ bs) (hend : ∀ u' t', RX (N + 1) u' t' → G 2350 i [] u' t' (bc - 25) (bs - 3000)) : G 389 i [] u t bc bs := by
  obtain ⟨d389, d390, d391, d392, d393, d394, d395, d396, d397, d398, d399, d400, d401, d402, d403, d404, d405, d408, d409, d412, d413, d416, d417, d418, d419, d420, d421, d422, d423, d424, d425, d426, d427, d428, d429, d430, d431, d432, d435, d436, d439, d440, d443⟩ := DL_3
  obtain ⟨r, u', t', e1, e2, h'⟩ := P_rain h (xs (i + nI 1).toNatClampNeg) (xs (i + nI 2).toNatClampNeg) (if xs (i + nI 3).toNatClampNeg = 0 then 0 else 1)
  refine (hG.2.1 _ _ _ _ _ _ _).1 d389 ?_
  refine hG.1 _ 393 (nI 1) _ _ _ _ _ _ d390 d391 (Or.inl ⟨_, d392, rfl, rfl⟩) d393 d394 (hi 1 (by decide)) ?_
  refine hG.1 _ 398 (nI 2) _ _ _ _ _ _ d395 d396 (Or.inl ⟨_, d397, rfl, rfl⟩) d398 d399 (hi 2 (by decide)) ?_
  refine hG.1 _ 403 (nI 3) _ _ _ _ _ _ d400 d401 (Or.inl ⟨_, d402, rfl, rfl⟩) d403 d404 (hi 3 (by decide)) ?_
  refine hG.2.2.1 _ _ _ _ _ _ _ _ d405 d408 d409 d412 ?_
  refine hG.2.2.2.2.1 413 _ _ _ _ _ _ _ _ _ [xs (i + nI 1).toNatClampNeg, xs (i + nI 2).toNatClampNeg, if xs (i + nI 3).toNatClampNeg = 0 then 0 else 1] [] _ _ _ _ _ d413 (LM_X11_rain l) rfl (Nat.zero_le 4) (by omega) (by omega) ⟨_, _, _, u, rfl, rfl, (r, u'), e1, r, u', rfl, rfl, ?_⟩
  refine (hG.2.1 _ _ _ _ _ _ _).2 d416 ?_
  refine hG.1 _ 420 (nI 1) _ _ _ _ _ _ d417 d418 (Or.inl ⟨_, d419, rfl, rfl⟩) d420 d421 (hi 1 (by decide)) ?_
  refine hG.1 _ 425 (nI 2) _ _ _ _ _ _ d422 d423 (Or.inl ⟨_, d424, rfl, rfl⟩) d425 d426 (hi 2 (by decide)) ?_
  refine hG.1 _ 430 (nI 3) _ _ _ _ _ _ d427 d428 (Or.inl ⟨_, d429, rfl, rfl⟩) d430 d431 (hi 3 (by decide)) ?_
  refine hG.2.2.1 _ _ _ _ _ _ _ _ d432 d435 d436 d439 ?_
  refine hG.2.2.2.2.2.1 440 _ _ _ _ _ _ _ _ _ [xs (i + nI 1).toNatClampNeg, xs (i + nI 2).toNatClampNeg, if xs (i + nI 3).toNatClampNeg = 0 then 0 else 1] [.int r] _ _ _ _ _ d440 (LM_X12_rain l) rfl (Nat.le_of_ble_eq_true rfl) (Nat.zero_le _) (Nat.zero_le _) ⟨_, _, _, t, rfl, rfl, (r, t'), e2, r, t', rfl, rfl, ?_⟩
  refine hG.2.2.2.1 _ 2350 _ _ _ _ _ _ _ _ d443 (by decide +kernel) ?_
  exact hG.2.2.2.2.2.2 _ _ _ _ _ _ _ _ _ (by omega) (by omega) (hend _ _ h')
set_option maxRecDepth 20000 in
theorem case_4 {l : Launch} {L : Nat} {xs : Nat → Int32} {q1 q2 : Nat} {G : lK} (hG : LCl l L xs q1 q2 G) {N : Int} {u t : St} {i : Int32} {bc bs : Nat} (h : RX N u t) (hN : N ≤ 600) (hi : ∀ j : Nat, j ≤ 8 → vp_in (i + nI j) L) (h1 : 25 ≤ bc) (h2 : 3000 ≤ bs) (hend : ∀ u' t', RX (N + 1) u' t' → G 2350 i [] u' t' (bc - 25) (bs - 3000)) : G 448 i [] u t bc bs := by
  obtain ⟨d448, d449, d450, d451, d452, d453, d454, d455, d456, d457, d458, d459, d460, d461, d462, d463, d464, d467, d468, d469, d470, d471, d472, d473, d474, d475, d476, d477, d478, d479, d480, d481, d482, d483, d486⟩ := DL_4
  obtain ⟨r, u', t', e1, e2, h'⟩ := P_village h (xs (i + nI 1).toNatClampNeg) (xs (i + nI 2).toNatClampNeg) (xs (i + nI 3).toNatClampNeg)
  refine (hG.2.1 _ _ _ _ _ _ _).1 d448 ?_
  refine hG.1 _ 452 (nI 1) _ _ _ _ _ _ d449 d450 (Or.inl ⟨_, d451, rfl, rfl⟩) d452 d453 (hi 1 (by decide)) ?_
  refine hG.1 _ 457 (nI 2) _ _ _ _ _ _ d454 d455 (Or.inl ⟨_, d456, rfl, rfl⟩) d457 d458 (hi 2 (by decide)) ?_
  refine hG.1 _ 462 (nI 3) _ _ _ _ _ _ d459 d460 (Or.inl ⟨_, d461, rfl, rfl⟩) d462 d463 (hi 3 (by decide)) ?_
  refine hG.2.2.2.2.1 464 _ _ _ _ _ _ _ _ _ [xs (i + nI 1).toNatClampNeg, xs (i + nI 2).toNatClampNeg, xs (i + nI 3).toNatClampNeg] [] _ _ _ _ _ d464 (LM_X11_village l) rfl (Nat.zero_le 4) (by omega) (by omega) ⟨_, _, _, u, rfl, rfl, (r, u'), e1, r, u', rfl, rfl, ?_⟩
  refine (hG.2.1 _ _ _ _ _ _ _).2 d467 ?_
  refine hG.1 _ 471 (nI 1) _ _ _ _ _ _ d468 d469 (Or.inl ⟨_, d470, rfl, rfl⟩) d471 d472 (hi 1 (by decide)) ?_
  refine hG.1 _ 476 (nI 2) _ _ _ _ _ _ d473 d474 (Or.inl ⟨_, d475, rfl, rfl⟩) d476 d477 (hi 2 (by decide)) ?_
  refine hG.1 _ 481 (nI 3) _ _ _ _ _ _ d478 d479 (Or.inl ⟨_, d480, rfl, rfl⟩) d481 d482 (hi 3 (by decide)) ?_
  refine hG.2.2.2.2.2.1 483 _ _ _ _ _ _ _ _ _ [xs (i + nI 1).toNatClampNeg, xs (i + nI 2).toNatClampNeg, xs (i + nI 3).toNatClampNeg] [.int r] _ _ _ _ _ d483 (LM_X12_village l) rfl (Nat.le_of_ble_eq_true rfl) (Nat.zero_le _) (Nat.zero_le _) ⟨_, _, _, t, rfl, rfl, (r, t'), e2, r, t', rfl, rfl, ?_⟩
  refine hG.2.2.2.1 _ 2350 _ _ _ _ _ _ _ _ d486 (by decide +kernel) ?_
  exact hG.2.2.2.2.2.2 _ _ _ _ _ _ _ _ _ (by omega) (by omega) (hend _ _ h')
set_option maxRecDepth 20000 in
theorem case_5 {l : Launch} {L : Nat} {xs : Nat → Int32} {q1 q2 : Nat} {G : lK} (hG : LCl l L xs q1 q2 G) {N : Int} {u t : St} {i : Int32} {bc bs : Nat} (h : RX N u t) (hN : N ≤ 600) (hi : ∀ j : Nat, j ≤ 8 → vp_in (i + nI j) L) (h1 : 25 ≤ bc) (h2 : 3000 ≤ bs) (hend : ∀ u' t', RX (N + 1) u' t' → G 2350 i [] u' t' (bc - 25) (bs - 3000)) : G 491 i [] u t bc bs := by
  obtain ⟨d491, d492, d493, d494, d495, d496, d497, d498, d499, d500, d501, d502, d503, d504, d505, d506, d507, d508, d509, d510, d511, d512, d515, d516, d517, d518, d519, d520, d521, d522, d523, d524, d525, d526, d527, d528, d529, d530, d531, d532, d533, d534, d535, d536, d539⟩ := DL_5
  obtain ⟨r, u', t', e1, e2, h'⟩ := P_count h (xs (i + nI 1).toNatClampNeg) (xs (i + nI 2).toNatClampNeg) (xs (i + nI 3).toNatClampNeg) (xs (i + nI 4).toNatClampNeg)
  refine (hG.2.1 _ _ _ _ _ _ _).1 d491 ?_
  refine hG.1 _ 495 (nI 1) _ _ _ _ _ _ d492 d493 (Or.inl ⟨_, d494, rfl, rfl⟩) d495 d496 (hi 1 (by decide)) ?_
  refine hG.1 _ 500 (nI 2) _ _ _ _ _ _ d497 d498 (Or.inl ⟨_, d499, rfl, rfl⟩) d500 d501 (hi 2 (by decide)) ?_
  refine hG.1 _ 505 (nI 3) _ _ _ _ _ _ d502 d503 (Or.inl ⟨_, d504, rfl, rfl⟩) d505 d506 (hi 3 (by decide)) ?_
  refine hG.1 _ 510 (nI 4) _ _ _ _ _ _ d507 d508 (Or.inl ⟨_, d509, rfl, rfl⟩) d510 d511 (hi 4 (by decide)) ?_
  refine hG.2.2.2.2.1 512 _ _ _ _ _ _ _ _ _ [xs (i + nI 1).toNatClampNeg, xs (i + nI 2).toNatClampNeg, xs (i + nI 3).toNatClampNeg, xs (i + nI 4).toNatClampNeg] [] _ _ _ _ _ d512 (LM_X11_count l) rfl (Nat.zero_le 4) (by omega) (by omega) ⟨_, _, _, _, u, rfl, rfl, (r, u'), e1, r, u', rfl, rfl, ?_⟩
  refine (hG.2.1 _ _ _ _ _ _ _).2 d515 ?_
  refine hG.1 _ 519 (nI 1) _ _ _ _ _ _ d516 d517 (Or.inl ⟨_, d518, rfl, rfl⟩) d519 d520 (hi 1 (by decide)) ?_
  refine hG.1 _ 524 (nI 2) _ _ _ _ _ _ d521 d522 (Or.inl ⟨_, d523, rfl, rfl⟩) d524 d525 (hi 2 (by decide)) ?_
  refine hG.1 _ 529 (nI 3) _ _ _ _ _ _ d526 d527 (Or.inl ⟨_, d528, rfl, rfl⟩) d529 d530 (hi 3 (by decide)) ?_
  refine hG.1 _ 534 (nI 4) _ _ _ _ _ _ d531 d532 (Or.inl ⟨_, d533, rfl, rfl⟩) d534 d535 (hi 4 (by decide)) ?_
  refine hG.2.2.2.2.2.1 536 _ _ _ _ _ _ _ _ _ [xs (i + nI 1).toNatClampNeg, xs (i + nI 2).toNatClampNeg, xs (i + nI 3).toNatClampNeg, xs (i + nI 4).toNatClampNeg] [.int r] _ _ _ _ _ d536 (LM_X12_count l) rfl (Nat.le_of_ble_eq_true rfl) (Nat.zero_le _) (Nat.zero_le _) ⟨_, _, _, _, t, rfl, rfl, (r, t'), e2, r, t', rfl, rfl, ?_⟩
  refine hG.2.2.2.1 _ 2350 _ _ _ _ _ _ _ _ d539 (by decide +kernel) ?_
  exact hG.2.2.2.2.2.2 _ _ _ _ _ _ _ _ _ (by omega) (by omega) (hend _ _ h')
set_option maxRecDepth 20000 in
theorem case_6 {l : Launch} {L : Nat} {xs : Nat → Int32} {q1 q2 : Nat} {G : lK} (hG : LCl l L xs q1 q2 G) {N : Int} {u t : St} {i : Int32} {bc bs : Nat} (h : RX N u t) (hN : N ≤ 600) (hi : ∀ j : Nat, j ≤ 8 → vp_in (i + nI j) L) (h1 : 25 ≤ bc) (h2 : 3000 ≤ bs) (hend : ∀ u' t', RX (N + 1) u' t' → G 2350 i [] u' t' (bc - 25) (bs - 3000)) : G 544 i [] u t bc bs := by
  obtain ⟨d544, d545, d546, d547, d548, d549, d550, d551, d552, d553, d554, d555, d556, d557, d558, d559, d560, d561, d562, d563, d564, d565, d568, d569, d570, d571, d572, d573, d574, d575, d576, d577, d578, d579, d580, d581, d582, d583, d584, d585, d586, d587, d588, d589, d592⟩ := DL_6
  obtain ⟨r, e1, e2⟩ := P_child h (xs (i + nI 1).toNatClampNeg) (xs (i + nI 2).toNatClampNeg) (xs (i + nI 3).toNatClampNeg) (xs (i + nI 4).toNatClampNeg)
  have h' := h.up
  refine (hG.2.1 _ _ _ _ _ _ _).1 d544 ?_
  refine hG.1 _ 548 (nI 1) _ _ _ _ _ _ d545 d546 (Or.inl ⟨_, d547, rfl, rfl⟩) d548 d549 (hi 1 (by decide)) ?_
  refine hG.1 _ 553 (nI 2) _ _ _ _ _ _ d550 d551 (Or.inl ⟨_, d552, rfl, rfl⟩) d553 d554 (hi 2 (by decide)) ?_
  refine hG.1 _ 558 (nI 3) _ _ _ _ _ _ d555 d556 (Or.inl ⟨_, d557, rfl, rfl⟩) d558 d559 (hi 3 (by decide)) ?_
  refine hG.1 _ 563 (nI 4) _ _ _ _ _ _ d560 d561 (Or.inl ⟨_, d562, rfl, rfl⟩) d563 d564 (hi 4 (by decide)) ?_
  refine hG.2.2.2.2.1 565 _ _ _ _ _ _ _ _ _ [xs (i + nI 1).toNatClampNeg, xs (i + nI 2).toNatClampNeg, xs (i + nI 3).toNatClampNeg, xs (i + nI 4).toNatClampNeg] [] _ _ _ _ _ d565 (LM_X11_child l) rfl (Nat.zero_le 4) (by omega) (by omega) ⟨_, _, _, _, u, rfl, rfl, r, e1, r, u, rfl, rfl, ?_⟩
  refine (hG.2.1 _ _ _ _ _ _ _).2 d568 ?_
  refine hG.1 _ 572 (nI 1) _ _ _ _ _ _ d569 d570 (Or.inl ⟨_, d571, rfl, rfl⟩) d572 d573 (hi 1 (by decide)) ?_
  refine hG.1 _ 577 (nI 2) _ _ _ _ _ _ d574 d575 (Or.inl ⟨_, d576, rfl, rfl⟩) d577 d578 (hi 2 (by decide)) ?_
  refine hG.1 _ 582 (nI 3) _ _ _ _ _ _ d579 d580 (Or.inl ⟨_, d581, rfl, rfl⟩) d582 d583 (hi 3 (by decide)) ?_
  refine hG.1 _ 587 (nI 4) _ _ _ _ _ _ d584 d585 (Or.inl ⟨_, d586, rfl, rfl⟩) d587 d588 (hi 4 (by decide)) ?_
  refine hG.2.2.2.2.2.1 589 _ _ _ _ _ _ _ _ _ [xs (i + nI 1).toNatClampNeg, xs (i + nI 2).toNatClampNeg, xs (i + nI 3).toNatClampNeg, xs (i + nI 4).toNatClampNeg] [.int r] _ _ _ _ _ d589 (LM_X12_child l) rfl (Nat.le_of_ble_eq_true rfl) (Nat.zero_le _) (Nat.zero_le _) ⟨_, _, _, _, t, rfl, rfl, r, e2, r, t, rfl, rfl, ?_⟩
  refine hG.2.2.2.1 _ 2350 _ _ _ _ _ _ _ _ d592 (by decide +kernel) ?_
  exact hG.2.2.2.2.2.2 _ _ _ _ _ _ _ _ _ (by omega) (by omega) (hend _ _ h')
set_option maxRecDepth 20000 in
theorem case_7 {l : Launch} {L : Nat} {xs : Nat → Int32} {q1 q2 : Nat} {G : lK} (hG : LCl l L xs q1 q2 G) {N : Int} {u t : St} {i : Int32} {bc bs : Nat} (h : RX N u t) (hN : N ≤ 600) (hi : ∀ j : Nat, j ≤ 8 → vp_in (i + nI j) L) (h1 : 25 ≤ bc) (h2 : 3000 ≤ bs) (hend : ∀ u' t', RX (N + 1) u' t' → G 2350 i [] u' t' (bc - 25) (bs - 3000)) : G 597 i [] u t bc bs := by
  obtain ⟨d597, d598, d599, d600, d601, d602, d603, d604, d605, d606, d607, d608, d609, d610, d611, d612, d613, d614, d615, d616, d617, d618, d619, d620, d621, d622, d623, d626, d627, d628, d629, d630, d631, d632, d633, d634, d635, d636, d637, d638, d639, d640, d641, d642, d643, d644, d645, d646, d647, d648, d649, d650, d651, d652, d655⟩ := DL_7
  obtain ⟨r, u', t', e1, e2, h'⟩ := P_school h (xs (i + nI 1).toNatClampNeg) (xs (i + nI 2).toNatClampNeg) (xs (i + nI 3).toNatClampNeg) (xs (i + nI 4).toNatClampNeg) (xs (i + nI 5).toNatClampNeg)
  refine (hG.2.1 _ _ _ _ _ _ _).1 d597 ?_
  refine hG.1 _ 601 (nI 1) _ _ _ _ _ _ d598 d599 (Or.inl ⟨_, d600, rfl, rfl⟩) d601 d602 (hi 1 (by decide)) ?_
  refine hG.1 _ 606 (nI 2) _ _ _ _ _ _ d603 d604 (Or.inl ⟨_, d605, rfl, rfl⟩) d606 d607 (hi 2 (by decide)) ?_
  refine hG.1 _ 611 (nI 3) _ _ _ _ _ _ d608 d609 (Or.inl ⟨_, d610, rfl, rfl⟩) d611 d612 (hi 3 (by decide)) ?_
  refine hG.1 _ 616 (nI 4) _ _ _ _ _ _ d613 d614 (Or.inl ⟨_, d615, rfl, rfl⟩) d616 d617 (hi 4 (by decide)) ?_
  refine hG.1 _ 621 (nI 5) _ _ _ _ _ _ d618 d619 (Or.inl ⟨_, d620, rfl, rfl⟩) d621 d622 (hi 5 (by decide)) ?_
  refine hG.2.2.2.2.1 623 _ _ _ _ _ _ _ _ _ [xs (i + nI 1).toNatClampNeg, xs (i + nI 2).toNatClampNeg, xs (i + nI 3).toNatClampNeg, xs (i + nI 4).toNatClampNeg, xs (i + nI 5).toNatClampNeg] [] _ _ _ _ _ d623 (LM_X11_school l) rfl (Nat.zero_le 4) (by omega) (by omega) ⟨_, _, _, _, _, u, rfl, rfl, (r, u'), e1, r, u', rfl, rfl, ?_⟩
  refine (hG.2.1 _ _ _ _ _ _ _).2 d626 ?_
  refine hG.1 _ 630 (nI 1) _ _ _ _ _ _ d627 d628 (Or.inl ⟨_, d629, rfl, rfl⟩) d630 d631 (hi 1 (by decide)) ?_
  refine hG.1 _ 635 (nI 2) _ _ _ _ _ _ d632 d633 (Or.inl ⟨_, d634, rfl, rfl⟩) d635 d636 (hi 2 (by decide)) ?_
  refine hG.1 _ 640 (nI 3) _ _ _ _ _ _ d637 d638 (Or.inl ⟨_, d639, rfl, rfl⟩) d640 d641 (hi 3 (by decide)) ?_
  refine hG.1 _ 645 (nI 4) _ _ _ _ _ _ d642 d643 (Or.inl ⟨_, d644, rfl, rfl⟩) d645 d646 (hi 4 (by decide)) ?_
  refine hG.1 _ 650 (nI 5) _ _ _ _ _ _ d647 d648 (Or.inl ⟨_, d649, rfl, rfl⟩) d650 d651 (hi 5 (by decide)) ?_
  refine hG.2.2.2.2.2.1 652 _ _ _ _ _ _ _ _ _ [xs (i + nI 1).toNatClampNeg, xs (i + nI 2).toNatClampNeg, xs (i + nI 3).toNatClampNeg, xs (i + nI 4).toNatClampNeg, xs (i + nI 5).toNatClampNeg] [.int r] _ _ _ _ _ d652 (LM_X12_school l) rfl (Nat.le_of_ble_eq_true rfl) (Nat.zero_le _) (Nat.zero_le _) ⟨_, _, _, _, _, t, rfl, rfl, (r, t'), e2, r, t', rfl, rfl, ?_⟩
  refine hG.2.2.2.1 _ 2350 _ _ _ _ _ _ _ _ d655 (by decide +kernel) ?_
  exact hG.2.2.2.2.2.2 _ _ _ _ _ _ _ _ _ (by omega) (by omega) (hend _ _ h')
set_option maxRecDepth 20000 in
theorem case_8 {l : Launch} {L : Nat} {xs : Nat → Int32} {q1 q2 : Nat} {G : lK} (hG : LCl l L xs q1 q2 G) {N : Int} {u t : St} {i : Int32} {bc bs : Nat} (h : RX N u t) (hN : N ≤ 600) (hi : ∀ j : Nat, j ≤ 8 → vp_in (i + nI j) L) (h1 : 25 ≤ bc) (h2 : 3000 ≤ bs) (hend : ∀ u' t', RX (N + 1) u' t' → G 2350 i [] u' t' (bc - 25) (bs - 3000)) : G 660 i [] u t bc bs := by
  obtain ⟨d660, d661, d662, d663, d664, d665, d666, d667, d668, d669, d670, d671, d674, d675, d678, d679, d682, d683, d684, d685, d686, d687, d688, d689, d690, d691, d692, d693, d696, d697, d700, d701, d704⟩ := DL_8
  obtain ⟨r, u', t', e1, e2, h'⟩ := P_far h (xs (i + nI 1).toNatClampNeg) (if xs (i + nI 2).toNatClampNeg = 0 then 0 else 1)
  refine (hG.2.1 _ _ _ _ _ _ _).1 d660 ?_
  refine hG.1 _ 664 (nI 1) _ _ _ _ _ _ d661 d662 (Or.inl ⟨_, d663, rfl, rfl⟩) d664 d665 (hi 1 (by decide)) ?_
  refine hG.1 _ 669 (nI 2) _ _ _ _ _ _ d666 d667 (Or.inl ⟨_, d668, rfl, rfl⟩) d669 d670 (hi 2 (by decide)) ?_
  refine hG.2.2.1 _ _ _ _ _ _ _ _ d671 d674 d675 d678 ?_
  refine hG.2.2.2.2.1 679 _ _ _ _ _ _ _ _ _ [xs (i + nI 1).toNatClampNeg, if xs (i + nI 2).toNatClampNeg = 0 then 0 else 1] [] _ _ _ _ _ d679 (LM_X11_far l) rfl (Nat.zero_le 4) (by omega) (by omega) ⟨_, _, u, rfl, rfl, (r, u'), e1, r, u', rfl, rfl, ?_⟩
  refine (hG.2.1 _ _ _ _ _ _ _).2 d682 ?_
  refine hG.1 _ 686 (nI 1) _ _ _ _ _ _ d683 d684 (Or.inl ⟨_, d685, rfl, rfl⟩) d686 d687 (hi 1 (by decide)) ?_
  refine hG.1 _ 691 (nI 2) _ _ _ _ _ _ d688 d689 (Or.inl ⟨_, d690, rfl, rfl⟩) d691 d692 (hi 2 (by decide)) ?_
  refine hG.2.2.1 _ _ _ _ _ _ _ _ d693 d696 d697 d700 ?_
  refine hG.2.2.2.2.2.1 701 _ _ _ _ _ _ _ _ _ [xs (i + nI 1).toNatClampNeg, if xs (i + nI 2).toNatClampNeg = 0 then 0 else 1] [.int r] _ _ _ _ _ d701 (LM_X12_far l) rfl (Nat.le_of_ble_eq_true rfl) (Nat.zero_le _) (Nat.zero_le _) ⟨_, _, t, rfl, rfl, (r, t'), e2, r, t', rfl, rfl, ?_⟩
  refine hG.2.2.2.1 _ 2350 _ _ _ _ _ _ _ _ d704 (by decide +kernel) ?_
  exact hG.2.2.2.2.2.2 _ _ _ _ _ _ _ _ _ (by omega) (by omega) (hend _ _ h')
set_option maxRecDepth 20000 in
theorem case_9 {l : Launch} {L : Nat} {xs : Nat → Int32} {q1 q2 : Nat} {G : lK} (hG : LCl l L xs q1 q2 G) {N : Int} {u t : St} {i : Int32} {bc bs : Nat} (h : RX N u t) (hN : N ≤ 600) (hi : ∀ j : Nat, j ≤ 8 → vp_in (i + nI j) L) (h1 : 25 ≤ bc) (h2 : 3000 ≤ bs) (hend : ∀ u' t', RX (N + 1) u' t' → G 2350 i [] u' t' (bc - 25) (bs - 3000)) : G 709 i [] u t bc bs := by
  obtain ⟨d709, d710, d711, d712, d713, d714, d715, d716, d717, d718, d719, d720, d723, d724, d727, d728, d731, d732, d733, d734, d735, d736, d737, d738, d739, d740, d741, d742, d745, d746, d749, d750, d753⟩ := DL_9
  obtain ⟨r, u', t', e1, e2, h'⟩ := P_shut h (by omega) (xs (i + nI 1).toNatClampNeg) (if xs (i + nI 2).toNatClampNeg = 0 then 0 else 1) (by split <;> simp)
  refine (hG.2.1 _ _ _ _ _ _ _).1 d709 ?_
  refine hG.1 _ 713 (nI 1) _ _ _ _ _ _ d710 d711 (Or.inl ⟨_, d712, rfl, rfl⟩) d713 d714 (hi 1 (by decide)) ?_
  refine hG.1 _ 718 (nI 2) _ _ _ _ _ _ d715 d716 (Or.inl ⟨_, d717, rfl, rfl⟩) d718 d719 (hi 2 (by decide)) ?_
  refine hG.2.2.1 _ _ _ _ _ _ _ _ d720 d723 d724 d727 ?_
  refine hG.2.2.2.2.1 728 _ _ _ _ _ _ _ _ _ [xs (i + nI 1).toNatClampNeg, if xs (i + nI 2).toNatClampNeg = 0 then 0 else 1] [] _ _ _ _ _ d728 (LM_X11_shut l) rfl (Nat.zero_le 4) (by omega) (by omega) ⟨_, _, u, rfl, rfl, (r, u'), e1, r, u', rfl, rfl, ?_⟩
  refine (hG.2.1 _ _ _ _ _ _ _).2 d731 ?_
  refine hG.1 _ 735 (nI 1) _ _ _ _ _ _ d732 d733 (Or.inl ⟨_, d734, rfl, rfl⟩) d735 d736 (hi 1 (by decide)) ?_
  refine hG.1 _ 740 (nI 2) _ _ _ _ _ _ d737 d738 (Or.inl ⟨_, d739, rfl, rfl⟩) d740 d741 (hi 2 (by decide)) ?_
  refine hG.2.2.1 _ _ _ _ _ _ _ _ d742 d745 d746 d749 ?_
  refine hG.2.2.2.2.2.1 750 _ _ _ _ _ _ _ _ _ [xs (i + nI 1).toNatClampNeg, if xs (i + nI 2).toNatClampNeg = 0 then 0 else 1] [.int r] _ _ _ _ _ d750 (LM_X12_shut l) rfl (Nat.le_of_ble_eq_true rfl) (Nat.zero_le _) (Nat.zero_le _) ⟨_, _, t, rfl, rfl, (r, t'), e2, r, t', rfl, rfl, ?_⟩
  refine hG.2.2.2.1 _ 2350 _ _ _ _ _ _ _ _ d753 (by decide +kernel) ?_
  exact hG.2.2.2.2.2.2 _ _ _ _ _ _ _ _ _ (by omega) (by omega) (hend _ _ h')
set_option maxRecDepth 20000 in
theorem case_10 {l : Launch} {L : Nat} {xs : Nat → Int32} {q1 q2 : Nat} {G : lK} (hG : LCl l L xs q1 q2 G) {N : Int} {u t : St} {i : Int32} {bc bs : Nat} (h : RX N u t) (hN : N ≤ 600) (hi : ∀ j : Nat, j ≤ 8 → vp_in (i + nI j) L) (h1 : 25 ≤ bc) (h2 : 3000 ≤ bs) (hend : ∀ u' t', RX (N + 1) u' t' → G 2350 i [] u' t' (bc - 25) (bs - 3000)) : G 758 i [] u t bc bs := by
  obtain ⟨d758, d759, d760, d761, d762, d763, d764, d765, d766, d767, d768, d769, d772, d773, d774, d775, d776, d777, d778, d779, d780, d781, d782, d783, d786⟩ := DL_10
  obtain ⟨r, e1, e2⟩ := P_schooled h (xs (i + nI 1).toNatClampNeg) (xs (i + nI 2).toNatClampNeg)
  have h' := h.up
  refine (hG.2.1 _ _ _ _ _ _ _).1 d758 ?_
  refine hG.1 _ 762 (nI 1) _ _ _ _ _ _ d759 d760 (Or.inl ⟨_, d761, rfl, rfl⟩) d762 d763 (hi 1 (by decide)) ?_
  refine hG.1 _ 767 (nI 2) _ _ _ _ _ _ d764 d765 (Or.inl ⟨_, d766, rfl, rfl⟩) d767 d768 (hi 2 (by decide)) ?_
  refine hG.2.2.2.2.1 769 _ _ _ _ _ _ _ _ _ [xs (i + nI 1).toNatClampNeg, xs (i + nI 2).toNatClampNeg] [] _ _ _ _ _ d769 (LM_X11_schooled l) rfl (Nat.zero_le 4) (by omega) (by omega) ⟨_, _, u, rfl, rfl, r, e1, r, u, rfl, rfl, ?_⟩
  refine (hG.2.1 _ _ _ _ _ _ _).2 d772 ?_
  refine hG.1 _ 776 (nI 1) _ _ _ _ _ _ d773 d774 (Or.inl ⟨_, d775, rfl, rfl⟩) d776 d777 (hi 1 (by decide)) ?_
  refine hG.1 _ 781 (nI 2) _ _ _ _ _ _ d778 d779 (Or.inl ⟨_, d780, rfl, rfl⟩) d781 d782 (hi 2 (by decide)) ?_
  refine hG.2.2.2.2.2.1 783 _ _ _ _ _ _ _ _ _ [xs (i + nI 1).toNatClampNeg, xs (i + nI 2).toNatClampNeg] [.int r] _ _ _ _ _ d783 (LM_X12_schooled l) rfl (Nat.le_of_ble_eq_true rfl) (Nat.zero_le _) (Nat.zero_le _) ⟨_, _, t, rfl, rfl, r, e2, r, t, rfl, rfl, ?_⟩
  refine hG.2.2.2.1 _ 2350 _ _ _ _ _ _ _ _ d786 (by decide +kernel) ?_
  exact hG.2.2.2.2.2.2 _ _ _ _ _ _ _ _ _ (by omega) (by omega) (hend _ _ h')
set_option maxRecDepth 20000 in
theorem case_11 {l : Launch} {L : Nat} {xs : Nat → Int32} {q1 q2 : Nat} {G : lK} (hG : LCl l L xs q1 q2 G) {N : Int} {u t : St} {i : Int32} {bc bs : Nat} (h : RX N u t) (hN : N ≤ 600) (hi : ∀ j : Nat, j ≤ 8 → vp_in (i + nI j) L) (h1 : 25 ≤ bc) (h2 : 3000 ≤ bs) (hend : ∀ u' t', RX (N + 1) u' t' → G 2350 i [] u' t' (bc - 25) (bs - 3000)) : G 791 i [] u t bc bs := by
  obtain ⟨d791, d792, d793, d794, d795, d796, d797, d798, d799, d800, d801, d802, d803, d804, d805, d806, d807, d808, d809, d810, d811, d812, d813, d814, d815, d816, d817, d820, d821, d822, d823, d824, d825, d826, d827, d828, d829, d830, d831, d832, d833, d834, d835, d836, d837, d838, d839, d840, d841, d842, d843, d844, d845, d846, d849⟩ := DL_11
  obtain ⟨r, u', t', e1, e2, h'⟩ := P_feed h (xs (i + nI 1).toNatClampNeg) (xs (i + nI 2).toNatClampNeg) (xs (i + nI 3).toNatClampNeg) (xs (i + nI 4).toNatClampNeg) (xs (i + nI 5).toNatClampNeg)
  refine (hG.2.1 _ _ _ _ _ _ _).1 d791 ?_
  refine hG.1 _ 795 (nI 1) _ _ _ _ _ _ d792 d793 (Or.inl ⟨_, d794, rfl, rfl⟩) d795 d796 (hi 1 (by decide)) ?_
  refine hG.1 _ 800 (nI 2) _ _ _ _ _ _ d797 d798 (Or.inl ⟨_, d799, rfl, rfl⟩) d800 d801 (hi 2 (by decide)) ?_
  refine hG.1 _ 805 (nI 3) _ _ _ _ _ _ d802 d803 (Or.inl ⟨_, d804, rfl, rfl⟩) d805 d806 (hi 3 (by decide)) ?_
  refine hG.1 _ 810 (nI 4) _ _ _ _ _ _ d807 d808 (Or.inl ⟨_, d809, rfl, rfl⟩) d810 d811 (hi 4 (by decide)) ?_
  refine hG.1 _ 815 (nI 5) _ _ _ _ _ _ d812 d813 (Or.inl ⟨_, d814, rfl, rfl⟩) d815 d816 (hi 5 (by decide)) ?_
  refine hG.2.2.2.2.1 817 _ _ _ _ _ _ _ _ _ [xs (i + nI 1).toNatClampNeg, xs (i + nI 2).toNatClampNeg, xs (i + nI 3).toNatClampNeg, xs (i + nI 4).toNatClampNeg, xs (i + nI 5).toNatClampNeg] [] _ _ _ _ _ d817 (LM_X11_feed l) rfl (Nat.zero_le 4) (by omega) (by omega) ⟨_, _, _, _, _, u, rfl, rfl, (r, u'), e1, r, u', rfl, rfl, ?_⟩
  refine (hG.2.1 _ _ _ _ _ _ _).2 d820 ?_
  refine hG.1 _ 824 (nI 1) _ _ _ _ _ _ d821 d822 (Or.inl ⟨_, d823, rfl, rfl⟩) d824 d825 (hi 1 (by decide)) ?_
  refine hG.1 _ 829 (nI 2) _ _ _ _ _ _ d826 d827 (Or.inl ⟨_, d828, rfl, rfl⟩) d829 d830 (hi 2 (by decide)) ?_
  refine hG.1 _ 834 (nI 3) _ _ _ _ _ _ d831 d832 (Or.inl ⟨_, d833, rfl, rfl⟩) d834 d835 (hi 3 (by decide)) ?_
  refine hG.1 _ 839 (nI 4) _ _ _ _ _ _ d836 d837 (Or.inl ⟨_, d838, rfl, rfl⟩) d839 d840 (hi 4 (by decide)) ?_
  refine hG.1 _ 844 (nI 5) _ _ _ _ _ _ d841 d842 (Or.inl ⟨_, d843, rfl, rfl⟩) d844 d845 (hi 5 (by decide)) ?_
  refine hG.2.2.2.2.2.1 846 _ _ _ _ _ _ _ _ _ [xs (i + nI 1).toNatClampNeg, xs (i + nI 2).toNatClampNeg, xs (i + nI 3).toNatClampNeg, xs (i + nI 4).toNatClampNeg, xs (i + nI 5).toNatClampNeg] [.int r] _ _ _ _ _ d846 (LM_X12_feed l) rfl (Nat.le_of_ble_eq_true rfl) (Nat.zero_le _) (Nat.zero_le _) ⟨_, _, _, _, _, t, rfl, rfl, (r, t'), e2, r, t', rfl, rfl, ?_⟩
  refine hG.2.2.2.1 _ 2350 _ _ _ _ _ _ _ _ d849 (by decide +kernel) ?_
  exact hG.2.2.2.2.2.2 _ _ _ _ _ _ _ _ _ (by omega) (by omega) (hend _ _ h')
set_option maxRecDepth 20000 in
theorem case_12 {l : Launch} {L : Nat} {xs : Nat → Int32} {q1 q2 : Nat} {G : lK} (hG : LCl l L xs q1 q2 G) {N : Int} {u t : St} {i : Int32} {bc bs : Nat} (h : RX N u t) (hN : N ≤ 600) (hi : ∀ j : Nat, j ≤ 8 → vp_in (i + nI j) L) (h1 : 25 ≤ bc) (h2 : 3000 ≤ bs) (hend : ∀ u' t', RX (N + 1) u' t' → G 2350 i [] u' t' (bc - 25) (bs - 3000)) : G 854 i [] u t bc bs := by
  obtain ⟨d854, d855, d856, d857, d858, d859, d860, d863, d864, d865, d866, d867, d868, d869, d872⟩ := DL_12
  obtain ⟨r, u', t', e1, e2, h'⟩ := P_end h (xs (i + nI 1).toNatClampNeg)
  refine (hG.2.1 _ _ _ _ _ _ _).1 d854 ?_
  refine hG.1 _ 858 (nI 1) _ _ _ _ _ _ d855 d856 (Or.inl ⟨_, d857, rfl, rfl⟩) d858 d859 (hi 1 (by decide)) ?_
  refine hG.2.2.2.2.1 860 _ _ _ _ _ _ _ _ _ [xs (i + nI 1).toNatClampNeg] [] _ _ _ _ _ d860 (LM_X11_end l) rfl (Nat.zero_le 4) (by omega) (by omega) ⟨_, u, rfl, rfl, (r, u'), e1, r, u', rfl, rfl, ?_⟩
  refine (hG.2.1 _ _ _ _ _ _ _).2 d863 ?_
  refine hG.1 _ 867 (nI 1) _ _ _ _ _ _ d864 d865 (Or.inl ⟨_, d866, rfl, rfl⟩) d867 d868 (hi 1 (by decide)) ?_
  refine hG.2.2.2.2.2.1 869 _ _ _ _ _ _ _ _ _ [xs (i + nI 1).toNatClampNeg] [.int r] _ _ _ _ _ d869 (LM_X12_end l) rfl (Nat.le_of_ble_eq_true rfl) (Nat.zero_le _) (Nat.zero_le _) ⟨_, t, rfl, rfl, (r, t'), e2, r, t', rfl, rfl, ?_⟩
  refine hG.2.2.2.1 _ 2350 _ _ _ _ _ _ _ _ d872 (by decide +kernel) ?_
  exact hG.2.2.2.2.2.2 _ _ _ _ _ _ _ _ _ (by omega) (by omega) (hend _ _ h')
set_option maxRecDepth 20000 in
theorem case_13 {l : Launch} {L : Nat} {xs : Nat → Int32} {q1 q2 : Nat} {G : lK} (hG : LCl l L xs q1 q2 G) {N : Int} {u t : St} {i : Int32} {bc bs : Nat} (h : RX N u t) (hN : N ≤ 600) (hi : ∀ j : Nat, j ≤ 8 → vp_in (i + nI j) L) (h1 : 25 ≤ bc) (h2 : 3000 ≤ bs) (hend : ∀ u' t', RX (N + 1) u' t' → G 2350 i [] u' t' (bc - 25) (bs - 3000)) : G 877 i [] u t bc bs := by
  obtain ⟨d877, d878, d881, d882, d885⟩ := DL_13
  obtain ⟨r, u', t', e1, e2, h'⟩ := P_fault h
  refine (hG.2.1 _ _ _ _ _ _ _).1 d877 ?_
  refine hG.2.2.2.2.1 878 _ _ _ _ _ _ _ _ _ [] [] _ _ _ _ _ d878 (LM_X11_fault l) rfl (Nat.zero_le 4) (by omega) (by omega) ⟨u, rfl, rfl, (r, u'), e1, r, u', rfl, rfl, ?_⟩
  refine (hG.2.1 _ _ _ _ _ _ _).2 d881 ?_
  refine hG.2.2.2.2.2.1 882 _ _ _ _ _ _ _ _ _ [] [.int r] _ _ _ _ _ d882 (LM_X12_fault l) rfl (Nat.le_of_ble_eq_true rfl) (Nat.zero_le _) (Nat.zero_le _) ⟨t, rfl, rfl, (r, t'), e2, r, t', rfl, rfl, ?_⟩
  refine hG.2.2.2.1 _ 2350 _ _ _ _ _ _ _ _ d885 (by decide +kernel) ?_
  exact hG.2.2.2.2.2.2 _ _ _ _ _ _ _ _ _ (by omega) (by omega) (hend _ _ h')
set_option maxRecDepth 20000 in
theorem case_14 {l : Launch} {L : Nat} {xs : Nat → Int32} {q1 q2 : Nat} {G : lK} (hG : LCl l L xs q1 q2 G) {N : Int} {u t : St} {i : Int32} {bc bs : Nat} (h : RX N u t) (hN : N ≤ 600) (hi : ∀ j : Nat, j ≤ 8 → vp_in (i + nI j) L) (h1 : 25 ≤ bc) (h2 : 3000 ≤ bs) (hend : ∀ u' t', RX (N + 1) u' t' → G 2350 i [] u' t' (bc - 25) (bs - 3000)) : G 890 i [] u t bc bs := by
  obtain ⟨d890, d891, d892, d893, d894, d895, d896, d897, d898, d899, d900, d901, d904, d905, d906, d907, d908, d909, d910, d911, d912, d913, d914, d915, d918⟩ := DL_14
  obtain ⟨r, u', t', e1, e2, h'⟩ := P_law h (xs (i + nI 1).toNatClampNeg) (xs (i + nI 2).toNatClampNeg)
  refine (hG.2.1 _ _ _ _ _ _ _).1 d890 ?_
  refine hG.1 _ 894 (nI 1) _ _ _ _ _ _ d891 d892 (Or.inl ⟨_, d893, rfl, rfl⟩) d894 d895 (hi 1 (by decide)) ?_
  refine hG.1 _ 899 (nI 2) _ _ _ _ _ _ d896 d897 (Or.inl ⟨_, d898, rfl, rfl⟩) d899 d900 (hi 2 (by decide)) ?_
  refine hG.2.2.2.2.1 901 _ _ _ _ _ _ _ _ _ [xs (i + nI 1).toNatClampNeg, xs (i + nI 2).toNatClampNeg] [] _ _ _ _ _ d901 (LM_X11_law l) rfl (Nat.zero_le 4) (by omega) (by omega) ⟨_, _, u, rfl, rfl, (r, u'), e1, r, u', rfl, rfl, ?_⟩
  refine (hG.2.1 _ _ _ _ _ _ _).2 d904 ?_
  refine hG.1 _ 908 (nI 1) _ _ _ _ _ _ d905 d906 (Or.inl ⟨_, d907, rfl, rfl⟩) d908 d909 (hi 1 (by decide)) ?_
  refine hG.1 _ 913 (nI 2) _ _ _ _ _ _ d910 d911 (Or.inl ⟨_, d912, rfl, rfl⟩) d913 d914 (hi 2 (by decide)) ?_
  refine hG.2.2.2.2.2.1 915 _ _ _ _ _ _ _ _ _ [xs (i + nI 1).toNatClampNeg, xs (i + nI 2).toNatClampNeg] [.int r] _ _ _ _ _ d915 (LM_X12_law l) rfl (Nat.le_of_ble_eq_true rfl) (Nat.zero_le _) (Nat.zero_le _) ⟨_, _, t, rfl, rfl, (r, t'), e2, r, t', rfl, rfl, ?_⟩
  refine hG.2.2.2.1 _ 2350 _ _ _ _ _ _ _ _ d918 (by decide +kernel) ?_
  exact hG.2.2.2.2.2.2 _ _ _ _ _ _ _ _ _ (by omega) (by omega) (hend _ _ h')
set_option maxRecDepth 20000 in
theorem case_15 {l : Launch} {L : Nat} {xs : Nat → Int32} {q1 q2 : Nat} {G : lK} (hG : LCl l L xs q1 q2 G) {N : Int} {u t : St} {i : Int32} {bc bs : Nat} (h : RX N u t) (hN : N ≤ 600) (hi : ∀ j : Nat, j ≤ 8 → vp_in (i + nI j) L) (h1 : 25 ≤ bc) (h2 : 3000 ≤ bs) (hend : ∀ u' t', RX (N + 1) u' t' → G 2350 i [] u' t' (bc - 25) (bs - 3000)) : G 923 i [] u t bc bs := by
  obtain ⟨d923, d924, d925, d926, d927, d928, d929, d930, d931, d932, d933, d934, d935, d936, d937, d938, d939, d940, d941, d942, d943, d944, d945, d946, d947, d948, d949, d950, d951, d953, d954, d955, d956, d957, d959, d960, d961, d962, d963, d965, d966, d967, d970, d971, d972, d973, d974, d975, d976, d977, d978, d979, d980, d981, d982, d983, d984, d985, d986, d987, d988, d989, d990, d991, d992, d993, d994, d995, d996, d997, d998, d1000, d1001, d1002, d1003, d1004, d1006, d1007, d1008, d1009, d1010, d1012, d1013, d1014, d1017⟩ := DL_15
  obtain ⟨r, u', t', e1, e2, h'⟩ := P_worth h (xs (i + nI 1).toNatClampNeg) (xs (i + nI 2).toNatClampNeg) (xs (i + nI 3).toNatClampNeg) (xs (i + nI 4).toNatClampNeg) (xs (i + nI 5).toNatClampNeg) (xs (i + nI 6).toNatClampNeg) (xs (i + nI 7).toNatClampNeg) (xs (i + nI 8).toNatClampNeg)
  refine (hG.2.1 _ _ _ _ _ _ _).1 d923 ?_
  refine hG.1 _ 927 (nI 1) _ _ _ _ _ _ d924 d925 (Or.inl ⟨_, d926, rfl, rfl⟩) d927 d928 (hi 1 (by decide)) ?_
  refine hG.1 _ 932 (nI 2) _ _ _ _ _ _ d929 d930 (Or.inl ⟨_, d931, rfl, rfl⟩) d932 d933 (hi 2 (by decide)) ?_
  refine hG.1 _ 937 (nI 3) _ _ _ _ _ _ d934 d935 (Or.inl ⟨_, d936, rfl, rfl⟩) d937 d938 (hi 3 (by decide)) ?_
  refine hG.1 _ 942 (nI 4) _ _ _ _ _ _ d939 d940 (Or.inl ⟨_, d941, rfl, rfl⟩) d942 d943 (hi 4 (by decide)) ?_
  refine hG.1 _ 947 (nI 5) _ _ _ _ _ _ d944 d945 (Or.inl ⟨_, d946, rfl, rfl⟩) d947 d948 (hi 5 (by decide)) ?_
  refine hG.1 _ 953 (nI 6) _ _ _ _ _ _ d949 d950 (Or.inr (Or.inl ⟨_, d951, rfl, rfl⟩)) d953 d954 (hi 6 (by decide)) ?_
  refine hG.1 _ 959 (nI 7) _ _ _ _ _ _ d955 d956 (Or.inr (Or.inl ⟨_, d957, rfl, rfl⟩)) d959 d960 (hi 7 (by decide)) ?_
  refine hG.1 _ 965 (nI 8) _ _ _ _ _ _ d961 d962 (Or.inr (Or.inl ⟨_, d963, rfl, rfl⟩)) d965 d966 (hi 8 (by decide)) ?_
  refine hG.2.2.2.2.1 967 _ _ _ _ _ _ _ _ _ [xs (i + nI 1).toNatClampNeg, xs (i + nI 2).toNatClampNeg, xs (i + nI 3).toNatClampNeg, xs (i + nI 4).toNatClampNeg, xs (i + nI 5).toNatClampNeg, xs (i + nI 6).toNatClampNeg, xs (i + nI 7).toNatClampNeg, xs (i + nI 8).toNatClampNeg] [] _ _ _ _ _ d967 (LM_X11_worth l) rfl (Nat.zero_le 4) (by omega) (by omega) ⟨_, _, _, _, _, _, _, _, u, rfl, rfl, (r, u'), e1, r, u', rfl, rfl, ?_⟩
  refine (hG.2.1 _ _ _ _ _ _ _).2 d970 ?_
  refine hG.1 _ 974 (nI 1) _ _ _ _ _ _ d971 d972 (Or.inl ⟨_, d973, rfl, rfl⟩) d974 d975 (hi 1 (by decide)) ?_
  refine hG.1 _ 979 (nI 2) _ _ _ _ _ _ d976 d977 (Or.inl ⟨_, d978, rfl, rfl⟩) d979 d980 (hi 2 (by decide)) ?_
  refine hG.1 _ 984 (nI 3) _ _ _ _ _ _ d981 d982 (Or.inl ⟨_, d983, rfl, rfl⟩) d984 d985 (hi 3 (by decide)) ?_
  refine hG.1 _ 989 (nI 4) _ _ _ _ _ _ d986 d987 (Or.inl ⟨_, d988, rfl, rfl⟩) d989 d990 (hi 4 (by decide)) ?_
  refine hG.1 _ 994 (nI 5) _ _ _ _ _ _ d991 d992 (Or.inl ⟨_, d993, rfl, rfl⟩) d994 d995 (hi 5 (by decide)) ?_
  refine hG.1 _ 1000 (nI 6) _ _ _ _ _ _ d996 d997 (Or.inr (Or.inl ⟨_, d998, rfl, rfl⟩)) d1000 d1001 (hi 6 (by decide)) ?_
  refine hG.1 _ 1006 (nI 7) _ _ _ _ _ _ d1002 d1003 (Or.inr (Or.inl ⟨_, d1004, rfl, rfl⟩)) d1006 d1007 (hi 7 (by decide)) ?_
  refine hG.1 _ 1012 (nI 8) _ _ _ _ _ _ d1008 d1009 (Or.inr (Or.inl ⟨_, d1010, rfl, rfl⟩)) d1012 d1013 (hi 8 (by decide)) ?_
  refine hG.2.2.2.2.2.1 1014 _ _ _ _ _ _ _ _ _ [xs (i + nI 1).toNatClampNeg, xs (i + nI 2).toNatClampNeg, xs (i + nI 3).toNatClampNeg, xs (i + nI 4).toNatClampNeg, xs (i + nI 5).toNatClampNeg, xs (i + nI 6).toNatClampNeg, xs (i + nI 7).toNatClampNeg, xs (i + nI 8).toNatClampNeg] [.int r] _ _ _ _ _ d1014 (LM_X12_worth l) rfl (Nat.le_of_ble_eq_true rfl) (Nat.zero_le _) (Nat.zero_le _) ⟨_, _, _, _, _, _, _, _, t, rfl, rfl, (r, t'), e2, r, t', rfl, rfl, ?_⟩
  refine hG.2.2.2.1 _ 2350 _ _ _ _ _ _ _ _ d1017 (by decide +kernel) ?_
  exact hG.2.2.2.2.2.2 _ _ _ _ _ _ _ _ _ (by omega) (by omega) (hend _ _ h')
set_option maxRecDepth 20000 in
theorem case_16 {l : Launch} {L : Nat} {xs : Nat → Int32} {q1 q2 : Nat} {G : lK} (hG : LCl l L xs q1 q2 G) {N : Int} {u t : St} {i : Int32} {bc bs : Nat} (h : RX N u t) (hN : N ≤ 600) (hi : ∀ j : Nat, j ≤ 8 → vp_in (i + nI j) L) (h1 : 25 ≤ bc) (h2 : 3000 ≤ bs) (hend : ∀ u' t', RX (N + 1) u' t' → G 2350 i [] u' t' (bc - 25) (bs - 3000)) : G 1022 i [] u t bc bs := by
  obtain ⟨d1022, d1023, d1024, d1025, d1026, d1027, d1028, d1029, d1030, d1031, d1032, d1033, d1034, d1035, d1036, d1037, d1038, d1039, d1040, d1041, d1042, d1043, d1044, d1045, d1046, d1047, d1048, d1049, d1050, d1052, d1053, d1054, d1055, d1056, d1058, d1059, d1060, d1061, d1062, d1064, d1065, d1066, d1069, d1070, d1071, d1072, d1073, d1074, d1075, d1076, d1077, d1078, d1079, d1080, d1081, d1082, d1083, d1084, d1085, d1086, d1087, d1088, d1089, d1090, d1091, d1092, d1093, d1094, d1095, d1096, d1097, d1099, d1100, d1101, d1102, d1103, d1105, d1106, d1107, d1108, d1109, d1111, d1112, d1113, d1116⟩ := DL_16
  obtain ⟨r, u', t', e1, e2, h'⟩ := P_why h (xs (i + nI 1).toNatClampNeg) (xs (i + nI 2).toNatClampNeg) (xs (i + nI 3).toNatClampNeg) (xs (i + nI 4).toNatClampNeg) (xs (i + nI 5).toNatClampNeg) (xs (i + nI 6).toNatClampNeg) (xs (i + nI 7).toNatClampNeg) (xs (i + nI 8).toNatClampNeg)
  refine (hG.2.1 _ _ _ _ _ _ _).1 d1022 ?_
  refine hG.1 _ 1026 (nI 1) _ _ _ _ _ _ d1023 d1024 (Or.inl ⟨_, d1025, rfl, rfl⟩) d1026 d1027 (hi 1 (by decide)) ?_
  refine hG.1 _ 1031 (nI 2) _ _ _ _ _ _ d1028 d1029 (Or.inl ⟨_, d1030, rfl, rfl⟩) d1031 d1032 (hi 2 (by decide)) ?_
  refine hG.1 _ 1036 (nI 3) _ _ _ _ _ _ d1033 d1034 (Or.inl ⟨_, d1035, rfl, rfl⟩) d1036 d1037 (hi 3 (by decide)) ?_
  refine hG.1 _ 1041 (nI 4) _ _ _ _ _ _ d1038 d1039 (Or.inl ⟨_, d1040, rfl, rfl⟩) d1041 d1042 (hi 4 (by decide)) ?_
  refine hG.1 _ 1046 (nI 5) _ _ _ _ _ _ d1043 d1044 (Or.inl ⟨_, d1045, rfl, rfl⟩) d1046 d1047 (hi 5 (by decide)) ?_
  refine hG.1 _ 1052 (nI 6) _ _ _ _ _ _ d1048 d1049 (Or.inr (Or.inl ⟨_, d1050, rfl, rfl⟩)) d1052 d1053 (hi 6 (by decide)) ?_
  refine hG.1 _ 1058 (nI 7) _ _ _ _ _ _ d1054 d1055 (Or.inr (Or.inl ⟨_, d1056, rfl, rfl⟩)) d1058 d1059 (hi 7 (by decide)) ?_
  refine hG.1 _ 1064 (nI 8) _ _ _ _ _ _ d1060 d1061 (Or.inr (Or.inl ⟨_, d1062, rfl, rfl⟩)) d1064 d1065 (hi 8 (by decide)) ?_
  refine hG.2.2.2.2.1 1066 _ _ _ _ _ _ _ _ _ [xs (i + nI 1).toNatClampNeg, xs (i + nI 2).toNatClampNeg, xs (i + nI 3).toNatClampNeg, xs (i + nI 4).toNatClampNeg, xs (i + nI 5).toNatClampNeg, xs (i + nI 6).toNatClampNeg, xs (i + nI 7).toNatClampNeg, xs (i + nI 8).toNatClampNeg] [] _ _ _ _ _ d1066 (LM_X11_why l) rfl (Nat.zero_le 4) (by omega) (by omega) ⟨_, _, _, _, _, _, _, _, u, rfl, rfl, (r, u'), e1, r, u', rfl, rfl, ?_⟩
  refine (hG.2.1 _ _ _ _ _ _ _).2 d1069 ?_
  refine hG.1 _ 1073 (nI 1) _ _ _ _ _ _ d1070 d1071 (Or.inl ⟨_, d1072, rfl, rfl⟩) d1073 d1074 (hi 1 (by decide)) ?_
  refine hG.1 _ 1078 (nI 2) _ _ _ _ _ _ d1075 d1076 (Or.inl ⟨_, d1077, rfl, rfl⟩) d1078 d1079 (hi 2 (by decide)) ?_
  refine hG.1 _ 1083 (nI 3) _ _ _ _ _ _ d1080 d1081 (Or.inl ⟨_, d1082, rfl, rfl⟩) d1083 d1084 (hi 3 (by decide)) ?_
  refine hG.1 _ 1088 (nI 4) _ _ _ _ _ _ d1085 d1086 (Or.inl ⟨_, d1087, rfl, rfl⟩) d1088 d1089 (hi 4 (by decide)) ?_
  refine hG.1 _ 1093 (nI 5) _ _ _ _ _ _ d1090 d1091 (Or.inl ⟨_, d1092, rfl, rfl⟩) d1093 d1094 (hi 5 (by decide)) ?_
  refine hG.1 _ 1099 (nI 6) _ _ _ _ _ _ d1095 d1096 (Or.inr (Or.inl ⟨_, d1097, rfl, rfl⟩)) d1099 d1100 (hi 6 (by decide)) ?_
  refine hG.1 _ 1105 (nI 7) _ _ _ _ _ _ d1101 d1102 (Or.inr (Or.inl ⟨_, d1103, rfl, rfl⟩)) d1105 d1106 (hi 7 (by decide)) ?_
  refine hG.1 _ 1111 (nI 8) _ _ _ _ _ _ d1107 d1108 (Or.inr (Or.inl ⟨_, d1109, rfl, rfl⟩)) d1111 d1112 (hi 8 (by decide)) ?_
  refine hG.2.2.2.2.2.1 1113 _ _ _ _ _ _ _ _ _ [xs (i + nI 1).toNatClampNeg, xs (i + nI 2).toNatClampNeg, xs (i + nI 3).toNatClampNeg, xs (i + nI 4).toNatClampNeg, xs (i + nI 5).toNatClampNeg, xs (i + nI 6).toNatClampNeg, xs (i + nI 7).toNatClampNeg, xs (i + nI 8).toNatClampNeg] [.int r] _ _ _ _ _ d1113 (LM_X12_why l) rfl (Nat.le_of_ble_eq_true rfl) (Nat.zero_le _) (Nat.zero_le _) ⟨_, _, _, _, _, _, _, _, t, rfl, rfl, (r, t'), e2, r, t', rfl, rfl, ?_⟩
  refine hG.2.2.2.1 _ 2350 _ _ _ _ _ _ _ _ d1116 (by decide +kernel) ?_
  exact hG.2.2.2.2.2.2 _ _ _ _ _ _ _ _ _ (by omega) (by omega) (hend _ _ h')
set_option maxRecDepth 20000 in
theorem LM_X12_quarrel (l : Launch) : LM l 96 yX12_quarrel cX12_quarrel 9 ((some FieldType.int)) 3 0 0 c_X12_quarrel RX12 := ⟨12, m_X12_quarrel l, by decide, by decide, k_X12_quarrel, rfl, p_X12_quarrel, mj_tw_in (List.mem_of_getElem? (i := 1930) (by decide +kernel)) rfl, n_X12_quarrel, e_X12_quarrel⟩
set_option maxRecDepth 20000 in
theorem case_17 {l : Launch} {L : Nat} {xs : Nat → Int32} {q1 q2 : Nat} {G : lK} (hG : LCl l L xs q1 q2 G) {N : Int} {u t : St} {i : Int32} {bc bs : Nat} (h : RX N u t) (hN : N ≤ 600) (hi : ∀ j : Nat, j ≤ 8 → vp_in (i + nI j) L) (h1 : 25 ≤ bc) (h2 : 3000 ≤ bs) (hend : ∀ u' t', RX (N + 1) u' t' → G 2350 i [] u' t' (bc - 25) (bs - 3000)) : G 1121 i [] u t bc bs := by
  obtain ⟨d1121, d1122, d1123, d1124, d1125, d1126, d1127, d1128, d1129, d1130, d1131, d1132, d1133, d1134, d1135, d1136, d1137, d1140, d1141, d1142, d1143, d1144, d1145, d1146, d1147, d1148, d1149, d1150, d1151, d1152, d1153, d1154, d1155, d1156, d1159⟩ := DL_17
  obtain ⟨r, u', t', e1, e2, h'⟩ := P_quarrel h (xs (i + nI 1).toNatClampNeg) (xs (i + nI 2).toNatClampNeg) (xs (i + nI 3).toNatClampNeg)
  refine (hG.2.1 _ _ _ _ _ _ _).1 d1121 ?_
  refine hG.1 _ 1125 (nI 1) _ _ _ _ _ _ d1122 d1123 (Or.inl ⟨_, d1124, rfl, rfl⟩) d1125 d1126 (hi 1 (by decide)) ?_
  refine hG.1 _ 1130 (nI 2) _ _ _ _ _ _ d1127 d1128 (Or.inl ⟨_, d1129, rfl, rfl⟩) d1130 d1131 (hi 2 (by decide)) ?_
  refine hG.1 _ 1135 (nI 3) _ _ _ _ _ _ d1132 d1133 (Or.inl ⟨_, d1134, rfl, rfl⟩) d1135 d1136 (hi 3 (by decide)) ?_
  refine hG.2.2.2.2.1 1137 _ _ _ _ _ _ _ _ _ [xs (i + nI 1).toNatClampNeg, xs (i + nI 2).toNatClampNeg, xs (i + nI 3).toNatClampNeg] [] _ _ _ _ _ d1137 (LM_X11_quarrel l) rfl (Nat.zero_le 4) (by omega) (by omega) ⟨_, _, _, u, rfl, rfl, (r, u'), e1, r, u', rfl, rfl, ?_⟩
  refine (hG.2.1 _ _ _ _ _ _ _).2 d1140 ?_
  refine hG.1 _ 1144 (nI 1) _ _ _ _ _ _ d1141 d1142 (Or.inl ⟨_, d1143, rfl, rfl⟩) d1144 d1145 (hi 1 (by decide)) ?_
  refine hG.1 _ 1149 (nI 2) _ _ _ _ _ _ d1146 d1147 (Or.inl ⟨_, d1148, rfl, rfl⟩) d1149 d1150 (hi 2 (by decide)) ?_
  refine hG.1 _ 1154 (nI 3) _ _ _ _ _ _ d1151 d1152 (Or.inl ⟨_, d1153, rfl, rfl⟩) d1154 d1155 (hi 3 (by decide)) ?_
  refine hG.2.2.2.2.2.1 1156 _ _ _ _ _ _ _ _ _ [xs (i + nI 1).toNatClampNeg, xs (i + nI 2).toNatClampNeg, xs (i + nI 3).toNatClampNeg] [.int r] _ _ _ _ _ d1156 (LM_X12_quarrel l) rfl (Nat.le_of_ble_eq_true rfl) (Nat.zero_le _) (Nat.zero_le _) ⟨_, _, _, t, rfl, rfl, (r, t'), e2, r, t', rfl, rfl, ?_⟩
  refine hG.2.2.2.1 _ 2350 _ _ _ _ _ _ _ _ d1159 (by decide +kernel) ?_
  exact hG.2.2.2.2.2.2 _ _ _ _ _ _ _ _ _ (by omega) (by omega) (hend _ _ h')
set_option maxRecDepth 20000 in
theorem case_18 {l : Launch} {L : Nat} {xs : Nat → Int32} {q1 q2 : Nat} {G : lK} (hG : LCl l L xs q1 q2 G) {N : Int} {u t : St} {i : Int32} {bc bs : Nat} (h : RX N u t) (hN : N ≤ 600) (hi : ∀ j : Nat, j ≤ 8 → vp_in (i + nI j) L) (h1 : 25 ≤ bc) (h2 : 3000 ≤ bs) (hend : ∀ u' t', RX (N + 1) u' t' → G 2350 i [] u' t' (bc - 25) (bs - 3000)) : G 1164 i [] u t bc bs := by
  obtain ⟨d1164, d1165, d1166, d1167, d1168, d1169, d1170, d1171, d1172, d1173, d1174, d1175, d1176, d1177, d1178, d1179, d1180, d1183, d1184, d1185, d1186, d1187, d1188, d1189, d1190, d1191, d1192, d1193, d1194, d1195, d1196, d1197, d1198, d1199, d1202⟩ := DL_18
  obtain ⟨r, u', t', e1, e2, h'⟩ := P_places h (by omega) (xs (i + nI 1).toNatClampNeg) (xs (i + nI 2).toNatClampNeg) (xs (i + nI 3).toNatClampNeg)
  refine (hG.2.1 _ _ _ _ _ _ _).1 d1164 ?_
  refine hG.1 _ 1168 (nI 1) _ _ _ _ _ _ d1165 d1166 (Or.inl ⟨_, d1167, rfl, rfl⟩) d1168 d1169 (hi 1 (by decide)) ?_
  refine hG.1 _ 1173 (nI 2) _ _ _ _ _ _ d1170 d1171 (Or.inl ⟨_, d1172, rfl, rfl⟩) d1173 d1174 (hi 2 (by decide)) ?_
  refine hG.1 _ 1178 (nI 3) _ _ _ _ _ _ d1175 d1176 (Or.inl ⟨_, d1177, rfl, rfl⟩) d1178 d1179 (hi 3 (by decide)) ?_
  refine hG.2.2.2.2.1 1180 _ _ _ _ _ _ _ _ _ [xs (i + nI 1).toNatClampNeg, xs (i + nI 2).toNatClampNeg, xs (i + nI 3).toNatClampNeg] [] _ _ _ _ _ d1180 (LM_X11_places l) rfl (Nat.zero_le 4) (by omega) (by omega) ⟨_, _, _, u, rfl, rfl, (r, u'), e1, r, u', rfl, rfl, ?_⟩
  refine (hG.2.1 _ _ _ _ _ _ _).2 d1183 ?_
  refine hG.1 _ 1187 (nI 1) _ _ _ _ _ _ d1184 d1185 (Or.inl ⟨_, d1186, rfl, rfl⟩) d1187 d1188 (hi 1 (by decide)) ?_
  refine hG.1 _ 1192 (nI 2) _ _ _ _ _ _ d1189 d1190 (Or.inl ⟨_, d1191, rfl, rfl⟩) d1192 d1193 (hi 2 (by decide)) ?_
  refine hG.1 _ 1197 (nI 3) _ _ _ _ _ _ d1194 d1195 (Or.inl ⟨_, d1196, rfl, rfl⟩) d1197 d1198 (hi 3 (by decide)) ?_
  refine hG.2.2.2.2.2.1 1199 _ _ _ _ _ _ _ _ _ [xs (i + nI 1).toNatClampNeg, xs (i + nI 2).toNatClampNeg, xs (i + nI 3).toNatClampNeg] [.int r] _ _ _ _ _ d1199 (LM_X12_places l) rfl (Nat.le_of_ble_eq_true rfl) (Nat.zero_le _) (Nat.zero_le _) ⟨_, _, _, t, rfl, rfl, (r, t'), e2, r, t', rfl, rfl, ?_⟩
  refine hG.2.2.2.1 _ 2350 _ _ _ _ _ _ _ _ d1202 (by decide +kernel) ?_
  exact hG.2.2.2.2.2.2 _ _ _ _ _ _ _ _ _ (by omega) (by omega) (hend _ _ h')
set_option maxRecDepth 20000 in
theorem case_19 {l : Launch} {L : Nat} {xs : Nat → Int32} {q1 q2 : Nat} {G : lK} (hG : LCl l L xs q1 q2 G) {N : Int} {u t : St} {i : Int32} {bc bs : Nat} (h : RX N u t) (hN : N ≤ 600) (hi : ∀ j : Nat, j ≤ 8 → vp_in (i + nI j) L) (h1 : 25 ≤ bc) (h2 : 3000 ≤ bs) (hend : ∀ u' t', RX (N + 1) u' t' → G 2350 i [] u' t' (bc - 25) (bs - 3000)) : G 1207 i [] u t bc bs := by
  obtain ⟨d1207, d1208, d1209, d1210, d1211, d1212, d1213, d1214, d1215, d1216, d1217, d1218, d1219, d1220, d1221, d1222, d1223, d1224, d1225, d1226, d1227, d1228, d1231, d1232, d1233, d1234, d1235, d1236, d1237, d1238, d1239, d1240, d1241, d1242, d1243, d1244, d1245, d1246, d1247, d1248, d1249, d1250, d1251, d1252, d1255⟩ := DL_19
  obtain ⟨r, u', t', e1, e2, h'⟩ := P_reach h (by omega) (xs (i + nI 1).toNatClampNeg) (xs (i + nI 2).toNatClampNeg) (xs (i + nI 3).toNatClampNeg) (xs (i + nI 4).toNatClampNeg)
  refine (hG.2.1 _ _ _ _ _ _ _).1 d1207 ?_
  refine hG.1 _ 1211 (nI 1) _ _ _ _ _ _ d1208 d1209 (Or.inl ⟨_, d1210, rfl, rfl⟩) d1211 d1212 (hi 1 (by decide)) ?_
  refine hG.1 _ 1216 (nI 2) _ _ _ _ _ _ d1213 d1214 (Or.inl ⟨_, d1215, rfl, rfl⟩) d1216 d1217 (hi 2 (by decide)) ?_
  refine hG.1 _ 1221 (nI 3) _ _ _ _ _ _ d1218 d1219 (Or.inl ⟨_, d1220, rfl, rfl⟩) d1221 d1222 (hi 3 (by decide)) ?_
  refine hG.1 _ 1226 (nI 4) _ _ _ _ _ _ d1223 d1224 (Or.inl ⟨_, d1225, rfl, rfl⟩) d1226 d1227 (hi 4 (by decide)) ?_
  refine hG.2.2.2.2.1 1228 _ _ _ _ _ _ _ _ _ [xs (i + nI 1).toNatClampNeg, xs (i + nI 2).toNatClampNeg, xs (i + nI 3).toNatClampNeg, xs (i + nI 4).toNatClampNeg] [] _ _ _ _ _ d1228 (LM_X11_reach l) rfl (Nat.zero_le 4) (by omega) (by omega) ⟨_, _, _, _, u, rfl, rfl, (r, u'), e1, r, u', rfl, rfl, ?_⟩
  refine (hG.2.1 _ _ _ _ _ _ _).2 d1231 ?_
  refine hG.1 _ 1235 (nI 1) _ _ _ _ _ _ d1232 d1233 (Or.inl ⟨_, d1234, rfl, rfl⟩) d1235 d1236 (hi 1 (by decide)) ?_
  refine hG.1 _ 1240 (nI 2) _ _ _ _ _ _ d1237 d1238 (Or.inl ⟨_, d1239, rfl, rfl⟩) d1240 d1241 (hi 2 (by decide)) ?_
  refine hG.1 _ 1245 (nI 3) _ _ _ _ _ _ d1242 d1243 (Or.inl ⟨_, d1244, rfl, rfl⟩) d1245 d1246 (hi 3 (by decide)) ?_
  refine hG.1 _ 1250 (nI 4) _ _ _ _ _ _ d1247 d1248 (Or.inl ⟨_, d1249, rfl, rfl⟩) d1250 d1251 (hi 4 (by decide)) ?_
  refine hG.2.2.2.2.2.1 1252 _ _ _ _ _ _ _ _ _ [xs (i + nI 1).toNatClampNeg, xs (i + nI 2).toNatClampNeg, xs (i + nI 3).toNatClampNeg, xs (i + nI 4).toNatClampNeg] [.int r] _ _ _ _ _ d1252 (LM_X12_reach l) rfl (Nat.le_of_ble_eq_true rfl) (Nat.zero_le _) (Nat.zero_le _) ⟨_, _, _, _, t, rfl, rfl, (r, t'), e2, r, t', rfl, rfl, ?_⟩
  refine hG.2.2.2.1 _ 2350 _ _ _ _ _ _ _ _ d1255 (by decide +kernel) ?_
  exact hG.2.2.2.2.2.2 _ _ _ _ _ _ _ _ _ (by omega) (by omega) (hend _ _ h')
set_option maxRecDepth 20000 in
theorem case_20 {l : Launch} {L : Nat} {xs : Nat → Int32} {q1 q2 : Nat} {G : lK} (hG : LCl l L xs q1 q2 G) {N : Int} {u t : St} {i : Int32} {bc bs : Nat} (h : RX N u t) (hN : N ≤ 600) (hi : ∀ j : Nat, j ≤ 8 → vp_in (i + nI j) L) (h1 : 25 ≤ bc) (h2 : 3000 ≤ bs) (hend : ∀ u' t', RX (N + 1) u' t' → G 2350 i [] u' t' (bc - 25) (bs - 3000)) : G 1260 i [] u t bc bs := by
  obtain ⟨d1260, d1261, d1262, d1263, d1264, d1265, d1266, d1267, d1268, d1269, d1270, d1271, d1272, d1273, d1274, d1275, d1276, d1277, d1278, d1279, d1280, d1281, d1284, d1285, d1286, d1287, d1288, d1289, d1290, d1291, d1292, d1293, d1294, d1295, d1296, d1297, d1298, d1299, d1300, d1301, d1302, d1303, d1304, d1305, d1308⟩ := DL_20
  obtain ⟨r, u', t', e1, e2, h'⟩ := P_seated h (by omega) (xs (i + nI 1).toNatClampNeg) (xs (i + nI 2).toNatClampNeg) (xs (i + nI 3).toNatClampNeg) (xs (i + nI 4).toNatClampNeg)
  refine (hG.2.1 _ _ _ _ _ _ _).1 d1260 ?_
  refine hG.1 _ 1264 (nI 1) _ _ _ _ _ _ d1261 d1262 (Or.inl ⟨_, d1263, rfl, rfl⟩) d1264 d1265 (hi 1 (by decide)) ?_
  refine hG.1 _ 1269 (nI 2) _ _ _ _ _ _ d1266 d1267 (Or.inl ⟨_, d1268, rfl, rfl⟩) d1269 d1270 (hi 2 (by decide)) ?_
  refine hG.1 _ 1274 (nI 3) _ _ _ _ _ _ d1271 d1272 (Or.inl ⟨_, d1273, rfl, rfl⟩) d1274 d1275 (hi 3 (by decide)) ?_
  refine hG.1 _ 1279 (nI 4) _ _ _ _ _ _ d1276 d1277 (Or.inl ⟨_, d1278, rfl, rfl⟩) d1279 d1280 (hi 4 (by decide)) ?_
  refine hG.2.2.2.2.1 1281 _ _ _ _ _ _ _ _ _ [xs (i + nI 1).toNatClampNeg, xs (i + nI 2).toNatClampNeg, xs (i + nI 3).toNatClampNeg, xs (i + nI 4).toNatClampNeg] [] _ _ _ _ _ d1281 (LM_X11_seated l) rfl (Nat.zero_le 4) (by omega) (by omega) ⟨_, _, _, _, u, rfl, rfl, (r, u'), e1, r, u', rfl, rfl, ?_⟩
  refine (hG.2.1 _ _ _ _ _ _ _).2 d1284 ?_
  refine hG.1 _ 1288 (nI 1) _ _ _ _ _ _ d1285 d1286 (Or.inl ⟨_, d1287, rfl, rfl⟩) d1288 d1289 (hi 1 (by decide)) ?_
  refine hG.1 _ 1293 (nI 2) _ _ _ _ _ _ d1290 d1291 (Or.inl ⟨_, d1292, rfl, rfl⟩) d1293 d1294 (hi 2 (by decide)) ?_
  refine hG.1 _ 1298 (nI 3) _ _ _ _ _ _ d1295 d1296 (Or.inl ⟨_, d1297, rfl, rfl⟩) d1298 d1299 (hi 3 (by decide)) ?_
  refine hG.1 _ 1303 (nI 4) _ _ _ _ _ _ d1300 d1301 (Or.inl ⟨_, d1302, rfl, rfl⟩) d1303 d1304 (hi 4 (by decide)) ?_
  refine hG.2.2.2.2.2.1 1305 _ _ _ _ _ _ _ _ _ [xs (i + nI 1).toNatClampNeg, xs (i + nI 2).toNatClampNeg, xs (i + nI 3).toNatClampNeg, xs (i + nI 4).toNatClampNeg] [.int r] _ _ _ _ _ d1305 (LM_X12_seated l) rfl (Nat.le_of_ble_eq_true rfl) (Nat.zero_le _) (Nat.zero_le _) ⟨_, _, _, _, t, rfl, rfl, (r, t'), e2, r, t', rfl, rfl, ?_⟩
  refine hG.2.2.2.1 _ 2350 _ _ _ _ _ _ _ _ d1308 (by decide +kernel) ?_
  exact hG.2.2.2.2.2.2 _ _ _ _ _ _ _ _ _ (by omega) (by omega) (hend _ _ h')
set_option maxRecDepth 20000 in
theorem case_21 {l : Launch} {L : Nat} {xs : Nat → Int32} {q1 q2 : Nat} {G : lK} (hG : LCl l L xs q1 q2 G) {N : Int} {u t : St} {i : Int32} {bc bs : Nat} (h : RX N u t) (hN : N ≤ 600) (hi : ∀ j : Nat, j ≤ 8 → vp_in (i + nI j) L) (h1 : 25 ≤ bc) (h2 : 3000 ≤ bs) (hend : ∀ u' t', RX (N + 1) u' t' → G 2350 i [] u' t' (bc - 25) (bs - 3000)) : G 1313 i [] u t bc bs := by
  obtain ⟨d1313, d1314, d1315, d1316, d1317, d1318, d1319, d1320, d1321, d1322, d1323, d1324, d1325, d1326, d1327, d1328, d1329, d1332, d1333, d1334, d1335, d1336, d1337, d1338, d1339, d1340, d1341, d1342, d1343, d1344, d1345, d1346, d1347, d1348, d1351⟩ := DL_21
  obtain ⟨r, u', t', e1, e2, h'⟩ := P_unseated h (by omega) (xs (i + nI 1).toNatClampNeg) (xs (i + nI 2).toNatClampNeg) (xs (i + nI 3).toNatClampNeg)
  refine (hG.2.1 _ _ _ _ _ _ _).1 d1313 ?_
  refine hG.1 _ 1317 (nI 1) _ _ _ _ _ _ d1314 d1315 (Or.inl ⟨_, d1316, rfl, rfl⟩) d1317 d1318 (hi 1 (by decide)) ?_
  refine hG.1 _ 1322 (nI 2) _ _ _ _ _ _ d1319 d1320 (Or.inl ⟨_, d1321, rfl, rfl⟩) d1322 d1323 (hi 2 (by decide)) ?_
  refine hG.1 _ 1327 (nI 3) _ _ _ _ _ _ d1324 d1325 (Or.inl ⟨_, d1326, rfl, rfl⟩) d1327 d1328 (hi 3 (by decide)) ?_
  refine hG.2.2.2.2.1 1329 _ _ _ _ _ _ _ _ _ [xs (i + nI 1).toNatClampNeg, xs (i + nI 2).toNatClampNeg, xs (i + nI 3).toNatClampNeg] [] _ _ _ _ _ d1329 (LM_X11_unseated l) rfl (Nat.zero_le 4) (by omega) (by omega) ⟨_, _, _, u, rfl, rfl, (r, u'), e1, r, u', rfl, rfl, ?_⟩
  refine (hG.2.1 _ _ _ _ _ _ _).2 d1332 ?_
  refine hG.1 _ 1336 (nI 1) _ _ _ _ _ _ d1333 d1334 (Or.inl ⟨_, d1335, rfl, rfl⟩) d1336 d1337 (hi 1 (by decide)) ?_
  refine hG.1 _ 1341 (nI 2) _ _ _ _ _ _ d1338 d1339 (Or.inl ⟨_, d1340, rfl, rfl⟩) d1341 d1342 (hi 2 (by decide)) ?_
  refine hG.1 _ 1346 (nI 3) _ _ _ _ _ _ d1343 d1344 (Or.inl ⟨_, d1345, rfl, rfl⟩) d1346 d1347 (hi 3 (by decide)) ?_
  refine hG.2.2.2.2.2.1 1348 _ _ _ _ _ _ _ _ _ [xs (i + nI 1).toNatClampNeg, xs (i + nI 2).toNatClampNeg, xs (i + nI 3).toNatClampNeg] [.int r] _ _ _ _ _ d1348 (LM_X12_unseated l) rfl (Nat.le_of_ble_eq_true rfl) (Nat.zero_le _) (Nat.zero_le _) ⟨_, _, _, t, rfl, rfl, (r, t'), e2, r, t', rfl, rfl, ?_⟩
  refine hG.2.2.2.1 _ 2350 _ _ _ _ _ _ _ _ d1351 (by decide +kernel) ?_
  exact hG.2.2.2.2.2.2 _ _ _ _ _ _ _ _ _ (by omega) (by omega) (hend _ _ h')
set_option maxRecDepth 20000 in
theorem case_22 {l : Launch} {L : Nat} {xs : Nat → Int32} {q1 q2 : Nat} {G : lK} (hG : LCl l L xs q1 q2 G) {N : Int} {u t : St} {i : Int32} {bc bs : Nat} (h : RX N u t) (hN : N ≤ 600) (hi : ∀ j : Nat, j ≤ 8 → vp_in (i + nI j) L) (h1 : 25 ≤ bc) (h2 : 3000 ≤ bs) (hend : ∀ u' t', RX (N + 1) u' t' → G 2350 i [] u' t' (bc - 25) (bs - 3000)) : G 1356 i [] u t bc bs := by
  obtain ⟨d1356, d1357, d1358, d1359, d1360, d1361, d1362, d1363, d1364, d1365, d1366, d1367, d1370, d1371, d1372, d1373, d1374, d1375, d1376, d1377, d1378, d1379, d1380, d1381, d1384⟩ := DL_22
  obtain ⟨r, u', t', e1, e2, h'⟩ := P_most h (by omega) (xs (i + nI 1).toNatClampNeg) (xs (i + nI 2).toNatClampNeg)
  refine (hG.2.1 _ _ _ _ _ _ _).1 d1356 ?_
  refine hG.1 _ 1360 (nI 1) _ _ _ _ _ _ d1357 d1358 (Or.inl ⟨_, d1359, rfl, rfl⟩) d1360 d1361 (hi 1 (by decide)) ?_
  refine hG.1 _ 1365 (nI 2) _ _ _ _ _ _ d1362 d1363 (Or.inl ⟨_, d1364, rfl, rfl⟩) d1365 d1366 (hi 2 (by decide)) ?_
  refine hG.2.2.2.2.1 1367 _ _ _ _ _ _ _ _ _ [xs (i + nI 1).toNatClampNeg, xs (i + nI 2).toNatClampNeg] [] _ _ _ _ _ d1367 (LM_X11_most l) rfl (Nat.zero_le 4) (by omega) (by omega) ⟨_, _, u, rfl, rfl, (r, u'), e1, r, u', rfl, rfl, ?_⟩
  refine (hG.2.1 _ _ _ _ _ _ _).2 d1370 ?_
  refine hG.1 _ 1374 (nI 1) _ _ _ _ _ _ d1371 d1372 (Or.inl ⟨_, d1373, rfl, rfl⟩) d1374 d1375 (hi 1 (by decide)) ?_
  refine hG.1 _ 1379 (nI 2) _ _ _ _ _ _ d1376 d1377 (Or.inl ⟨_, d1378, rfl, rfl⟩) d1379 d1380 (hi 2 (by decide)) ?_
  refine hG.2.2.2.2.2.1 1381 _ _ _ _ _ _ _ _ _ [xs (i + nI 1).toNatClampNeg, xs (i + nI 2).toNatClampNeg] [.int r] _ _ _ _ _ d1381 (LM_X12_most l) rfl (Nat.le_of_ble_eq_true rfl) (Nat.zero_le _) (Nat.zero_le _) ⟨_, _, t, rfl, rfl, (r, t'), e2, r, t', rfl, rfl, ?_⟩
  refine hG.2.2.2.1 _ 2350 _ _ _ _ _ _ _ _ d1384 (by decide +kernel) ?_
  exact hG.2.2.2.2.2.2 _ _ _ _ _ _ _ _ _ (by omega) (by omega) (hend _ _ h')
set_option maxRecDepth 20000 in
theorem case_23 {l : Launch} {L : Nat} {xs : Nat → Int32} {q1 q2 : Nat} {G : lK} (hG : LCl l L xs q1 q2 G) {N : Int} {u t : St} {i : Int32} {bc bs : Nat} (h : RX N u t) (hN : N ≤ 600) (hi : ∀ j : Nat, j ≤ 8 → vp_in (i + nI j) L) (h1 : 25 ≤ bc) (h2 : 3000 ≤ bs) (hend : ∀ u' t', RX (N + 1) u' t' → G 2350 i [] u' t' (bc - 25) (bs - 3000)) : G 1389 i [] u t bc bs := by
  obtain ⟨d1389, d1390, d1391, d1392, d1393, d1394, d1395, d1398, d1399, d1400, d1401, d1402, d1403, d1404, d1407⟩ := DL_23
  obtain ⟨r, u', t', e1, e2, h'⟩ := P_site h (xs (i + nI 1).toNatClampNeg)
  refine (hG.2.1 _ _ _ _ _ _ _).1 d1389 ?_
  refine hG.1 _ 1393 (nI 1) _ _ _ _ _ _ d1390 d1391 (Or.inl ⟨_, d1392, rfl, rfl⟩) d1393 d1394 (hi 1 (by decide)) ?_
  refine hG.2.2.2.2.1 1395 _ _ _ _ _ _ _ _ _ [xs (i + nI 1).toNatClampNeg] [] _ _ _ _ _ d1395 (LM_X11_site l) rfl (Nat.zero_le 4) (by omega) (by omega) ⟨_, u, rfl, rfl, (r, u'), e1, r, u', rfl, rfl, ?_⟩
  refine (hG.2.1 _ _ _ _ _ _ _).2 d1398 ?_
  refine hG.1 _ 1402 (nI 1) _ _ _ _ _ _ d1399 d1400 (Or.inl ⟨_, d1401, rfl, rfl⟩) d1402 d1403 (hi 1 (by decide)) ?_
  refine hG.2.2.2.2.2.1 1404 _ _ _ _ _ _ _ _ _ [xs (i + nI 1).toNatClampNeg] [.int r] _ _ _ _ _ d1404 (LM_X12_site l) rfl (Nat.le_of_ble_eq_true rfl) (Nat.zero_le _) (Nat.zero_le _) ⟨_, t, rfl, rfl, (r, t'), e2, r, t', rfl, rfl, ?_⟩
  refine hG.2.2.2.1 _ 2350 _ _ _ _ _ _ _ _ d1407 (by decide +kernel) ?_
  exact hG.2.2.2.2.2.2 _ _ _ _ _ _ _ _ _ (by omega) (by omega) (hend _ _ h')
set_option maxRecDepth 20000 in
theorem case_24 {l : Launch} {L : Nat} {xs : Nat → Int32} {q1 q2 : Nat} {G : lK} (hG : LCl l L xs q1 q2 G) {N : Int} {u t : St} {i : Int32} {bc bs : Nat} (h : RX N u t) (hN : N ≤ 600) (hi : ∀ j : Nat, j ≤ 8 → vp_in (i + nI j) L) (h1 : 25 ≤ bc) (h2 : 3000 ≤ bs) (hend : ∀ u' t', RX (N + 1) u' t' → G 2350 i [] u' t' (bc - 25) (bs - 3000)) : G 1412 i [] u t bc bs := by
  obtain ⟨d1412, d1413, d1414, d1415, d1416, d1417, d1418, d1419, d1420, d1421, d1422, d1423, d1426, d1427, d1428, d1429, d1430, d1431, d1432, d1433, d1434, d1435, d1436, d1437, d1440⟩ := DL_24
  obtain ⟨r, u', t', e1, e2, h'⟩ := P_cover h (xs (i + nI 1).toNatClampNeg) (xs (i + nI 2).toNatClampNeg)
  refine (hG.2.1 _ _ _ _ _ _ _).1 d1412 ?_
  refine hG.1 _ 1416 (nI 1) _ _ _ _ _ _ d1413 d1414 (Or.inl ⟨_, d1415, rfl, rfl⟩) d1416 d1417 (hi 1 (by decide)) ?_
  refine hG.1 _ 1421 (nI 2) _ _ _ _ _ _ d1418 d1419 (Or.inl ⟨_, d1420, rfl, rfl⟩) d1421 d1422 (hi 2 (by decide)) ?_
  refine hG.2.2.2.2.1 1423 _ _ _ _ _ _ _ _ _ [xs (i + nI 1).toNatClampNeg, xs (i + nI 2).toNatClampNeg] [] _ _ _ _ _ d1423 (LM_X11_cover l) rfl (Nat.zero_le 4) (by omega) (by omega) ⟨_, _, u, rfl, rfl, (r, u'), e1, r, u', rfl, rfl, ?_⟩
  refine (hG.2.1 _ _ _ _ _ _ _).2 d1426 ?_
  refine hG.1 _ 1430 (nI 1) _ _ _ _ _ _ d1427 d1428 (Or.inl ⟨_, d1429, rfl, rfl⟩) d1430 d1431 (hi 1 (by decide)) ?_
  refine hG.1 _ 1435 (nI 2) _ _ _ _ _ _ d1432 d1433 (Or.inl ⟨_, d1434, rfl, rfl⟩) d1435 d1436 (hi 2 (by decide)) ?_
  refine hG.2.2.2.2.2.1 1437 _ _ _ _ _ _ _ _ _ [xs (i + nI 1).toNatClampNeg, xs (i + nI 2).toNatClampNeg] [.int r] _ _ _ _ _ d1437 (LM_X12_cover l) rfl (Nat.le_of_ble_eq_true rfl) (Nat.zero_le _) (Nat.zero_le _) ⟨_, _, t, rfl, rfl, (r, t'), e2, r, t', rfl, rfl, ?_⟩
  refine hG.2.2.2.1 _ 2350 _ _ _ _ _ _ _ _ d1440 (by decide +kernel) ?_
  exact hG.2.2.2.2.2.2 _ _ _ _ _ _ _ _ _ (by omega) (by omega) (hend _ _ h')
set_option maxRecDepth 20000 in
theorem case_25 {l : Launch} {L : Nat} {xs : Nat → Int32} {q1 q2 : Nat} {G : lK} (hG : LCl l L xs q1 q2 G) {N : Int} {u t : St} {i : Int32} {bc bs : Nat} (h : RX N u t) (hN : N ≤ 600) (hi : ∀ j : Nat, j ≤ 8 → vp_in (i + nI j) L) (h1 : 25 ≤ bc) (h2 : 3000 ≤ bs) (hend : ∀ u' t', RX (N + 1) u' t' → G 2350 i [] u' t' (bc - 25) (bs - 3000)) : G 1445 i [] u t bc bs := by
  obtain ⟨d1445, d1446, d1447, d1448, d1449, d1450, d1451, d1452, d1453, d1454, d1455, d1456, d1459, d1460, d1461, d1462, d1463, d1464, d1465, d1466, d1467, d1468, d1469, d1470, d1473⟩ := DL_25
  obtain ⟨r, u', t', e1, e2, h'⟩ := P_beyond h (xs (i + nI 1).toNatClampNeg) (xs (i + nI 2).toNatClampNeg)
  refine (hG.2.1 _ _ _ _ _ _ _).1 d1445 ?_
  refine hG.1 _ 1449 (nI 1) _ _ _ _ _ _ d1446 d1447 (Or.inl ⟨_, d1448, rfl, rfl⟩) d1449 d1450 (hi 1 (by decide)) ?_
  refine hG.1 _ 1454 (nI 2) _ _ _ _ _ _ d1451 d1452 (Or.inl ⟨_, d1453, rfl, rfl⟩) d1454 d1455 (hi 2 (by decide)) ?_
  refine hG.2.2.2.2.1 1456 _ _ _ _ _ _ _ _ _ [xs (i + nI 1).toNatClampNeg, xs (i + nI 2).toNatClampNeg] [] _ _ _ _ _ d1456 (LM_X11_beyond l) rfl (Nat.zero_le 4) (by omega) (by omega) ⟨_, _, u, rfl, rfl, (r, u'), e1, r, u', rfl, rfl, ?_⟩
  refine (hG.2.1 _ _ _ _ _ _ _).2 d1459 ?_
  refine hG.1 _ 1463 (nI 1) _ _ _ _ _ _ d1460 d1461 (Or.inl ⟨_, d1462, rfl, rfl⟩) d1463 d1464 (hi 1 (by decide)) ?_
  refine hG.1 _ 1468 (nI 2) _ _ _ _ _ _ d1465 d1466 (Or.inl ⟨_, d1467, rfl, rfl⟩) d1468 d1469 (hi 2 (by decide)) ?_
  refine hG.2.2.2.2.2.1 1470 _ _ _ _ _ _ _ _ _ [xs (i + nI 1).toNatClampNeg, xs (i + nI 2).toNatClampNeg] [.int r] _ _ _ _ _ d1470 (LM_X12_beyond l) rfl (Nat.le_of_ble_eq_true rfl) (Nat.zero_le _) (Nat.zero_le _) ⟨_, _, t, rfl, rfl, (r, t'), e2, r, t', rfl, rfl, ?_⟩
  refine hG.2.2.2.1 _ 2350 _ _ _ _ _ _ _ _ d1473 (by decide +kernel) ?_
  exact hG.2.2.2.2.2.2 _ _ _ _ _ _ _ _ _ (by omega) (by omega) (hend _ _ h')
set_option maxRecDepth 20000 in
theorem case_26 {l : Launch} {L : Nat} {xs : Nat → Int32} {q1 q2 : Nat} {G : lK} (hG : LCl l L xs q1 q2 G) {N : Int} {u t : St} {i : Int32} {bc bs : Nat} (h : RX N u t) (hN : N ≤ 600) (hi : ∀ j : Nat, j ≤ 8 → vp_in (i + nI j) L) (h1 : 25 ≤ bc) (h2 : 3000 ≤ bs) (hend : ∀ u' t', RX (N + 1) u' t' → G 2350 i [] u' t' (bc - 25) (bs - 3000)) : G 1478 i [] u t bc bs := by
  obtain ⟨d1478, d1479, d1480, d1481, d1482, d1483, d1484, d1485, d1486, d1487, d1488, d1489, d1490, d1491, d1492, d1493, d1494, d1497, d1498, d1499, d1500, d1501, d1502, d1503, d1504, d1505, d1506, d1507, d1508, d1509, d1510, d1511, d1512, d1513, d1516⟩ := DL_26
  obtain ⟨r, u', t', e1, e2, h'⟩ := P_judge h (xs (i + nI 1).toNatClampNeg) (xs (i + nI 2).toNatClampNeg) (xs (i + nI 3).toNatClampNeg)
  refine (hG.2.1 _ _ _ _ _ _ _).1 d1478 ?_
  refine hG.1 _ 1482 (nI 1) _ _ _ _ _ _ d1479 d1480 (Or.inl ⟨_, d1481, rfl, rfl⟩) d1482 d1483 (hi 1 (by decide)) ?_
  refine hG.1 _ 1487 (nI 2) _ _ _ _ _ _ d1484 d1485 (Or.inl ⟨_, d1486, rfl, rfl⟩) d1487 d1488 (hi 2 (by decide)) ?_
  refine hG.1 _ 1492 (nI 3) _ _ _ _ _ _ d1489 d1490 (Or.inl ⟨_, d1491, rfl, rfl⟩) d1492 d1493 (hi 3 (by decide)) ?_
  refine hG.2.2.2.2.1 1494 _ _ _ _ _ _ _ _ _ [xs (i + nI 1).toNatClampNeg, xs (i + nI 2).toNatClampNeg, xs (i + nI 3).toNatClampNeg] [] _ _ _ _ _ d1494 (LM_X11_judge l) rfl (Nat.zero_le 4) (by omega) (by omega) ⟨_, _, _, u, rfl, rfl, (r, u'), e1, r, u', rfl, rfl, ?_⟩
  refine (hG.2.1 _ _ _ _ _ _ _).2 d1497 ?_
  refine hG.1 _ 1501 (nI 1) _ _ _ _ _ _ d1498 d1499 (Or.inl ⟨_, d1500, rfl, rfl⟩) d1501 d1502 (hi 1 (by decide)) ?_
  refine hG.1 _ 1506 (nI 2) _ _ _ _ _ _ d1503 d1504 (Or.inl ⟨_, d1505, rfl, rfl⟩) d1506 d1507 (hi 2 (by decide)) ?_
  refine hG.1 _ 1511 (nI 3) _ _ _ _ _ _ d1508 d1509 (Or.inl ⟨_, d1510, rfl, rfl⟩) d1511 d1512 (hi 3 (by decide)) ?_
  refine hG.2.2.2.2.2.1 1513 _ _ _ _ _ _ _ _ _ [xs (i + nI 1).toNatClampNeg, xs (i + nI 2).toNatClampNeg, xs (i + nI 3).toNatClampNeg] [.int r] _ _ _ _ _ d1513 (LM_X12_judge l) rfl (Nat.le_of_ble_eq_true rfl) (Nat.zero_le _) (Nat.zero_le _) ⟨_, _, _, t, rfl, rfl, (r, t'), e2, r, t', rfl, rfl, ?_⟩
  refine hG.2.2.2.1 _ 2350 _ _ _ _ _ _ _ _ d1516 (by decide +kernel) ?_
  exact hG.2.2.2.2.2.2 _ _ _ _ _ _ _ _ _ (by omega) (by omega) (hend _ _ h')
set_option maxRecDepth 20000 in
theorem case_27 {l : Launch} {L : Nat} {xs : Nat → Int32} {q1 q2 : Nat} {G : lK} (hG : LCl l L xs q1 q2 G) {N : Int} {u t : St} {i : Int32} {bc bs : Nat} (h : RX N u t) (hN : N ≤ 600) (hi : ∀ j : Nat, j ≤ 8 → vp_in (i + nI j) L) (h1 : 25 ≤ bc) (h2 : 3000 ≤ bs) (hend : ∀ u' t', RX (N + 1) u' t' → G 2350 i [] u' t' (bc - 25) (bs - 3000)) : G 1521 i [] u t bc bs := by
  obtain ⟨d1521, d1522, d1523, d1524, d1525, d1526, d1527, d1528, d1529, d1530, d1531, d1532, d1533, d1534, d1535, d1536, d1537, d1538, d1539, d1540, d1541, d1542, d1545, d1546, d1547, d1548, d1549, d1550, d1551, d1552, d1553, d1554, d1555, d1556, d1557, d1558, d1559, d1560, d1561, d1562, d1563, d1564, d1565, d1566, d1569⟩ := DL_27
  obtain ⟨r, u', t', e1, e2, h'⟩ := P_maker h (xs (i + nI 1).toNatClampNeg) (xs (i + nI 2).toNatClampNeg) (xs (i + nI 3).toNatClampNeg) (xs (i + nI 4).toNatClampNeg)
  refine (hG.2.1 _ _ _ _ _ _ _).1 d1521 ?_
  refine hG.1 _ 1525 (nI 1) _ _ _ _ _ _ d1522 d1523 (Or.inl ⟨_, d1524, rfl, rfl⟩) d1525 d1526 (hi 1 (by decide)) ?_
  refine hG.1 _ 1530 (nI 2) _ _ _ _ _ _ d1527 d1528 (Or.inl ⟨_, d1529, rfl, rfl⟩) d1530 d1531 (hi 2 (by decide)) ?_
  refine hG.1 _ 1535 (nI 3) _ _ _ _ _ _ d1532 d1533 (Or.inl ⟨_, d1534, rfl, rfl⟩) d1535 d1536 (hi 3 (by decide)) ?_
  refine hG.1 _ 1540 (nI 4) _ _ _ _ _ _ d1537 d1538 (Or.inl ⟨_, d1539, rfl, rfl⟩) d1540 d1541 (hi 4 (by decide)) ?_
  refine hG.2.2.2.2.1 1542 _ _ _ _ _ _ _ _ _ [xs (i + nI 1).toNatClampNeg, xs (i + nI 2).toNatClampNeg, xs (i + nI 3).toNatClampNeg, xs (i + nI 4).toNatClampNeg] [] _ _ _ _ _ d1542 (LM_X11_maker l) rfl (Nat.zero_le 4) (by omega) (by omega) ⟨_, _, _, _, u, rfl, rfl, (r, u'), e1, r, u', rfl, rfl, ?_⟩
  refine (hG.2.1 _ _ _ _ _ _ _).2 d1545 ?_
  refine hG.1 _ 1549 (nI 1) _ _ _ _ _ _ d1546 d1547 (Or.inl ⟨_, d1548, rfl, rfl⟩) d1549 d1550 (hi 1 (by decide)) ?_
  refine hG.1 _ 1554 (nI 2) _ _ _ _ _ _ d1551 d1552 (Or.inl ⟨_, d1553, rfl, rfl⟩) d1554 d1555 (hi 2 (by decide)) ?_
  refine hG.1 _ 1559 (nI 3) _ _ _ _ _ _ d1556 d1557 (Or.inl ⟨_, d1558, rfl, rfl⟩) d1559 d1560 (hi 3 (by decide)) ?_
  refine hG.1 _ 1564 (nI 4) _ _ _ _ _ _ d1561 d1562 (Or.inl ⟨_, d1563, rfl, rfl⟩) d1564 d1565 (hi 4 (by decide)) ?_
  refine hG.2.2.2.2.2.1 1566 _ _ _ _ _ _ _ _ _ [xs (i + nI 1).toNatClampNeg, xs (i + nI 2).toNatClampNeg, xs (i + nI 3).toNatClampNeg, xs (i + nI 4).toNatClampNeg] [.int r] _ _ _ _ _ d1566 (LM_X12_maker l) rfl (Nat.le_of_ble_eq_true rfl) (Nat.zero_le _) (Nat.zero_le _) ⟨_, _, _, _, t, rfl, rfl, (r, t'), e2, r, t', rfl, rfl, ?_⟩
  refine hG.2.2.2.1 _ 2350 _ _ _ _ _ _ _ _ d1569 (by decide +kernel) ?_
  exact hG.2.2.2.2.2.2 _ _ _ _ _ _ _ _ _ (by omega) (by omega) (hend _ _ h')
set_option maxRecDepth 20000 in
theorem case_28 {l : Launch} {L : Nat} {xs : Nat → Int32} {q1 q2 : Nat} {G : lK} (hG : LCl l L xs q1 q2 G) {N : Int} {u t : St} {i : Int32} {bc bs : Nat} (h : RX N u t) (hN : N ≤ 600) (hi : ∀ j : Nat, j ≤ 8 → vp_in (i + nI j) L) (h1 : 25 ≤ bc) (h2 : 3000 ≤ bs) (hend : ∀ u' t', RX (N + 1) u' t' → G 2350 i [] u' t' (bc - 25) (bs - 3000)) : G 1574 i [] u t bc bs := by
  obtain ⟨d1574, d1575, d1576, d1577, d1578, d1579, d1580, d1583, d1584, d1585, d1586, d1587, d1588, d1589, d1592⟩ := DL_28
  obtain ⟨r, u', t', e1, e2, h'⟩ := P_lorry h (xs (i + nI 1).toNatClampNeg)
  refine (hG.2.1 _ _ _ _ _ _ _).1 d1574 ?_
  refine hG.1 _ 1578 (nI 1) _ _ _ _ _ _ d1575 d1576 (Or.inl ⟨_, d1577, rfl, rfl⟩) d1578 d1579 (hi 1 (by decide)) ?_
  refine hG.2.2.2.2.1 1580 _ _ _ _ _ _ _ _ _ [xs (i + nI 1).toNatClampNeg] [] _ _ _ _ _ d1580 (LM_X11_lorry l) rfl (Nat.zero_le 4) (by omega) (by omega) ⟨_, u, rfl, rfl, (r, u'), e1, r, u', rfl, rfl, ?_⟩
  refine (hG.2.1 _ _ _ _ _ _ _).2 d1583 ?_
  refine hG.1 _ 1587 (nI 1) _ _ _ _ _ _ d1584 d1585 (Or.inl ⟨_, d1586, rfl, rfl⟩) d1587 d1588 (hi 1 (by decide)) ?_
  refine hG.2.2.2.2.2.1 1589 _ _ _ _ _ _ _ _ _ [xs (i + nI 1).toNatClampNeg] [.int r] _ _ _ _ _ d1589 (LM_X12_lorry l) rfl (Nat.le_of_ble_eq_true rfl) (Nat.zero_le _) (Nat.zero_le _) ⟨_, t, rfl, rfl, (r, t'), e2, r, t', rfl, rfl, ?_⟩
  refine hG.2.2.2.1 _ 2350 _ _ _ _ _ _ _ _ d1592 (by decide +kernel) ?_
  exact hG.2.2.2.2.2.2 _ _ _ _ _ _ _ _ _ (by omega) (by omega) (hend _ _ h')
set_option maxRecDepth 20000 in
theorem case_29 {l : Launch} {L : Nat} {xs : Nat → Int32} {q1 q2 : Nat} {G : lK} (hG : LCl l L xs q1 q2 G) {N : Int} {u t : St} {i : Int32} {bc bs : Nat} (h : RX N u t) (hN : N ≤ 600) (hi : ∀ j : Nat, j ≤ 8 → vp_in (i + nI j) L) (h1 : 25 ≤ bc) (h2 : 3000 ≤ bs) (hend : ∀ u' t', RX (N + 1) u' t' → G 2350 i [] u' t' (bc - 25) (bs - 3000)) : G 1597 i [] u t bc bs := by
  obtain ⟨d1597, d1598, d1599, d1600, d1601, d1602, d1603, d1604, d1605, d1606, d1607, d1608, d1611, d1612, d1613, d1614, d1615, d1616, d1617, d1618, d1619, d1620, d1621, d1622, d1625⟩ := DL_29
  obtain ⟨r, e1, e2⟩ := P_parts h (xs (i + nI 1).toNatClampNeg) (xs (i + nI 2).toNatClampNeg)
  have h' := h.up
  refine (hG.2.1 _ _ _ _ _ _ _).1 d1597 ?_
  refine hG.1 _ 1601 (nI 1) _ _ _ _ _ _ d1598 d1599 (Or.inl ⟨_, d1600, rfl, rfl⟩) d1601 d1602 (hi 1 (by decide)) ?_
  refine hG.1 _ 1606 (nI 2) _ _ _ _ _ _ d1603 d1604 (Or.inl ⟨_, d1605, rfl, rfl⟩) d1606 d1607 (hi 2 (by decide)) ?_
  refine hG.2.2.2.2.1 1608 _ _ _ _ _ _ _ _ _ [xs (i + nI 1).toNatClampNeg, xs (i + nI 2).toNatClampNeg] [] _ _ _ _ _ d1608 (LM_X11_parts l) rfl (Nat.zero_le 4) (by omega) (by omega) ⟨_, _, u, rfl, rfl, r, e1, r, u, rfl, rfl, ?_⟩
  refine (hG.2.1 _ _ _ _ _ _ _).2 d1611 ?_
  refine hG.1 _ 1615 (nI 1) _ _ _ _ _ _ d1612 d1613 (Or.inl ⟨_, d1614, rfl, rfl⟩) d1615 d1616 (hi 1 (by decide)) ?_
  refine hG.1 _ 1620 (nI 2) _ _ _ _ _ _ d1617 d1618 (Or.inl ⟨_, d1619, rfl, rfl⟩) d1620 d1621 (hi 2 (by decide)) ?_
  refine hG.2.2.2.2.2.1 1622 _ _ _ _ _ _ _ _ _ [xs (i + nI 1).toNatClampNeg, xs (i + nI 2).toNatClampNeg] [.int r] _ _ _ _ _ d1622 (LM_X12_parts l) rfl (Nat.le_of_ble_eq_true rfl) (Nat.zero_le _) (Nat.zero_le _) ⟨_, _, t, rfl, rfl, r, e2, r, t, rfl, rfl, ?_⟩
  refine hG.2.2.2.1 _ 2350 _ _ _ _ _ _ _ _ d1625 (by decide +kernel) ?_
  exact hG.2.2.2.2.2.2 _ _ _ _ _ _ _ _ _ (by omega) (by omega) (hend _ _ h')
set_option maxRecDepth 20000 in
theorem case_30 {l : Launch} {L : Nat} {xs : Nat → Int32} {q1 q2 : Nat} {G : lK} (hG : LCl l L xs q1 q2 G) {N : Int} {u t : St} {i : Int32} {bc bs : Nat} (h : RX N u t) (hN : N ≤ 600) (hi : ∀ j : Nat, j ≤ 8 → vp_in (i + nI j) L) (h1 : 25 ≤ bc) (h2 : 3000 ≤ bs) (hend : ∀ u' t', RX (N + 1) u' t' → G 2350 i [] u' t' (bc - 25) (bs - 3000)) : G 1630 i [] u t bc bs := by
  obtain ⟨d1630, d1631, d1632, d1633, d1634, d1635, d1636, d1637, d1638, d1639, d1640, d1641, d1644, d1645, d1646, d1647, d1648, d1649, d1650, d1651, d1652, d1653, d1654, d1655, d1658⟩ := DL_30
  obtain ⟨r, u', t', e1, e2, h'⟩ := P_promise h (xs (i + nI 1).toNatClampNeg) (xs (i + nI 2).toNatClampNeg)
  refine (hG.2.1 _ _ _ _ _ _ _).1 d1630 ?_
  refine hG.1 _ 1634 (nI 1) _ _ _ _ _ _ d1631 d1632 (Or.inl ⟨_, d1633, rfl, rfl⟩) d1634 d1635 (hi 1 (by decide)) ?_
  refine hG.1 _ 1639 (nI 2) _ _ _ _ _ _ d1636 d1637 (Or.inl ⟨_, d1638, rfl, rfl⟩) d1639 d1640 (hi 2 (by decide)) ?_
  refine hG.2.2.2.2.1 1641 _ _ _ _ _ _ _ _ _ [xs (i + nI 1).toNatClampNeg, xs (i + nI 2).toNatClampNeg] [] _ _ _ _ _ d1641 (LM_X11_promise l) rfl (Nat.zero_le 4) (by omega) (by omega) ⟨_, _, u, rfl, rfl, (r, u'), e1, r, u', rfl, rfl, ?_⟩
  refine (hG.2.1 _ _ _ _ _ _ _).2 d1644 ?_
  refine hG.1 _ 1648 (nI 1) _ _ _ _ _ _ d1645 d1646 (Or.inl ⟨_, d1647, rfl, rfl⟩) d1648 d1649 (hi 1 (by decide)) ?_
  refine hG.1 _ 1653 (nI 2) _ _ _ _ _ _ d1650 d1651 (Or.inl ⟨_, d1652, rfl, rfl⟩) d1653 d1654 (hi 2 (by decide)) ?_
  refine hG.2.2.2.2.2.1 1655 _ _ _ _ _ _ _ _ _ [xs (i + nI 1).toNatClampNeg, xs (i + nI 2).toNatClampNeg] [.int r] _ _ _ _ _ d1655 (LM_X12_promise l) rfl (Nat.le_of_ble_eq_true rfl) (Nat.zero_le _) (Nat.zero_le _) ⟨_, _, t, rfl, rfl, (r, t'), e2, r, t', rfl, rfl, ?_⟩
  refine hG.2.2.2.1 _ 2350 _ _ _ _ _ _ _ _ d1658 (by decide +kernel) ?_
  exact hG.2.2.2.2.2.2 _ _ _ _ _ _ _ _ _ (by omega) (by omega) (hend _ _ h')
set_option maxRecDepth 20000 in
theorem case_31 {l : Launch} {L : Nat} {xs : Nat → Int32} {q1 q2 : Nat} {G : lK} (hG : LCl l L xs q1 q2 G) {N : Int} {u t : St} {i : Int32} {bc bs : Nat} (h : RX N u t) (hN : N ≤ 600) (hi : ∀ j : Nat, j ≤ 8 → vp_in (i + nI j) L) (h1 : 25 ≤ bc) (h2 : 3000 ≤ bs) (hend : ∀ u' t', RX (N + 1) u' t' → G 2350 i [] u' t' (bc - 25) (bs - 3000)) : G 1663 i [] u t bc bs := by
  obtain ⟨d1663, d1664, d1665, d1666, d1667, d1668, d1669, d1670, d1671, d1672, d1673, d1674, d1675, d1676, d1677, d1678, d1679, d1682, d1683, d1684, d1685, d1686, d1687, d1688, d1689, d1690, d1691, d1692, d1693, d1694, d1695, d1696, d1697, d1698, d1701⟩ := DL_31
  obtain ⟨r, u', t', e1, e2, h'⟩ := P_give h (xs (i + nI 1).toNatClampNeg) (xs (i + nI 2).toNatClampNeg) (xs (i + nI 3).toNatClampNeg)
  refine (hG.2.1 _ _ _ _ _ _ _).1 d1663 ?_
  refine hG.1 _ 1667 (nI 1) _ _ _ _ _ _ d1664 d1665 (Or.inl ⟨_, d1666, rfl, rfl⟩) d1667 d1668 (hi 1 (by decide)) ?_
  refine hG.1 _ 1672 (nI 2) _ _ _ _ _ _ d1669 d1670 (Or.inl ⟨_, d1671, rfl, rfl⟩) d1672 d1673 (hi 2 (by decide)) ?_
  refine hG.1 _ 1677 (nI 3) _ _ _ _ _ _ d1674 d1675 (Or.inl ⟨_, d1676, rfl, rfl⟩) d1677 d1678 (hi 3 (by decide)) ?_
  refine hG.2.2.2.2.1 1679 _ _ _ _ _ _ _ _ _ [xs (i + nI 1).toNatClampNeg, xs (i + nI 2).toNatClampNeg, xs (i + nI 3).toNatClampNeg] [] _ _ _ _ _ d1679 (LM_X11_give l) rfl (Nat.zero_le 4) (by omega) (by omega) ⟨_, _, _, u, rfl, rfl, (r, u'), e1, r, u', rfl, rfl, ?_⟩
  refine (hG.2.1 _ _ _ _ _ _ _).2 d1682 ?_
  refine hG.1 _ 1686 (nI 1) _ _ _ _ _ _ d1683 d1684 (Or.inl ⟨_, d1685, rfl, rfl⟩) d1686 d1687 (hi 1 (by decide)) ?_
  refine hG.1 _ 1691 (nI 2) _ _ _ _ _ _ d1688 d1689 (Or.inl ⟨_, d1690, rfl, rfl⟩) d1691 d1692 (hi 2 (by decide)) ?_
  refine hG.1 _ 1696 (nI 3) _ _ _ _ _ _ d1693 d1694 (Or.inl ⟨_, d1695, rfl, rfl⟩) d1696 d1697 (hi 3 (by decide)) ?_
  refine hG.2.2.2.2.2.1 1698 _ _ _ _ _ _ _ _ _ [xs (i + nI 1).toNatClampNeg, xs (i + nI 2).toNatClampNeg, xs (i + nI 3).toNatClampNeg] [.int r] _ _ _ _ _ d1698 (LM_X12_give l) rfl (Nat.le_of_ble_eq_true rfl) (Nat.zero_le _) (Nat.zero_le _) ⟨_, _, _, t, rfl, rfl, (r, t'), e2, r, t', rfl, rfl, ?_⟩
  refine hG.2.2.2.1 _ 2350 _ _ _ _ _ _ _ _ d1701 (by decide +kernel) ?_
  exact hG.2.2.2.2.2.2 _ _ _ _ _ _ _ _ _ (by omega) (by omega) (hend _ _ h')
set_option maxRecDepth 20000 in
theorem case_32 {l : Launch} {L : Nat} {xs : Nat → Int32} {q1 q2 : Nat} {G : lK} (hG : LCl l L xs q1 q2 G) {N : Int} {u t : St} {i : Int32} {bc bs : Nat} (h : RX N u t) (hN : N ≤ 600) (hi : ∀ j : Nat, j ≤ 8 → vp_in (i + nI j) L) (h1 : 25 ≤ bc) (h2 : 3000 ≤ bs) (hend : ∀ u' t', RX (N + 1) u' t' → G 2350 i [] u' t' (bc - 25) (bs - 3000)) : G 1706 i [] u t bc bs := by
  obtain ⟨d1706, d1707, d1708, d1709, d1710, d1711, d1712, d1715, d1716, d1717, d1718, d1719, d1720, d1721, d1724⟩ := DL_32
  obtain ⟨r, u', t', e1, e2, h'⟩ := P_lack h (xs (i + nI 1).toNatClampNeg)
  refine (hG.2.1 _ _ _ _ _ _ _).1 d1706 ?_
  refine hG.1 _ 1710 (nI 1) _ _ _ _ _ _ d1707 d1708 (Or.inl ⟨_, d1709, rfl, rfl⟩) d1710 d1711 (hi 1 (by decide)) ?_
  refine hG.2.2.2.2.1 1712 _ _ _ _ _ _ _ _ _ [xs (i + nI 1).toNatClampNeg] [] _ _ _ _ _ d1712 (LM_X11_lack l) rfl (Nat.zero_le 4) (by omega) (by omega) ⟨_, u, rfl, rfl, (r, u'), e1, r, u', rfl, rfl, ?_⟩
  refine (hG.2.1 _ _ _ _ _ _ _).2 d1715 ?_
  refine hG.1 _ 1719 (nI 1) _ _ _ _ _ _ d1716 d1717 (Or.inl ⟨_, d1718, rfl, rfl⟩) d1719 d1720 (hi 1 (by decide)) ?_
  refine hG.2.2.2.2.2.1 1721 _ _ _ _ _ _ _ _ _ [xs (i + nI 1).toNatClampNeg] [.int r] _ _ _ _ _ d1721 (LM_X12_lack l) rfl (Nat.le_of_ble_eq_true rfl) (Nat.zero_le _) (Nat.zero_le _) ⟨_, t, rfl, rfl, (r, t'), e2, r, t', rfl, rfl, ?_⟩
  refine hG.2.2.2.1 _ 2350 _ _ _ _ _ _ _ _ d1724 (by decide +kernel) ?_
  exact hG.2.2.2.2.2.2 _ _ _ _ _ _ _ _ _ (by omega) (by omega) (hend _ _ h')
set_option maxRecDepth 20000 in
theorem case_33 {l : Launch} {L : Nat} {xs : Nat → Int32} {q1 q2 : Nat} {G : lK} (hG : LCl l L xs q1 q2 G) {N : Int} {u t : St} {i : Int32} {bc bs : Nat} (h : RX N u t) (hN : N ≤ 600) (hi : ∀ j : Nat, j ≤ 8 → vp_in (i + nI j) L) (h1 : 25 ≤ bc) (h2 : 3000 ≤ bs) (hend : ∀ u' t', RX (N + 1) u' t' → G 2350 i [] u' t' (bc - 25) (bs - 3000)) : G 1729 i [] u t bc bs := by
  obtain ⟨d1729, d1730, d1731, d1732, d1733, d1734, d1735, d1736, d1737, d1738, d1739, d1740, d1741, d1742, d1743, d1744, d1745, d1746, d1747, d1748, d1749, d1750, d1753, d1754, d1755, d1756, d1757, d1758, d1759, d1760, d1761, d1762, d1763, d1764, d1765, d1766, d1767, d1768, d1769, d1770, d1771, d1772, d1773, d1774, d1777⟩ := DL_33
  obtain ⟨r, u', t', e1, e2, h'⟩ := P_teacher h (xs (i + nI 1).toNatClampNeg) (xs (i + nI 2).toNatClampNeg) (xs (i + nI 3).toNatClampNeg) (xs (i + nI 4).toNatClampNeg)
  refine (hG.2.1 _ _ _ _ _ _ _).1 d1729 ?_
  refine hG.1 _ 1733 (nI 1) _ _ _ _ _ _ d1730 d1731 (Or.inl ⟨_, d1732, rfl, rfl⟩) d1733 d1734 (hi 1 (by decide)) ?_
  refine hG.1 _ 1738 (nI 2) _ _ _ _ _ _ d1735 d1736 (Or.inl ⟨_, d1737, rfl, rfl⟩) d1738 d1739 (hi 2 (by decide)) ?_
  refine hG.1 _ 1743 (nI 3) _ _ _ _ _ _ d1740 d1741 (Or.inl ⟨_, d1742, rfl, rfl⟩) d1743 d1744 (hi 3 (by decide)) ?_
  refine hG.1 _ 1748 (nI 4) _ _ _ _ _ _ d1745 d1746 (Or.inl ⟨_, d1747, rfl, rfl⟩) d1748 d1749 (hi 4 (by decide)) ?_
  refine hG.2.2.2.2.1 1750 _ _ _ _ _ _ _ _ _ [xs (i + nI 1).toNatClampNeg, xs (i + nI 2).toNatClampNeg, xs (i + nI 3).toNatClampNeg, xs (i + nI 4).toNatClampNeg] [] _ _ _ _ _ d1750 (LM_X11_teacher l) rfl (Nat.zero_le 4) (by omega) (by omega) ⟨_, _, _, _, u, rfl, rfl, (r, u'), e1, r, u', rfl, rfl, ?_⟩
  refine (hG.2.1 _ _ _ _ _ _ _).2 d1753 ?_
  refine hG.1 _ 1757 (nI 1) _ _ _ _ _ _ d1754 d1755 (Or.inl ⟨_, d1756, rfl, rfl⟩) d1757 d1758 (hi 1 (by decide)) ?_
  refine hG.1 _ 1762 (nI 2) _ _ _ _ _ _ d1759 d1760 (Or.inl ⟨_, d1761, rfl, rfl⟩) d1762 d1763 (hi 2 (by decide)) ?_
  refine hG.1 _ 1767 (nI 3) _ _ _ _ _ _ d1764 d1765 (Or.inl ⟨_, d1766, rfl, rfl⟩) d1767 d1768 (hi 3 (by decide)) ?_
  refine hG.1 _ 1772 (nI 4) _ _ _ _ _ _ d1769 d1770 (Or.inl ⟨_, d1771, rfl, rfl⟩) d1772 d1773 (hi 4 (by decide)) ?_
  refine hG.2.2.2.2.2.1 1774 _ _ _ _ _ _ _ _ _ [xs (i + nI 1).toNatClampNeg, xs (i + nI 2).toNatClampNeg, xs (i + nI 3).toNatClampNeg, xs (i + nI 4).toNatClampNeg] [.int r] _ _ _ _ _ d1774 (LM_X12_teacher l) rfl (Nat.le_of_ble_eq_true rfl) (Nat.zero_le _) (Nat.zero_le _) ⟨_, _, _, _, t, rfl, rfl, (r, t'), e2, r, t', rfl, rfl, ?_⟩
  refine hG.2.2.2.1 _ 2350 _ _ _ _ _ _ _ _ d1777 (by decide +kernel) ?_
  exact hG.2.2.2.2.2.2 _ _ _ _ _ _ _ _ _ (by omega) (by omega) (hend _ _ h')
set_option maxRecDepth 20000 in
theorem case_34 {l : Launch} {L : Nat} {xs : Nat → Int32} {q1 q2 : Nat} {G : lK} (hG : LCl l L xs q1 q2 G) {N : Int} {u t : St} {i : Int32} {bc bs : Nat} (h : RX N u t) (hN : N ≤ 600) (hi : ∀ j : Nat, j ≤ 8 → vp_in (i + nI j) L) (h1 : 25 ≤ bc) (h2 : 3000 ≤ bs) (hend : ∀ u' t', RX (N + 1) u' t' → G 2350 i [] u' t' (bc - 25) (bs - 3000)) : G 1782 i [] u t bc bs := by
  obtain ⟨d1782, d1783, d1784, d1785, d1786, d1787, d1788, d1789, d1790, d1791, d1792, d1793, d1794, d1795, d1796, d1797, d1798, d1801, d1802, d1803, d1804, d1805, d1806, d1807, d1808, d1809, d1810, d1811, d1812, d1813, d1814, d1815, d1816, d1817, d1820⟩ := DL_34
  obtain ⟨r, u', t', e1, e2, h'⟩ := P_sent h (by omega) (xs (i + nI 1).toNatClampNeg) (xs (i + nI 2).toNatClampNeg) (xs (i + nI 3).toNatClampNeg)
  refine (hG.2.1 _ _ _ _ _ _ _).1 d1782 ?_
  refine hG.1 _ 1786 (nI 1) _ _ _ _ _ _ d1783 d1784 (Or.inl ⟨_, d1785, rfl, rfl⟩) d1786 d1787 (hi 1 (by decide)) ?_
  refine hG.1 _ 1791 (nI 2) _ _ _ _ _ _ d1788 d1789 (Or.inl ⟨_, d1790, rfl, rfl⟩) d1791 d1792 (hi 2 (by decide)) ?_
  refine hG.1 _ 1796 (nI 3) _ _ _ _ _ _ d1793 d1794 (Or.inl ⟨_, d1795, rfl, rfl⟩) d1796 d1797 (hi 3 (by decide)) ?_
  refine hG.2.2.2.2.1 1798 _ _ _ _ _ _ _ _ _ [xs (i + nI 1).toNatClampNeg, xs (i + nI 2).toNatClampNeg, xs (i + nI 3).toNatClampNeg] [] _ _ _ _ _ d1798 (LM_X11_sent l) rfl (Nat.zero_le 4) (by omega) (by omega) ⟨_, _, _, u, rfl, rfl, (r, u'), e1, r, u', rfl, rfl, ?_⟩
  refine (hG.2.1 _ _ _ _ _ _ _).2 d1801 ?_
  refine hG.1 _ 1805 (nI 1) _ _ _ _ _ _ d1802 d1803 (Or.inl ⟨_, d1804, rfl, rfl⟩) d1805 d1806 (hi 1 (by decide)) ?_
  refine hG.1 _ 1810 (nI 2) _ _ _ _ _ _ d1807 d1808 (Or.inl ⟨_, d1809, rfl, rfl⟩) d1810 d1811 (hi 2 (by decide)) ?_
  refine hG.1 _ 1815 (nI 3) _ _ _ _ _ _ d1812 d1813 (Or.inl ⟨_, d1814, rfl, rfl⟩) d1815 d1816 (hi 3 (by decide)) ?_
  refine hG.2.2.2.2.2.1 1817 _ _ _ _ _ _ _ _ _ [xs (i + nI 1).toNatClampNeg, xs (i + nI 2).toNatClampNeg, xs (i + nI 3).toNatClampNeg] [.int r] _ _ _ _ _ d1817 (LM_X12_sent l) rfl (Nat.le_of_ble_eq_true rfl) (Nat.zero_le _) (Nat.zero_le _) ⟨_, _, _, t, rfl, rfl, (r, t'), e2, r, t', rfl, rfl, ?_⟩
  refine hG.2.2.2.1 _ 2350 _ _ _ _ _ _ _ _ d1820 (by decide +kernel) ?_
  exact hG.2.2.2.2.2.2 _ _ _ _ _ _ _ _ _ (by omega) (by omega) (hend _ _ h')
set_option maxRecDepth 20000 in
theorem case_35 {l : Launch} {L : Nat} {xs : Nat → Int32} {q1 q2 : Nat} {G : lK} (hG : LCl l L xs q1 q2 G) {N : Int} {u t : St} {i : Int32} {bc bs : Nat} (h : RX N u t) (hN : N ≤ 600) (hi : ∀ j : Nat, j ≤ 8 → vp_in (i + nI j) L) (h1 : 25 ≤ bc) (h2 : 3000 ≤ bs) (hend : ∀ u' t', RX (N + 1) u' t' → G 2350 i [] u' t' (bc - 25) (bs - 3000)) : G 1825 i [] u t bc bs := by
  obtain ⟨d1825, d1826, d1827, d1828, d1829, d1830, d1831, d1832, d1833, d1834, d1835, d1836, d1837, d1838, d1839, d1840, d1841, d1844, d1845, d1846, d1847, d1848, d1849, d1850, d1851, d1852, d1853, d1854, d1855, d1856, d1857, d1858, d1859, d1860, d1863⟩ := DL_35
  obtain ⟨r, u', t', e1, e2, h'⟩ := P_teacherless h (by omega) (xs (i + nI 1).toNatClampNeg) (xs (i + nI 2).toNatClampNeg) (xs (i + nI 3).toNatClampNeg)
  refine (hG.2.1 _ _ _ _ _ _ _).1 d1825 ?_
  refine hG.1 _ 1829 (nI 1) _ _ _ _ _ _ d1826 d1827 (Or.inl ⟨_, d1828, rfl, rfl⟩) d1829 d1830 (hi 1 (by decide)) ?_
  refine hG.1 _ 1834 (nI 2) _ _ _ _ _ _ d1831 d1832 (Or.inl ⟨_, d1833, rfl, rfl⟩) d1834 d1835 (hi 2 (by decide)) ?_
  refine hG.1 _ 1839 (nI 3) _ _ _ _ _ _ d1836 d1837 (Or.inl ⟨_, d1838, rfl, rfl⟩) d1839 d1840 (hi 3 (by decide)) ?_
  refine hG.2.2.2.2.1 1841 _ _ _ _ _ _ _ _ _ [xs (i + nI 1).toNatClampNeg, xs (i + nI 2).toNatClampNeg, xs (i + nI 3).toNatClampNeg] [] _ _ _ _ _ d1841 (LM_X11_teacherless l) rfl (Nat.zero_le 4) (by omega) (by omega) ⟨_, _, _, u, rfl, rfl, (r, u'), e1, r, u', rfl, rfl, ?_⟩
  refine (hG.2.1 _ _ _ _ _ _ _).2 d1844 ?_
  refine hG.1 _ 1848 (nI 1) _ _ _ _ _ _ d1845 d1846 (Or.inl ⟨_, d1847, rfl, rfl⟩) d1848 d1849 (hi 1 (by decide)) ?_
  refine hG.1 _ 1853 (nI 2) _ _ _ _ _ _ d1850 d1851 (Or.inl ⟨_, d1852, rfl, rfl⟩) d1853 d1854 (hi 2 (by decide)) ?_
  refine hG.1 _ 1858 (nI 3) _ _ _ _ _ _ d1855 d1856 (Or.inl ⟨_, d1857, rfl, rfl⟩) d1858 d1859 (hi 3 (by decide)) ?_
  refine hG.2.2.2.2.2.1 1860 _ _ _ _ _ _ _ _ _ [xs (i + nI 1).toNatClampNeg, xs (i + nI 2).toNatClampNeg, xs (i + nI 3).toNatClampNeg] [.int r] _ _ _ _ _ d1860 (LM_X12_teacherless l) rfl (Nat.le_of_ble_eq_true rfl) (Nat.zero_le _) (Nat.zero_le _) ⟨_, _, _, t, rfl, rfl, (r, t'), e2, r, t', rfl, rfl, ?_⟩
  refine hG.2.2.2.1 _ 2350 _ _ _ _ _ _ _ _ d1863 (by decide +kernel) ?_
  exact hG.2.2.2.2.2.2 _ _ _ _ _ _ _ _ _ (by omega) (by omega) (hend _ _ h')
set_option maxRecDepth 20000 in
theorem case_36 {l : Launch} {L : Nat} {xs : Nat → Int32} {q1 q2 : Nat} {G : lK} (hG : LCl l L xs q1 q2 G) {N : Int} {u t : St} {i : Int32} {bc bs : Nat} (h : RX N u t) (hN : N ≤ 600) (hi : ∀ j : Nat, j ≤ 8 → vp_in (i + nI j) L) (h1 : 25 ≤ bc) (h2 : 3000 ≤ bs) (hend : ∀ u' t', RX (N + 1) u' t' → G 2350 i [] u' t' (bc - 25) (bs - 3000)) : G 1868 i [] u t bc bs := by
  obtain ⟨d1868, d1869, d1870, d1871, d1872, d1873, d1874, d1875, d1876, d1877, d1878, d1879, d1880, d1881, d1882, d1883, d1884, d1887, d1888, d1889, d1890, d1891, d1892, d1893, d1894, d1895, d1896, d1897, d1898, d1899, d1900, d1901, d1902, d1903, d1906⟩ := DL_36
  obtain ⟨r, u', t', e1, e2, h'⟩ := P_recount h (xs (i + nI 1).toNatClampNeg) (xs (i + nI 2).toNatClampNeg) (xs (i + nI 3).toNatClampNeg)
  refine (hG.2.1 _ _ _ _ _ _ _).1 d1868 ?_
  refine hG.1 _ 1872 (nI 1) _ _ _ _ _ _ d1869 d1870 (Or.inl ⟨_, d1871, rfl, rfl⟩) d1872 d1873 (hi 1 (by decide)) ?_
  refine hG.1 _ 1877 (nI 2) _ _ _ _ _ _ d1874 d1875 (Or.inl ⟨_, d1876, rfl, rfl⟩) d1877 d1878 (hi 2 (by decide)) ?_
  refine hG.1 _ 1882 (nI 3) _ _ _ _ _ _ d1879 d1880 (Or.inl ⟨_, d1881, rfl, rfl⟩) d1882 d1883 (hi 3 (by decide)) ?_
  refine hG.2.2.2.2.1 1884 _ _ _ _ _ _ _ _ _ [xs (i + nI 1).toNatClampNeg, xs (i + nI 2).toNatClampNeg, xs (i + nI 3).toNatClampNeg] [] _ _ _ _ _ d1884 (LM_X11_recount l) rfl (Nat.zero_le 4) (by omega) (by omega) ⟨_, _, _, u, rfl, rfl, (r, u'), e1, r, u', rfl, rfl, ?_⟩
  refine (hG.2.1 _ _ _ _ _ _ _).2 d1887 ?_
  refine hG.1 _ 1891 (nI 1) _ _ _ _ _ _ d1888 d1889 (Or.inl ⟨_, d1890, rfl, rfl⟩) d1891 d1892 (hi 1 (by decide)) ?_
  refine hG.1 _ 1896 (nI 2) _ _ _ _ _ _ d1893 d1894 (Or.inl ⟨_, d1895, rfl, rfl⟩) d1896 d1897 (hi 2 (by decide)) ?_
  refine hG.1 _ 1901 (nI 3) _ _ _ _ _ _ d1898 d1899 (Or.inl ⟨_, d1900, rfl, rfl⟩) d1901 d1902 (hi 3 (by decide)) ?_
  refine hG.2.2.2.2.2.1 1903 _ _ _ _ _ _ _ _ _ [xs (i + nI 1).toNatClampNeg, xs (i + nI 2).toNatClampNeg, xs (i + nI 3).toNatClampNeg] [.int r] _ _ _ _ _ d1903 (LM_X12_recount l) rfl (Nat.le_of_ble_eq_true rfl) (Nat.zero_le _) (Nat.zero_le _) ⟨_, _, _, t, rfl, rfl, (r, t'), e2, r, t', rfl, rfl, ?_⟩
  refine hG.2.2.2.1 _ 2350 _ _ _ _ _ _ _ _ d1906 (by decide +kernel) ?_
  exact hG.2.2.2.2.2.2 _ _ _ _ _ _ _ _ _ (by omega) (by omega) (hend _ _ h')
set_option maxRecDepth 20000 in
theorem case_37 {l : Launch} {L : Nat} {xs : Nat → Int32} {q1 q2 : Nat} {G : lK} (hG : LCl l L xs q1 q2 G) {N : Int} {u t : St} {i : Int32} {bc bs : Nat} (h : RX N u t) (hN : N ≤ 600) (hi : ∀ j : Nat, j ≤ 8 → vp_in (i + nI j) L) (h1 : 25 ≤ bc) (h2 : 3000 ≤ bs) (hend : ∀ u' t', RX (N + 1) u' t' → G 2350 i [] u' t' (bc - 25) (bs - 3000)) : G 1911 i [] u t bc bs := by
  obtain ⟨d1911, d1912, d1913, d1914, d1915, d1916, d1917, d1918, d1919, d1920, d1921, d1922, d1923, d1924, d1925, d1926, d1927, d1928, d1929, d1930, d1931, d1932, d1935, d1936, d1937, d1938, d1939, d1940, d1941, d1942, d1943, d1944, d1945, d1946, d1947, d1948, d1949, d1950, d1951, d1952, d1953, d1954, d1955, d1956, d1959⟩ := DL_37
  obtain ⟨r, e1, e2⟩ := P_span h (xs (i + nI 1).toNatClampNeg) (xs (i + nI 2).toNatClampNeg) (xs (i + nI 3).toNatClampNeg) (xs (i + nI 4).toNatClampNeg)
  have h' := h.up
  refine (hG.2.1 _ _ _ _ _ _ _).1 d1911 ?_
  refine hG.1 _ 1915 (nI 1) _ _ _ _ _ _ d1912 d1913 (Or.inl ⟨_, d1914, rfl, rfl⟩) d1915 d1916 (hi 1 (by decide)) ?_
  refine hG.1 _ 1920 (nI 2) _ _ _ _ _ _ d1917 d1918 (Or.inl ⟨_, d1919, rfl, rfl⟩) d1920 d1921 (hi 2 (by decide)) ?_
  refine hG.1 _ 1925 (nI 3) _ _ _ _ _ _ d1922 d1923 (Or.inl ⟨_, d1924, rfl, rfl⟩) d1925 d1926 (hi 3 (by decide)) ?_
  refine hG.1 _ 1930 (nI 4) _ _ _ _ _ _ d1927 d1928 (Or.inl ⟨_, d1929, rfl, rfl⟩) d1930 d1931 (hi 4 (by decide)) ?_
  refine hG.2.2.2.2.1 1932 _ _ _ _ _ _ _ _ _ [xs (i + nI 1).toNatClampNeg, xs (i + nI 2).toNatClampNeg, xs (i + nI 3).toNatClampNeg, xs (i + nI 4).toNatClampNeg] [] _ _ _ _ _ d1932 (LM_X11_span l) rfl (Nat.zero_le 4) (by omega) (by omega) ⟨_, _, _, _, u, rfl, rfl, r, e1, r, u, rfl, rfl, ?_⟩
  refine (hG.2.1 _ _ _ _ _ _ _).2 d1935 ?_
  refine hG.1 _ 1939 (nI 1) _ _ _ _ _ _ d1936 d1937 (Or.inl ⟨_, d1938, rfl, rfl⟩) d1939 d1940 (hi 1 (by decide)) ?_
  refine hG.1 _ 1944 (nI 2) _ _ _ _ _ _ d1941 d1942 (Or.inl ⟨_, d1943, rfl, rfl⟩) d1944 d1945 (hi 2 (by decide)) ?_
  refine hG.1 _ 1949 (nI 3) _ _ _ _ _ _ d1946 d1947 (Or.inl ⟨_, d1948, rfl, rfl⟩) d1949 d1950 (hi 3 (by decide)) ?_
  refine hG.1 _ 1954 (nI 4) _ _ _ _ _ _ d1951 d1952 (Or.inl ⟨_, d1953, rfl, rfl⟩) d1954 d1955 (hi 4 (by decide)) ?_
  refine hG.2.2.2.2.2.1 1956 _ _ _ _ _ _ _ _ _ [xs (i + nI 1).toNatClampNeg, xs (i + nI 2).toNatClampNeg, xs (i + nI 3).toNatClampNeg, xs (i + nI 4).toNatClampNeg] [.int r] _ _ _ _ _ d1956 (LM_X12_span l) rfl (Nat.le_of_ble_eq_true rfl) (Nat.zero_le _) (Nat.zero_le _) ⟨_, _, _, _, t, rfl, rfl, r, e2, r, t, rfl, rfl, ?_⟩
  refine hG.2.2.2.1 _ 2350 _ _ _ _ _ _ _ _ d1959 (by decide +kernel) ?_
  exact hG.2.2.2.2.2.2 _ _ _ _ _ _ _ _ _ (by omega) (by omega) (hend _ _ h')
set_option maxRecDepth 20000 in
theorem case_38 {l : Launch} {L : Nat} {xs : Nat → Int32} {q1 q2 : Nat} {G : lK} (hG : LCl l L xs q1 q2 G) {N : Int} {u t : St} {i : Int32} {bc bs : Nat} (h : RX N u t) (hN : N ≤ 600) (hi : ∀ j : Nat, j ≤ 8 → vp_in (i + nI j) L) (h1 : 25 ≤ bc) (h2 : 3000 ≤ bs) (hend : ∀ u' t', RX (N + 1) u' t' → G 2350 i [] u' t' (bc - 25) (bs - 3000)) : G 1964 i [] u t bc bs := by
  obtain ⟨d1964, d1965, d1966, d1967, d1968, d1969, d1970, d1971, d1972, d1973, d1974, d1975, d1978, d1979, d1980, d1981, d1982, d1983, d1984, d1985, d1986, d1987, d1988, d1989, d1992⟩ := DL_38
  obtain ⟨r, u', t', e1, e2, h'⟩ := P_strength h (xs (i + nI 1).toNatClampNeg) (xs (i + nI 2).toNatClampNeg)
  refine (hG.2.1 _ _ _ _ _ _ _).1 d1964 ?_
  refine hG.1 _ 1968 (nI 1) _ _ _ _ _ _ d1965 d1966 (Or.inl ⟨_, d1967, rfl, rfl⟩) d1968 d1969 (hi 1 (by decide)) ?_
  refine hG.1 _ 1973 (nI 2) _ _ _ _ _ _ d1970 d1971 (Or.inl ⟨_, d1972, rfl, rfl⟩) d1973 d1974 (hi 2 (by decide)) ?_
  refine hG.2.2.2.2.1 1975 _ _ _ _ _ _ _ _ _ [xs (i + nI 1).toNatClampNeg, xs (i + nI 2).toNatClampNeg] [] _ _ _ _ _ d1975 (LM_X11_strength l) rfl (Nat.zero_le 4) (by omega) (by omega) ⟨_, _, u, rfl, rfl, (r, u'), e1, r, u', rfl, rfl, ?_⟩
  refine (hG.2.1 _ _ _ _ _ _ _).2 d1978 ?_
  refine hG.1 _ 1982 (nI 1) _ _ _ _ _ _ d1979 d1980 (Or.inl ⟨_, d1981, rfl, rfl⟩) d1982 d1983 (hi 1 (by decide)) ?_
  refine hG.1 _ 1987 (nI 2) _ _ _ _ _ _ d1984 d1985 (Or.inl ⟨_, d1986, rfl, rfl⟩) d1987 d1988 (hi 2 (by decide)) ?_
  refine hG.2.2.2.2.2.1 1989 _ _ _ _ _ _ _ _ _ [xs (i + nI 1).toNatClampNeg, xs (i + nI 2).toNatClampNeg] [.int r] _ _ _ _ _ d1989 (LM_X12_strength l) rfl (Nat.le_of_ble_eq_true rfl) (Nat.zero_le _) (Nat.zero_le _) ⟨_, _, t, rfl, rfl, (r, t'), e2, r, t', rfl, rfl, ?_⟩
  refine hG.2.2.2.1 _ 2350 _ _ _ _ _ _ _ _ d1992 (by decide +kernel) ?_
  exact hG.2.2.2.2.2.2 _ _ _ _ _ _ _ _ _ (by omega) (by omega) (hend _ _ h')
set_option maxRecDepth 20000 in
theorem case_39 {l : Launch} {L : Nat} {xs : Nat → Int32} {q1 q2 : Nat} {G : lK} (hG : LCl l L xs q1 q2 G) {N : Int} {u t : St} {i : Int32} {bc bs : Nat} (h : RX N u t) (hN : N ≤ 600) (hi : ∀ j : Nat, j ≤ 8 → vp_in (i + nI j) L) (h1 : 25 ≤ bc) (h2 : 3000 ≤ bs) (hend : ∀ u' t', RX (N + 1) u' t' → G 2350 i [] u' t' (bc - 25) (bs - 3000)) : G 1997 i [] u t bc bs := by
  obtain ⟨d1997, d1998, d1999, d2000, d2001, d2002, d2003, d2004, d2005, d2006, d2007, d2008, d2009, d2010, d2011, d2012, d2013, d2016, d2017, d2018, d2019, d2020, d2021, d2022, d2023, d2024, d2025, d2026, d2027, d2028, d2029, d2030, d2031, d2032, d2035⟩ := DL_39
  obtain ⟨r, u', t', e1, e2, h'⟩ := P_roof h (xs (i + nI 1).toNatClampNeg) (xs (i + nI 2).toNatClampNeg) (xs (i + nI 3).toNatClampNeg)
  refine (hG.2.1 _ _ _ _ _ _ _).1 d1997 ?_
  refine hG.1 _ 2001 (nI 1) _ _ _ _ _ _ d1998 d1999 (Or.inl ⟨_, d2000, rfl, rfl⟩) d2001 d2002 (hi 1 (by decide)) ?_
  refine hG.1 _ 2006 (nI 2) _ _ _ _ _ _ d2003 d2004 (Or.inl ⟨_, d2005, rfl, rfl⟩) d2006 d2007 (hi 2 (by decide)) ?_
  refine hG.1 _ 2011 (nI 3) _ _ _ _ _ _ d2008 d2009 (Or.inl ⟨_, d2010, rfl, rfl⟩) d2011 d2012 (hi 3 (by decide)) ?_
  refine hG.2.2.2.2.1 2013 _ _ _ _ _ _ _ _ _ [xs (i + nI 1).toNatClampNeg, xs (i + nI 2).toNatClampNeg, xs (i + nI 3).toNatClampNeg] [] _ _ _ _ _ d2013 (LM_X11_roof l) rfl (Nat.zero_le 4) (by omega) (by omega) ⟨_, _, _, u, rfl, rfl, (r, u'), e1, r, u', rfl, rfl, ?_⟩
  refine (hG.2.1 _ _ _ _ _ _ _).2 d2016 ?_
  refine hG.1 _ 2020 (nI 1) _ _ _ _ _ _ d2017 d2018 (Or.inl ⟨_, d2019, rfl, rfl⟩) d2020 d2021 (hi 1 (by decide)) ?_
  refine hG.1 _ 2025 (nI 2) _ _ _ _ _ _ d2022 d2023 (Or.inl ⟨_, d2024, rfl, rfl⟩) d2025 d2026 (hi 2 (by decide)) ?_
  refine hG.1 _ 2030 (nI 3) _ _ _ _ _ _ d2027 d2028 (Or.inl ⟨_, d2029, rfl, rfl⟩) d2030 d2031 (hi 3 (by decide)) ?_
  refine hG.2.2.2.2.2.1 2032 _ _ _ _ _ _ _ _ _ [xs (i + nI 1).toNatClampNeg, xs (i + nI 2).toNatClampNeg, xs (i + nI 3).toNatClampNeg] [.int r] _ _ _ _ _ d2032 (LM_X12_roof l) rfl (Nat.le_of_ble_eq_true rfl) (Nat.zero_le _) (Nat.zero_le _) ⟨_, _, _, t, rfl, rfl, (r, t'), e2, r, t', rfl, rfl, ?_⟩
  refine hG.2.2.2.1 _ 2350 _ _ _ _ _ _ _ _ d2035 (by decide +kernel) ?_
  exact hG.2.2.2.2.2.2 _ _ _ _ _ _ _ _ _ (by omega) (by omega) (hend _ _ h')
set_option maxRecDepth 20000 in
theorem case_40 {l : Launch} {L : Nat} {xs : Nat → Int32} {q1 q2 : Nat} {G : lK} (hG : LCl l L xs q1 q2 G) {N : Int} {u t : St} {i : Int32} {bc bs : Nat} (h : RX N u t) (hN : N ≤ 600) (hi : ∀ j : Nat, j ≤ 8 → vp_in (i + nI j) L) (h1 : 25 ≤ bc) (h2 : 3000 ≤ bs) (hend : ∀ u' t', RX (N + 1) u' t' → G 2350 i [] u' t' (bc - 25) (bs - 3000)) : G 2040 i [] u t bc bs := by
  obtain ⟨d2040, d2041, d2042, d2043, d2044, d2045, d2046, d2047, d2048, d2049, d2050, d2051, d2054, d2055, d2056, d2057, d2058, d2059, d2060, d2061, d2062, d2063, d2064, d2065, d2068⟩ := DL_40
  obtain ⟨r, u', t', e1, e2, h'⟩ := P_wind h (xs (i + nI 1).toNatClampNeg) (xs (i + nI 2).toNatClampNeg)
  refine (hG.2.1 _ _ _ _ _ _ _).1 d2040 ?_
  refine hG.1 _ 2044 (nI 1) _ _ _ _ _ _ d2041 d2042 (Or.inl ⟨_, d2043, rfl, rfl⟩) d2044 d2045 (hi 1 (by decide)) ?_
  refine hG.1 _ 2049 (nI 2) _ _ _ _ _ _ d2046 d2047 (Or.inl ⟨_, d2048, rfl, rfl⟩) d2049 d2050 (hi 2 (by decide)) ?_
  refine hG.2.2.2.2.1 2051 _ _ _ _ _ _ _ _ _ [xs (i + nI 1).toNatClampNeg, xs (i + nI 2).toNatClampNeg] [] _ _ _ _ _ d2051 (LM_X11_wind l) rfl (Nat.zero_le 4) (by omega) (by omega) ⟨_, _, u, rfl, rfl, (r, u'), e1, r, u', rfl, rfl, ?_⟩
  refine (hG.2.1 _ _ _ _ _ _ _).2 d2054 ?_
  refine hG.1 _ 2058 (nI 1) _ _ _ _ _ _ d2055 d2056 (Or.inl ⟨_, d2057, rfl, rfl⟩) d2058 d2059 (hi 1 (by decide)) ?_
  refine hG.1 _ 2063 (nI 2) _ _ _ _ _ _ d2060 d2061 (Or.inl ⟨_, d2062, rfl, rfl⟩) d2063 d2064 (hi 2 (by decide)) ?_
  refine hG.2.2.2.2.2.1 2065 _ _ _ _ _ _ _ _ _ [xs (i + nI 1).toNatClampNeg, xs (i + nI 2).toNatClampNeg] [.int r] _ _ _ _ _ d2065 (LM_X12_wind l) rfl (Nat.le_of_ble_eq_true rfl) (Nat.zero_le _) (Nat.zero_le _) ⟨_, _, t, rfl, rfl, (r, t'), e2, r, t', rfl, rfl, ?_⟩
  refine hG.2.2.2.1 _ 2350 _ _ _ _ _ _ _ _ d2068 (by decide +kernel) ?_
  exact hG.2.2.2.2.2.2 _ _ _ _ _ _ _ _ _ (by omega) (by omega) (hend _ _ h')
set_option maxRecDepth 20000 in
theorem case_41 {l : Launch} {L : Nat} {xs : Nat → Int32} {q1 q2 : Nat} {G : lK} (hG : LCl l L xs q1 q2 G) {N : Int} {u t : St} {i : Int32} {bc bs : Nat} (h : RX N u t) (hN : N ≤ 600) (hi : ∀ j : Nat, j ≤ 8 → vp_in (i + nI j) L) (h1 : 25 ≤ bc) (h2 : 3000 ≤ bs) (hend : ∀ u' t', RX (N + 1) u' t' → G 2350 i [] u' t' (bc - 25) (bs - 3000)) : G 2073 i [] u t bc bs := by
  obtain ⟨d2073, d2074, d2077, d2078, d2081⟩ := DL_41
  obtain ⟨r, e1, e2⟩ := P_blame h
  have h' := h.up
  refine (hG.2.1 _ _ _ _ _ _ _).1 d2073 ?_
  refine hG.2.2.2.2.1 2074 _ _ _ _ _ _ _ _ _ [] [] _ _ _ _ _ d2074 (LM_X11_blame l) rfl (Nat.zero_le 4) (by omega) (by omega) ⟨u, rfl, rfl, r, e1, r, u, rfl, rfl, ?_⟩
  refine (hG.2.1 _ _ _ _ _ _ _).2 d2077 ?_
  refine hG.2.2.2.2.2.1 2078 _ _ _ _ _ _ _ _ _ [] [.int r] _ _ _ _ _ d2078 (LM_X12_blame l) rfl (Nat.le_of_ble_eq_true rfl) (Nat.zero_le _) (Nat.zero_le _) ⟨t, rfl, rfl, r, e2, r, t, rfl, rfl, ?_⟩
  refine hG.2.2.2.1 _ 2350 _ _ _ _ _ _ _ _ d2081 (by decide +kernel) ?_
  exact hG.2.2.2.2.2.2 _ _ _ _ _ _ _ _ _ (by omega) (by omega) (hend _ _ h')
set_option maxRecDepth 20000 in
theorem case_42 {l : Launch} {L : Nat} {xs : Nat → Int32} {q1 q2 : Nat} {G : lK} (hG : LCl l L xs q1 q2 G) {N : Int} {u t : St} {i : Int32} {bc bs : Nat} (h : RX N u t) (hN : N ≤ 600) (hi : ∀ j : Nat, j ≤ 8 → vp_in (i + nI j) L) (h1 : 25 ≤ bc) (h2 : 3000 ≤ bs) (hend : ∀ u' t', RX (N + 1) u' t' → G 2350 i [] u' t' (bc - 25) (bs - 3000)) : G 2086 i [] u t bc bs := by
  obtain ⟨d2086, d2087, d2088, d2089, d2090, d2091, d2092, d2093, d2094, d2095, d2096, d2097, d2100, d2101, d2102, d2103, d2104, d2105, d2106, d2107, d2108, d2109, d2110, d2111, d2114⟩ := DL_42
  obtain ⟨r, u', t', e1, e2, h'⟩ := P_treat h (xs (i + nI 1).toNatClampNeg) (xs (i + nI 2).toNatClampNeg)
  refine (hG.2.1 _ _ _ _ _ _ _).1 d2086 ?_
  refine hG.1 _ 2090 (nI 1) _ _ _ _ _ _ d2087 d2088 (Or.inl ⟨_, d2089, rfl, rfl⟩) d2090 d2091 (hi 1 (by decide)) ?_
  refine hG.1 _ 2095 (nI 2) _ _ _ _ _ _ d2092 d2093 (Or.inl ⟨_, d2094, rfl, rfl⟩) d2095 d2096 (hi 2 (by decide)) ?_
  refine hG.2.2.2.2.1 2097 _ _ _ _ _ _ _ _ _ [xs (i + nI 1).toNatClampNeg, xs (i + nI 2).toNatClampNeg] [] _ _ _ _ _ d2097 (LM_X11_treat l) rfl (Nat.zero_le 4) (by omega) (by omega) ⟨_, _, u, rfl, rfl, (r, u'), e1, r, u', rfl, rfl, ?_⟩
  refine (hG.2.1 _ _ _ _ _ _ _).2 d2100 ?_
  refine hG.1 _ 2104 (nI 1) _ _ _ _ _ _ d2101 d2102 (Or.inl ⟨_, d2103, rfl, rfl⟩) d2104 d2105 (hi 1 (by decide)) ?_
  refine hG.1 _ 2109 (nI 2) _ _ _ _ _ _ d2106 d2107 (Or.inl ⟨_, d2108, rfl, rfl⟩) d2109 d2110 (hi 2 (by decide)) ?_
  refine hG.2.2.2.2.2.1 2111 _ _ _ _ _ _ _ _ _ [xs (i + nI 1).toNatClampNeg, xs (i + nI 2).toNatClampNeg] [.int r] _ _ _ _ _ d2111 (LM_X12_treat l) rfl (Nat.le_of_ble_eq_true rfl) (Nat.zero_le _) (Nat.zero_le _) ⟨_, _, t, rfl, rfl, (r, t'), e2, r, t', rfl, rfl, ?_⟩
  refine hG.2.2.2.1 _ 2350 _ _ _ _ _ _ _ _ d2114 (by decide +kernel) ?_
  exact hG.2.2.2.2.2.2 _ _ _ _ _ _ _ _ _ (by omega) (by omega) (hend _ _ h')
set_option maxRecDepth 20000 in
theorem case_43 {l : Launch} {L : Nat} {xs : Nat → Int32} {q1 q2 : Nat} {G : lK} (hG : LCl l L xs q1 q2 G) {N : Int} {u t : St} {i : Int32} {bc bs : Nat} (h : RX N u t) (hN : N ≤ 600) (hi : ∀ j : Nat, j ≤ 8 → vp_in (i + nI j) L) (h1 : 25 ≤ bc) (h2 : 3000 ≤ bs) (hend : ∀ u' t', RX (N + 1) u' t' → G 2350 i [] u' t' (bc - 25) (bs - 3000)) : G 2119 i [] u t bc bs := by
  obtain ⟨d2119, d2120, d2121, d2122, d2123, d2124, d2125, d2126, d2127, d2128, d2129, d2130, d2131, d2132, d2133, d2134, d2135, d2138, d2139, d2140, d2141, d2142, d2143, d2144, d2145, d2146, d2147, d2148, d2149, d2150, d2151, d2152, d2153, d2154, d2157⟩ := DL_43
  obtain ⟨r, t', e1, e2, h'⟩ := P_stay h (xs (i + nI 1).toNatClampNeg) (xs (i + nI 2).toNatClampNeg) (xs (i + nI 3).toNatClampNeg)
  refine (hG.2.1 _ _ _ _ _ _ _).1 d2119 ?_
  refine hG.1 _ 2123 (nI 1) _ _ _ _ _ _ d2120 d2121 (Or.inl ⟨_, d2122, rfl, rfl⟩) d2123 d2124 (hi 1 (by decide)) ?_
  refine hG.1 _ 2128 (nI 2) _ _ _ _ _ _ d2125 d2126 (Or.inl ⟨_, d2127, rfl, rfl⟩) d2128 d2129 (hi 2 (by decide)) ?_
  refine hG.1 _ 2133 (nI 3) _ _ _ _ _ _ d2130 d2131 (Or.inl ⟨_, d2132, rfl, rfl⟩) d2133 d2134 (hi 3 (by decide)) ?_
  refine hG.2.2.2.2.1 2135 _ _ _ _ _ _ _ _ _ [xs (i + nI 1).toNatClampNeg, xs (i + nI 2).toNatClampNeg, xs (i + nI 3).toNatClampNeg] [] _ _ _ _ _ d2135 (LM_X11_stay l) rfl (Nat.zero_le 4) (by omega) (by omega) ⟨_, _, _, u, rfl, rfl, r, e1, r, u, rfl, rfl, ?_⟩
  refine (hG.2.1 _ _ _ _ _ _ _).2 d2138 ?_
  refine hG.1 _ 2142 (nI 1) _ _ _ _ _ _ d2139 d2140 (Or.inl ⟨_, d2141, rfl, rfl⟩) d2142 d2143 (hi 1 (by decide)) ?_
  refine hG.1 _ 2147 (nI 2) _ _ _ _ _ _ d2144 d2145 (Or.inl ⟨_, d2146, rfl, rfl⟩) d2147 d2148 (hi 2 (by decide)) ?_
  refine hG.1 _ 2152 (nI 3) _ _ _ _ _ _ d2149 d2150 (Or.inl ⟨_, d2151, rfl, rfl⟩) d2152 d2153 (hi 3 (by decide)) ?_
  refine hG.2.2.2.2.2.1 2154 _ _ _ _ _ _ _ _ _ [xs (i + nI 1).toNatClampNeg, xs (i + nI 2).toNatClampNeg, xs (i + nI 3).toNatClampNeg] [.int r] _ _ _ _ _ d2154 (LM_X12_stay l) rfl (Nat.le_of_ble_eq_true rfl) (Nat.zero_le _) (Nat.zero_le _) ⟨_, _, _, t, rfl, rfl, (r, t'), e2, r, t', rfl, rfl, ?_⟩
  refine hG.2.2.2.1 _ 2350 _ _ _ _ _ _ _ _ d2157 (by decide +kernel) ?_
  exact hG.2.2.2.2.2.2 _ _ _ _ _ _ _ _ _ (by omega) (by omega) (hend _ _ h')
set_option maxRecDepth 20000 in
theorem case_44 {l : Launch} {L : Nat} {xs : Nat → Int32} {q1 q2 : Nat} {G : lK} (hG : LCl l L xs q1 q2 G) {N : Int} {u t : St} {i : Int32} {bc bs : Nat} (h : RX N u t) (hN : N ≤ 600) (hi : ∀ j : Nat, j ≤ 8 → vp_in (i + nI j) L) (h1 : 25 ≤ bc) (h2 : 3000 ≤ bs) (hend : ∀ u' t', RX (N + 1) u' t' → G 2350 i [] u' t' (bc - 25) (bs - 3000)) : G 2162 i [] u t bc bs := by
  obtain ⟨d2162, d2163, d2164, d2165, d2166, d2167, d2168, d2171, d2172, d2173, d2174, d2175, d2176, d2177, d2180⟩ := DL_44
  obtain ⟨r, u', t', e1, e2, h'⟩ := P_lender h (xs (i + nI 1).toNatClampNeg)
  refine (hG.2.1 _ _ _ _ _ _ _).1 d2162 ?_
  refine hG.1 _ 2166 (nI 1) _ _ _ _ _ _ d2163 d2164 (Or.inl ⟨_, d2165, rfl, rfl⟩) d2166 d2167 (hi 1 (by decide)) ?_
  refine hG.2.2.2.2.1 2168 _ _ _ _ _ _ _ _ _ [xs (i + nI 1).toNatClampNeg] [] _ _ _ _ _ d2168 (LM_X11_lender l) rfl (Nat.zero_le 4) (by omega) (by omega) ⟨_, u, rfl, rfl, (r, u'), e1, r, u', rfl, rfl, ?_⟩
  refine (hG.2.1 _ _ _ _ _ _ _).2 d2171 ?_
  refine hG.1 _ 2175 (nI 1) _ _ _ _ _ _ d2172 d2173 (Or.inl ⟨_, d2174, rfl, rfl⟩) d2175 d2176 (hi 1 (by decide)) ?_
  refine hG.2.2.2.2.2.1 2177 _ _ _ _ _ _ _ _ _ [xs (i + nI 1).toNatClampNeg] [.int r] _ _ _ _ _ d2177 (LM_X12_lender l) rfl (Nat.le_of_ble_eq_true rfl) (Nat.zero_le _) (Nat.zero_le _) ⟨_, t, rfl, rfl, (r, t'), e2, r, t', rfl, rfl, ?_⟩
  refine hG.2.2.2.1 _ 2350 _ _ _ _ _ _ _ _ d2180 (by decide +kernel) ?_
  exact hG.2.2.2.2.2.2 _ _ _ _ _ _ _ _ _ (by omega) (by omega) (hend _ _ h')
set_option maxRecDepth 20000 in
theorem case_45 {l : Launch} {L : Nat} {xs : Nat → Int32} {q1 q2 : Nat} {G : lK} (hG : LCl l L xs q1 q2 G) {N : Int} {u t : St} {i : Int32} {bc bs : Nat} (h : RX N u t) (hN : N ≤ 600) (hi : ∀ j : Nat, j ≤ 8 → vp_in (i + nI j) L) (h1 : 25 ≤ bc) (h2 : 3000 ≤ bs) (hend : ∀ u' t', RX (N + 1) u' t' → G 2350 i [] u' t' (bc - 25) (bs - 3000)) : G 2185 i [] u t bc bs := by
  obtain ⟨d2185, d2186, d2187, d2188, d2189, d2190, d2191, d2192, d2193, d2194, d2195, d2196, d2199, d2200, d2201, d2202, d2203, d2204, d2205, d2206, d2207, d2208, d2209, d2210, d2213⟩ := DL_45
  obtain ⟨r, u', t', e1, e2, h'⟩ := P_bill h (xs (i + nI 1).toNatClampNeg) (xs (i + nI 2).toNatClampNeg)
  refine (hG.2.1 _ _ _ _ _ _ _).1 d2185 ?_
  refine hG.1 _ 2189 (nI 1) _ _ _ _ _ _ d2186 d2187 (Or.inl ⟨_, d2188, rfl, rfl⟩) d2189 d2190 (hi 1 (by decide)) ?_
  refine hG.1 _ 2194 (nI 2) _ _ _ _ _ _ d2191 d2192 (Or.inl ⟨_, d2193, rfl, rfl⟩) d2194 d2195 (hi 2 (by decide)) ?_
  refine hG.2.2.2.2.1 2196 _ _ _ _ _ _ _ _ _ [xs (i + nI 1).toNatClampNeg, xs (i + nI 2).toNatClampNeg] [] _ _ _ _ _ d2196 (LM_X11_bill l) rfl (Nat.zero_le 4) (by omega) (by omega) ⟨_, _, u, rfl, rfl, (r, u'), e1, r, u', rfl, rfl, ?_⟩
  refine (hG.2.1 _ _ _ _ _ _ _).2 d2199 ?_
  refine hG.1 _ 2203 (nI 1) _ _ _ _ _ _ d2200 d2201 (Or.inl ⟨_, d2202, rfl, rfl⟩) d2203 d2204 (hi 1 (by decide)) ?_
  refine hG.1 _ 2208 (nI 2) _ _ _ _ _ _ d2205 d2206 (Or.inl ⟨_, d2207, rfl, rfl⟩) d2208 d2209 (hi 2 (by decide)) ?_
  refine hG.2.2.2.2.2.1 2210 _ _ _ _ _ _ _ _ _ [xs (i + nI 1).toNatClampNeg, xs (i + nI 2).toNatClampNeg] [.int r] _ _ _ _ _ d2210 (LM_X12_bill l) rfl (Nat.le_of_ble_eq_true rfl) (Nat.zero_le _) (Nat.zero_le _) ⟨_, _, t, rfl, rfl, (r, t'), e2, r, t', rfl, rfl, ?_⟩
  refine hG.2.2.2.1 _ 2350 _ _ _ _ _ _ _ _ d2213 (by decide +kernel) ?_
  exact hG.2.2.2.2.2.2 _ _ _ _ _ _ _ _ _ (by omega) (by omega) (hend _ _ h')
set_option maxRecDepth 20000 in
theorem case_46 {l : Launch} {L : Nat} {xs : Nat → Int32} {q1 q2 : Nat} {G : lK} (hG : LCl l L xs q1 q2 G) {N : Int} {u t : St} {i : Int32} {bc bs : Nat} (h : RX N u t) (hN : N ≤ 600) (hi : ∀ j : Nat, j ≤ 8 → vp_in (i + nI j) L) (h1 : 25 ≤ bc) (h2 : 3000 ≤ bs) (hend : ∀ u' t', RX (N + 1) u' t' → G 2350 i [] u' t' (bc - 25) (bs - 3000)) : G 2218 i [] u t bc bs := by
  obtain ⟨d2218, d2219, d2220, d2221, d2222, d2223, d2224, d2225, d2226, d2227, d2228, d2229, d2232, d2233, d2234, d2235, d2236, d2237, d2238, d2239, d2240, d2241, d2242, d2243, d2246⟩ := DL_46
  obtain ⟨r, u', t', e1, e2, h'⟩ := P_paid h (xs (i + nI 1).toNatClampNeg) (xs (i + nI 2).toNatClampNeg)
  refine (hG.2.1 _ _ _ _ _ _ _).1 d2218 ?_
  refine hG.1 _ 2222 (nI 1) _ _ _ _ _ _ d2219 d2220 (Or.inl ⟨_, d2221, rfl, rfl⟩) d2222 d2223 (hi 1 (by decide)) ?_
  refine hG.1 _ 2227 (nI 2) _ _ _ _ _ _ d2224 d2225 (Or.inl ⟨_, d2226, rfl, rfl⟩) d2227 d2228 (hi 2 (by decide)) ?_
  refine hG.2.2.2.2.1 2229 _ _ _ _ _ _ _ _ _ [xs (i + nI 1).toNatClampNeg, xs (i + nI 2).toNatClampNeg] [] _ _ _ _ _ d2229 (LM_X11_paid l) rfl (Nat.zero_le 4) (by omega) (by omega) ⟨_, _, u, rfl, rfl, (r, u'), e1, r, u', rfl, rfl, ?_⟩
  refine (hG.2.1 _ _ _ _ _ _ _).2 d2232 ?_
  refine hG.1 _ 2236 (nI 1) _ _ _ _ _ _ d2233 d2234 (Or.inl ⟨_, d2235, rfl, rfl⟩) d2236 d2237 (hi 1 (by decide)) ?_
  refine hG.1 _ 2241 (nI 2) _ _ _ _ _ _ d2238 d2239 (Or.inl ⟨_, d2240, rfl, rfl⟩) d2241 d2242 (hi 2 (by decide)) ?_
  refine hG.2.2.2.2.2.1 2243 _ _ _ _ _ _ _ _ _ [xs (i + nI 1).toNatClampNeg, xs (i + nI 2).toNatClampNeg] [.int r] _ _ _ _ _ d2243 (LM_X12_paid l) rfl (Nat.le_of_ble_eq_true rfl) (Nat.zero_le _) (Nat.zero_le _) ⟨_, _, t, rfl, rfl, (r, t'), e2, r, t', rfl, rfl, ?_⟩
  refine hG.2.2.2.1 _ 2350 _ _ _ _ _ _ _ _ d2246 (by decide +kernel) ?_
  exact hG.2.2.2.2.2.2 _ _ _ _ _ _ _ _ _ (by omega) (by omega) (hend _ _ h')
set_option maxRecDepth 20000 in
theorem case_47 {l : Launch} {L : Nat} {xs : Nat → Int32} {q1 q2 : Nat} {G : lK} (hG : LCl l L xs q1 q2 G) {N : Int} {u t : St} {i : Int32} {bc bs : Nat} (h : RX N u t) (hN : N ≤ 600) (hi : ∀ j : Nat, j ≤ 8 → vp_in (i + nI j) L) (h1 : 25 ≤ bc) (h2 : 3000 ≤ bs) (hend : ∀ u' t', RX (N + 1) u' t' → G 2350 i [] u' t' (bc - 25) (bs - 3000)) : G 2251 i [] u t bc bs := by
  obtain ⟨d2251, d2252, d2253, d2254, d2255, d2256, d2257, d2258, d2259, d2260, d2261, d2262, d2265, d2266, d2267, d2268, d2269, d2270, d2271, d2272, d2273, d2274, d2275, d2276, d2279⟩ := DL_47
  obtain ⟨r, u', t', e1, e2, h'⟩ := P_row h (xs (i + nI 1).toNatClampNeg) (xs (i + nI 2).toNatClampNeg)
  refine (hG.2.1 _ _ _ _ _ _ _).1 d2251 ?_
  refine hG.1 _ 2255 (nI 1) _ _ _ _ _ _ d2252 d2253 (Or.inl ⟨_, d2254, rfl, rfl⟩) d2255 d2256 (hi 1 (by decide)) ?_
  refine hG.1 _ 2260 (nI 2) _ _ _ _ _ _ d2257 d2258 (Or.inl ⟨_, d2259, rfl, rfl⟩) d2260 d2261 (hi 2 (by decide)) ?_
  refine hG.2.2.2.2.1 2262 _ _ _ _ _ _ _ _ _ [xs (i + nI 1).toNatClampNeg, xs (i + nI 2).toNatClampNeg] [] _ _ _ _ _ d2262 (LM_X11_row l) rfl (Nat.zero_le 4) (by omega) (by omega) ⟨_, _, u, rfl, rfl, (r, u'), e1, r, u', rfl, rfl, ?_⟩
  refine (hG.2.1 _ _ _ _ _ _ _).2 d2265 ?_
  refine hG.1 _ 2269 (nI 1) _ _ _ _ _ _ d2266 d2267 (Or.inl ⟨_, d2268, rfl, rfl⟩) d2269 d2270 (hi 1 (by decide)) ?_
  refine hG.1 _ 2274 (nI 2) _ _ _ _ _ _ d2271 d2272 (Or.inl ⟨_, d2273, rfl, rfl⟩) d2274 d2275 (hi 2 (by decide)) ?_
  refine hG.2.2.2.2.2.1 2276 _ _ _ _ _ _ _ _ _ [xs (i + nI 1).toNatClampNeg, xs (i + nI 2).toNatClampNeg] [.int r] _ _ _ _ _ d2276 (LM_X12_row l) rfl (Nat.le_of_ble_eq_true rfl) (Nat.zero_le _) (Nat.zero_le _) ⟨_, _, t, rfl, rfl, (r, t'), e2, r, t', rfl, rfl, ?_⟩
  refine hG.2.2.2.1 _ 2350 _ _ _ _ _ _ _ _ d2279 (by decide +kernel) ?_
  exact hG.2.2.2.2.2.2 _ _ _ _ _ _ _ _ _ (by omega) (by omega) (hend _ _ h')
set_option maxRecDepth 20000 in
theorem case_48 {l : Launch} {L : Nat} {xs : Nat → Int32} {q1 q2 : Nat} {G : lK} (hG : LCl l L xs q1 q2 G) {N : Int} {u t : St} {i : Int32} {bc bs : Nat} (h : RX N u t) (hN : N ≤ 600) (hi : ∀ j : Nat, j ≤ 8 → vp_in (i + nI j) L) (h1 : 25 ≤ bc) (h2 : 3000 ≤ bs) (hend : ∀ u' t', RX (N + 1) u' t' → G 2350 i [] u' t' (bc - 25) (bs - 3000)) : G 2284 i [] u t bc bs := by
  obtain ⟨d2284, d2285, d2286, d2287, d2288, d2289, d2290, d2291, d2292, d2293, d2294, d2295, d2296, d2297, d2298, d2299, d2300, d2303, d2304, d2305, d2306, d2307, d2308, d2309, d2310, d2311, d2312, d2313, d2314, d2315, d2316, d2317, d2318, d2319, d2322⟩ := DL_48
  obtain ⟨r, u', t', e1, e2, h'⟩ := P_plan h (xs (i + nI 1).toNatClampNeg) (xs (i + nI 2).toNatClampNeg) (xs (i + nI 3).toNatClampNeg)
  refine (hG.2.1 _ _ _ _ _ _ _).1 d2284 ?_
  refine hG.1 _ 2288 (nI 1) _ _ _ _ _ _ d2285 d2286 (Or.inl ⟨_, d2287, rfl, rfl⟩) d2288 d2289 (hi 1 (by decide)) ?_
  refine hG.1 _ 2293 (nI 2) _ _ _ _ _ _ d2290 d2291 (Or.inl ⟨_, d2292, rfl, rfl⟩) d2293 d2294 (hi 2 (by decide)) ?_
  refine hG.1 _ 2298 (nI 3) _ _ _ _ _ _ d2295 d2296 (Or.inl ⟨_, d2297, rfl, rfl⟩) d2298 d2299 (hi 3 (by decide)) ?_
  refine hG.2.2.2.2.1 2300 _ _ _ _ _ _ _ _ _ [xs (i + nI 1).toNatClampNeg, xs (i + nI 2).toNatClampNeg, xs (i + nI 3).toNatClampNeg] [] _ _ _ _ _ d2300 (LM_X11_plan l) rfl (Nat.zero_le 4) (by omega) (by omega) ⟨_, _, _, u, rfl, rfl, (r, u'), e1, r, u', rfl, rfl, ?_⟩
  refine (hG.2.1 _ _ _ _ _ _ _).2 d2303 ?_
  refine hG.1 _ 2307 (nI 1) _ _ _ _ _ _ d2304 d2305 (Or.inl ⟨_, d2306, rfl, rfl⟩) d2307 d2308 (hi 1 (by decide)) ?_
  refine hG.1 _ 2312 (nI 2) _ _ _ _ _ _ d2309 d2310 (Or.inl ⟨_, d2311, rfl, rfl⟩) d2312 d2313 (hi 2 (by decide)) ?_
  refine hG.1 _ 2317 (nI 3) _ _ _ _ _ _ d2314 d2315 (Or.inl ⟨_, d2316, rfl, rfl⟩) d2317 d2318 (hi 3 (by decide)) ?_
  refine hG.2.2.2.2.2.1 2319 _ _ _ _ _ _ _ _ _ [xs (i + nI 1).toNatClampNeg, xs (i + nI 2).toNatClampNeg, xs (i + nI 3).toNatClampNeg] [.int r] _ _ _ _ _ d2319 (LM_X12_plan l) rfl (Nat.le_of_ble_eq_true rfl) (Nat.zero_le _) (Nat.zero_le _) ⟨_, _, _, t, rfl, rfl, (r, t'), e2, r, t', rfl, rfl, ?_⟩
  refine hG.2.2.2.1 _ 2350 _ _ _ _ _ _ _ _ d2322 (by decide +kernel) ?_
  exact hG.2.2.2.2.2.2 _ _ _ _ _ _ _ _ _ (by omega) (by omega) (hend _ _ h')
set_option maxRecDepth 20000 in
theorem case_49 {l : Launch} {L : Nat} {xs : Nat → Int32} {q1 q2 : Nat} {G : lK} (hG : LCl l L xs q1 q2 G) {N : Int} {u t : St} {i : Int32} {bc bs : Nat} (h : RX N u t) (hN : N ≤ 600) (hi : ∀ j : Nat, j ≤ 8 → vp_in (i + nI j) L) (h1 : 25 ≤ bc) (h2 : 3000 ≤ bs) (hend : ∀ u' t', RX (N + 1) u' t' → G 2350 i [] u' t' (bc - 25) (bs - 3000)) : G 2327 i [] u t bc bs := by
  obtain ⟨d2327, d2328, d2329, d2330, d2331, d2332, d2333, d2336, d2337, d2338, d2339, d2340, d2341, d2342, d2345⟩ := DL_49
  obtain ⟨r, e1, e2⟩ := P_many h (xs (i + nI 1).toNatClampNeg)
  have h' := h.up
  refine (hG.2.1 _ _ _ _ _ _ _).1 d2327 ?_
  refine hG.1 _ 2331 (nI 1) _ _ _ _ _ _ d2328 d2329 (Or.inl ⟨_, d2330, rfl, rfl⟩) d2331 d2332 (hi 1 (by decide)) ?_
  refine hG.2.2.2.2.1 2333 _ _ _ _ _ _ _ _ _ [xs (i + nI 1).toNatClampNeg] [] _ _ _ _ _ d2333 (LM_X11_many l) rfl (Nat.zero_le 4) (by omega) (by omega) ⟨_, u, rfl, rfl, r, e1, r, u, rfl, rfl, ?_⟩
  refine (hG.2.1 _ _ _ _ _ _ _).2 d2336 ?_
  refine hG.1 _ 2340 (nI 1) _ _ _ _ _ _ d2337 d2338 (Or.inl ⟨_, d2339, rfl, rfl⟩) d2340 d2341 (hi 1 (by decide)) ?_
  refine hG.2.2.2.2.2.1 2342 _ _ _ _ _ _ _ _ _ [xs (i + nI 1).toNatClampNeg] [.int r] _ _ _ _ _ d2342 (LM_X12_many l) rfl (Nat.le_of_ble_eq_true rfl) (Nat.zero_le _) (Nat.zero_le _) ⟨_, t, rfl, rfl, r, e2, r, t, rfl, rfl, ?_⟩
  refine hG.2.2.2.1 _ 2350 _ _ _ _ _ _ _ _ d2345 (by decide +kernel) ?_
  exact hG.2.2.2.2.2.2 _ _ _ _ _ _ _ _ _ (by omega) (by omega) (hend _ _ h')
