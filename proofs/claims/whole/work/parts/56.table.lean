set_option maxRecDepth 100000 in
theorem x89 {G : Ctx} {h : Nat} {Q : MP} {I : Nat → Nat → Int} {J : Nat → Nat → BitVec 64} {b : B3} {x y : Int} (hh : 2 ≤ h) (H : ((y = (-1)) → (Q (some (vi 1)) (I, J, PP b))) ∧ (¬ (y = (-1)) → (((0 ≤ x ∧ x < (I 72 0)) → ((0 ≤ x ∧ x < (120 : Int)) ∧ ((0 ≤ (I 75 x.toNat) ∧ (I 75 x.toNat) < (I 7 0) ∧ (I 7 0) ≤ 120 ∧ 0 ≤ (2 : Int) ∧ (2 : Int) < 6) ∧ (((0 ≤ (I 8 ((((I 75 x.toNat)) * 6 + (2 : Int)).toNat)) ∧ (I 8 ((((I 75 x.toNat)) * 6 + (2 : Int)).toNat)) < (I 2 0)) → ((0 ≤ (I 8 ((((I 75 x.toNat)) * 6 + (2 : Int)).toNat)) ∧ (I 8 ((((I 75 x.toNat)) * 6 + (2 : Int)).toNat)) < (60 : Int)) ∧ (((¬ (I 3 ((I 8 ((((I 75 x.toNat)) * 6 + (2 : Int)).toNat)).toNat)) = y) → (Q (some (vi 0)) (I, J, PP b))) ∧ (¬ (¬ (I 3 ((I 8 ((((I 75 x.toNat)) * 6 + (2 : Int)).toNat)).toNat)) = y) → (Q (some (vi 1)) (I, J, PP b)))))) ∧ (¬ (0 ≤ (I 8 ((((I 75 x.toNat)) * 6 + (2 : Int)).toNat)) ∧ (I 8 ((((I 75 x.toNat)) * 6 + (2 : Int)).toNat)) < (I 2 0)) → (((¬ (-1) = y) → (Q (some (vi 0)) (I, J, PP b))) ∧ (¬ (¬ (-1) = y) → (Q (some (vi 1)) (I, J, PP b))))))))) ∧ (¬ (0 ≤ x ∧ x < (I 72 0)) → ((0 ≤ ((-1) : Int) ∧ ((-1) : Int) < (I 7 0) ∧ (I 7 0) ≤ 120 ∧ 0 ≤ (2 : Int) ∧ (2 : Int) < 6) ∧ (((0 ≤ (I 8 ((((-1) : Int) * 6 + (2 : Int)).toNat)) ∧ (I 8 ((((-1) : Int) * 6 + (2 : Int)).toNat)) < (I 2 0)) → ((0 ≤ (I 8 ((((-1) : Int) * 6 + (2 : Int)).toNat)) ∧ (I 8 ((((-1) : Int) * 6 + (2 : Int)).toNat)) < (60 : Int)) ∧ (((¬ (I 3 ((I 8 ((((-1) : Int) * 6 + (2 : Int)).toNat)).toNat)) = y) → (Q (some (vi 0)) (I, J, PP b))) ∧ (¬ (¬ (I 3 ((I 8 ((((-1) : Int) * 6 + (2 : Int)).toNat)).toNat)) = y) → (Q (some (vi 1)) (I, J, PP b)))))) ∧ (¬ (0 ≤ (I 8 ((((-1) : Int) * 6 + (2 : Int)).toNat)) ∧ (I 8 ((((-1) : Int) * 6 + (2 : Int)).toNat)) < (I 2 0)) → (((¬ (-1) = y) → (Q (some (vi 0)) (I, J, PP b))) ∧ (¬ (¬ (-1) = y) → (Q (some (vi 1)) (I, J, PP b))))))))))) : Tri G h 89 119 119 0 [some (vr 72), some (vi x), some (vi y)] [] (I, J, PP b) Q := wp_at ck89 [] 400 (And.intro (fun q1261 => And.intro (show (1 : Int) = 0 ∨ (1 : Int) = 1 by decide) (H.1 q1261)) (fun q1262 => x86_m (by omega) (fun h hh => x86 hh (And.intro (fun q1263 => And.intro ((H.2 q1262).1 q1263).1 (cI_r (sx29 (by omega) (((H.2 q1262).1 q1263).2).1 (x121_m (by omega) (fun h hh => x121 hh (And.intro (fun q1265 => And.intro (((((H.2 q1262).1 q1263).2).2).1 q1265).1 (cI_r (And.intro (fun q1267 => And.intro (show (0 : Int) = 0 ∨ (0 : Int) = 1 by decide) (((((((H.2 q1262).1 q1263).2).2).1 q1265).2).1 q1267)) (fun q1268 => And.intro (show (1 : Int) = 0 ∨ (1 : Int) = 1 by decide) (((((((H.2 q1262).1 q1263).2).2).1 q1265).2).2 q1268))))) (fun q1266 => cI_r (And.intro (fun q1269 => And.intro (show (0 : Int) = 0 ∨ (0 : Int) = 1 by decide) ((((((H.2 q1262).1 q1263).2).2).2 q1266).1 q1269)) (fun q1270 => And.intro (show (1 : Int) = 0 ∨ (1 : Int) = 1 by decide) ((((((H.2 q1262).1 q1263).2).2).2 q1266).2 q1270)))))))))) (fun q1264 => cI_r (sx29 (by omega) ((H.2 q1262).2 q1264).1 (x121_m (by omega) (fun h hh => x121 hh (And.intro (fun q1271 => And.intro ((((H.2 q1262).2 q1264).2).1 q1271).1 (cI_r (And.intro (fun q1273 => And.intro (show (0 : Int) = 0 ∨ (0 : Int) = 1 by decide) ((((((H.2 q1262).2 q1264).2).1 q1271).2).1 q1273)) (fun q1274 => And.intro (show (1 : Int) = 0 ∨ (1 : Int) = 1 by decide) ((((((H.2 q1262).2 q1264).2).1 q1271).2).2 q1274))))) (fun q1272 => cI_r (And.intro (fun q1275 => And.intro (show (0 : Int) = 0 ∨ (0 : Int) = 1 by decide) (((((H.2 q1262).2 q1264).2).2 q1272).1 q1275)) (fun q1276 => And.intro (show (1 : Int) = 0 ∨ (1 : Int) = 1 by decide) (((((H.2 q1262).2 q1264).2).2 q1272).2 q1276)))))))))))))
theorem x89_m {G : Ctx} {h : Nat} {Q : MP} {I : Nat → Nat → Int} {J : Nat → Nat → BitVec 64} {b : B3} {x y : Int} (hh : 3 ≤ h) (H : ∀ h, 2 ≤ h → Tri G h 89 119 119 0 [some (vr 72), some (vi x), some (vi y)] [] (I, J, PP b) Q) : TriM G h 89 119 119 [vr 72, vi x, vi y] (I, J, PP b) Q := TriM_intro (h - 1) (by omega) (by decide) (Nat.le_of_ble_eq_true rfl) (Nat.le_refl _) (Nat.le_refl _) (H (h - 1) (by omega))
set_option maxRecDepth 100000 in
theorem x90 {G : Ctx} {h : Nat} {Q : MP} {I : Nat → Nat → Int} {J : Nat → Nat → BitVec 64} {b : B3} {x y : Int} (hh : 0 ≤ h) (H : Tri G h 90 119 119 5 [some (vr 72), some (vi x), some (vi y), some (vi 0), some (vi 0)] [] (I, J, PP b) Q) : Tri G h 90 119 119 0 [some (vr 72), some (vi x), some (vi y)] [] (I, J, PP b) Q := wp_at ck90 [(5, [true, true, true, true, true])] 400 H
set_option maxRecDepth 100000 in
theorem x90_5 {G : Ctx} {h : Nat} {Q : MP} {I : Nat → Nat → Int} {J : Nat → Nat → BitVec 64} {b : B3} {l1 l2 l3 l4 : Int} (hh : 3 ≤ h) (H : (((I 72 0) ≤ l4) → (Q (some (vi l3)) (I, J, PP b))) ∧ (¬ ((I 72 0) ≤ l4) → (((0 ≤ l4 ∧ l4 < (I 72 0)) → ((0 ≤ l4 ∧ l4 < (120 : Int)) ∧ (((¬ (w32 ((I 76 l4.toNat) - 1)) = l2) → (Tri G h 90 119 119 5 [some (vr 72), some (vi l1), some (vi l2), some (vi l3), some (vi (w32 (l4 + 1)))] [] (I, J, PP b) Q)) ∧ (¬ (¬ (w32 ((I 76 l4.toNat) - 1)) = l2) → (TriM G h 89 119 119 [vr 72, vi l4, vi l1] (I, J, PP b) (cIN fun r1 I1 J1 b1 => (((r1 = 0) → (Tri G h 90 119 119 5 [some (vr 72), some (vi l1), some (vi l2), some (vi l3), some (vi (w32 (l4 + 1)))] [] (I1, J1, PP b1) Q)) ∧ (¬ (r1 = 0) → (Tri G h 90 119 119 5 [some (vr 72), some (vi l1), some (vi l2), some (vi (w32 (l3 + 1))), some (vi (w32 (l4 + 1)))] [] (I1, J1, PP b1) Q))))))))) ∧ (¬ (0 ≤ l4 ∧ l4 < (I 72 0)) → (((¬ (-1) = l2) → (Tri G h 90 119 119 5 [some (vr 72), some (vi l1), some (vi l2), some (vi l3), some (vi (w32 (l4 + 1)))] [] (I, J, PP b) Q)) ∧ (¬ (¬ (-1) = l2) → (TriM G h 89 119 119 [vr 72, vi l4, vi l1] (I, J, PP b) (cIN fun r2 I2 J2 b2 => (((r2 = 0) → (Tri G h 90 119 119 5 [some (vr 72), some (vi l1), some (vi l2), some (vi l3), some (vi (w32 (l4 + 1)))] [] (I2, J2, PP b2) Q)) ∧ (¬ (r2 = 0) → (Tri G h 90 119 119 5 [some (vr 72), some (vi l1), some (vi l2), some (vi (w32 (l3 + 1))), some (vi (w32 (l4 + 1)))] [] (I2, J2, PP b2) Q))))))))))) : Tri G h 90 119 119 5 [some (vr 72), some (vi l1), some (vi l2), some (vi l3), some (vi l4)] [] (I, J, PP b) Q := wp_at ck90 [(5, [true, true, true, true, true])] 400 (And.intro (fun q1277 => H.1 q1277) (fun q1278 => x87_m (by omega) (fun h hh => x87 hh (And.intro (fun q1279 => And.intro ((H.2 q1278).1 q1279).1 (cI_r (And.intro (fun q1281 => (((H.2 q1278).1 q1279).2).1 q1281) (fun q1282 => cIN_go ((((H.2 q1278).1 q1279).2).2 q1282) (fun r1 I1 J1 b1 q1283 => q1283))))) (fun q1280 => cI_r (And.intro (fun q1284 => ((H.2 q1278).2 q1280).1 q1284) (fun q1285 => cIN_go (((H.2 q1278).2 q1280).2 q1285) (fun r2 I2 J2 b2 q1286 => q1286))))))))
theorem x90_m {G : Ctx} {h : Nat} {Q : MP} {I : Nat → Nat → Int} {J : Nat → Nat → BitVec 64} {b : B3} {x y : Int} (hh : 4 ≤ h) (H : ∀ h, 3 ≤ h → Tri G h 90 119 119 0 [some (vr 72), some (vi x), some (vi y)] [] (I, J, PP b) Q) : TriM G h 90 119 119 [vr 72, vi x, vi y] (I, J, PP b) Q := TriM_intro (h - 1) (by omega) (by decide) (Nat.le_of_ble_eq_true rfl) (Nat.le_refl _) (Nat.le_refl _) (H (h - 1) (by omega))
set_option maxRecDepth 100000 in
theorem x91 {G : Ctx} {h : Nat} {Q : MP} {I : Nat → Nat → Int} {J : Nat → Nat → BitVec 64} {b : B3} {x : Int} (hh : 4 ≤ h) (H : TriM G h 90 119 119 [vr 72, vi x, vi 2] (I, J, PP b) (cIN fun r1 I1 J1 b1 => (((¬ r1 = 0) → (TriM G h 90 119 119 [vr 72, vi x, vi 0] (I1, J1, PP b1) (cIN fun r2 I2 J2 b2 => (TriM G h 90 119 119 [vr 72, vi x, vi 1] (I2, J2, PP b2) (cIN fun r3 I3 J3 b3 => (r1 ≠ 0 ∧ (Q (some (vi (iDiv (w32 (r2 * r3)) r1))) (I3, J3, PP b3)))))))) ∧ (¬ (¬ r1 = 0) → (Q (some (vi (-1))) (I1, J1, PP b1)))))) : Tri G h 91 119 119 0 [some (vr 72), some (vi x)] [] (I, J, PP b) Q := wp_at ck91 [] 400 (cIN_go H (fun r1 I1 J1 b1 q1287 => And.intro (fun q1288 => cIN_go (q1287.1 q1288) (fun r2 I2 J2 b2 q1290 => cIN_go q1290 (fun r3 I3 J3 b3 q1291 => q1291))) (fun q1289 => q1287.2 q1289)))
theorem x91_m {G : Ctx} {h : Nat} {Q : MP} {I : Nat → Nat → Int} {J : Nat → Nat → BitVec 64} {b : B3} {x : Int} (hh : 5 ≤ h) (H : ∀ h, 4 ≤ h → Tri G h 91 119 119 0 [some (vr 72), some (vi x)] [] (I, J, PP b) Q) : TriM G h 91 119 119 [vr 72, vi x] (I, J, PP b) Q := TriM_intro (h - 1) (by omega) (by decide) (Nat.le_of_ble_eq_true rfl) (Nat.le_refl _) (Nat.le_refl _) (H (h - 1) (by omega))
set_option maxRecDepth 100000 in
theorem x92 {G : Ctx} {h : Nat} {Q : MP} {I : Nat → Nat → Int} {J : Nat → Nat → BitVec 64} {b : B3} {x : Int} (hh : 0 ≤ h) (H : Tri G h 92 119 119 4 [some (vr 72), some (vi x), some (vi 0), some (vi 0)] [] (I, J, PP b) Q) : Tri G h 92 119 119 0 [some (vr 72), some (vi x)] [] (I, J, PP b) Q := wp_at ck92 [(4, [true, true, true, true])] 400 H
set_option maxRecDepth 100000 in
theorem x92_4 {G : Ctx} {h : Nat} {Q : MP} {I : Nat → Nat → Int} {J : Nat → Nat → BitVec 64} {b : B3} {l1 l2 l3 : Int} (hh : 3 ≤ h) (H : (((I 72 0) ≤ l3) → (Q (some (vi l2)) (I, J, PP b))) ∧ (¬ ((I 72 0) ≤ l3) → (TriM G h 88 119 119 [vr 72, vi l3] (I, J, PP b) (cIN fun r1 I1 J1 b1 => (((r1 < 2) → (Tri G h 92 119 119 4 [some (vr 72), some (vi l1), some (vi l2), some (vi (w32 (l3 + 1)))] [] (I1, J1, PP b1) Q)) ∧ (¬ (r1 < 2) → (TriM G h 89 119 119 [vr 72, vi l3, vi l1] (I1, J1, PP b1) (cIN fun r2 I2 J2 b2 => (((r2 = 0) → (Tri G h 92 119 119 4 [some (vr 72), some (vi l1), some (vi l2), some (vi (w32 (l3 + 1)))] [] (I2, J2, PP b2) Q)) ∧ (¬ (r2 = 0) → (Tri G h 92 119 119 4 [some (vr 72), some (vi l1), some (vi (w32 (l2 + 1))), some (vi (w32 (l3 + 1)))] [] (I2, J2, PP b2) Q))))))))))) : Tri G h 92 119 119 4 [some (vr 72), some (vi l1), some (vi l2), some (vi l3)] [] (I, J, PP b) Q := wp_at ck92 [(4, [true, true, true, true])] 400 (And.intro (fun q1292 => H.1 q1292) (fun q1293 => cIN_go (H.2 q1293) (fun r1 I1 J1 b1 q1294 => And.intro (fun q1295 => q1294.1 q1295) (fun q1296 => cIN_go (q1294.2 q1296) (fun r2 I2 J2 b2 q1297 => q1297)))))
theorem x92_m {G : Ctx} {h : Nat} {Q : MP} {I : Nat → Nat → Int} {J : Nat → Nat → BitVec 64} {b : B3} {x : Int} (hh : 4 ≤ h) (H : ∀ h, 3 ≤ h → Tri G h 92 119 119 0 [some (vr 72), some (vi x)] [] (I, J, PP b) Q) : TriM G h 92 119 119 [vr 72, vi x] (I, J, PP b) Q := TriM_intro (h - 1) (by omega) (by decide) (Nat.le_of_ble_eq_true rfl) (Nat.le_refl _) (Nat.le_refl _) (H (h - 1) (by omega))
set_option maxRecDepth 100000 in
theorem x155 {G : Ctx} {h : Nat} {Q : MP} {I : Nat → Nat → Int} {J : Nat → Nat → BitVec 64} {b : B3} {x y : Int} (hh : 7 ≤ h) (H : ((x = (-1)) → (TriM G h 81 119 119 [vr 72] (I, J, PP b) (cVN fun I1 J1 b1 => (((y = 0 → (TriM G h 90 119 119 [vr 72, vi x, vi y] (I1, J1, PP b1) (cIN fun r2 I2 J2 b2 => (Q (some (vi r2)) (I2, J2, PP b2))))) ∧ (y = 1 → (TriM G h 90 119 119 [vr 72, vi x, vi y] (I1, J1, PP b1) (cIN fun r3 I3 J3 b3 => (Q (some (vi r3)) (I3, J3, PP b3))))) ∧ (y = 2 → (TriM G h 90 119 119 [vr 72, vi x, vi y] (I1, J1, PP b1) (cIN fun r4 I4 J4 b4 => (Q (some (vi r4)) (I4, J4, PP b4))))) ∧ (y = 3 → (TriM G h 91 119 119 [vr 72, vi x] (I1, J1, PP b1) (cIN fun r5 I5 J5 b5 => (Q (some (vi r5)) (I5, J5, PP b5))))) ∧ (y = 4 → (TriM G h 92 119 119 [vr 72, vi x] (I1, J1, PP b1) (cIN fun r6 I6 J6 b6 => (Q (some (vi r6)) (I6, J6, PP b6))))) ∧ True) ∧ ((y < 0 ∨ 4 < y) → (Q (some (vi (-1))) (I1, J1, PP b1))))))) ∧ (¬ (x = (-1)) → (((0 ≤ x ∧ x < (12 : Int)) → (TriM G h 81 119 119 [vr 72] (I, J, PP b) (cVN fun I7 J7 b7 => (((y = 0 → (TriM G h 90 119 119 [vr 72, vi x, vi y] (I7, J7, PP b7) (cIN fun r8 I8 J8 b8 => (Q (some (vi r8)) (I8, J8, PP b8))))) ∧ (y = 1 → (TriM G h 90 119 119 [vr 72, vi x, vi y] (I7, J7, PP b7) (cIN fun r9 I9 J9 b9 => (Q (some (vi r9)) (I9, J9, PP b9))))) ∧ (y = 2 → (TriM G h 90 119 119 [vr 72, vi x, vi y] (I7, J7, PP b7) (cIN fun r10 I10 J10 b10 => (Q (some (vi r10)) (I10, J10, PP b10))))) ∧ (y = 3 → (TriM G h 91 119 119 [vr 72, vi x] (I7, J7, PP b7) (cIN fun r11 I11 J11 b11 => (Q (some (vi r11)) (I11, J11, PP b11))))) ∧ (y = 4 → (TriM G h 92 119 119 [vr 72, vi x] (I7, J7, PP b7) (cIN fun r12 I12 J12 b12 => (Q (some (vi r12)) (I12, J12, PP b12))))) ∧ True) ∧ ((y < 0 ∨ 4 < y) → (Q (some (vi (-1))) (I7, J7, PP b7))))))) ∧ (¬ (0 ≤ x ∧ x < (12 : Int)) → (Q (some (vi (-1))) (I, J, PP b)))))) : Tri G h 155 119 119 0 [some (vr 0), some (vi x), some (vi y)] [] (I, J, PP b) Q := wp_at ck155 [] 400 (And.intro (fun q1298 => cVN_go (H.1 q1298) (fun I1 J1 b1 q1300 => And.intro (And.intro (fun q1301 => cIN_go (q1300.1.1 q1301) (fun r2 I2 J2 b2 q1302 => q1302)) (And.intro (fun q1303 => cIN_go (q1300.1.2.1 q1303) (fun r3 I3 J3 b3 q1304 => q1304)) (And.intro (fun q1305 => cIN_go (q1300.1.2.2.1 q1305) (fun r4 I4 J4 b4 q1306 => q1306)) (And.intro (fun q1307 => cIN_go (q1300.1.2.2.2.1 q1307) (fun r5 I5 J5 b5 q1308 => q1308)) (And.intro (fun q1309 => cIN_go (q1300.1.2.2.2.2.1 q1309) (fun r6 I6 J6 b6 q1310 => q1310)) trivial))))) (fun q1311 => q1300.2 q1311))) (fun q1299 => sx172 (by omega)  (fun q1312 => And.intro (fun _ => cVN_go ((H.2 q1299).1 q1312) (fun I7 J7 b7 q1314 => And.intro (And.intro (fun q1315 => cIN_go (q1314.1.1 q1315) (fun r8 I8 J8 b8 q1316 => q1316)) (And.intro (fun q1317 => cIN_go (q1314.1.2.1 q1317) (fun r9 I9 J9 b9 q1318 => q1318)) (And.intro (fun q1319 => cIN_go (q1314.1.2.2.1 q1319) (fun r10 I10 J10 b10 q1320 => q1320)) (And.intro (fun q1321 => cIN_go (q1314.1.2.2.2.1 q1321) (fun r11 I11 J11 b11 q1322 => q1322)) (And.intro (fun q1323 => cIN_go (q1314.1.2.2.2.2.1 q1323) (fun r12 I12 J12 b12 q1324 => q1324)) trivial))))) (fun q1325 => q1314.2 q1325))) (fun z => absurd (show ¬ (1 : Int) = (0 : Int) by decide) z)) (fun q1313 => And.intro (fun z => absurd z (show ¬ (¬ (0 : Int) = (0 : Int)) by decide)) (fun _ => (H.2 q1299).2 q1313))))
theorem x155_m {G : Ctx} {h : Nat} {Q : MP} {I : Nat → Nat → Int} {J : Nat → Nat → BitVec 64} {b : B3} {x y : Int} (hh : 8 ≤ h) (H : ∀ h, 7 ≤ h → Tri G h 155 119 119 0 [some (vr 0), some (vi x), some (vi y)] [] (I, J, PP b) Q) : TriM G h 155 119 119 [vr 0, vi x, vi y] (I, J, PP b) Q := TriM_intro (h - 1) (by omega) (by decide) (Nat.le_of_ble_eq_true rfl) (Nat.le_refl _) (Nat.le_refl _) (H (h - 1) (by omega))
set_option maxRecDepth 100000 in
theorem x236 {G : Ctx} {h : Nat} {Q : MP} {I : Nat → Nat → Int} {J : Nat → Nat → BitVec 64} {b : B3} {x y : Int} (hh : 5 ≤ h) (H : ((x = (-1)) → ((((0 : Int) ≤ y ∧ y ≤ (4 : Int)) → (TriM G h 231 119 119 [vr 91] (I, J, PP b) (cVN fun I1 J1 b1 => (Tri G h 236 119 119 29 [some (vr 91), some (vi x), some (vi y), some (vi 0)] [] (I1, J1, PP b1) Q)))) ∧ (¬ ((0 : Int) ≤ y ∧ y ≤ (4 : Int)) → (Q (some (vi (-1))) (I, J, PP b))))) ∧ (¬ (x = (-1)) → (((0 ≤ x ∧ x < 12) → ((((0 : Int) ≤ y ∧ y ≤ (4 : Int)) → (TriM G h 231 119 119 [vr 91] (I, J, PP b) (cVN fun I2 J2 b2 => (Tri G h 236 119 119 29 [some (vr 91), some (vi x), some (vi y), some (vi 0)] [] (I2, J2, PP b2) Q)))) ∧ (¬ ((0 : Int) ≤ y ∧ y ≤ (4 : Int)) → (Q (some (vi (-1))) (I, J, PP b))))) ∧ (¬ (0 ≤ x ∧ x < 12) → (Q (some (vi (-1))) (I, J, PP b)))))) : Tri G h 236 119 119 0 [some (vr 91), some (vi x), some (vi y)] [] (I, J, PP b) Q := wp_at ck236 [(29, [true, true, true, true]), (49, [true, true, true, true])] 400 (And.intro (fun q1326 => sx181 (by omega)  (fun q1328 => And.intro (fun _ => cVN_go ((H.1 q1326).1 q1328) (fun I1 J1 b1 q1330 => q1330)) (fun z => absurd (show ¬ (1 : Int) = (0 : Int) by decide) z)) (fun q1329 => And.intro (fun z => absurd z (show ¬ (¬ (0 : Int) = (0 : Int)) by decide)) (fun _ => (H.1 q1326).2 q1329))) (fun q1327 => sx186 (by omega)  (fun q1331 => And.intro (fun z => absurd z (show ¬ ((1 : Int) = (0 : Int)) by decide)) (fun _ => sx181 (by omega)  (fun q1333 => And.intro (fun _ => cVN_go (((H.2 q1327).1 q1331).1 q1333) (fun I2 J2 b2 q1335 => q1335)) (fun z => absurd (show ¬ (1 : Int) = (0 : Int) by decide) z)) (fun q1334 => And.intro (fun z => absurd z (show ¬ (¬ (0 : Int) = (0 : Int)) by decide)) (fun _ => ((H.2 q1327).1 q1331).2 q1334)))) (fun q1332 => And.intro (fun _ => (H.2 q1327).2 q1332) (fun z => absurd (show (0 : Int) = (0 : Int) by decide) z))))
set_option maxRecDepth 100000 in
theorem x236_29 {G : Ctx} {h : Nat} {Q : MP} {I : Nat → Nat → Int} {J : Nat → Nat → BitVec 64} {b : B3} {l1 l2 l3 : Int} (hh : 0 ≤ h) (H : ((4 ≤ l3) → (Tri G h 236 119 119 49 [some (vr 91), some (vi l1), some (vi l2), some (vi 0)] [] (I, J, PP b) Q)) ∧ (¬ (4 ≤ l3) → ((0 ≤ l3 ∧ l3 < (4 : Int)) ∧ (Tri G h 236 119 119 29 [some (vr 91), some (vi l1), some (vi l2), some (vi (w32 (l3 + 1)))] [] (u2 I 104 l3.toNat 0, J, PP b) Q)))) : Tri G h 236 119 119 29 [some (vr 91), some (vi l1), some (vi l2), some (vi l3)] [] (I, J, PP b) Q := wp_at ck236 [(29, [true, true, true, true]), (49, [true, true, true, true])] 400 H
set_option maxRecDepth 100000 in
theorem x236_49 {G : Ctx} {h : Nat} {Q : MP} {I : Nat → Nat → Int} {J : Nat → Nat → BitVec 64} {b : B3} {l1 l2 l3 : Int} (hh : 2 ≤ h) (H : (((I 91 26) ≤ l3) → (((¬ l2 = 3) → (((¬ l2 = 4) → ((0 ≤ l2 ∧ l2 < (4 : Int)) ∧ (Q (some (vi (I 104 l2.toNat))) (I, J, PP b)))) ∧ (¬ (¬ l2 = 4) → (Q (some (vi (I 104 3))) (I, J, PP b))))) ∧ (¬ (¬ l2 = 3) → (((¬ (I 104 2) = 0) → ((I 104 2) ≠ 0 ∧ (Q (some (vi (iDiv (w32 ((I 104 0) * (I 104 1))) (I 104 2)))) (I, J, PP b)))) ∧ (¬ (¬ (I 104 2) = 0) → (Q (some (vi (-1))) (I, J, PP b))))))) ∧ (¬ ((I 91 26) ≤ l3) → (((l1 = (-1)) → (TriM G h 232 119 119 [vr 91, vi l3] (I, J, PP b) (cIN fun r1 I1 J1 b1 => ((0 ≤ r1 ∧ r1 < (4 : Int)) ∧ ((0 ≤ r1 ∧ r1 < (4 : Int)) ∧ (TriM G h 233 119 119 [vr 91, vi l3] (u2 I1 104 r1.toNat (w32 ((I1 104 r1.toNat) + 1)), J1, PP b1) (cIN fun r2 I2 J2 b2 => (((r2 ≤ 1) → (Tri G h 236 119 119 49 [some (vr 91), some (vi l1), some (vi l2), some (vi (w32 (l3 + 1)))] [] (u2 I2 104 3 (w32 (((u2 I1 104 r1.toNat (w32 ((I1 104 r1.toNat) + 1))) 104 3) + 0)), J2, PP b2) Q)) ∧ (¬ (r2 ≤ 1) → (Tri G h 236 119 119 49 [some (vr 91), some (vi l1), some (vi l2), some (vi (w32 (l3 + 1)))] [] (u2 I2 104 3 (w32 (((u2 I1 104 r1.toNat (w32 ((I1 104 r1.toNat) + 1))) 104 3) + 1)), J2, PP b2) Q)))))))))) ∧ (¬ (l1 = (-1)) → ((0 ≤ l3 ∧ l3 < (120 : Int)) ∧ ((0 ≤ (I 102 l3.toNat) ∧ (I 102 l3.toNat) < 120 ∧ 0 ≤ (2 : Int) ∧ (2 : Int) < 17) ∧ ((0 ≤ (I 92 ((450 + 17 * ((I 102 l3.toNat)) + (2 : Int)).toNat)) ∧ (I 92 ((450 + 17 * ((I 102 l3.toNat)) + (2 : Int)).toNat)) < 60) ∧ ((((I 92 ((220 + 3 * (I 92 ((450 + 17 * (((I 102 l3.toNat))) + (2 : Int)).toNat))).toNat)) = l1) → (TriM G h 232 119 119 [vr 91, vi l3] (I, J, PP b) (cIN fun r3 I3 J3 b3 => ((0 ≤ r3 ∧ r3 < (4 : Int)) ∧ ((0 ≤ r3 ∧ r3 < (4 : Int)) ∧ (TriM G h 233 119 119 [vr 91, vi l3] (u2 I3 104 r3.toNat (w32 ((I3 104 r3.toNat) + 1)), J3, PP b3) (cIN fun r4 I4 J4 b4 => (((r4 ≤ 1) → (Tri G h 236 119 119 49 [some (vr 91), some (vi l1), some (vi l2), some (vi (w32 (l3 + 1)))] [] (u2 I4 104 3 (w32 (((u2 I3 104 r3.toNat (w32 ((I3 104 r3.toNat) + 1))) 104 3) + 0)), J4, PP b4) Q)) ∧ (¬ (r4 ≤ 1) → (Tri G h 236 119 119 49 [some (vr 91), some (vi l1), some (vi l2), some (vi (w32 (l3 + 1)))] [] (u2 I4 104 3 (w32 (((u2 I3 104 r3.toNat (w32 ((I3 104 r3.toNat) + 1))) 104 3) + 1)), J4, PP b4) Q)))))))))) ∧ (¬ ((I 92 ((220 + 3 * (I 92 ((450 + 17 * (((I 102 l3.toNat))) + (2 : Int)).toNat))).toNat)) = l1) → (Tri G h 236 119 119 49 [some (vr 91), some (vi l1), some (vi l2), some (vi (w32 (l3 + 1)))] [] (I, J, PP b) Q)))))))))) : Tri G h 236 119 119 49 [some (vr 91), some (vi l1), some (vi l2), some (vi l3)] [] (I, J, PP b) Q := wp_at ck236 [(29, [true, true, true, true]), (49, [true, true, true, true])] 400 (And.intro (fun q1336 => And.intro (fun q1338 => And.intro (fun q1340 => ((H.1 q1336).1 q1338).1 q1340) (fun q1341 => And.intro (show (0 : Int) ≤ 3 ∧ (3 : Int) < ((4 : Nat) : Int) by decide) (((H.1 q1336).1 q1338).2 q1341))) (fun q1339 => And.intro (show (0 : Int) ≤ 2 ∧ (2 : Int) < ((4 : Nat) : Int) by decide) (And.intro (fun q1342 => And.intro (show (0 : Int) ≤ 0 ∧ (0 : Int) < ((4 : Nat) : Int) by decide) (And.intro (show (0 : Int) ≤ 1 ∧ (1 : Int) < ((4 : Nat) : Int) by decide) (And.intro (show (0 : Int) ≤ 2 ∧ (2 : Int) < ((4 : Nat) : Int) by decide) (((H.1 q1336).2 q1339).1 q1342)))) (fun q1343 => ((H.1 q1336).2 q1339).2 q1343)))) (fun q1337 => And.intro (fun q1344 => cIN_go ((H.2 q1337).1 q1344) (fun r1 I1 J1 b1 q1346 => And.intro q1346.1 (And.intro q1346.2.1 (And.intro (show (0 : Int) ≤ 3 ∧ (3 : Int) < ((4 : Nat) : Int) by decide) (cIN_go q1346.2.2 (fun r2 I2 J2 b2 q1347 => And.intro (fun q1348 => And.intro (show (0 : Int) ≤ 3 ∧ (3 : Int) < ((4 : Nat) : Int) by decide) (q1347.1 q1348)) (fun q1349 => And.intro (show (0 : Int) ≤ 3 ∧ (3 : Int) < ((4 : Nat) : Int) by decide) (q1347.2 q1349)))))))) (fun q1345 => And.intro ((H.2 q1337).2 q1345).1 (sx188 (by omega) (((H.2 q1337).2 q1345).2).1 (sx189 (by omega) ((((H.2 q1337).2 q1345).2).2).1 (And.intro (fun q1350 => cIN_go ((((((H.2 q1337).2 q1345).2).2).2).1 q1350) (fun r3 I3 J3 b3 q1352 => And.intro q1352.1 (And.intro q1352.2.1 (And.intro (show (0 : Int) ≤ 3 ∧ (3 : Int) < ((4 : Nat) : Int) by decide) (cIN_go q1352.2.2 (fun r4 I4 J4 b4 q1353 => And.intro (fun q1354 => And.intro (show (0 : Int) ≤ 3 ∧ (3 : Int) < ((4 : Nat) : Int) by decide) (q1353.1 q1354)) (fun q1355 => And.intro (show (0 : Int) ≤ 3 ∧ (3 : Int) < ((4 : Nat) : Int) by decide) (q1353.2 q1355)))))))) (fun q1351 => (((((H.2 q1337).2 q1345).2).2).2).2 q1351)))))))
theorem x236_m {G : Ctx} {h : Nat} {Q : MP} {I : Nat → Nat → Int} {J : Nat → Nat → BitVec 64} {b : B3} {x y : Int} (hh : 6 ≤ h) (H : ∀ h, 5 ≤ h → Tri G h 236 119 119 0 [some (vr 91), some (vi x), some (vi y)] [] (I, J, PP b) Q) : TriM G h 236 119 119 [vr 91, vi x, vi y] (I, J, PP b) Q := TriM_intro (h - 1) (by omega) (by decide) (Nat.le_of_ble_eq_true rfl) (Nat.le_refl _) (Nat.le_refl _) (H (h - 1) (by omega))
/-! persons, what holds of them -/
theorem bIn_spec {al : Nat → Nat → Bool} {kn : Nat → Bool} {p : Int} {q : Nat} : ∀ (m o : Nat) (s : (Nat → Int) × List Nat) (j : Nat), (bIn al kn p q m o s).1 j = s.1 j ∨ (s.1 j = -1 ∧ j < o + m ∧ (bIn al kn p q m o s).1 j = p)
  | 0, _, _, _ => Or.inl rfl
  | m + 1, o, s, j => by
    by_cases hc : s.1 o = -1 ∧ kn o = true ∧ al q o = true
    · rw [bIn_y hc]
      have ih := bIn_spec (al := al) (kn := kn) (p := p) (q := q) m (o + 1) (up1 s.1 o p, s.2 ++ [o]) j
      by_cases e : j = o
      · subst e
        right
        refine ⟨hc.1, by omega, ?_⟩
        rcases ih with h | h
        · rw [h]; exact up1_e
        · exact h.2.2
      · rw [show (up1 s.1 o p, s.2 ++ [o]).1 j = s.1 j from up1_n e] at ih
        rcases ih with h | h
        · exact Or.inl h
        · exact Or.inr ⟨h.1, by omega, h.2.2⟩
    · rw [bIn_n hc]
      rcases bIn_spec (al := al) (kn := kn) (p := p) (q := q) m (o + 1) s j with h | h
      · exact Or.inl h
      · exact Or.inr ⟨h.1, by omega, h.2.2⟩
theorem bQu_spec {al : Nat → Nat → Bool} {kn : Nat → Bool} {told : Nat} {p : Int} (hp : p ≠ -1) : ∀ (f i : Nat) (s : (Nat → Int) × List Nat) (j : Nat), (bQu al kn told p f i s).1 j = s.1 j ∨ (s.1 j = -1 ∧ j < told ∧ (bQu al kn told p f i s).1 j = p)
  | 0, _, _, _ => Or.inl rfl
  | f + 1, i, s, j => by
    cases hq : s.2[i]? with
    | none => rw [bQu_n hq]; exact Or.inl rfl
    | some q =>
      rw [bQu_s hq]
      have h1 := bIn_spec (al := al) (kn := kn) (p := p) (q := q) told 0 s j
      have h2 := bQu_spec (al := al) (kn := kn) (told := told) hp f (i + 1) (bIn al kn p q told 0 s) j
      rcases h1 with h1 | h1
      · rw [h1] at h2
        exact h2
      · right
        refine ⟨h1.1, by omega, ?_⟩
        rcases h2 with h2 | h2
        · rw [h2]; exact h1.2.2
        · exact h2.2.2
def PRX (told : Nat) (s : (Nat → Int) × List Nat) : Prop := (∀ o, told ≤ o → s.1 o = -1) ∧ (∀ o, -1 ≤ s.1 o ∧ s.1 o < s.2.length) ∧ ∀ p x : Nat, s.2[p]? = some x → x < told ∧ s.1 x = p
theorem bAll_x {al : Nat → Nat → Bool} {kn : Nat → Bool} {told : Nat} : ∀ (m e : Nat) (s : (Nat → Int) × List Nat), e + m = told → PRX told s → PRX told (bAll al kn told m e s)
  | 0, _, _, _, h => h
  | m + 1, e, s, he, h => by
    by_cases hc : s.1 e = -1 ∧ kn e = true
    · rw [bAll_y hc]
      refine bAll_x m (e + 1) _ (by omega) ?_
      obtain ⟨h1, h2, h3⟩ := h
      have hq := bQu_spec (al := al) (kn := kn) (told := told) (p := (s.2.length : Int)) (by omega) (told + 1) 0 (up1 s.1 e s.2.length, [e])
      have hlL : (s.2 ++ [e]).length = s.2.length + 1 := by simp
      refine ⟨fun o ho => ?_, fun o => ?_, fun p x hx => ?_⟩
      · rcases hq o with h | h
        · show (bQu al kn told s.2.length (told + 1) 0 (up1 s.1 e s.2.length, [e])).1 o = -1
          rw [h, show (up1 s.1 e (s.2.length : Int), [e]).1 o = s.1 o from up1_n (by omega)]
          exact h1 o ho
        · omega
      · show -1 ≤ (bQu al kn told s.2.length (told + 1) 0 (up1 s.1 e s.2.length, [e])).1 o ∧ (bQu al kn told s.2.length (told + 1) 0 (up1 s.1 e s.2.length, [e])).1 o < ((s.2 ++ [e]).length : Nat)
        rw [hlL]
        rcases hq o with h | h
        · rw [h]
          by_cases eo : o = e
          · subst eo
            rw [show (up1 s.1 o (s.2.length : Int), [o]).1 o = s.2.length from up1_e]
            omega
          · rw [show (up1 s.1 e (s.2.length : Int), [e]).1 o = s.1 o from up1_n eo]
            have := h2 o
            omega
        · rw [h.2.2]
          omega
      · show x < told ∧ (bQu al kn told s.2.length (told + 1) 0 (up1 s.1 e s.2.length, [e])).1 x = p
        rcases app_some hx with ⟨g1, g2⟩ | ⟨rfl, rfl⟩
        · have g3 := h3 p x g2
          refine ⟨g3.1, ?_⟩
          have hne : x ≠ e := by
            intro z
            rw [z, hc.1] at g3
            omega
          have eq1 : (up1 s.1 e (s.2.length : Int), [e]).1 x = s.1 x := up1_n hne
          rcases hq x with h | h
          · rw [h, eq1]; exact g3.2
          · rw [eq1, g3.2] at h
            omega
        · refine ⟨by omega, ?_⟩
          have eq1 : (up1 s.1 x (s.2.length : Int), [x]).1 x = s.2.length := up1_e
          rcases hq x with h | h
          · rw [h, eq1]
          · exact h.2.2
    · rw [bAll_n hc]
      exact bAll_x m (e + 1) s (by omega) h
theorem prs_x (p0 : List Lin) (I : MI) : PRX (I 7 0).toNat (prs p0 I) := by
  refine bAll_x _ 0 _ (by omega) ⟨fun _ _ => rfl, fun o => ?_, fun p x hx => by simp at hx⟩
  show -1 ≤ (-1 : Int) ∧ (-1 : Int) < (([] : List Nat).length : Nat)
  decide
theorem cntE_pos {f : Nat → Bool} {x : Nat} (hx : f x = true) : ∀ n, x < n → 0 < cntE f n
  | 0, h => by omega
  | n + 1, h => by
    have hb := (cntE_b f n).1
    show 0 < cntE f n + (if f n = true then 1 else 0)
    by_cases e : x = n
    · subst e
      rw [if_pos hx]
      omega
    · have := cntE_pos hx n (by omega)
      split <;> omega
/-- one of its entries says what a person is -/
theorem srt_r {I : MI} {cls : Nat → Int} {told p x : Nat} (hB : rBook 0 92 I) (hto : I 7 0 = told) (hx : x < told) (hc : cls x = p) : 0 ≤ srt I cls told p ∧ srt I cls told p ≤ 2 := by
  have ef := ent_f hB (e := x) (by omega)
  have su := srt_u I cls told p
  have : 0 < cntE (fun e => decide (cls e = (p : Int)) && decide (fact I e 0 = 0)) told ∨ 0 < cntE (fun e => decide (cls e = (p : Int)) && decide (fact I e 0 = 1)) told := by
    have hf : fact I x 0 = 0 ∨ fact I x 0 = 1 := by omega
    rcases hf with hf | hf
    · exact Or.inl (cntE_pos (x := x) (by simp [hc, hf]) told hx)
    · exact Or.inr (cntE_pos (x := x) (by simp [hc, hf]) told hx)
  rcases this with h | h
  · rw [if_pos h] at su
    split at su <;> omega
  · rw [if_pos h] at su
    split at su <;> omega
/-- is a person's least entry in a street -/
def tbIn (I : MI) (L : List Nat) (x : Int) (p : Nat) : Bool := decide (x = -1) || decide (I 3 (fact I (L[p]?.getD 0 : Nat) 2).toNat = x)
def tbN (I : MI) (cls : Nat → Int) (L : List Nat) (told : Nat) (x s : Int) (n : Nat) : Int := cntE (fun p => decide (srt I cls told p = s) && tbIn I L x p) n
def tbD (I : MI) (cls : Nat → Int) (L : List Nat) (told H : Nat) (x : Int) (n : Nat) : Int := cntE (fun p => decide (2 ≤ cntE (inHs I cls told p) H) && tbIn I L x p) n
section TABLE
variable {G : Ctx} {h n : Nat} {I : MI} {J : MJ} {b : B3} {x y z u v e : Int} {a : BitVec 64}
theorem s89 {K : Int → MI → MJ → B3 → Prop} {cls : Nat → Int} {L : List Nat} {told H : Nat} {p : Nat} (hh : 3 ≤ h) (hT : rTown 0 92 I) (hB : rBook 0 92 I) (hto : I 7 0 = told) (hH : I 2 0 = H) (hN : L.length ≤ 120) (hL : ∀ p x : Nat, L[p]? = some x → x < told ∧ cls x = p) (c0 : I 72 0 = L.length) (c2 : ∀ p x : Nat, L[p]? = some x → I 75 p = x ∧ I 74 p = cntE (fun e => decide (cls e = p)) told ∧ I 76 p = srt I cls told p + 1 ∧ ∀ s : Nat, s < 64 → (J 77 p).getLsbD s = inHs I cls told p s) (hp : p < L.length) (k : K (if tbIn I L y p = true then 1 else 0) I J b) : TriM G h 89 119 119 [vr 72, vi (p : Int), vi y] (I, J, PP b) (cIN K) := by
  have b1 := hB.1
  simp only [Nat.reduceAdd] at b1
  have t1 := hT.1
  simp only [Nat.reduceAdd] at t1
  obtain ⟨q, hq⟩ : ∃ q, L[p]? = some q := ⟨L[p], List.getElem?_eq_getElem hp⟩
  obtain ⟨d1, -⟩ := c2 p q hq
  have hl := hL p q hq
  have ef := ent_f hB (e := q) (by omega)
  unfold tbIn at k
  rw [hq] at k
  refine x89_m hh (fun h hh => x89 hh ⟨fun q1 => cIN_r fun _ => ?_, fun q1 => ⟨fun q2 => ⟨by omega, ?_⟩, fun q2 => by omega⟩⟩)
  · rw [if_pos (by simp [q1])] at k
    exact k
  · rw [toN, d1, show I 8 ((q : Int) * 6 + 2).toNat = fact I q 2 from rfl]
    refine ⟨by omega, fun _ => ⟨by omega, fun q3 => cIN_r fun _ => ?_, fun q3 => cIN_r fun _ => ?_⟩, fun q3 => by omega⟩
    · rw [if_neg (by simp [q1, q3])] at k
      exact k
    · rw [if_pos (by simp [Decidable.of_not_not q3])] at k
      exact k
theorem s90_l {Q : MP} {cls : Nat → Int} {L : List Nat} {told H : Nat} {s : Int} (hh : 3 ≤ h) (hT : rTown 0 92 I) (hB : rBook 0 92 I) (hto : I 7 0 = told) (hH : I 2 0 = H) (hN : L.length ≤ 120) (hL : ∀ p x : Nat, L[p]? = some x → x < told ∧ cls x = p) (c0 : I 72 0 = L.length) (c2 : ∀ p x : Nat, L[p]? = some x → I 75 p = x ∧ I 74 p = cntE (fun e => decide (cls e = p)) told ∧ I 76 p = srt I cls told p + 1 ∧ ∀ s : Nat, s < 64 → (J 77 p).getLsbD s = inHs I cls told p s) (k : Q (some (vi (tbN I cls L told y s L.length))) (I, J, PP b)) : ∀ (m p : Nat) (l : Int), p + m = L.length → l = tbN I cls L told y s p → Tri G h 90 119 119 5 [some (vr 72), some (vi y), some (vi s), some (vi l), some (vi (p : Int))] [] (I, J, PP b) Q := by
  intro m
  induction m with
  | zero =>
    intro p l hp hl
    obtain rfl : p = L.length := by omega
    refine x90_5 hh ?_
    rw [c0, hl]
    exact ⟨fun _ => k, fun q => by omega⟩
  | succ m ih =>
    intro p l hp hl
    obtain ⟨q, hq⟩ : ∃ q, L[p]? = some q := ⟨L[p], List.getElem?_eq_getElem (by omega)⟩
    obtain ⟨-, -, d3, -⟩ := c2 p q hq
    have hl2 := hL p q hq
    have hr := srt_r hB hto hl2.1 hl2.2
    have hb := cntE_b (fun p => decide (srt I cls told p = s) && tbIn I L y p) p
    have es : tbN I cls L told y s (p + 1) = tbN I cls L told y s p + (if (decide (srt I cls told p = s) && tbIn I L y p) = true then 1 else 0) := rfl
    have hl' : l = cntE (fun p => decide (srt I cls told p = s) && tbIn I L y p) p := hl
    refine x90_5 hh ?_
    rw [c0, toN, d3, show srt I cls told p + 1 - 1 = srt I cls told p by omega, w32_id (x := srt I cls told p) (by omega) (by omega), w32_id (x := (p : Int) + 1) (by omega) (by omega), w32_id (x := l + 1) (by omega) (by omega)]
    refine ⟨fun q => by omega, fun _ => ⟨fun _ => ⟨by omega, fun q1 => ih (p + 1) l (by omega) ?_, fun q1 => s89 (by omega) hT hB hto hH hN hL c0 c2 (by omega) ?_⟩, fun q => by omega⟩⟩
    · rw [es, if_neg (by simp [q1]), ← hl]
      omega
    · have q2 := Decidable.of_not_not q1
      cases ht : tbIn I L y p with
      | true =>
        refine ⟨fun q => absurd q (by decide), fun _ => ih (p + 1) (l + 1) (by omega) ?_⟩
        rw [es, if_pos (by simp [q2, ht]), ← hl]
      | false =>
        refine ⟨fun _ => ih (p + 1) l (by omega) ?_, fun q => absurd rfl q⟩
        rw [es, if_neg (by simp [ht]), ← hl]
        omega
theorem s90 {K : Int → MI → MJ → B3 → Prop} {cls : Nat → Int} {L : List Nat} {told H : Nat} {s : Int} (hh : 4 ≤ h) (hT : rTown 0 92 I) (hB : rBook 0 92 I) (hto : I 7 0 = told) (hH : I 2 0 = H) (hN : L.length ≤ 120) (hL : ∀ p x : Nat, L[p]? = some x → x < told ∧ cls x = p) (c0 : I 72 0 = L.length) (c2 : ∀ p x : Nat, L[p]? = some x → I 75 p = x ∧ I 74 p = cntE (fun e => decide (cls e = p)) told ∧ I 76 p = srt I cls told p + 1 ∧ ∀ s : Nat, s < 64 → (J 77 p).getLsbD s = inHs I cls told p s) (k : K (tbN I cls L told y s L.length) I J b) : TriM G h 90 119 119 [vr 72, vi y, vi s] (I, J, PP b) (cIN K) := x90_m hh (fun h hh => x90 (Nat.zero_le _) (s90_l (by omega) hT hB hto hH hN hL c0 c2 (cIN_r fun _ => k) L.length 0 0 (by omega) rfl))
theorem s92_l {Q : MP} {cls : Nat → Int} {L : List Nat} {told H : Nat} (hh : 3 ≤ h) (hT : rTown 0 92 I) (hB : rBook 0 92 I) (hto : I 7 0 = told) (hH : I 2 0 = H) (hN : L.length ≤ 120) (hL : ∀ p x : Nat, L[p]? = some x → x < told ∧ cls x = p) (c0 : I 72 0 = L.length) (c2 : ∀ p x : Nat, L[p]? = some x → I 75 p = x ∧ I 74 p = cntE (fun e => decide (cls e = p)) told ∧ I 76 p = srt I cls told p + 1 ∧ ∀ s : Nat, s < 64 → (J 77 p).getLsbD s = inHs I cls told p s) (k : Q (some (vi (tbD I cls L told H y L.length))) (I, J, PP b)) : ∀ (m p : Nat) (l : Int), p + m = L.length → l = tbD I cls L told H y p → Tri G h 92 119 119 4 [some (vr 72), some (vi y), some (vi l), some (vi (p : Int))] [] (I, J, PP b) Q := by
  intro m
  induction m with
  | zero =>
    intro p l hp hl
    obtain rfl : p = L.length := by omega
    refine x92_4 hh ?_
    rw [c0, hl]
    exact ⟨fun _ => k, fun q => by omega⟩
  | succ m ih =>
    intro p l hp hl
    obtain ⟨q, hq⟩ : ∃ q, L[p]? = some q := ⟨L[p], List.getElem?_eq_getElem (by omega)⟩
    obtain ⟨-, -, -, d4⟩ := c2 p q hq
    have hb := cntE_b (fun p => decide (2 ≤ cntE (inHs I cls told p) H) && tbIn I L y p) p
    have es : tbD I cls L told H y (p + 1) = tbD I cls L told H y p + (if (decide (2 ≤ cntE (inHs I cls told p) H) && tbIn I L y p) = true then 1 else 0) := rfl
    have hl' : l = cntE (fun p => decide (2 ≤ cntE (inHs I cls told p) H) && tbIn I L y p) p := hl
    refine x92_4 hh ?_
    rw [c0, w32_id (x := (p : Int) + 1) (by omega) (by omega), w32_id (x := l + 1) (by omega) (by omega)]
    refine ⟨fun q => by omega, fun _ => s88 (by omega) (fun _ => ?_) (fun q => by omega) (by omega)⟩
    rw [toN, hs_pc hT hB hto hH d4]
    refine ⟨fun q1 => ih (p + 1) l (by omega) ?_, fun q1 => s89 (by omega) hT hB hto hH hN hL c0 c2 (by omega) ?_⟩
    · rw [es, if_neg (by simp; omega), ← hl]
      omega
    · cases ht : tbIn I L y p with
      | true =>
        refine ⟨fun q => absurd q (by decide), fun _ => ih (p + 1) (l + 1) (by omega) ?_⟩
        rw [es, if_pos (by simp [ht]; omega), ← hl]
      | false =>
        refine ⟨fun _ => ih (p + 1) l (by omega) ?_, fun q => absurd rfl q⟩
        rw [es, if_neg (by simp [ht]), ← hl]
        omega
/-! the reference -/
def K4 (I : MI) (cls : Nat → Int) (L : List Nat) (told H : Nat) (y : Int) (p : Nat) (I' : MI) : Prop := (∀ s : Nat, s < 3 → I' 104 s = tbN I cls L told y s p) ∧ I' 104 3 = tbD I cls L told H y p
def tbV (I : MI) (cls : Nat → Int) (L : List Nat) (told H : Nat) (y z : Int) : Int := if z = 3 then (if tbN I cls L told y 2 L.length = 0 then -1 else iDiv (w32 (tbN I cls L told y 0 L.length * tbN I cls L told y 1 L.length)) (tbN I cls L told y 2 L.length)) else if z = 4 then tbD I cls L told H y L.length else tbN I cls L told y z L.length
theorem s236_l {Q : MP} {cls : Nat → Int} {L : List Nat} {told H : Nat} {z : Int} (hh : 2 ≤ h) (hT : rTown 0 92 I) (hB : rBook 0 92 I) (hto : I 7 0 = told) (hH : I 2 0 = H) (hN : L.length ≤ 120) (hL : ∀ p x : Nat, L[p]? = some x → x < told ∧ cls x = p) (hz : 0 ≤ z ∧ z ≤ 4) (r1 : I 91 26 = L.length) (r2 : ∀ e : Nat, e < told → I 101 e = cls e) (r3 : ∀ q x : Nat, L[q]? = some x → I 102 q = x) (k : ∀ I2, frK [104] I I2 → Q (some (vi (tbV I cls L told H y z))) (I2, J, PP b)) : ∀ (m p : Nat) (I' : MI), p + m = L.length → frK [104] I I' → K4 I cls L told H y p I' → Tri G h 236 119 119 49 [some (vr 91), some (vi y), some (vi z), some (vi (p : Int))] [] (I', J, PP b) Q := by
  have b1 := hB.1
  simp only [Nat.reduceAdd] at b1
  have t1 := hT.1
  simp only [Nat.reduceAdd] at t1
  intro m
  induction m with
  | zero =>
    intro p I' hp hf hK
    obtain rfl : p = L.length := by omega
    have k0 : I' 104 0 = tbN I cls L told y 0 L.length := hK.1 0 (by decide)
    have k1 : I' 104 1 = tbN I cls L told y 1 L.length := hK.1 1 (by decide)
    have k2 : I' 104 2 = tbN I cls L told y 2 L.length := hK.1 2 (by decide)
    have hk := k I' hf
    unfold tbV at hk
    refine x236_49 hh ?_
    rw [hf 91 (by decide), r1, k0, k1, k2, hK.2]
    refine ⟨fun _ => ⟨fun q1 => ⟨fun q2 => ⟨by omega, ?_⟩, fun q2 => ?_⟩, fun q1 => ⟨fun q2 => ⟨q2, ?_⟩, fun q2 => ?_⟩⟩, fun q => by omega⟩
    · rw [if_neg q1, if_neg q2] at hk
      obtain ⟨w, rfl⟩ : ∃ w : Nat, z = w := ⟨z.toNat, by omega⟩
      rw [toN, hK.1 w (by omega)]
      exact hk
    · rw [if_neg q1, if_pos (Decidable.of_not_not q2)] at hk
      exact hk
    · rw [if_pos (Decidable.of_not_not q1), if_neg q2] at hk
      exact hk
    · rw [if_pos (Decidable.of_not_not q1), if_pos (Decidable.of_not_not q2)] at hk
      exact hk
  | succ m ih =>
    intro p I' hp hf hK
    obtain ⟨q, hq⟩ : ∃ q, L[p]? = some q := ⟨L[p], List.getElem?_eq_getElem (by omega)⟩
    have hl2 := hL p q hq
    have hr := srt_r hB hto hl2.1 hl2.2
    have ef := ent_f hB (e := q) (by omega)
    have e7 := hf 7 (by decide)
    have e8 := hf 8 (by decide)
    have e2 := hf 2 (by decide)
    have r2' : ∀ e : Nat, e < told → I' 101 e = cls e := fun e he => by rw [hf 101 (by decide)]; exact r2 e he
    have ta := hT.2.2.2.1 (fact I q 2) (by omega) (by simp only [Nat.reduceAdd]; omega)
    simp only [Nat.reduceAdd] at ta
    have yes : tbIn I L y p = true → TriM G h 232 119 119 [vr 91, vi (p : Int)] (I', J, PP b) (cIN fun r1 I1 J1 b1 => (0 ≤ r1 ∧ r1 < (4 : Int)) ∧ (0 ≤ r1 ∧ r1 < (4 : Int)) ∧ TriM G h 233 119 119 [vr 91, vi (p : Int)] (u2 I1 104 r1.toNat (w32 (I1 104 r1.toNat + 1)), J1, PP b1) (cIN fun r2 I2 J2 b2 => (r2 ≤ 1 → Tri G h 236 119 119 49 [some (vr 91), some (vi y), some (vi z), some (vi (w32 ((p : Int) + 1)))] [] (u2 I2 104 3 (w32 ((u2 I1 104 r1.toNat (w32 (I1 104 r1.toNat + 1))) 104 3 + 0)), J2, PP b2) Q) ∧ (¬ r2 ≤ 1 → Tri G h 236 119 119 49 [some (vr 91), some (vi y), some (vi z), some (vi (w32 ((p : Int) + 1)))] [] (u2 I2 104 3 (w32 ((u2 I1 104 r1.toNat (w32 (I1 104 r1.toNat + 1))) 104 3 + 1)), J2, PP b2) Q))) := by
      intro ht
      refine s232 (by omega) (hB.k hf (by decide)) (by rw [e7]; exact hto) r2' ?_
      rw [srt_c e8]
      obtain ⟨w, hw⟩ : ∃ w : Nat, srt I cls told p = w := ⟨(srt I cls told p).toNat, by omega⟩
      rw [hw, toN, hK.1 w (by omega)]
      have hbN : ∀ s : Int, 0 ≤ tbN I cls L told y s p ∧ tbN I cls L told y s p ≤ p := fun s => cntE_b _ p
      have hbD : 0 ≤ tbD I cls L told H y p ∧ tbD I cls L told H y p ≤ p := cntE_b _ p
      have hbw := hbN w
      rw [u2_at, if_neg (by omega), hK.2, w32_id (x := tbN I cls L told y w p + 1) (by omega) (by omega), w32_id (x := tbD I cls L told H y p + 0) (by omega) (by omega), w32_id (x := tbD I cls L told H y p + 1) (by omega) (by omega), w32_id (x := (p : Int) + 1) (by omega) (by omega)]
      have hf2 : frK [104] I (u2 I' 104 w (tbN I cls L told y w p + 1)) := hf.u (by decide)
      refine ⟨by omega, by omega, s233 (cls := cls) (told := told) (H := H) (by omega) (hT.k hf2 (by decide)) (hB.k hf2 (by decide)) (by rw [hf2 7 (by decide)]; exact hto) (by rw [hf2 2 (by decide)]; exact hH) (fun e he => by rw [hf2 101 (by decide)]; exact r2 e he) ?_⟩
      rw [inHs_c (hf2 8 (by decide))]
      have go : ∀ v, v = tbD I cls L told H y (p + 1) → Tri G h 236 119 119 49 [some (vr 91), some (vi y), some (vi z), some (vi ((p : Int) + 1))] [] (u2 (u2 I' 104 w (tbN I cls L told y w p + 1)) 104 3 v, J, PP b) Q := by
        intro v hv
        refine ih (p + 1) _ (by omega) (hf2.u (by decide)) ⟨fun s hs => ?_, by rw [u2e]; exact hv⟩
        rw [u2_at, if_neg (by omega), u2_at]
        have es : tbN I cls L told y s (p + 1) = tbN I cls L told y s p + (if (decide (srt I cls told p = s) && tbIn I L y p) = true then 1 else 0) := rfl
        rw [es, ht, hw]
        by_cases hsw : s = w
        · subst hsw
          rw [if_pos rfl, if_pos (by simp)]
        · rw [if_neg hsw, if_neg (by simp; omega), hK.1 s hs]
          omega
      have ed : tbD I cls L told H y (p + 1) = tbD I cls L told H y p + (if (decide (2 ≤ cntE (inHs I cls told p) H) && tbIn I L y p) = true then 1 else 0) := rfl
      refine ⟨fun q1 => go _ ?_, fun q1 => go _ ?_⟩
      · rw [ed, if_neg (by simp; omega)]
      · rw [ed, if_pos (by simp [ht]; omega)]
    refine x236_49 hh ?_
    refine ⟨fun q9 => by rw [hf 91 (by decide), r1] at q9; omega, fun _ => ⟨fun q1 => yes (by unfold tbIn; simp [q1]), fun q1 => ⟨by omega, ?_⟩⟩⟩
    rw [hf 102 (by decide), toN, r3 p q hq, hf 92 (by decide), ef.1.2.2.1, ta.1.1]
    refine ⟨by omega, by omega, fun q2 => yes (by unfold tbIn; rw [hq]; simp [q2]), fun q2 => ?_⟩
    have htf : tbIn I L y p = false := by
      unfold tbIn
      rw [hq]
      simp [q1, q2]
    rw [w32_id (by omega) (by omega)]
    refine ih (p + 1) I' (by omega) hf ⟨fun s hs => ?_, ?_⟩
    · have es : tbN I cls L told y s (p + 1) = tbN I cls L told y s p + (if (decide (srt I cls told p = s) && tbIn I L y p) = true then 1 else 0) := rfl
      rw [es, htf, if_neg (by simp), hK.1 s hs]
      omega
    · have ed : tbD I cls L told H y (p + 1) = tbD I cls L told H y p + (if (decide (2 ≤ cntE (inHs I cls told p) H) && tbIn I L y p) = true then 1 else 0) := rfl
      rw [ed, htf, if_neg (by simp), hK.2]
      omega
theorem s236_0 {Q : MP} {z : Int} (k : ∀ I2, frK [104] I I2 → (∀ s : Nat, s < 4 → I2 104 s = 0) → Tri G h 236 119 119 49 [some (vr 91), some (vi y), some (vi z), some (vi 0)] [] (I2, J, PP b) Q) : ∀ (m p : Nat) (I' : MI), p + m = 4 → frK [104] I I' → (∀ s : Nat, s < p → I' 104 s = 0) → Tri G h 236 119 119 29 [some (vr 91), some (vi y), some (vi z), some (vi (p : Int))] [] (I', J, PP b) Q := by
  intro m
  induction m with
  | zero =>
    intro p I' hp hf hz
    exact x236_29 (Nat.zero_le _) ⟨fun _ => k I' hf fun s hs => hz s (by omega), fun q => by omega⟩
  | succ m ih =>
    intro p I' hp hf hz
    refine x236_29 (Nat.zero_le _) ⟨fun q => by omega, fun _ => ⟨by omega, ?_⟩⟩
    rw [w32_id (by omega) (by omega), toN]
    refine ih (p + 1) _ (by omega) (hf.u (by decide)) fun s hs => ?_
    rw [u2_at]
    split
    · rfl
    · exact hz s (by omega)
theorem tb_c {I I' : MI} {cls : Nat → Int} {L : List Nat} {told H : Nat} {y z : Int} (e3 : I' 3 = I 3) (e8 : I' 8 = I 8) : tbV I' cls L told H y z = tbV I cls L told H y z := by
  have h1 : tbIn I' L y = tbIn I L y := by
    funext p
    unfold tbIn fact
    rw [e3, e8]
  unfold tbV tbN tbD
  rw [h1, srt_c e8, inHs_c e8]
theorem pub_table (hI : INV n I J) (hn : n < 64) (hh : 40 ≤ h) : PairI G h 155 236 [vi x, vi y] (n + 1) I J b := by
  have hI2 := hI.suc hn
  obtain ⟨p0, p1, p2, hp⟩ := hI2.p
  have no : ¬ ((x = -1 ∨ (0 ≤ x ∧ x < 12)) ∧ 0 ≤ y ∧ y ≤ 4) → ∀ I2 J2, INV (n + 1) I2 J2 → cIN (fun x_1 I1 J1 b1 => TriM G h 236 119 119 [vr 91, vi x, vi y] (I1, J1, PP b1) (cIN fun y I2 J2 _ => x_1 = y ∧ INV (n + 1) I2 J2)) (some (vi (-1))) (I2, J2, PP b) := by
    intro hx I2 J2 hI3
    have fin : cIN (fun y I2 J2 _ => -1 = y ∧ INV (n + 1) I2 J2) (some (vi (-1))) (I2, J2, PP b) := cIN_r fun _ => ⟨rfl, hI3⟩
    exact cIN_r fun _ => x236_m (by omega) fun h2 hh2 => x236 (by omega) ⟨fun q1 => ⟨fun q2 => absurd ⟨Or.inl q1, q2⟩ hx, fun _ => fin⟩, fun q1 => ⟨fun q2 => ⟨fun q3 => absurd ⟨Or.inr q2, q3⟩ hx, fun _ => fin⟩, fun _ => fin⟩⟩
  have go : (x = -1 ∨ (0 ≤ x ∧ x < 12)) → ∀ h2, 7 ≤ h2 → TriM G h2 81 119 119 [vr 72] (I, J, PP b) (cVN fun I1 J1 b1 => (((y = 0 → (TriM G h2 90 119 119 [vr 72, vi x, vi y] (I1, J1, PP b1) (cIN fun r2 I2 J2 b2 => (cIN (fun x_1 I1 J1 b1 => TriM G h 236 119 119 [vr 91, vi x, vi y] (I1, J1, PP b1) (cIN fun y I2 J2 _ => x_1 = y ∧ INV (n + 1) I2 J2)) (some (vi r2)) (I2, J2, PP b2))))) ∧ (y = 1 → (TriM G h2 90 119 119 [vr 72, vi x, vi y] (I1, J1, PP b1) (cIN fun r3 I3 J3 b3 => (cIN (fun x_1 I1 J1 b1 => TriM G h 236 119 119 [vr 91, vi x, vi y] (I1, J1, PP b1) (cIN fun y I2 J2 _ => x_1 = y ∧ INV (n + 1) I2 J2)) (some (vi r3)) (I3, J3, PP b3))))) ∧ (y = 2 → (TriM G h2 90 119 119 [vr 72, vi x, vi y] (I1, J1, PP b1) (cIN fun r4 I4 J4 b4 => (cIN (fun x_1 I1 J1 b1 => TriM G h 236 119 119 [vr 91, vi x, vi y] (I1, J1, PP b1) (cIN fun y I2 J2 _ => x_1 = y ∧ INV (n + 1) I2 J2)) (some (vi r4)) (I4, J4, PP b4))))) ∧ (y = 3 → (TriM G h2 91 119 119 [vr 72, vi x] (I1, J1, PP b1) (cIN fun r5 I5 J5 b5 => (cIN (fun x_1 I1 J1 b1 => TriM G h 236 119 119 [vr 91, vi x, vi y] (I1, J1, PP b1) (cIN fun y I2 J2 _ => x_1 = y ∧ INV (n + 1) I2 J2)) (some (vi r5)) (I5, J5, PP b5))))) ∧ (y = 4 → (TriM G h2 92 119 119 [vr 72, vi x] (I1, J1, PP b1) (cIN fun r6 I6 J6 b6 => (cIN (fun x_1 I1 J1 b1 => TriM G h 236 119 119 [vr 91, vi x, vi y] (I1, J1, PP b1) (cIN fun y I2 J2 _ => x_1 = y ∧ INV (n + 1) I2 J2)) (some (vi r6)) (I6, J6, PP b6))))) ∧ True) ∧ ((y < 0 ∨ 4 < y) → (cIN (fun x_1 I1 J1 b1 => TriM G h 236 119 119 [vr 91, vi x, vi y] (I1, J1, PP b1) (cIN fun y I2 J2 _ => x_1 = y ∧ INV (n + 1) I2 J2)) (some (vi (-1))) (I1, J1, PP b1))))) := by
    intro hx h2 hh2
    refine r81 (by omega) hp fun I2 J2 hp2 h3 hf2 => ?_
    have hT2 := hp2.1.1.1
    have hB2 := hp2.1.1.2.1
    have b1 := hB2.1
    simp only [Nat.reduceAdd] at b1
    have t1 := hT2.1
    simp only [Nat.reduceAdd] at t1
    obtain ⟨told, hto⟩ : ∃ t : Nat, I2 7 0 = t := ⟨(I2 7 0).toNat, by omega⟩
    obtain ⟨H, hH⟩ : ∃ t : Nat, I2 2 0 = t := ⟨(I2 2 0).toNat, by omega⟩
    obtain ⟨c0, c1, c2, -⟩ := hp2.2.2.2 h3
    have hpx := (prs_x p0 I2).2.2
    have hpl := prs_len p0 I2
    rw [hto, toN] at c2 hpx hpl
    have hN : (prs p0 I2).2.length ≤ 120 := by omega
    have key : 0 ≤ y ∧ y ≤ 4 → ∀ v : Int, v = tbV I2 (prs p0 I2).1 (prs p0 I2).2 told H x y → cIN (fun x_1 I1 J1 b1 => TriM G h 236 119 119 [vr 91, vi x, vi y] (I1, J1, PP b1) (cIN fun y I2 J2 _ => x_1 = y ∧ INV (n + 1) I2 J2)) (some (vi v)) (I2, J2, PP b) := by
      intro hy v hv
      have rf : ∀ h4, 5 ≤ h4 → TriM G h4 231 119 119 [vr 91] (I2, J2, PP b) (cVN fun I1 J1 b1 => Tri G h4 236 119 119 29 [some (vr 91), some (vi x), some (vi y), some (vi 0)] [] (I1, J1, PP b1) (cIN fun y I2 J2 _ => v = y ∧ INV (n + 1) I2 J2)) := by
        intro h4 hh4
        refine r231 hh4 hp2 fun I3 hp3 hR hP hf3 => ?_
        have e7 : I3 7 0 = told := by rw [hf3 7 (by decide)]; exact hto
        have e2 : I3 2 0 = H := by rw [hf3 2 (by decide)]; exact hH
        have ep : prs p0 I3 = prs p0 I2 := prs_k p0 hf3 (by decide)
        obtain ⟨r1, r2, r3⟩ := hR
        rw [ep] at r1 r2 r3
        refine s236_0 (I := I3) (fun I4 hf4 hz => ?_) 4 0 I3 rfl frK.r (fun s hs => by omega)
        refine s236_l (I := I3) (cls := (prs p0 I2).1) (L := (prs p0 I2).2) (told := told) (H := H) (by omega) hp3.1.1.1 hp3.1.1.2.1 e7 e2 hN hpx hy r1 (fun e he => r2 e (by rw [e7]; omega)) r3 (fun I5 hf5 => cIN_r fun _ => ⟨?_, (hp3.k hf5 (by decide)).i⟩) (prs p0 I2).2.length 0 I4 (by omega) hf4 ⟨fun s hs => hz s (by omega), hz 3 (by decide)⟩
        rw [hv, tb_c (hf3 3 (by decide)) (hf3 8 (by decide))]
      exact cIN_r fun _ => x236_m (by omega) fun h4 hh4 => x236 (by omega) ⟨fun q1 => ⟨fun _ => rf h4 (by omega), fun q => absurd hy q⟩, fun q1 => ⟨fun q2 => ⟨fun _ => rf h4 (by omega), fun q => absurd hy q⟩, fun q2 => by omega⟩⟩
    have k90 : ∀ s h5, 4 ≤ h5 → ∀ K : Int → MI → MJ → B3 → Prop, K (tbN I2 (prs p0 I2).1 (prs p0 I2).2 told x s (prs p0 I2).2.length) I2 J2 b → TriM G h5 90 119 119 [vr 72, vi x, vi s] (I2, J2, PP b) (cIN K) := fun s h5 hh5 K kk => s90 (by omega) hT2 hB2 hto hH hN hpx c0 c2 kk
    refine ⟨⟨fun q1 => k90 y h2 (by omega) _ (key (by omega) _ ?_), fun q1 => k90 y h2 (by omega) _ (key (by omega) _ ?_), fun q1 => k90 y h2 (by omega) _ (key (by omega) _ ?_), fun q1 => x91_m (by omega) fun h5 hh5 => x91 (by omega) (k90 2 h5 (by omega) _ ⟨fun q2 => k90 0 h5 (by omega) _ (k90 1 h5 (by omega) _ ⟨q2, cIN_r fun _ => key (by omega) _ ?_⟩), fun q2 => cIN_r fun _ => key (by omega) _ ?_⟩), fun q1 => x92_m (by omega) fun h5 hh5 => x92 (Nat.zero_le _) (s92_l (by omega) hT2 hB2 hto hH hN hpx c0 c2 (cIN_r fun _ => key (by omega) _ ?_) (prs p0 I2).2.length 0 0 (by omega) rfl), trivial⟩, fun q1 => no (by omega) I2 J2 hp2.i⟩
    · unfold tbV; rw [if_neg (by omega), if_neg (by omega)]
    · unfold tbV; rw [if_neg (by omega), if_neg (by omega)]
    · unfold tbV; rw [if_neg (by omega), if_neg (by omega)]
    · unfold tbV; rw [if_pos q1, if_neg q2]
    · unfold tbV; rw [if_pos q1, if_pos (Decidable.of_not_not q2)]
    · unfold tbV; rw [if_neg (by omega), if_pos q1]
  exact x155_m (by omega) (fun h2 hh2 => x155 (by omega) ⟨fun q1 => go (Or.inl q1) h2 hh2, fun q1 => ⟨fun q2 => go (Or.inr q2) h2 hh2, fun q2 => no (by omega) I J hI2⟩⟩)
end TABLE
