set_option maxRecDepth 100000 in
theorem x94 {G : Ctx} {h : Nat} {Q : MP} {I : Nat → Nat → Int} {J : Nat → Nat → BitVec 64} {b : B3} (hh : 1 ≤ h) (H : Tri G h 94 119 119 10 [some (vr 72), some (vi 0)] [] (I, u1 J 79 (fun j => if j < 240 then (0#64) else J 79 j), PP b) Q) : Tri G h 94 119 119 0 [some (vr 72)] [] (I, J, PP b) Q := wp_at ck94 [(10, [true, true]), (41, [true, true, true, true])] 400 (sx1_r79 (by omega)  H)
set_option maxRecDepth 100000 in
theorem x94_10 {G : Ctx} {h : Nat} {Q : MP} {I : Nat → Nat → Int} {J : Nat → Nat → BitVec 64} {b : B3} {l1 : Int} (hh : 2 ≤ h) (H : (((I 7 0) ≤ l1) → (Q none (I, J, PP b))) ∧ (¬ ((I 7 0) ≤ l1) → ((0 ≤ l1 ∧ l1 < (120 : Int)) ∧ (((0 ≤ (I 73 l1.toNat) ∧ (I 73 l1.toNat) < (I 72 0)) → ((0 ≤ (I 73 l1.toNat) ∧ (I 73 l1.toNat) < (120 : Int)) ∧ (((¬ (w32 ((I 76 ((I 73 l1.toNat).toNat)) - 1)) = 0) → (Tri G h 94 119 119 10 [some (vr 72), some (vi (w32 (l1 + 1)))] [] (I, J, PP b) Q)) ∧ (¬ (¬ (w32 ((I 76 ((I 73 l1.toNat).toNat)) - 1)) = 0) → (Tri G h 94 119 119 41 [some (vr 72), some (vi l1), some (vi (I 73 l1.toNat)), some (vi 0)] [] (I, J, PP b) Q))))) ∧ (¬ (0 ≤ (I 73 l1.toNat) ∧ (I 73 l1.toNat) < (I 72 0)) → (Tri G h 94 119 119 10 [some (vr 72), some (vi (w32 (l1 + 1)))] [] (I, J, PP b) Q)))))) : Tri G h 94 119 119 10 [some (vr 72), some (vi l1)] [] (I, J, PP b) Q := wp_at ck94 [(10, [true, true]), (41, [true, true, true, true])] 400 (And.intro (fun q1420 => H.1 q1420) (fun q1421 => And.intro (H.2 q1421).1 (x87_m (by omega) (fun h hh => x87 hh (And.intro (fun q1422 => And.intro (((H.2 q1421).2).1 q1422).1 (cI_r ((((H.2 q1421).2).1 q1422).2))) (fun q1423 => cI_r (And.intro (fun _ => ((H.2 q1421).2).2 q1423) (fun z => absurd (show ¬ ((-1) : Int) = (0 : Int) by decide) z))))))))
set_option maxRecDepth 100000 in
theorem x94_41 {G : Ctx} {h : Nat} {Q : MP} {I : Nat → Nat → Int} {J : Nat → Nat → BitVec 64} {b : B3} {l1 l2 l3 : Int} (hh : 5 ≤ h) (H : (((I 7 0) ≤ l3) → (Tri G h 94 119 119 10 [some (vr 72), some (vi (w32 (l1 + 1)))] [] (I, J, PP b) Q)) ∧ (¬ ((I 7 0) ≤ l3) → ((0 ≤ l3 ∧ l3 < (120 : Int)) ∧ (((0 ≤ (I 73 l3.toNat) ∧ (I 73 l3.toNat) < (I 72 0)) → ((0 ≤ (I 73 l3.toNat) ∧ (I 73 l3.toNat) < (120 : Int)) ∧ (((¬ (w32 ((I 76 ((I 73 l3.toNat).toNat)) - 1)) = 1) → (Tri G h 94 119 119 41 [some (vr 72), some (vi l1), some (vi l2), some (vi (w32 (l3 + 1)))] [] (I, J, PP b) Q)) ∧ (¬ (¬ (w32 ((I 76 ((I 73 l3.toNat).toNat)) - 1)) = 1) → (TriM G h 58 119 119 [vr 67, vi 1, vi l1, vi l3] (I, J, PP b) (cIN fun r1 I1 J1 b1 => (((r1 = 0) → (Tri G h 94 119 119 41 [some (vr 72), some (vi l1), some (vi l2), some (vi (w32 (l3 + 1)))] [] (I1, J1, PP b1) Q)) ∧ (¬ (r1 = 0) → ((0 ≤ (w32 ((w32 (l2 * 128)) + (I 73 l3.toNat))) ∧ (w32 ((w32 (l2 * 128)) + (I 73 l3.toNat))) < 15360) ∧ (Tri G h 94 119 119 41 [some (vr 72), some (vi l1), some (vi l2), some (vi (w32 (l3 + 1)))] [] (I1, u2 J1 79 ((w32 ((w32 (l2 * 128)) + (I 73 l3.toNat))).toNat / 64) ((J1 79 ((w32 ((w32 (l2 * 128)) + (I 73 l3.toNat))).toNat / 64)) ||| (lShl (1#64) (((w32 ((w32 (l2 * 128)) + (I 73 l3.toNat))).toNat % 64 : Nat) : Int))), PP b1) Q)))))))))) ∧ (¬ (0 ≤ (I 73 l3.toNat) ∧ (I 73 l3.toNat) < (I 72 0)) → (Tri G h 94 119 119 41 [some (vr 72), some (vi l1), some (vi l2), some (vi (w32 (l3 + 1)))] [] (I, J, PP b) Q)))))) : Tri G h 94 119 119 41 [some (vr 72), some (vi l1), some (vi l2), some (vi l3)] [] (I, J, PP b) Q := wp_at ck94 [(10, [true, true]), (41, [true, true, true, true])] 400 (And.intro (fun q1424 => H.1 q1424) (fun q1425 => And.intro (H.2 q1425).1 (x87_m (by omega) (fun h hh => x87 hh (And.intro (fun q1426 => And.intro (((H.2 q1425).2).1 q1426).1 (cI_r (And.intro (fun q1428 => ((((H.2 q1425).2).1 q1426).2).1 q1428) (fun q1429 => cIN_go (((((H.2 q1425).2).1 q1426).2).2 q1429) (fun r1 I1 J1 b1 q1430 => And.intro (fun q1431 => q1430.1 q1431) (fun q1432 => sx177_79 (by omega) (q1430.2 q1432).1 ((q1430.2 q1432).2))))))) (fun q1427 => cI_r (And.intro (fun _ => ((H.2 q1425).2).2 q1427) (fun z => absurd (show ¬ ((-1) : Int) = (1 : Int) by decide) z))))))))
theorem x94_m {G : Ctx} {h : Nat} {Q : MP} {I : Nat → Nat → Int} {J : Nat → Nat → BitVec 64} {b : B3} (hh : 6 ≤ h) (H : ∀ h, 5 ≤ h → Tri G h 94 119 119 0 [some (vr 72)] [] (I, J, PP b) Q) : TriM G h 94 119 119 [vr 72] (I, J, PP b) Q := TriM_intro (h - 1) (by omega) (by decide) (Nat.le_of_ble_eq_true rfl) (Nat.le_refl _) (Nat.le_refl _) (H (h - 1) (by omega))
set_option maxRecDepth 100000 in
theorem x96 {G : Ctx} {h : Nat} {Q : MP} {I : Nat → Nat → Int} {J : Nat → Nat → BitVec 64} {b : B3} {x : Int} (hh : 0 ≤ h) (H : Tri G h 96 119 119 4 [some (vr 72), none, some (vi x), some (vi 0)] [] (I, J, PP b) Q) : Tri G h 96 119 119 0 [some (vr 72), some (vi x)] [] (I, J, PP b) Q := wp_at ck96 [(4, [true, false, true, true])] 400 H
set_option maxRecDepth 100000 in
theorem x96_4 {G : Ctx} {h : Nat} {Q : MP} {I : Nat → Nat → Int} {J : Nat → Nat → BitVec 64} {b : B3} {l2 l3 : Int} (hh : 1 ≤ h) (H : (((I 72 0) ≤ l3) → (Q none (I, J, PP b))) ∧ (¬ ((I 72 0) ≤ l3) → (((0 ≤ l2 ∧ l2 < (I 72 0)) → ((0 ≤ l2 ∧ l2 < (120 : Int)) ∧ (((0 ≤ (I 81 l2.toNat) ∧ (I 81 l2.toNat) < (I 72 0)) → ((0 ≤ (I 81 l2.toNat) ∧ (I 81 l2.toNat) < (120 : Int)) ∧ ((0 ≤ (I 81 l2.toNat) ∧ (I 81 l2.toNat) < (120 : Int)) ∧ ((0 ≤ l2 ∧ l2 < (120 : Int)) ∧ (Tri G h 96 119 119 4 [some (vr 72), none, some (vi (I 80 ((I 81 l2.toNat).toNat))), some (vi (w32 (l3 + 1)))] [] (u2 (u2 I 80 ((I 81 l2.toNat).toNat) l2) 80 l2.toNat (I 81 l2.toNat), J, PP b) Q))))) ∧ (¬ (0 ≤ (I 81 l2.toNat) ∧ (I 81 l2.toNat) < (I 72 0)) → (Q none (I, J, PP b)))))) ∧ (¬ (0 ≤ l2 ∧ l2 < (I 72 0)) → (Q none (I, J, PP b)))))) : Tri G h 96 119 119 4 [some (vr 72), none, some (vi l2), some (vi l3)] [] (I, J, PP b) Q := wp_at ck96 [(4, [true, false, true, true])] 400 (And.intro (fun q1433 => H.1 q1433) (fun q1434 => sx172 (by omega)  (fun q1435 => And.intro (fun z => absurd z (show ¬ ((1 : Int) = (0 : Int)) by decide)) (fun _ => And.intro ((H.2 q1434).1 q1435).1 (sx172 (by omega)  (fun q1437 => And.intro (fun _ => (((H.2 q1434).1 q1435).2).1 q1437) (fun z => absurd (show ¬ (1 : Int) = (0 : Int) by decide) z)) (fun q1438 => And.intro (fun z => absurd z (show ¬ (¬ (0 : Int) = (0 : Int)) by decide)) (fun _ => (((H.2 q1434).1 q1435).2).2 q1438))))) (fun q1436 => And.intro (fun _ => (H.2 q1434).2 q1436) (fun z => absurd (show (0 : Int) = (0 : Int) by decide) z))))
theorem x96_m {G : Ctx} {h : Nat} {Q : MP} {I : Nat → Nat → Int} {J : Nat → Nat → BitVec 64} {b : B3} {x : Int} (hh : 2 ≤ h) (H : ∀ h, 1 ≤ h → Tri G h 96 119 119 0 [some (vr 72), some (vi x)] [] (I, J, PP b) Q) : TriM G h 96 119 119 [vr 72, vi x] (I, J, PP b) Q := TriM_intro (h - 1) (by omega) (by decide) (Nat.le_of_ble_eq_true rfl) (Nat.le_refl _) (Nat.le_refl _) (H (h - 1) (by omega))
set_option maxRecDepth 100000 in
theorem x95 {G : Ctx} {h : Nat} {Q : MP} {I : Nat → Nat → Int} {J : Nat → Nat → BitVec 64} {b : B3} {x : Int} (hh : 1 ≤ h) (H : Tri G h 95 119 119 19 [some (vr 72), none, some (vi 1), some (vi 0)] [] (u2 (u1 I 81 (fun j => if j < 120 then (-1) else I 81 j)) 78 0 x, J, PP b) Q) : Tri G h 95 119 119 0 [some (vr 72), some (vi x)] [] (I, J, PP b) Q := wp_at ck95 [(19, [true, false, true, true]), (33, [true, false, true, true, true])] 400 (sx0_r81 (by omega)  (And.intro (show (0 : Int) ≤ 0 ∧ (0 : Int) < ((120 : Nat) : Int) by decide) H))
set_option maxRecDepth 100000 in
theorem x95_19 {G : Ctx} {h : Nat} {Q : MP} {I : Nat → Nat → Int} {J : Nat → Nat → BitVec 64} {b : B3} {l2 l3 : Int} (hh : 0 ≤ h) (H : ((l2 ≤ l3) → (Q (some (vi 0)) (I, J, PP b))) ∧ (¬ (l2 ≤ l3) → (((120 ≤ l3) → (Q (some (vi 0)) (I, J, PP b))) ∧ (¬ (120 ≤ l3) → (Tri G h 95 119 119 33 [some (vr 72), none, some (vi l2), some (vi l3), some (vi 0)] [] (I, J, PP b) Q))))) : Tri G h 95 119 119 19 [some (vr 72), none, some (vi l2), some (vi l3)] [] (I, J, PP b) Q := wp_at ck95 [(19, [true, false, true, true]), (33, [true, false, true, true, true])] 400 (And.intro (fun q1439 => And.intro (show (0 : Int) = 0 ∨ (0 : Int) = 1 by decide) (H.1 q1439)) (fun q1440 => And.intro (fun q1441 => And.intro (show (0 : Int) = 0 ∨ (0 : Int) = 1 by decide) ((H.2 q1440).1 q1441)) (fun q1442 => (H.2 q1440).2 q1442)))
set_option maxRecDepth 100000 in
theorem x95_33 {G : Ctx} {h : Nat} {Q : MP} {I : Nat → Nat → Int} {J : Nat → Nat → BitVec 64} {b : B3} {l2 l3 l4 : Int} (hh : 2 ≤ h) (H : (((I 72 0) ≤ l4) → (Tri G h 95 119 119 19 [some (vr 72), none, some (vi l2), some (vi (w32 (l3 + 1)))] [] (I, J, PP b) Q)) ∧ (¬ ((I 72 0) ≤ l4) → ((0 ≤ l4 ∧ l4 < (120 : Int)) ∧ (((¬ (I 81 l4.toNat) = (-1)) → (Tri G h 95 119 119 33 [some (vr 72), none, some (vi l2), some (vi l3), some (vi (w32 (l4 + 1)))] [] (I, J, PP b) Q)) ∧ (¬ (¬ (I 81 l4.toNat) = (-1)) → ((0 ≤ l3 ∧ l3 < (120 : Int)) ∧ ((0 ≤ (w32 ((w32 ((I 78 l3.toNat) * 128)) + l4)) ∧ (w32 ((w32 ((I 78 l3.toNat) * 128)) + l4)) < 15360) ∧ (((bitJ J 79 (w32 ((w32 ((I 78 l3.toNat) * 128)) + l4)).toNat = true) → ((0 ≤ l3 ∧ l3 < (120 : Int)) ∧ ((0 ≤ l4 ∧ l4 < (120 : Int)) ∧ ((0 ≤ l4 ∧ l4 < (120 : Int)) ∧ (((¬ (I 80 l4.toNat) = (-1)) → (((120 ≤ l2) → (Tri G h 95 119 119 33 [some (vr 72), none, some (vi l2), some (vi l3), some (vi (w32 (l4 + 1)))] [] (u2 I 81 l4.toNat (I 78 l3.toNat), J, PP b) Q)) ∧ (¬ (120 ≤ l2) → ((0 ≤ l4 ∧ l4 < (120 : Int)) ∧ ((0 ≤ l2 ∧ l2 < (120 : Int)) ∧ (Tri G h 95 119 119 33 [some (vr 72), none, some (vi (w32 (l2 + 1))), some (vi l3), some (vi (w32 (l4 + 1)))] [] (u2 (u2 I 81 l4.toNat (I 78 l3.toNat)) 78 l2.toNat (I 80 l4.toNat), J, PP b) Q)))))) ∧ (¬ (¬ (I 80 l4.toNat) = (-1)) → (TriM G h 96 119 119 [vr 72, vi l4] (u2 I 81 l4.toNat (I 78 l3.toNat), J, PP b) (cVN fun I1 J1 b1 => (Q (some (vi 1)) (I1, J1, PP b1)))))))))) ∧ (¬ (bitJ J 79 (w32 ((w32 ((I 78 l3.toNat) * 128)) + l4)).toNat = true) → (Tri G h 95 119 119 33 [some (vr 72), none, some (vi l2), some (vi l3), some (vi (w32 (l4 + 1)))] [] (I, J, PP b) Q)))))))))) : Tri G h 95 119 119 33 [some (vr 72), none, some (vi l2), some (vi l3), some (vi l4)] [] (I, J, PP b) Q := wp_at ck95 [(19, [true, false, true, true]), (33, [true, false, true, true, true])] 400 (And.intro (fun q1443 => H.1 q1443) (fun q1444 => And.intro (H.2 q1444).1 (And.intro (fun q1445 => ((H.2 q1444).2).1 q1445) (fun q1446 => And.intro (((H.2 q1444).2).2 q1446).1 (sx176_79 (by omega) ((((H.2 q1444).2).2 q1446).2).1 (fun q1447 => And.intro (fun z => absurd z (show ¬ ((1 : Int) = (0 : Int)) by decide)) (fun _ => And.intro ((((((H.2 q1444).2).2 q1446).2).2).1 q1447).1 (And.intro (((((((H.2 q1444).2).2 q1446).2).2).1 q1447).2).1 (And.intro ((((((((H.2 q1444).2).2 q1446).2).2).1 q1447).2).2).1 (And.intro (fun q1449 => (((((((((H.2 q1444).2).2 q1446).2).2).1 q1447).2).2).2).1 q1449) (fun q1450 => cVN_go ((((((((((H.2 q1444).2).2 q1446).2).2).1 q1447).2).2).2).2 q1450) (fun I1 J1 b1 q1451 => And.intro (show (1 : Int) = 0 ∨ (1 : Int) = 1 by decide) q1451))))))) (fun q1448 => And.intro (fun _ => (((((H.2 q1444).2).2 q1446).2).2).2 q1448) (fun z => absurd (show (0 : Int) = (0 : Int) by decide) z)))))))
theorem x95_m {G : Ctx} {h : Nat} {Q : MP} {I : Nat → Nat → Int} {J : Nat → Nat → BitVec 64} {b : B3} {x : Int} (hh : 3 ≤ h) (H : ∀ h, 2 ≤ h → Tri G h 95 119 119 0 [some (vr 72), some (vi x)] [] (I, J, PP b) Q) : TriM G h 95 119 119 [vr 72, vi x] (I, J, PP b) Q := TriM_intro (h - 1) (by omega) (by decide) (Nat.le_of_ble_eq_true rfl) (Nat.le_refl _) (Nat.le_refl _) (H (h - 1) (by omega))
set_option maxRecDepth 100000 in
theorem x93 {G : Ctx} {h : Nat} {Q : MP} {I : Nat → Nat → Int} {J : Nat → Nat → BitVec 64} {b : B3} (hh : 6 ≤ h) (H : (((I 72 10) = (-1)) → (TriM G h 94 119 119 [vr 72] (I, J, PP b) (cVN fun I1 J1 b1 => (Tri G h 93 119 119 32 [some (vr 72), some (vi 0)] [] (u2 (u1 I1 80 (fun j => if j < 120 then (-1) else I1 80 j)) 72 10 0, J1, PP b1) Q)))) ∧ (¬ ((I 72 10) = (-1)) → (Q (some (vi (I 72 10))) (I, J, PP b)))) : Tri G h 93 119 119 0 [some (vr 72)] [] (I, J, PP b) Q := wp_at ck93 [(32, [true, true])] 400 (And.intro (fun q1452 => cVN_go (H.1 q1452) (fun I1 J1 b1 q1454 => sx0_r80 (by omega)  q1454)) (fun q1453 => H.2 q1453))
set_option maxRecDepth 100000 in
theorem x93_32 {G : Ctx} {h : Nat} {Q : MP} {I : Nat → Nat → Int} {J : Nat → Nat → BitVec 64} {b : B3} {l1 : Int} (hh : 3 ≤ h) (H : (((I 72 0) ≤ l1) → (Q (some (vi (I 72 10))) (I, J, PP b))) ∧ (¬ ((I 72 0) ≤ l1) → (((0 ≤ l1 ∧ l1 < (I 72 0)) → ((0 ≤ l1 ∧ l1 < (120 : Int)) ∧ (((¬ (w32 ((I 76 l1.toNat) - 1)) = 0) → (Tri G h 93 119 119 32 [some (vr 72), some (vi (w32 (l1 + 1)))] [] (I, J, PP b) Q)) ∧ (¬ (¬ (w32 ((I 76 l1.toNat) - 1)) = 0) → (TriM G h 95 119 119 [vr 72, vi l1] (I, J, PP b) (cIN fun r1 I1 J1 b1 => (((r1 = 0) → (Tri G h 93 119 119 32 [some (vr 72), some (vi (w32 (l1 + 1)))] [] (I1, J1, PP b1) Q)) ∧ (¬ (r1 = 0) → (Tri G h 93 119 119 32 [some (vr 72), some (vi (w32 (l1 + 1)))] [] (u2 I1 72 10 (w32 ((I1 72 10) + 1)), J1, PP b1) Q))))))))) ∧ (¬ (0 ≤ l1 ∧ l1 < (I 72 0)) → (Tri G h 93 119 119 32 [some (vr 72), some (vi (w32 (l1 + 1)))] [] (I, J, PP b) Q))))) : Tri G h 93 119 119 32 [some (vr 72), some (vi l1)] [] (I, J, PP b) Q := wp_at ck93 [(32, [true, true])] 400 (And.intro (fun q1455 => H.1 q1455) (fun q1456 => x87_m (by omega) (fun h hh => x87 hh (And.intro (fun q1457 => And.intro ((H.2 q1456).1 q1457).1 (cI_r (And.intro (fun q1459 => (((H.2 q1456).1 q1457).2).1 q1459) (fun q1460 => cIN_go ((((H.2 q1456).1 q1457).2).2 q1460) (fun r1 I1 J1 b1 q1461 => q1461))))) (fun q1458 => cI_r (And.intro (fun _ => (H.2 q1456).2 q1458) (fun z => absurd (show ¬ ((-1) : Int) = (0 : Int) by decide) z)))))))
theorem x93_m {G : Ctx} {h : Nat} {Q : MP} {I : Nat → Nat → Int} {J : Nat → Nat → BitVec 64} {b : B3} (hh : 7 ≤ h) (H : ∀ h, 6 ≤ h → Tri G h 93 119 119 0 [some (vr 72)] [] (I, J, PP b) Q) : TriM G h 93 119 119 [vr 72] (I, J, PP b) Q := TriM_intro (h - 1) (by omega) (by decide) (Nat.le_of_ble_eq_true rfl) (Nat.le_refl _) (Nat.le_refl _) (H (h - 1) (by omega))
set_option maxRecDepth 100000 in
theorem x156 {G : Ctx} {h : Nat} {Q : MP} {I : Nat → Nat → Int} {J : Nat → Nat → BitVec 64} {b : B3} {x : Int} (hh : 7 ≤ h) (H : TriM G h 81 119 119 [vr 72] (I, J, PP b) (cVN fun I1 J1 b1 => (((x = 0 → (TriM G h 93 119 119 [vr 72] (I1, J1, PP b1) (cIN fun r2 I2 J2 b2 => (Q (some (vi (w32 ((I1 72 0) - r2)))) (I2, J2, PP b2))))) ∧ (x = 1 → (Q (some (vi (I1 72 0))) (I1, J1, PP b1))) ∧ True) ∧ (¬ x = 0 → ¬ x = 1 → (Q (some (vi (-1))) (I1, J1, PP b1)))))) : Tri G h 156 119 119 0 [some (vr 0), some (vi x)] [] (I, J, PP b) Q := wp_at ck156 [] 400 (cVN_go H (fun I1 J1 b1 q1462 => And.intro (And.intro (fun q1463 => cIN_go (q1462.1.1 q1463) (fun r2 I2 J2 b2 q1464 => q1464)) (And.intro (fun q1465 => q1462.1.2.1 q1465) trivial)) (fun q1466 q1467 => q1462.2 q1466 q1467)))
theorem x156_m {G : Ctx} {h : Nat} {Q : MP} {I : Nat → Nat → Int} {J : Nat → Nat → BitVec 64} {b : B3} {x : Int} (hh : 8 ≤ h) (H : ∀ h, 7 ≤ h → Tri G h 156 119 119 0 [some (vr 0), some (vi x)] [] (I, J, PP b) Q) : TriM G h 156 119 119 [vr 0, vi x] (I, J, PP b) Q := TriM_intro (h - 1) (by omega) (by decide) (Nat.le_of_ble_eq_true rfl) (Nat.le_refl _) (Nat.le_refl _) (H (h - 1) (by omega))
set_option maxRecDepth 100000 in
theorem x237 {G : Ctx} {h : Nat} {Q : MP} {I : Nat → Nat → Int} {J : Nat → Nat → BitVec 64} {b : B3} (hh : 0 ≤ h) (H : Tri G h 237 119 119 2 [some (vr 91), some (vi 0)] [] (I, J, PP b) Q) : Tri G h 237 119 119 0 [some (vr 91)] [] (I, J, PP b) Q := wp_at ck237 [(2, [true, true]), (24, [true, true]), (63, [true, true, true])] 400 H
set_option maxRecDepth 100000 in
theorem x237_2 {G : Ctx} {h : Nat} {Q : MP} {I : Nat → Nat → Int} {J : Nat → Nat → BitVec 64} {b : B3} {l1 : Int} (hh : 0 ≤ h) (H : ((14400 ≤ l1) → (Tri G h 237 119 119 24 [some (vr 91), some (vi 0)] [] (I, J, PP b) Q)) ∧ (¬ (14400 ≤ l1) → ((0 ≤ l1 ∧ l1 < (14400 : Int)) ∧ (Tri G h 237 119 119 2 [some (vr 91), some (vi (w32 (l1 + 1)))] [] (u2 I 108 l1.toNat 0, J, PP b) Q)))) : Tri G h 237 119 119 2 [some (vr 91), some (vi l1)] [] (I, J, PP b) Q := wp_at ck237 [(2, [true, true]), (24, [true, true]), (63, [true, true, true])] 400 (And.intro (fun q1468 => H.1 q1468) (fun q1469 => And.intro (H.2 q1469).1 (And.intro (show (0 : Int) = 0 ∨ (0 : Int) = 1 by decide) ((H.2 q1469).2))))
set_option maxRecDepth 100000 in
theorem x237_24 {G : Ctx} {h : Nat} {Q : MP} {I : Nat → Nat → Int} {J : Nat → Nat → BitVec 64} {b : B3} {l1 : Int} (hh : 0 ≤ h) (H : (((I 92 4) ≤ l1) → (Q none (I, J, PP b))) ∧ (¬ ((I 92 4) ≤ l1) → ((0 ≤ l1 ∧ l1 < (120 : Int)) ∧ ((((I 101 l1.toNat) = (-1)) → (Tri G h 237 119 119 24 [some (vr 91), some (vi (w32 (l1 + 1)))] [] (I, J, PP b) Q)) ∧ (¬ ((I 101 l1.toNat) = (-1)) → ((0 ≤ l1 ∧ l1 < (120 : Int)) ∧ ((0 ≤ (I 101 l1.toNat) ∧ (I 101 l1.toNat) < (120 : Int)) ∧ ((((I 105 ((I 101 l1.toNat).toNat)) = 0) → (Tri G h 237 119 119 63 [some (vr 91), some (vi l1), some (vi 0)] [] (I, J, PP b) Q)) ∧ (¬ ((I 105 ((I 101 l1.toNat).toNat)) = 0) → (Tri G h 237 119 119 24 [some (vr 91), some (vi (w32 (l1 + 1)))] [] (I, J, PP b) Q)))))))))) : Tri G h 237 119 119 24 [some (vr 91), some (vi l1)] [] (I, J, PP b) Q := wp_at ck237 [(2, [true, true]), (24, [true, true]), (63, [true, true, true])] 400 (And.intro (show (0 : Int) ≤ 4 ∧ (4 : Int) < ((5120 : Nat) : Int) by decide) H)
set_option maxRecDepth 100000 in
theorem x237_63 {G : Ctx} {h : Nat} {Q : MP} {I : Nat → Nat → Int} {J : Nat → Nat → BitVec 64} {b : B3} {l1 l2 : Int} (hh : 4 ≤ h) (H : (((I 92 4) ≤ l2) → (Tri G h 237 119 119 24 [some (vr 91), some (vi (w32 (l1 + 1)))] [] (I, J, PP b) Q)) ∧ (¬ ((I 92 4) ≤ l2) → ((0 ≤ l2 ∧ l2 < (120 : Int)) ∧ ((((I 101 l2.toNat) = (-1)) → (Tri G h 237 119 119 63 [some (vr 91), some (vi l1), some (vi (w32 (l2 + 1)))] [] (I, J, PP b) Q)) ∧ (¬ ((I 101 l2.toNat) = (-1)) → ((0 ≤ l2 ∧ l2 < (120 : Int)) ∧ ((0 ≤ (I 101 l2.toNat) ∧ (I 101 l2.toNat) < (120 : Int)) ∧ (((¬ (I 105 ((I 101 l2.toNat).toNat)) = 1) → (Tri G h 237 119 119 63 [some (vr 91), some (vi l1), some (vi (w32 (l2 + 1)))] [] (I, J, PP b) Q)) ∧ (¬ (¬ (I 105 ((I 101 l2.toNat).toNat)) = 1) → (TriM G h 227 119 119 [vr 91, vi 1, vi l1, vi l2] (I, J, PP b) (cIN fun r1 I1 J1 b1 => (((¬ r1 = 0) → ((0 ≤ l1 ∧ l1 < (120 : Int)) ∧ ((0 ≤ l2 ∧ l2 < (120 : Int)) ∧ ((0 ≤ (w32 ((w32 (120 * (I1 101 l1.toNat))) + (I1 101 l2.toNat))) ∧ (w32 ((w32 (120 * (I1 101 l1.toNat))) + (I1 101 l2.toNat))) < (14400 : Int)) ∧ (Tri G h 237 119 119 63 [some (vr 91), some (vi l1), some (vi (w32 (l2 + 1)))] [] (u2 I1 108 ((w32 ((w32 (120 * (I1 101 l1.toNat))) + (I1 101 l2.toNat))).toNat) 1, J1, PP b1) Q))))) ∧ (¬ (¬ r1 = 0) → (Tri G h 237 119 119 63 [some (vr 91), some (vi l1), some (vi (w32 (l2 + 1)))] [] (I1, J1, PP b1) Q)))))))))))))) : Tri G h 237 119 119 63 [some (vr 91), some (vi l1), some (vi l2)] [] (I, J, PP b) Q := wp_at ck237 [(2, [true, true]), (24, [true, true]), (63, [true, true, true])] 400 (And.intro (show (0 : Int) ≤ 4 ∧ (4 : Int) < ((5120 : Nat) : Int) by decide) (And.intro (fun q1470 => H.1 q1470) (fun q1471 => And.intro (H.2 q1471).1 (And.intro (fun q1472 => ((H.2 q1471).2).1 q1472) (fun q1473 => And.intro (((H.2 q1471).2).2 q1473).1 (And.intro ((((H.2 q1471).2).2 q1473).2).1 (And.intro (fun q1474 => (((((H.2 q1471).2).2 q1473).2).2).1 q1474) (fun q1475 => cIN_go ((((((H.2 q1471).2).2 q1473).2).2).2 q1475) (fun r1 I1 J1 b1 q1476 => And.intro (fun q1477 => And.intro (q1476.1 q1477).1 (And.intro ((q1476.1 q1477).2).1 (And.intro (((q1476.1 q1477).2).2).1 (And.intro (show (1 : Int) = 0 ∨ (1 : Int) = 1 by decide) ((((q1476.1 q1477).2).2).2))))) (fun q1478 => q1476.2 q1478))))))))))
theorem x237_m {G : Ctx} {h : Nat} {Q : MP} {I : Nat → Nat → Int} {J : Nat → Nat → BitVec 64} {b : B3} (hh : 5 ≤ h) (H : ∀ h, 4 ≤ h → Tri G h 237 119 119 0 [some (vr 91)] [] (I, J, PP b) Q) : TriM G h 237 119 119 [vr 91] (I, J, PP b) Q := TriM_intro (h - 1) (by omega) (by decide) (Nat.le_of_ble_eq_true rfl) (Nat.le_refl _) (Nat.le_refl _) (H (h - 1) (by omega))
set_option maxRecDepth 100000 in
theorem x238 {G : Ctx} {h : Nat} {Q : MP} {I : Nat → Nat → Int} {J : Nat → Nat → BitVec 64} {b : B3} {x : Int} (hh : 0 ≤ h) (H : Tri G h 238 119 119 2 [some (vr 91), some (vi x), some (vi 0)] [] (I, J, PP b) Q) : Tri G h 238 119 119 0 [some (vr 91), some (vi x)] [] (I, J, PP b) Q := wp_at ck238 [(2, [true, true, true])] 400 H
set_option maxRecDepth 100000 in
theorem x238_2 {G : Ctx} {h : Nat} {Q : MP} {I : Nat → Nat → Int} {J : Nat → Nat → BitVec 64} {b : B3} {l1 l2 : Int} (hh : 1 ≤ h) (H : (((I 91 26) ≤ l2) → (Q (some (vi 0)) (I, J, PP b))) ∧ (¬ ((I 91 26) ≤ l2) → ((0 ≤ l2 ∧ l2 < (120 : Int)) ∧ (((¬ (I 107 l2.toNat) = 0) → (Tri G h 238 119 119 2 [some (vr 91), some (vi l1), some (vi (w32 (l2 + 1)))] [] (I, J, PP b) Q)) ∧ (¬ (¬ (I 107 l2.toNat) = 0) → ((0 ≤ (w32 ((w32 (120 * l1)) + l2)) ∧ (w32 ((w32 (120 * l1)) + l2)) < (14400 : Int)) ∧ (((¬ (I 108 ((w32 ((w32 (120 * l1)) + l2)).toNat)) = 0) → ((0 ≤ l2 ∧ l2 < (120 : Int)) ∧ ((0 ≤ l2 ∧ l2 < (120 : Int)) ∧ ((((I 106 l2.toNat) = (-1)) → ((0 ≤ l2 ∧ l2 < (120 : Int)) ∧ (Q (some (vi 1)) (u2 (u2 I 107 l2.toNat 1) 106 l2.toNat l1, J, PP b)))) ∧ (¬ ((I 106 l2.toNat) = (-1)) → ((0 ≤ l2 ∧ l2 < (120 : Int)) ∧ (TriM G h 238 119 119 [vr 91, vi (I 106 l2.toNat)] (u2 I 107 l2.toNat 1, J, PP b) (cIN fun r1 I1 J1 b1 => (((¬ r1 = 0) → ((0 ≤ l2 ∧ l2 < (120 : Int)) ∧ (Q (some (vi 1)) (u2 I1 106 l2.toNat l1, J1, PP b1)))) ∧ (¬ (¬ r1 = 0) → (Tri G h 238 119 119 2 [some (vr 91), some (vi l1), some (vi (w32 (l2 + 1)))] [] (I1, J1, PP b1) Q))))))))))) ∧ (¬ (¬ (I 108 ((w32 ((w32 (120 * l1)) + l2)).toNat)) = 0) → (Tri G h 238 119 119 2 [some (vr 91), some (vi l1), some (vi (w32 (l2 + 1)))] [] (I, J, PP b) Q))))))))) : Tri G h 238 119 119 2 [some (vr 91), some (vi l1), some (vi l2)] [] (I, J, PP b) Q := wp_at ck238 [(2, [true, true, true])] 400 (And.intro (fun q1479 => And.intro (show (0 : Int) = 0 ∨ (0 : Int) = 1 by decide) (H.1 q1479)) (fun q1480 => And.intro (H.2 q1480).1 (And.intro (fun q1481 => ((H.2 q1480).2).1 q1481) (fun q1482 => And.intro (((H.2 q1480).2).2 q1482).1 (And.intro (fun q1483 => And.intro (((((H.2 q1480).2).2 q1482).2).1 q1483).1 (And.intro (show (1 : Int) = 0 ∨ (1 : Int) = 1 by decide) (And.intro ((((((H.2 q1480).2).2 q1482).2).1 q1483).2).1 (And.intro (fun q1485 => And.intro ((((((((H.2 q1480).2).2 q1482).2).1 q1483).2).2).1 q1485).1 (And.intro (show (1 : Int) = 0 ∨ (1 : Int) = 1 by decide) (((((((((H.2 q1480).2).2 q1482).2).1 q1483).2).2).1 q1485).2))) (fun q1486 => And.intro ((((((((H.2 q1480).2).2 q1482).2).1 q1483).2).2).2 q1486).1 (cIN_go (((((((((H.2 q1480).2).2 q1482).2).1 q1483).2).2).2 q1486).2) (fun r1 I1 J1 b1 q1487 => And.intro (fun q1488 => And.intro (q1487.1 q1488).1 (And.intro (show (1 : Int) = 0 ∨ (1 : Int) = 1 by decide) ((q1487.1 q1488).2))) (fun q1489 => q1487.2 q1489)))))))) (fun q1484 => ((((H.2 q1480).2).2 q1482).2).2 q1484))))))
theorem x238_m {G : Ctx} {h : Nat} {Q : MP} {I : Nat → Nat → Int} {J : Nat → Nat → BitVec 64} {b : B3} {x : Int} (hh : 2 ≤ h) (H : ∀ h, 1 ≤ h → Tri G h 238 119 119 0 [some (vr 91), some (vi x)] [] (I, J, PP b) Q) : TriM G h 238 119 119 [vr 91, vi x] (I, J, PP b) Q := TriM_intro (h - 1) (by omega) (by decide) (Nat.le_of_ble_eq_true rfl) (Nat.le_refl _) (Nat.le_refl _) (H (h - 1) (by omega))
set_option maxRecDepth 100000 in
theorem x239 {G : Ctx} {h : Nat} {Q : MP} {I : Nat → Nat → Int} {J : Nat → Nat → BitVec 64} {b : B3} {x : Int} (hh : 5 ≤ h) (H : (((0 : Int) ≤ x ∧ x ≤ (1 : Int)) → (TriM G h 231 119 119 [vr 91] (I, J, PP b) (cVN fun I1 J1 b1 => (((¬ x = 1) → (Tri G h 239 119 119 27 [some (vr 91), none, some (vi 0)] [] (I1, J1, PP b1) Q)) ∧ (¬ (¬ x = 1) → (Q (some (vi (I1 91 26))) (I1, J1, PP b1))))))) ∧ (¬ ((0 : Int) ≤ x ∧ x ≤ (1 : Int)) → (Q (some (vi (-1))) (I, J, PP b)))) : Tri G h 239 119 119 0 [some (vr 91), some (vi x)] [] (I, J, PP b) Q := wp_at ck239 [(27, [true, false, true]), (70, [true, false, true, true]), (93, [true, false, true, true, true])] 400 (sx181 (by omega)  (fun q1490 => And.intro (fun _ => cVN_go (H.1 q1490) (fun I1 J1 b1 q1492 => q1492)) (fun z => absurd (show ¬ (1 : Int) = (0 : Int) by decide) z)) (fun q1491 => And.intro (fun z => absurd z (show ¬ (¬ (0 : Int) = (0 : Int)) by decide)) (fun _ => H.2 q1491)))
set_option maxRecDepth 100000 in
theorem x239_27 {G : Ctx} {h : Nat} {Q : MP} {I : Nat → Nat → Int} {J : Nat → Nat → BitVec 64} {b : B3} {l2 : Int} (hh : 5 ≤ h) (H : (((I 91 26) ≤ l2) → (TriM G h 237 119 119 [vr 91] (I, J, PP b) (cVN fun I1 J1 b1 => (Tri G h 239 119 119 70 [some (vr 91), none, some (vi (I1 91 26)), some (vi 0)] [] (I1, J1, PP b1) Q)))) ∧ (¬ ((I 91 26) ≤ l2) → (TriM G h 232 119 119 [vr 91, vi l2] (I, J, PP b) (cIN fun r2 I2 J2 b2 => ((0 ≤ l2 ∧ l2 < (120 : Int)) ∧ ((0 ≤ l2 ∧ l2 < (120 : Int)) ∧ (Tri G h 239 119 119 27 [some (vr 91), none, some (vi (w32 (l2 + 1)))] [] (u2 (u2 I2 105 l2.toNat r2) 106 l2.toNat (-1), J2, PP b2) Q))))))) : Tri G h 239 119 119 27 [some (vr 91), none, some (vi l2)] [] (I, J, PP b) Q := wp_at ck239 [(27, [true, false, true]), (70, [true, false, true, true]), (93, [true, false, true, true, true])] 400 (And.intro (fun q1493 => cVN_go (H.1 q1493) (fun I1 J1 b1 q1495 => q1495)) (fun q1494 => cIN_go (H.2 q1494) (fun r2 I2 J2 b2 q1496 => q1496)))
set_option maxRecDepth 100000 in
theorem x239_70 {G : Ctx} {h : Nat} {Q : MP} {I : Nat → Nat → Int} {J : Nat → Nat → BitVec 64} {b : B3} {l2 l3 : Int} (hh : 0 ≤ h) (H : (((I 91 26) ≤ l3) → (Q (some (vi l2)) (I, J, PP b))) ∧ (¬ ((I 91 26) ≤ l3) → ((0 ≤ l3 ∧ l3 < (120 : Int)) ∧ ((((I 105 l3.toNat) = 0) → (Tri G h 239 119 119 93 [some (vr 91), none, some (vi l2), some (vi l3), some (vi 0)] [] (I, J, PP b) Q)) ∧ (¬ ((I 105 l3.toNat) = 0) → (Tri G h 239 119 119 70 [some (vr 91), none, some (vi l2), some (vi (w32 (l3 + 1)))] [] (I, J, PP b) Q)))))) : Tri G h 239 119 119 70 [some (vr 91), none, some (vi l2), some (vi l3)] [] (I, J, PP b) Q := wp_at ck239 [(27, [true, false, true]), (70, [true, false, true, true]), (93, [true, false, true, true, true])] 400 H
set_option maxRecDepth 100000 in
theorem x239_93 {G : Ctx} {h : Nat} {Q : MP} {I : Nat → Nat → Int} {J : Nat → Nat → BitVec 64} {b : B3} {l2 l3 l4 : Int} (hh : 2 ≤ h) (H : (((I 91 26) ≤ l4) → (TriM G h 238 119 119 [vr 91, vi l3] (I, J, PP b) (cIN fun r1 I1 J1 b1 => (((r1 = 0) → (Tri G h 239 119 119 70 [some (vr 91), none, some (vi (w32 (l2 - 0))), some (vi (w32 (l3 + 1)))] [] (I1, J1, PP b1) Q)) ∧ (¬ (r1 = 0) → (Tri G h 239 119 119 70 [some (vr 91), none, some (vi (w32 (l2 - 1))), some (vi (w32 (l3 + 1)))] [] (I1, J1, PP b1) Q)))))) ∧ (¬ ((I 91 26) ≤ l4) → ((0 ≤ l4 ∧ l4 < (120 : Int)) ∧ (Tri G h 239 119 119 93 [some (vr 91), none, some (vi l2), some (vi l3), some (vi (w32 (l4 + 1)))] [] (u2 I 107 l4.toNat 0, J, PP b) Q)))) : Tri G h 239 119 119 93 [some (vr 91), none, some (vi l2), some (vi l3), some (vi l4)] [] (I, J, PP b) Q := wp_at ck239 [(27, [true, false, true]), (70, [true, false, true, true]), (93, [true, false, true, true, true])] 400 (And.intro (fun q1497 => cIN_go (H.1 q1497) (fun r1 I1 J1 b1 q1499 => q1499)) (fun q1498 => And.intro (H.2 q1498).1 (And.intro (show (0 : Int) = 0 ∨ (0 : Int) = 1 by decide) ((H.2 q1498).2))))
theorem x239_m {G : Ctx} {h : Nat} {Q : MP} {I : Nat → Nat → Int} {J : Nat → Nat → BitVec 64} {b : B3} {x : Int} (hh : 6 ≤ h) (H : ∀ h, 5 ≤ h → Tri G h 239 119 119 0 [some (vr 91), some (vi x)] [] (I, J, PP b) Q) : TriM G h 239 119 119 [vr 91, vi x] (I, J, PP b) Q := TriM_intro (h - 1) (by omega) (by decide) (Nat.le_of_ble_eq_true rfl) (Nat.le_refl _) (Nat.le_refl _) (H (h - 1) (by omega))
theorem cntE_mono {f g : Nat → Bool} (h : ∀ i, f i = true → g i = true) : ∀ n, cntE f n ≤ cntE g n
  | 0 => Int.le_refl _
  | n + 1 => by
    have ih := cntE_mono h n
    show cntE f n + (if f n = true then 1 else 0) ≤ cntE g n + (if g n = true then 1 else 0)
    by_cases hf : f n = true
    · rw [if_pos hf, if_pos (h n hf)]
      omega
    · rw [if_neg hf]
      split <;> omega
def Ux (N : Nat) (I : MI) (q : Nat) : Prop := q < N ∧ I 107 q = 0
def ED (E : Nat → Nat → Bool) (N : Nat) (m : Nat → Int) : Prop := ∀ q, q < N → m q = -1 ∨ ∃ p' : Nat, p' < N ∧ m q = p' ∧ E p' q = true
def FA (E : Nat → Nat → Bool) (N p j : Nat) (I' I2 : MI) : Prop := I2 106 = I' 106 ∧ (∀ q, q < N → (I2 107 q = 0 ∨ I2 107 q = 1) ∧ (I' 107 q ≠ 0 → I2 107 q ≠ 0)) ∧ (∀ q, q < j → q < N → E p q = true → I2 107 q ≠ 0) ∧ ∀ q, q < N → I2 107 q ≠ 0 → I' 107 q = 0 → I' 106 q ≠ -1 ∧ ∀ p' : Nat, I' 106 q = p' → ∀ q', q' < N → E p' q' = true → I2 107 q' ≠ 0
section MATCHM
variable {G : Ctx} {h n : Nat} {I : MI} {J : MJ} {b : B3} {a : BitVec 64}
theorem s238 {K : Int → MI → MJ → B3 → Prop} {E : Nat → Nat → Bool} {N : Nat} (hN : N ≤ 120) (h26 : I 91 26 = N) (hE : ∀ p q : Nat, p < N → q < N → I 108 (120 * p + q) = if E p q = true then 1 else 0) : ∀ (u h p : Nat) (I' : MI) (K : Int → MI → MJ → B3 → Prop), cntE (fun q => decide (I' 107 q = 0)) N ≤ u → u + 2 ≤ h → p < N → frK [106, 107] I I' → (∀ q, q < N → I' 107 q = 0 ∨ I' 107 q = 1) → ED E N (I' 106) → (∀ q q', Ux N I' q → Ux N I' q' → I' 106 q = I' 106 q' → I' 106 q ≠ -1 → q = q') → (∀ q, Ux N I' q → I' 106 q ≠ p) → (∀ I2, frK [106, 107] I I2 → SU (Ux N I') p (I' 106) (I2 106) → ED E N (I2 106) → K 1 I2 J b) → (∀ I2, frK [106, 107] I I2 → FA E N p N I' I2 → K 0 I2 J b) → TriM G h 238 119 119 [vr 91, vi (p : Int)] (I', J, PP b) (cIN K) := by
  intro u
  induction u with
  | zero =>
    intro h p I' K hu hh hp hf h01 hed hinj hpn kS kF
    have hall : ∀ q, q < N → I' 107 q ≠ 0 := by
      intro q hq z
      have := cntE_pos (f := fun q => decide (I' 107 q = 0)) (x := q) (decide_eq_true z) N hq
      omega
    have loop : ∀ (m j : Nat), j + m = N → Tri G (h - 1) 238 119 119 2 [some (vr 91), some (vi (p : Int)), some (vi (j : Int))] [] (I', J, PP b) (cIN K) := by
      intro m
      induction m with
      | zero =>
        intro j hj
        refine x238_2 (by omega) ?_
        rw [hf 91 (by decide), h26]
        exact ⟨fun _ => cIN_r fun _ => kF I' hf ⟨rfl, fun q hq => ⟨h01 q hq, fun z => z⟩, fun q _ hq _ => hall q hq, fun q hq _ z => absurd z (hall q hq)⟩, fun q => by omega⟩
      | succ m ih =>
        intro j hj
        refine x238_2 (by omega) ?_
        rw [hf 91 (by decide), h26, toN, w32_id (x := (j : Int) + 1) (by omega) (by omega)]
        exact ⟨fun q => by omega, fun _ => ⟨by omega, fun _ => ih (j + 1) (by omega), fun q => absurd (hall j (by omega)) q⟩⟩
    exact TriM_intro (h - 1) (by omega) (by decide) (Nat.le_of_ble_eq_true rfl) (Nat.le_refl _) (Nat.le_refl _) (x238 (Nat.zero_le _) (loop N 0 (by omega)))
  | succ u ihu =>
    intro h p I' K hu hh hp hf h01 hed hinj hpn kS kF
    have loop : ∀ (m j : Nat) (I2 : MI), j + m = N → frK [106, 107] I I2 → FA E N p j I' I2 → Tri G (h - 1) 238 119 119 2 [some (vr 91), some (vi (p : Int)), some (vi (j : Int))] [] (I2, J, PP b) (cIN K) := by
      intro m
      induction m with
      | zero =>
        intro j I2 hj hf2 hA
        obtain rfl : j = N := by omega
        refine x238_2 (by omega) ?_
        rw [hf2 91 (by decide), h26]
        exact ⟨fun _ => cIN_r fun _ => kF I2 hf2 hA, fun q => by omega⟩
      | succ m ih =>
        intro j I2 hj hf2 hA
        have hjN : j < N := by omega
        obtain ⟨a1, a2, a3, a4⟩ := id hA
        have skip : (E p j = true → I2 107 j ≠ 0) → Tri G (h - 1) 238 119 119 2 [some (vr 91), some (vi (p : Int)), some (vi ((j : Int) + 1))] [] (I2, J, PP b) (cIN K) := by
          intro hs
          refine ih (j + 1) I2 (by omega) hf2 ⟨a1, a2, fun q hq hqN he => ?_, a4⟩
          by_cases e : q = j
          · rw [e] at he ⊢
            exact hs he
          · exact a3 q (by omega) hqN he
        refine x238_2 (by omega) ?_
        rw [hf2 91 (by decide), h26, toN, w32_id (x := (j : Int) + 1) (by omega) (by omega), w32_id (x := 120 * (p : Int)) (by omega) (by omega), w32_id (x := 120 * (p : Int) + j) (by omega) (by omega), show (120 * (p : Int) + (j : Int)).toNat = 120 * p + j by omega, hf2 108 (by decide), hE p j hp hjN]
        refine ⟨fun q => by omega, fun _ => ⟨by omega, fun q1 => skip fun _ => q1, fun q1 => ⟨by omega, fun q2 => ⟨by omega, by omega, ?_⟩, fun q2 => skip fun he => ?_⟩⟩⟩
        · have hj0 : I2 107 j = 0 := Decidable.of_not_not q1
          have hj1 : I' 107 j = 0 := Decidable.byContradiction fun z => (a2 j hjN).2 z hj0
          have hEj : E p j = true := by
            cases he : E p j with
            | true => rfl
            | false => rw [he] at q2; exact absurd rfl q2
          have hUj : Ux N I' j := ⟨hjN, hj1⟩
          have hsub : ∀ q, Ux N (u2 I2 107 j 1) q → Ux N I' q := by
            intro q hq
            refine ⟨hq.1, Decidable.byContradiction fun z => ?_⟩
            have := hq.2
            rw [u2_at] at this
            split at this
            · exact absurd this (by decide)
            · exact (a2 q hq.1).2 z this
          have hj3 : ¬ Ux N (u2 I2 107 j 1) j := fun z => by
            have := z.2
            rw [u2e] at this
            exact absurd this (by decide)
          have hinj3 : ∀ q q', Ux N (u2 I2 107 j 1) q → Ux N (u2 I2 107 j 1) q' → I' 106 q = I' 106 q' → I' 106 q ≠ -1 → q = q' := fun q q' h1 h2 => hinj q q' (hsub q h1) (hsub q' h2)
          have hed2 : ∀ m4 : Nat → Int, ED E N m4 → ED E N (up1 m4 j p) := by
            intro m4 h4 q hq
            by_cases e : q = j
            · subst e
              rw [up1_e]
              exact Or.inr ⟨p, hp, rfl, hEj⟩
            · rw [up1_n e]
              exact h4 q hq
          have row : ∀ I4 : MI, (u2 I4 106 j (p : Int)) 106 = up1 (I4 106) j p := by
            intro I4
            funext q
            rw [u2_at]
            rfl
          rw [a1]
          refine ⟨fun q3 => ⟨by omega, cIN_r fun _ => ?_⟩, fun q3 => ⟨by omega, ?_⟩⟩
          · refine kS _ ((hf2.u (by decide)).u (by decide)) ?_ ?_
            · rw [row, u2_ne (by decide), a1]
              have h3 := SU.none (U := Ux N (u2 I2 107 j 1)) (M := I' 106) hinj3
              rw [← q3] at h3
              exact h3.up hsub hUj hj3 hinj hpn (by omega)
            · rw [row, u2_ne (by decide), a1]
              exact hed2 _ hed
          · rcases hed j hjN with g | ⟨p1, g1, g2, g3⟩
            · exact absurd g q3
            · rw [g2]
              have hcnt : cntE (fun q => decide (u2 I2 107 j 1 107 q = 0)) N ≤ u := by
                have c1 := cntE_up (f := fun q => decide (u2 I2 107 j 1 107 q = 0)) (g := fun q => decide (I2 107 q = 0)) (o := j) (by simp [u2e]) (fun i hi => by simp [u2j hi]) N
                have c2 := cntE_mono (f := fun q => decide (q < N) && decide (I2 107 q = 0)) (g := fun q => decide (I' 107 q = 0)) (fun i hi => by
                  simp at hi ⊢
                  exact Decidable.byContradiction fun z => (a2 i hi.1).2 z hi.2) N
                have c3 : ∀ n, n ≤ N → cntE (fun q => decide (q < N) && decide (I2 107 q = 0)) n = cntE (fun q => decide (I2 107 q = 0)) n := by
                  intro n
                  induction n with
                  | zero => intro _; rfl
                  | succ n ihn =>
                    intro hn
                    show cntE _ n + (if (decide (n < N) && decide (I2 107 n = 0)) = true then 1 else 0) = cntE _ n + (if decide (I2 107 n = 0) = true then 1 else 0)
                    rw [ihn (by omega), decide_eq_true (show n < N by omega), Bool.true_and]
                rw [if_pos ⟨hjN, decide_eq_true hj0⟩] at c1
                rw [c3 N (Nat.le_refl _)] at c2
                omega
              refine ihu (h - 1) p1 (u2 I2 107 j 1) _ hcnt (by omega) g1 (hf2.u (by decide)) (fun q hq => ?_) ?_ ?_ ?_ (fun I4 hf4 hS4 hE4 => ?_) (fun I4 hf4 hF4 => ?_)
              · rw [u2_at]
                split
                · exact Or.inr rfl
                · exact (a2 q hq).1
              · rw [u2_ne (by decide), a1]
                exact hed
              · rw [u2_ne (by decide), a1]
                exact hinj3
              · rw [u2_ne (by decide), a1]
                intro q hq z
                have := hinj q j (hsub q hq) hUj (by rw [z, g2]) (by omega)
                rw [this] at hq
                exact hj3 hq
              · refine ⟨fun _ => ⟨by omega, cIN_r fun _ => kS _ (hf4.u (by decide)) ?_ ?_⟩, fun q => absurd (by decide) q⟩
                · rw [row]
                  rw [u2_ne (by decide), a1, ← g2] at hS4
                  exact hS4.up hsub hUj hj3 hinj hpn (by omega)
                · rw [row]
                  exact hed2 _ hE4
              · refine ⟨fun q => absurd rfl q, fun _ => ih (j + 1) I4 (by omega) hf4 ?_⟩
                obtain ⟨f1, f2, f3, f4⟩ := hF4
                have e106 : u2 I2 107 j 1 106 = I' 106 := by rw [u2_ne (by decide), a1]
                rw [e106] at f1 f4
                have mon : ∀ q, q < N → I2 107 q ≠ 0 → I4 107 q ≠ 0 := by
                  intro q hq z
                  refine (f2 q hq).2 ?_
                  rw [u2_at]
                  split
                  · decide
                  · exact z
                have hj4 : I4 107 j ≠ 0 := (f2 j hjN).2 (by rw [u2e]; decide)
                refine ⟨f1, fun q hq => ⟨(f2 q hq).1, fun z => mon q hq ((a2 q hq).2 z)⟩, fun q hq hqN he => ?_, fun q hq hs hn => ?_⟩
                · by_cases e : q = j
                  · rw [e]
                    exact hj4
                  · exact mon q hqN (a3 q (by omega) hqN he)
                · by_cases e : q = j
                  · subst e
                    refine ⟨q3, fun p' hp' q' hq' he => ?_⟩
                    have : p' = p1 := by omega
                    rw [this] at he
                    exact f3 q' hq' hq' he
                  · by_cases s2 : I2 107 q = 0
                    · exact f4 q hq hs (by rw [u2j e]; exact s2)
                    · have := a4 q hq s2 hn
                      exact ⟨this.1, fun p' hp' q' hq' he => mon q' hq' (this.2 p' hp' q' hq' he)⟩
        · rw [he] at q2
          exact absurd (by decide) q2
    exact TriM_intro (h - 1) (by omega) (by decide) (Nat.le_of_ble_eq_true rfl) (Nat.le_refl _) (Nat.le_refl _) (x238 (Nat.zero_le _) (loop N 0 I' (by omega) hf ⟨rfl, fun q hq => ⟨h01 q hq, fun z => z⟩, fun q hq => by omega, fun q hq h1 h2 => absurd h2 h1⟩))
end MATCHM
