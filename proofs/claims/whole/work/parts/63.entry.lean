set_option maxRecDepth 100000 in
theorem x148 {G : Ctx} {h : Nat} {Q : MP} {I : Nat → Nat → Int} {J : Nat → Nat → BitVec 64} {b : B3} {x : Int} (hh : 0 ≤ h) (H : ((x < 1) → (Q (some (vi 0)) (I, J, PP b))) ∧ (¬ (x < 1) → (((x ≤ 8) → (Tri G h 148 119 119 15 [some (vr 0), some (vi x), some (vi 0)] [] (I, J, PP b) Q)) ∧ (¬ (x ≤ 8) → (Q (some (vi 0)) (I, J, PP b)))))) : Tri G h 148 119 119 0 [some (vr 0), some (vi x)] [] (I, J, PP b) Q := wp_at ck148 [(15, [true, true, true])] 400 (And.intro (fun q1500 => And.intro (show (0 : Int) = 0 ∨ (0 : Int) = 1 by decide) (H.1 q1500)) (fun q1501 => And.intro (fun q1502 => (H.2 q1501).1 q1502) (fun q1503 => And.intro (show (0 : Int) = 0 ∨ (0 : Int) = 1 by decide) ((H.2 q1501).2 q1503))))
set_option maxRecDepth 100000 in
theorem x148_15 {G : Ctx} {h : Nat} {Q : MP} {I : Nat → Nat → Int} {J : Nat → Nat → BitVec 64} {b : B3} {l1 l2 : Int} (hh : 1 ≤ h) (H : ((l1 ≤ l2) → (Q (some (vi 1)) (I, J, PP b))) ∧ (¬ (l1 ≤ l2) → ((0 ≤ l2 ∧ l2 < (400 : Int)) ∧ (((97 ≤ (I 61 l2.toNat) ∧ (I 61 l2.toNat) ≤ 122) → (Tri G h 148 119 119 15 [some (vr 0), some (vi l1), some (vi (w32 (l2 + 1)))] [] (I, J, PP b) Q)) ∧ (¬ (97 ≤ (I 61 l2.toNat) ∧ (I 61 l2.toNat) ≤ 122) → (Q (some (vi 0)) (I, J, PP b))))))) : Tri G h 148 119 119 15 [some (vr 0), some (vi l1), some (vi l2)] [] (I, J, PP b) Q := wp_at ck148 [(15, [true, true, true])] 400 (And.intro (fun q1504 => And.intro (show (1 : Int) = 0 ∨ (1 : Int) = 1 by decide) (H.1 q1504)) (fun q1505 => And.intro (H.2 q1505).1 (sx173 (by omega)  (fun q1506 => And.intro (fun _ => ((H.2 q1505).2).1 q1506) (fun z => absurd (show ¬ (1 : Int) = (0 : Int) by decide) z)) (fun q1507 => And.intro (fun z => absurd z (show ¬ (¬ (0 : Int) = (0 : Int)) by decide)) (fun _ => And.intro (show (0 : Int) = 0 ∨ (0 : Int) = 1 by decide) (((H.2 q1505).2).2 q1507))))))
theorem x148_m {G : Ctx} {h : Nat} {Q : MP} {I : Nat → Nat → Int} {J : Nat → Nat → BitVec 64} {b : B3} {x : Int} (hh : 2 ≤ h) (H : ∀ h, 1 ≤ h → Tri G h 148 119 119 0 [some (vr 0), some (vi x)] [] (I, J, PP b) Q) : TriM G h 148 119 119 [vr 0, vi x] (I, J, PP b) Q := TriM_intro (h - 1) (by omega) (by decide) (Nat.le_of_ble_eq_true rfl) (Nat.le_refl _) (Nat.le_refl _) (H (h - 1) (by omega))
set_option maxRecDepth 100000 in
theorem x23 {G : Ctx} {h : Nat} {Q : MP} {I : Nat → Nat → Int} {J : Nat → Nat → BitVec 64} {b : B3} {x : Int} (hh : 1 ≤ h) (H : (((I 7 0) < 120) → ((0 ≤ (I 7 0) ∧ (I 7 0) < (120 : Int)) ∧ (Tri G h 23 119 119 27 [some (vr 7), some (vr 61), some (vi x), some (vi 0)] [] (u2 I 11 ((I 7 0).toNat) (min x (8 : Int)), J, PP b) Q))) ∧ (¬ ((I 7 0) < 120) → (Q none (I, J, PP b)))) : Tri G h 23 119 119 0 [some (vr 7), some (vr 61), some (vi x)] [] (I, J, PP b) Q := wp_at ck23 [(27, [true, true, true, true])] 400 (And.intro (fun q1508 => sx3 (by omega)  (H.1 q1508)) (fun q1509 => H.2 q1509))
set_option maxRecDepth 100000 in
theorem x23_27 {G : Ctx} {h : Nat} {Q : MP} {I : Nat → Nat → Int} {J : Nat → Nat → BitVec 64} {b : B3} {l2 l3 : Int} (hh : 0 ≤ h) (H : ((8 ≤ l3) → (Q none (I, J, PP b))) ∧ (¬ (8 ≤ l3) → (((l2 ≤ l3) → ((0 ≤ (w32 ((w32 ((I 7 0) * 8)) + l3)) ∧ (w32 ((w32 ((I 7 0) * 8)) + l3)) < (960 : Int)) ∧ (Tri G h 23 119 119 27 [some (vr 7), some (vr 61), some (vi l2), some (vi (w32 (l3 + 1)))] [] (u2 I 12 ((w32 ((w32 ((I 7 0) * 8)) + l3)).toNat) (w8 0), J, PP b) Q))) ∧ (¬ (l2 ≤ l3) → (((400 ≤ l3) → ((0 ≤ (w32 ((w32 ((I 7 0) * 8)) + l3)) ∧ (w32 ((w32 ((I 7 0) * 8)) + l3)) < (960 : Int)) ∧ (Tri G h 23 119 119 27 [some (vr 7), some (vr 61), some (vi l2), some (vi (w32 (l3 + 1)))] [] (u2 I 12 ((w32 ((w32 ((I 7 0) * 8)) + l3)).toNat) (w8 0), J, PP b) Q))) ∧ (¬ (400 ≤ l3) → ((0 ≤ l3 ∧ l3 < (400 : Int)) ∧ ((0 ≤ (w32 ((w32 ((I 7 0) * 8)) + l3)) ∧ (w32 ((w32 ((I 7 0) * 8)) + l3)) < (960 : Int)) ∧ (Tri G h 23 119 119 27 [some (vr 7), some (vr 61), some (vi l2), some (vi (w32 (l3 + 1)))] [] (u2 I 12 ((w32 ((w32 ((I 7 0) * 8)) + l3)).toNat) (w8 (w8 (w32 ((I 61 l3.toNat) - 97)))), J, PP b) Q))))))))) : Tri G h 23 119 119 27 [some (vr 7), some (vr 61), some (vi l2), some (vi l3)] [] (I, J, PP b) Q := wp_at ck23 [(27, [true, true, true, true])] 400 H
theorem x23_m {G : Ctx} {h : Nat} {Q : MP} {I : Nat → Nat → Int} {J : Nat → Nat → BitVec 64} {b : B3} {x : Int} (hh : 2 ≤ h) (H : ∀ h, 1 ≤ h → Tri G h 23 119 119 0 [some (vr 7), some (vr 61), some (vi x)] [] (I, J, PP b) Q) : TriM G h 23 119 119 [vr 7, vr 61, vi x] (I, J, PP b) Q := TriM_intro (h - 1) (by omega) (by decide) (Nat.le_of_ble_eq_true rfl) (Nat.le_refl _) (Nat.le_refl _) (H (h - 1) (by omega))
set_option maxRecDepth 100000 in
theorem x147 {G : Ctx} {h : Nat} {Q : MP} {I : Nat → Nat → Int} {J : Nat → Nat → BitVec 64} {b : B3} {u v w x y z : Int} (hh : 2 ≤ h) (H : ((0 ≤ x ∧ x < (2 : Int)) → (((0 ≤ y ∧ y < (11 : Int)) → (((0 ≤ z ∧ z < (I 2 0)) → (((0 ≤ u ∧ u < (100 : Int)) → (((0 ≤ v ∧ v < (1440 : Int)) → (((0 ≤ w ∧ w < (120 : Int)) → (TriM G h 148 119 119 [vr 0, vi (I 0 4)] (u2 I 0 4 0, J, PP b) (cIN fun r1 I1 J1 b1 => (((r1 = 0) → (Q (some (vi (-1))) (I1, J1, PP b1))) ∧ (¬ (r1 = 0) → ((((I1 7 0) < 120) → (TriM G h 23 119 119 [vr 7, vr 61, vi (I 0 4)] (I1, J1, PP b1) (cVN fun I2 J2 b2 => ((((I2 7 0) < 120) → ((0 ≤ (w32 ((w32 ((I2 7 0) * 6)) + 0)) ∧ (w32 ((w32 ((I2 7 0) * 6)) + 0)) < (720 : Int)) ∧ ((0 ≤ (w32 ((w32 ((I2 7 0) * 6)) + 1)) ∧ (w32 ((w32 ((I2 7 0) * 6)) + 1)) < (720 : Int)) ∧ ((0 ≤ (w32 ((w32 ((I2 7 0) * 6)) + 2)) ∧ (w32 ((w32 ((I2 7 0) * 6)) + 2)) < (720 : Int)) ∧ ((0 ≤ (w32 ((w32 ((I2 7 0) * 6)) + 3)) ∧ (w32 ((w32 ((I2 7 0) * 6)) + 3)) < (720 : Int)) ∧ ((0 ≤ (w32 ((w32 ((I2 7 0) * 6)) + 4)) ∧ (w32 ((w32 ((I2 7 0) * 6)) + 4)) < (720 : Int)) ∧ ((0 ≤ (w32 ((w32 ((I2 7 0) * 6)) + 5)) ∧ (w32 ((w32 ((I2 7 0) * 6)) + 5)) < (720 : Int)) ∧ ((0 ≤ (I2 7 0) ∧ (I2 7 0) < (120 : Int)) ∧ ((0 ≤ (I2 7 0) ∧ (I2 7 0) < (120 : Int)) ∧ (Q (some (vi (w32 ((w32 ((I2 7 0) + 1)) - 1)))) (u2 (u2 (u2 (u2 (u2 (u2 (u2 (u2 (u2 (u2 (u2 I2 72 3 1) 8 ((w32 ((w32 ((I2 7 0) * 6)) + 0)).toNat) x) 8 ((w32 ((w32 ((I2 7 0) * 6)) + 1)).toNat) y) 8 ((w32 ((w32 ((I2 7 0) * 6)) + 2)).toNat) z) 8 ((w32 ((w32 ((I2 7 0) * 6)) + 3)).toNat) u) 8 ((w32 ((w32 ((I2 7 0) * 6)) + 4)).toNat) v) 8 ((w32 ((w32 ((I2 7 0) * 6)) + 5)).toNat) w) 7 1 (w32 ((I2 7 1) + 1))) 9 ((I2 7 0).toNat) (w32 ((I2 7 1) + 1))) 10 ((I2 7 0).toNat) (-1)) 7 0 (w32 ((I2 7 0) + 1)), J2, PP b2))))))))))) ∧ (¬ ((I2 7 0) < 120) → (Q (some (vi (-1))) (u2 I2 72 3 1, J2, PP b2))))))) ∧ (¬ ((I1 7 0) < 120) → (Q (some (vi (-1))) (I1, J1, PP b1))))))))) ∧ (¬ (0 ≤ w ∧ w < (120 : Int)) → (Q (some (vi (-1))) (u2 I 0 4 0, J, PP b))))) ∧ (¬ (0 ≤ v ∧ v < (1440 : Int)) → (Q (some (vi (-1))) (u2 I 0 4 0, J, PP b))))) ∧ (¬ (0 ≤ u ∧ u < (100 : Int)) → (Q (some (vi (-1))) (u2 I 0 4 0, J, PP b))))) ∧ (¬ (0 ≤ z ∧ z < (I 2 0)) → (((0 ≤ u ∧ u < (100 : Int)) → (((0 ≤ v ∧ v < (1440 : Int)) → (((0 ≤ w ∧ w < (120 : Int)) → (Q (some (vi (-1))) (u2 I 0 4 0, J, PP b))) ∧ (¬ (0 ≤ w ∧ w < (120 : Int)) → (Q (some (vi (-1))) (u2 I 0 4 0, J, PP b))))) ∧ (¬ (0 ≤ v ∧ v < (1440 : Int)) → (Q (some (vi (-1))) (u2 I 0 4 0, J, PP b))))) ∧ (¬ (0 ≤ u ∧ u < (100 : Int)) → (Q (some (vi (-1))) (u2 I 0 4 0, J, PP b))))))) ∧ (¬ (0 ≤ y ∧ y < (11 : Int)) → (((0 ≤ u ∧ u < (100 : Int)) → (((0 ≤ v ∧ v < (1440 : Int)) → (((0 ≤ w ∧ w < (120 : Int)) → (Q (some (vi (-1))) (u2 I 0 4 0, J, PP b))) ∧ (¬ (0 ≤ w ∧ w < (120 : Int)) → (Q (some (vi (-1))) (u2 I 0 4 0, J, PP b))))) ∧ (¬ (0 ≤ v ∧ v < (1440 : Int)) → (Q (some (vi (-1))) (u2 I 0 4 0, J, PP b))))) ∧ (¬ (0 ≤ u ∧ u < (100 : Int)) → (Q (some (vi (-1))) (u2 I 0 4 0, J, PP b))))))) ∧ (¬ (0 ≤ x ∧ x < (2 : Int)) → (((0 ≤ u ∧ u < (100 : Int)) → (((0 ≤ v ∧ v < (1440 : Int)) → (((0 ≤ w ∧ w < (120 : Int)) → (Q (some (vi (-1))) (u2 I 0 4 0, J, PP b))) ∧ (¬ (0 ≤ w ∧ w < (120 : Int)) → (Q (some (vi (-1))) (u2 I 0 4 0, J, PP b))))) ∧ (¬ (0 ≤ v ∧ v < (1440 : Int)) → (Q (some (vi (-1))) (u2 I 0 4 0, J, PP b))))) ∧ (¬ (0 ≤ u ∧ u < (100 : Int)) → (Q (some (vi (-1))) (u2 I 0 4 0, J, PP b)))))) : Tri G h 147 119 119 0 [some (vr 0), some (vi x), some (vi y), some (vi z), some (vi u), some (vi v), some (vi w)] [] (I, J, PP b) Q := wp_at ck147 [] 400 (sx172 (by omega)  (fun q1510 => And.intro (fun z => absurd z (show ¬ ((1 : Int) = (0 : Int)) by decide)) (fun _ => sx172 (by omega)  (fun q1512 => And.intro (fun z => absurd z (show ¬ ((1 : Int) = (0 : Int)) by decide)) (fun _ => sx172 (by omega)  (fun q1514 => And.intro (fun z => absurd z (show ¬ ((1 : Int) = (0 : Int)) by decide)) (fun _ => sx172 (by omega)  (fun q1516 => And.intro (fun z => absurd z (show ¬ ((1 : Int) = (0 : Int)) by decide)) (fun _ => sx172 (by omega)  (fun q1518 => And.intro (fun z => absurd z (show ¬ ((1 : Int) = (0 : Int)) by decide)) (fun _ => sx172 (by omega)  (fun q1520 => And.intro (fun z => absurd z (show ¬ ((1 : Int) = (0 : Int)) by decide)) (fun _ => And.intro (fun z => absurd z (show ¬ ((1 : Int) = (0 : Int)) by decide)) (fun _ => And.intro (fun z => absurd z (show ¬ ((1 : Int) = (0 : Int)) by decide)) (fun _ => cIN_go ((((((H.1 q1510).1 q1512).1 q1514).1 q1516).1 q1518).1 q1520) (fun r1 I1 J1 b1 q1522 => And.intro (fun q1523 => q1522.1 q1523) (fun q1524 => And.intro (fun q1525 => cVN_go ((q1522.2 q1524).1 q1525) (fun I2 J2 b2 q1527 => x80_m (by omega) (fun h hh => x80 hh (cV_r (x24_m (by omega) (fun h hh => x24 hh (And.intro (fun q1528 => And.intro (q1527.1 q1528).1 (And.intro ((q1527.1 q1528).2).1 (And.intro (((q1527.1 q1528).2).2).1 (And.intro ((((q1527.1 q1528).2).2).2).1 (And.intro (((((q1527.1 q1528).2).2).2).2).1 (And.intro ((((((q1527.1 q1528).2).2).2).2).2).1 (And.intro (((((((q1527.1 q1528).2).2).2).2).2).2).1 (And.intro ((((((((q1527.1 q1528).2).2).2).2).2).2).2).1 (cI_r (((((((((q1527.1 q1528).2).2).2).2).2).2).2).2)))))))))) (fun q1529 => cI_r (q1527.2 q1529))))))))) (fun q1526 => (q1522.2 q1524).2 q1526))))))) (fun q1521 => And.intro (fun _ => And.intro (fun z => absurd z (show ¬ ((1 : Int) = (0 : Int)) by decide)) (fun _ => And.intro (fun _ => (((((H.1 q1510).1 q1512).1 q1514).1 q1516).1 q1518).2 q1521) (fun z => absurd (show (0 : Int) = (0 : Int) by decide) z))) (fun z => absurd (show (0 : Int) = (0 : Int) by decide) z)))) (fun q1519 => And.intro (fun _ => And.intro (fun z => absurd z (show ¬ ((1 : Int) = (0 : Int)) by decide)) (fun _ => And.intro (fun _ => ((((H.1 q1510).1 q1512).1 q1514).1 q1516).2 q1519) (fun z => absurd (show (0 : Int) = (0 : Int) by decide) z))) (fun z => absurd (show (0 : Int) = (0 : Int) by decide) z)))) (fun q1517 => And.intro (fun _ => And.intro (fun z => absurd z (show ¬ ((1 : Int) = (0 : Int)) by decide)) (fun _ => And.intro (fun _ => (((H.1 q1510).1 q1512).1 q1514).2 q1517) (fun z => absurd (show (0 : Int) = (0 : Int) by decide) z))) (fun z => absurd (show (0 : Int) = (0 : Int) by decide) z)))) (fun q1515 => And.intro (fun _ => sx172 (by omega)  (fun q1530 => And.intro (fun z => absurd z (show ¬ ((1 : Int) = (0 : Int)) by decide)) (fun _ => sx172 (by omega)  (fun q1532 => And.intro (fun z => absurd z (show ¬ ((1 : Int) = (0 : Int)) by decide)) (fun _ => sx172 (by omega)  (fun q1534 => And.intro (fun z => absurd z (show ¬ ((1 : Int) = (0 : Int)) by decide)) (fun _ => And.intro (fun _ => (((((H.1 q1510).1 q1512).2 q1515).1 q1530).1 q1532).1 q1534) (fun z => absurd (show (0 : Int) = (0 : Int) by decide) z))) (fun q1535 => And.intro (fun _ => And.intro (fun _ => (((((H.1 q1510).1 q1512).2 q1515).1 q1530).1 q1532).2 q1535) (fun z => absurd (show (0 : Int) = (0 : Int) by decide) z)) (fun z => absurd (show (0 : Int) = (0 : Int) by decide) z)))) (fun q1533 => And.intro (fun _ => And.intro (fun _ => ((((H.1 q1510).1 q1512).2 q1515).1 q1530).2 q1533) (fun z => absurd (show (0 : Int) = (0 : Int) by decide) z)) (fun z => absurd (show (0 : Int) = (0 : Int) by decide) z)))) (fun q1531 => And.intro (fun _ => And.intro (fun _ => (((H.1 q1510).1 q1512).2 q1515).2 q1531) (fun z => absurd (show (0 : Int) = (0 : Int) by decide) z)) (fun z => absurd (show (0 : Int) = (0 : Int) by decide) z))) (fun z => absurd (show (0 : Int) = (0 : Int) by decide) z)))) (fun q1513 => And.intro (fun _ => sx172 (by omega)  (fun q1536 => And.intro (fun z => absurd z (show ¬ ((1 : Int) = (0 : Int)) by decide)) (fun _ => sx172 (by omega)  (fun q1538 => And.intro (fun z => absurd z (show ¬ ((1 : Int) = (0 : Int)) by decide)) (fun _ => sx172 (by omega)  (fun q1540 => And.intro (fun z => absurd z (show ¬ ((1 : Int) = (0 : Int)) by decide)) (fun _ => And.intro (fun _ => ((((H.1 q1510).2 q1513).1 q1536).1 q1538).1 q1540) (fun z => absurd (show (0 : Int) = (0 : Int) by decide) z))) (fun q1541 => And.intro (fun _ => And.intro (fun _ => ((((H.1 q1510).2 q1513).1 q1536).1 q1538).2 q1541) (fun z => absurd (show (0 : Int) = (0 : Int) by decide) z)) (fun z => absurd (show (0 : Int) = (0 : Int) by decide) z)))) (fun q1539 => And.intro (fun _ => And.intro (fun _ => (((H.1 q1510).2 q1513).1 q1536).2 q1539) (fun z => absurd (show (0 : Int) = (0 : Int) by decide) z)) (fun z => absurd (show (0 : Int) = (0 : Int) by decide) z)))) (fun q1537 => And.intro (fun _ => And.intro (fun _ => ((H.1 q1510).2 q1513).2 q1537) (fun z => absurd (show (0 : Int) = (0 : Int) by decide) z)) (fun z => absurd (show (0 : Int) = (0 : Int) by decide) z))) (fun z => absurd (show (0 : Int) = (0 : Int) by decide) z)))) (fun q1511 => And.intro (fun _ => sx172 (by omega)  (fun q1542 => And.intro (fun z => absurd z (show ¬ ((1 : Int) = (0 : Int)) by decide)) (fun _ => sx172 (by omega)  (fun q1544 => And.intro (fun z => absurd z (show ¬ ((1 : Int) = (0 : Int)) by decide)) (fun _ => sx172 (by omega)  (fun q1546 => And.intro (fun z => absurd z (show ¬ ((1 : Int) = (0 : Int)) by decide)) (fun _ => And.intro (fun _ => (((H.2 q1511).1 q1542).1 q1544).1 q1546) (fun z => absurd (show (0 : Int) = (0 : Int) by decide) z))) (fun q1547 => And.intro (fun _ => And.intro (fun _ => (((H.2 q1511).1 q1542).1 q1544).2 q1547) (fun z => absurd (show (0 : Int) = (0 : Int) by decide) z)) (fun z => absurd (show (0 : Int) = (0 : Int) by decide) z)))) (fun q1545 => And.intro (fun _ => And.intro (fun _ => ((H.2 q1511).1 q1542).2 q1545) (fun z => absurd (show (0 : Int) = (0 : Int) by decide) z)) (fun z => absurd (show (0 : Int) = (0 : Int) by decide) z)))) (fun q1543 => And.intro (fun _ => And.intro (fun _ => (H.2 q1511).2 q1543) (fun z => absurd (show (0 : Int) = (0 : Int) by decide) z)) (fun z => absurd (show (0 : Int) = (0 : Int) by decide) z))) (fun z => absurd (show (0 : Int) = (0 : Int) by decide) z)))
theorem x147_m {G : Ctx} {h : Nat} {Q : MP} {I : Nat → Nat → Int} {J : Nat → Nat → BitVec 64} {b : B3} {x y z u v w : Int} (hh : 3 ≤ h) (H : ∀ h, 2 ≤ h → Tri G h 147 119 119 0 [some (vr 0), some (vi x), some (vi y), some (vi z), some (vi u), some (vi v), some (vi w)] [] (I, J, PP b) Q) : TriM G h 147 119 119 [vr 0, vi x, vi y, vi z, vi u, vi v, vi w] (I, J, PP b) Q := TriM_intro (h - 1) (by omega) (by decide) (Nat.le_of_ble_eq_true rfl) (Nat.le_refl _) (Nat.le_refl _) (H (h - 1) (by omega))
set_option maxRecDepth 100000 in
theorem x222 {G : Ctx} {h : Nat} {Q : MP} {I : Nat → Nat → Int} {J : Nat → Nat → BitVec 64} {b : B3} {u v w x y z : Int} (hh : 2 ≤ h) (H : (((0 : Int) ≤ x ∧ x ≤ (1 : Int)) → ((((0 : Int) ≤ y ∧ y ≤ (10 : Int)) → ((0 ≤ (I 92 3) ∧ (I 92 3) < 1000) ∧ (((0 ≤ z ∧ z < (I 92 3)) → ((((0 : Int) ≤ u ∧ u ≤ (99 : Int)) → ((((0 : Int) ≤ v ∧ v ≤ (1439 : Int)) → ((((0 : Int) ≤ w ∧ w ≤ (119 : Int)) → ((((1 : Int) ≤ (I 91 11) ∧ (I 91 11) ≤ (8 : Int)) → (((¬ (I 92 4) = 120) → (Tri G h 222 119 119 99 [some (vr 91), some (vi x), some (vi y), some (vi z), some (vi u), some (vi v), some (vi w), some (vi (I 91 11)), some (vi 0)] [] (u2 I 91 11 0, J, PP b) Q)) ∧ (¬ (¬ (I 92 4) = 120) → (Q (some (vi (-1))) (u2 I 91 11 0, J, PP b))))) ∧ (¬ ((1 : Int) ≤ (I 91 11) ∧ (I 91 11) ≤ (8 : Int)) → (Q (some (vi (-1))) (u2 I 91 11 0, J, PP b))))) ∧ (¬ ((0 : Int) ≤ w ∧ w ≤ (119 : Int)) → (Q (some (vi (-1))) (u2 I 91 11 0, J, PP b))))) ∧ (¬ ((0 : Int) ≤ v ∧ v ≤ (1439 : Int)) → (Q (some (vi (-1))) (u2 I 91 11 0, J, PP b))))) ∧ (¬ ((0 : Int) ≤ u ∧ u ≤ (99 : Int)) → (Q (some (vi (-1))) (u2 I 91 11 0, J, PP b))))) ∧ (¬ (0 ≤ z ∧ z < (I 92 3)) → (Q (some (vi (-1))) (u2 I 91 11 0, J, PP b)))))) ∧ (¬ ((0 : Int) ≤ y ∧ y ≤ (10 : Int)) → (Q (some (vi (-1))) (u2 I 91 11 0, J, PP b))))) ∧ (¬ ((0 : Int) ≤ x ∧ x ≤ (1 : Int)) → (Q (some (vi (-1))) (u2 I 91 11 0, J, PP b)))) : Tri G h 222 119 119 0 [some (vr 91), some (vi x), some (vi y), some (vi z), some (vi u), some (vi v), some (vi w)] [] (I, J, PP b) Q := wp_at ck222 [(99, [true, true, true, true, true, true, true, true, true]), (261, [true, false, false, false, false, false, false, true, true, true])] 400 (sx181 (by omega)  (fun q1548 => And.intro (fun z => absurd z (show ¬ ((1 : Int) = (0 : Int)) by decide)) (fun _ => sx181 (by omega)  (fun q1550 => And.intro (fun z => absurd z (show ¬ ((1 : Int) = (0 : Int)) by decide)) (fun _ => sx185 (by omega) ((H.1 q1548).1 q1550).1 (fun q1552 => And.intro (fun z => absurd z (show ¬ ((1 : Int) = (0 : Int)) by decide)) (fun _ => sx181 (by omega)  (fun q1554 => And.intro (fun z => absurd z (show ¬ ((1 : Int) = (0 : Int)) by decide)) (fun _ => sx181 (by omega)  (fun q1556 => And.intro (fun z => absurd z (show ¬ ((1 : Int) = (0 : Int)) by decide)) (fun _ => sx181 (by omega)  (fun q1558 => And.intro (fun z => absurd z (show ¬ ((1 : Int) = (0 : Int)) by decide)) (fun _ => sx181 (by omega)  (fun q1560 => And.intro (fun z => absurd z (show ¬ ((1 : Int) = (0 : Int)) by decide)) (fun _ => And.intro (show (0 : Int) ≤ 4 ∧ (4 : Int) < ((5120 : Nat) : Int) by decide) ((((((((H.1 q1548).1 q1550).2).1 q1552).1 q1554).1 q1556).1 q1558).1 q1560))) (fun q1561 => And.intro (fun _ => (((((((H.1 q1548).1 q1550).2).1 q1552).1 q1554).1 q1556).1 q1558).2 q1561) (fun z => absurd (show (0 : Int) = (0 : Int) by decide) z)))) (fun q1559 => And.intro (fun _ => ((((((H.1 q1548).1 q1550).2).1 q1552).1 q1554).1 q1556).2 q1559) (fun z => absurd (show (0 : Int) = (0 : Int) by decide) z)))) (fun q1557 => And.intro (fun _ => (((((H.1 q1548).1 q1550).2).1 q1552).1 q1554).2 q1557) (fun z => absurd (show (0 : Int) = (0 : Int) by decide) z)))) (fun q1555 => And.intro (fun _ => ((((H.1 q1548).1 q1550).2).1 q1552).2 q1555) (fun z => absurd (show (0 : Int) = (0 : Int) by decide) z)))) (fun q1553 => And.intro (fun _ => (((H.1 q1548).1 q1550).2).2 q1553) (fun z => absurd (show (0 : Int) = (0 : Int) by decide) z)))) (fun q1551 => And.intro (fun _ => (H.1 q1548).2 q1551) (fun z => absurd (show (0 : Int) = (0 : Int) by decide) z)))) (fun q1549 => And.intro (fun _ => H.2 q1549) (fun z => absurd (show (0 : Int) = (0 : Int) by decide) z)))
set_option maxRecDepth 100000 in
theorem x222_99 {G : Ctx} {h : Nat} {Q : MP} {I : Nat → Nat → Int} {J : Nat → Nat → BitVec 64} {b : B3} {l1 l2 l3 l4 l5 l6 l7 l8 : Int} (hh : 1 ≤ h) (H : ((l7 ≤ l8) → ((0 ≤ (w32 ((w32 (450 + (w32 (17 * (I 92 4))))) + 0)) ∧ (w32 ((w32 (450 + (w32 (17 * (I 92 4))))) + 0)) < (5120 : Int)) ∧ ((0 ≤ (w32 ((w32 (450 + (w32 (17 * (I 92 4))))) + 1)) ∧ (w32 ((w32 (450 + (w32 (17 * (I 92 4))))) + 1)) < (5120 : Int)) ∧ ((0 ≤ (w32 ((w32 (450 + (w32 (17 * (I 92 4))))) + 2)) ∧ (w32 ((w32 (450 + (w32 (17 * (I 92 4))))) + 2)) < (5120 : Int)) ∧ ((0 ≤ (w32 ((w32 (450 + (w32 (17 * (I 92 4))))) + 3)) ∧ (w32 ((w32 (450 + (w32 (17 * (I 92 4))))) + 3)) < (5120 : Int)) ∧ ((0 ≤ (w32 ((w32 (450 + (w32 (17 * (I 92 4))))) + 4)) ∧ (w32 ((w32 (450 + (w32 (17 * (I 92 4))))) + 4)) < (5120 : Int)) ∧ ((0 ≤ (w32 ((w32 (450 + (w32 (17 * (I 92 4))))) + 5)) ∧ (w32 ((w32 (450 + (w32 (17 * (I 92 4))))) + 5)) < (5120 : Int)) ∧ ((0 ≤ (w32 ((w32 (450 + (w32 (17 * (I 92 4))))) + 6)) ∧ (w32 ((w32 (450 + (w32 (17 * (I 92 4))))) + 6)) < (5120 : Int)) ∧ ((0 ≤ (w32 ((w32 (450 + (w32 (17 * (I 92 4))))) + 7)) ∧ (w32 ((w32 (450 + (w32 (17 * (I 92 4))))) + 7)) < (5120 : Int)) ∧ ((0 ≤ (w32 ((w32 (450 + (w32 (17 * (I 92 4))))) + 8)) ∧ (w32 ((w32 (450 + (w32 (17 * (I 92 4))))) + 8)) < (5120 : Int)) ∧ (Tri G h 222 119 119 261 [some (vr 91), none, none, none, none, none, none, some (vi l7), some (vi (w32 (450 + (w32 (17 * (I 92 4)))))), some (vi 0)] [] (u2 (u2 (u2 (u2 (u2 (u2 (u2 (u2 (u2 (u2 I 92 5 (w32 ((I 92 5) + 1))) 92 ((w32 ((w32 (450 + (w32 (17 * (I 92 4))))) + 0)).toNat) l1) 92 ((w32 ((w32 (450 + (w32 (17 * (I 92 4))))) + 1)).toNat) l2) 92 ((w32 ((w32 (450 + (w32 (17 * (I 92 4))))) + 2)).toNat) l3) 92 ((w32 ((w32 (450 + (w32 (17 * (I 92 4))))) + 3)).toNat) l4) 92 ((w32 ((w32 (450 + (w32 (17 * (I 92 4))))) + 4)).toNat) l5) 92 ((w32 ((w32 (450 + (w32 (17 * (I 92 4))))) + 5)).toNat) l6) 92 ((w32 ((w32 (450 + (w32 (17 * (I 92 4))))) + 6)).toNat) ((u2 (u2 (u2 (u2 (u2 (u2 (u2 I 92 5 (w32 ((I 92 5) + 1))) 92 ((w32 ((w32 (450 + (w32 (17 * (I 92 4))))) + 0)).toNat) l1) 92 ((w32 ((w32 (450 + (w32 (17 * (I 92 4))))) + 1)).toNat) l2) 92 ((w32 ((w32 (450 + (w32 (17 * (I 92 4))))) + 2)).toNat) l3) 92 ((w32 ((w32 (450 + (w32 (17 * (I 92 4))))) + 3)).toNat) l4) 92 ((w32 ((w32 (450 + (w32 (17 * (I 92 4))))) + 4)).toNat) l5) 92 ((w32 ((w32 (450 + (w32 (17 * (I 92 4))))) + 5)).toNat) l6) 92 5)) 92 ((w32 ((w32 (450 + (w32 (17 * (I 92 4))))) + 7)).toNat) 0) 92 ((w32 ((w32 (450 + (w32 (17 * (I 92 4))))) + 8)).toNat) l7, J, PP b) Q))))))))))) ∧ (¬ (l7 ≤ l8) → ((0 ≤ l8 ∧ l8 < (400 : Int)) ∧ ((((97 : Int) ≤ (I 96 l8.toNat) ∧ (I 96 l8.toNat) ≤ (122 : Int)) → (Tri G h 222 119 119 99 [some (vr 91), some (vi l1), some (vi l2), some (vi l3), some (vi l4), some (vi l5), some (vi l6), some (vi l7), some (vi (w32 (l8 + 1)))] [] (I, J, PP b) Q)) ∧ (¬ ((97 : Int) ≤ (I 96 l8.toNat) ∧ (I 96 l8.toNat) ≤ (122 : Int)) → (Q (some (vi (-1))) (I, J, PP b))))))) : Tri G h 222 119 119 99 [some (vr 91), some (vi l1), some (vi l2), some (vi l3), some (vi l4), some (vi l5), some (vi l6), some (vi l7), some (vi l8)] [] (I, J, PP b) Q := wp_at ck222 [(99, [true, true, true, true, true, true, true, true, true]), (261, [true, false, false, false, false, false, false, true, true, true])] 400 (And.intro (fun q1562 => And.intro (show (0 : Int) ≤ 4 ∧ (4 : Int) < ((5120 : Nat) : Int) by decide) (And.intro (show (0 : Int) ≤ 5 ∧ (5 : Int) < ((5120 : Nat) : Int) by decide) (And.intro (show (0 : Int) ≤ 5 ∧ (5 : Int) < ((5120 : Nat) : Int) by decide) (And.intro (H.1 q1562).1 (And.intro ((H.1 q1562).2).1 (And.intro (((H.1 q1562).2).2).1 (And.intro ((((H.1 q1562).2).2).2).1 (And.intro (((((H.1 q1562).2).2).2).2).1 (And.intro ((((((H.1 q1562).2).2).2).2).2).1 (And.intro (show (0 : Int) ≤ 5 ∧ (5 : Int) < ((5120 : Nat) : Int) by decide) (((((((H.1 q1562).2).2).2).2).2).2))))))))))) (fun q1563 => And.intro (H.2 q1563).1 (sx181 (by omega)  (fun q1564 => And.intro (fun _ => ((H.2 q1563).2).1 q1564) (fun z => absurd (show ¬ (1 : Int) = (0 : Int) by decide) z)) (fun q1565 => And.intro (fun z => absurd z (show ¬ (¬ (0 : Int) = (0 : Int)) by decide)) (fun _ => ((H.2 q1563).2).2 q1565)))))
set_option maxRecDepth 100000 in
theorem x222_261 {G : Ctx} {h : Nat} {Q : MP} {I : Nat → Nat → Int} {J : Nat → Nat → BitVec 64} {b : B3} {l7 l8 l9 : Int} (hh : 0 ≤ h) (H : ((l7 ≤ l9) → (Q (some (vi (w32 ((w32 ((I 92 4) + 1)) - 1)))) (u2 I 92 4 (w32 ((I 92 4) + 1)), J, PP b))) ∧ (¬ (l7 ≤ l9) → ((0 ≤ l9 ∧ l9 < (400 : Int)) ∧ ((0 ≤ (w32 ((w32 (l8 + 9)) + l9)) ∧ (w32 ((w32 (l8 + 9)) + l9)) < (5120 : Int)) ∧ (Tri G h 222 119 119 261 [some (vr 91), none, none, none, none, none, none, some (vi l7), some (vi l8), some (vi (w32 (l9 + 1)))] [] (u2 I 92 ((w32 ((w32 (l8 + 9)) + l9)).toNat) (w32 ((I 96 l9.toNat) - 97)), J, PP b) Q))))) : Tri G h 222 119 119 261 [some (vr 91), none, none, none, none, none, none, some (vi l7), some (vi l8), some (vi l9)] [] (I, J, PP b) Q := wp_at ck222 [(99, [true, true, true, true, true, true, true, true, true]), (261, [true, false, false, false, false, false, false, true, true, true])] 400 (And.intro (fun q1566 => And.intro (show (0 : Int) ≤ 4 ∧ (4 : Int) < ((5120 : Nat) : Int) by decide) (And.intro (show (0 : Int) ≤ 4 ∧ (4 : Int) < ((5120 : Nat) : Int) by decide) (And.intro (show (0 : Int) ≤ 4 ∧ (4 : Int) < ((5120 : Nat) : Int) by decide) (H.1 q1566)))) (fun q1567 => H.2 q1567))
theorem x222_m {G : Ctx} {h : Nat} {Q : MP} {I : Nat → Nat → Int} {J : Nat → Nat → BitVec 64} {b : B3} {x y z u v w : Int} (hh : 3 ≤ h) (H : ∀ h, 2 ≤ h → Tri G h 222 119 119 0 [some (vr 91), some (vi x), some (vi y), some (vi z), some (vi u), some (vi v), some (vi w)] [] (I, J, PP b) Q) : TriM G h 222 119 119 [vr 91, vi x, vi y, vi z, vi u, vi v, vi w] (I, J, PP b) Q := TriM_intro (h - 1) (by omega) (by decide) (Nat.le_of_ble_eq_true rfl) (Nat.le_refl _) (Nat.le_refl _) (H (h - 1) (by omega))
theorem w8_id {x : Int} (h1 : -128 ≤ x) (h2 : x < 128) : w8 x = x := by
  unfold w8
  rw [Int32.toInt_toInt8, Int32.toInt_ofInt, Int.bmod_bmod_of_dvd (by decide)]
  show Int.bmod x 256 = x
  exact Int.bmod_eq_of_le (by omega) (by omega)
theorem levR_c {X X' Y Y' : Nat → Int} (m n : Nat) (hx : ∀ i, i < m → X' i = X i) (hy : ∀ j, j < n → Y' j = Y j) : levR X' Y' m n = levR X Y m n := by
  have : ∀ i, i ≤ m → ∀ j, j ≤ n → levR X' Y' i j = levR X Y i j := by
    intro i
    induction i with
    | zero => intro _ j _; rfl
    | succ i ih =>
      intro hi j
      induction j with
      | zero => intro _; rfl
      | succ j ihj =>
        intro hj
        rw [levR_s, levR_s, ih (by omega) j (by omega), ih (by omega) (j + 1) hj, ihj (by omega), hx i (by omega), hy j (by omega)]
  exact this m (Nat.le_refl _) n (Nat.le_refl _)
/-- INV where the tape is empty, the faults are alike, and scratch has changed -/
theorem INV.tp {c : Nat} {I I' : MI} {J J' : MJ} (h : INV c I J) (hf : frK (0 :: 91 :: SCR) I I') (h4 : I' 0 4 = 0) (h11 : I' 91 11 = 0) (h2 : I' 0 2 = I 0 2) (h92 : I' 91 2 = I 91 2) (h5 : I' 91 18 = I' 0 5) (h6 : I' 91 20 = I' 0 6) (hj : ∀ k ∈ [70, 71, 77, 109], J' k = J k) : INV c I' J' := by
  obtain ⟨p0, p1, p2, ⟨a1, a2, a3, a4, a5⟩, ⟨t0, t1, t2⟩, hl, hp, htp, hf2, ⟨k1, k2, k3⟩, hc, hcc⟩ := h
  have e92 := hf 92 (by decide)
  have e2 := hf 2 (by decide)
  have e3 := hf 3 (by decide)
  have e4 := hf 4 (by decide)
  have e6 := hf 6 (by decide)
  have e7 := hf 7 (by decide)
  have e8 := hf 8 (by decide)
  have e9 := hf 9 (by decide)
  have e10 := hf 10 (by decide)
  have e11 := hf 11 (by decide)
  have e12 := hf 12 (by decide)
  refine ⟨p0, p1, p2, ⟨a1.fr e2 e3 e4 (hf 5 (by decide)) e6 (fun j _ => by rw [e92]), a2.fr (by rw [e2]; exact Int.le_refl _) e7 e8 e9 e10 e11 e12 (fun j _ => by rw [e92]), a3.fr (by rw [e2]; exact Int.le_refl _) (hf 22 (by decide)) (hf 23 (by decide)) (hf 24 (by decide)) (fun j _ => by rw [e92]), a4.fr (hf 25 (by decide)) (hf 26 (by decide)) (hf 27 (by decide)) (hf 28 (by decide)) (hf 29 (by decide)) (fun j _ => by rw [e92]), by rw [e92, hf 1 (by decide)]; exact a5⟩, ⟨t0.fr (hf 13 (by decide)) (hf 14 (by decide)) (fun j _ => by rw [e92]), t1.fr (hf 16 (by decide)) (hf 17 (by decide)) (fun j _ => by rw [e92]), t2.fr (hf 19 (by decide)) (hf 20 (by decide)) (fun j _ => by rw [e92])⟩, hl.fr e3 e4 e6 (by rw [e7]) e8 e11 e12 (hj 70 (by decide)) (hj 71 (by decide)), hp.fr e3 e4 e6 e7 e8 e9 e10 e11 e12 (hf 72 (by decide)) (hf 73 (by decide)) (hf 74 (by decide)) (hf 75 (by decide)) (hf 76 (by decide)) (hj 77 (by decide)), ⟨⟨by omega, by omega, by omega⟩, fun i i1 i2 => by omega⟩, ⟨h5, h6⟩, ⟨by rw [h2]; exact k1, by rw [h92, h2]; exact k2, fun q => ?_⟩, ?_, ?_⟩
  · refine (k3 (by rw [← h2]; exact q)).fr (fun k hk2 => hf k ?_) (hf 93 (by decide))
    have : ∀ k, k < 60 → 31 ≤ k → k ∉ 0 :: 91 :: SCR := by decide
    exact this k hk2.2 hk2.1
  · unfold choI; rw [hj 109 (by decide)]; exact hc
  · rw [e7, h2, hf 37 (by decide)]; exact hcc
/-- the same likeness of old entries -/
theorem likI.nw {p0 p1 : List Lin} {I I' : MI} {J J' : MJ} (h : likI p0 p1 I J) (h3 : I' 3 = I 3) (h4 : I' 4 = I 4) (h6 : I' 6 = I 6) (h7 : I 7 0 ≤ I' 7 0) (h8 : ∀ e : Nat, (e : Int) < I 7 0 → ∀ f : Int, 0 ≤ f → f < 6 → fact I' e f = fact I e f) (h11 : ∀ e : Nat, (e : Int) < I 7 0 → I' 11 e = I 11 e) (h12 : ∀ e : Nat, (e : Int) < I 7 0 → ∀ k : Nat, k < 8 → nam I' e k = nam I e k) (hl8 : ∀ e : Nat, (e : Int) < I 7 0 → 1 ≤ I 11 e ∧ I 11 e ≤ 8) (j70 : J' 70 = J 70) (j71 : J' 71 = J 71) : likI p0 p1 I' J' := by
  intro k a b k2 ba a1
  have hh := h k a b k2 ba a1
  unfold bitJ at hh ⊢
  rw [j70, j71]
  refine ⟨fun q => ?_, hh.2⟩
  have g := hh.1 q
  have al : ∀ p : List Lin, alN p I' a b = alN p I a b := by
    intro p
    have e : likeV I' a b = likeV I a b := by
      funext s
      have hb : (b : Int) < I 7 0 := by omega
      have ha := g.1
      have la := hl8 a ha
      have lb := hl8 b hb
      unfold likeV
      rw [toN, toN, h11 a ha, h11 b hb, h8 a ha 5 (by omega) (by omega), h8 b hb 5 (by omega) (by omega), h8 a ha 2 (by omega) (by omega), h8 b hb 2 (by omega) (by omega), h8 a ha 3 (by omega) (by omega), h8 b hb 3 (by omega) (by omega), h8 a ha 0 (by omega) (by omega), h8 b hb 0 (by omega) (by omega), h8 a ha 1 (by omega) (by omega), h8 b hb 1 (by omega) (by omega), h12 a ha 0 (by omega), h12 b hb 0 (by omega)]
      rw [levR_c (I 11 a).toNat (I 11 b).toNat (fun i hi => h12 a ha i (by omega)) (fun i hi => h12 b hb i (by omega))]
      unfold wayF
      rw [h3, h4, h6]
    unfold alN alikB
    rw [e]
  rw [al, al]
  exact ⟨by omega, g.2⟩
theorem ew450 {told i : Nat} (ht : told < 120) (hi : i < 8) : w32 (w32 (450 + 17 * (told : Int) + 9) + (i : Int)) = ((450 + 17 * told + 9 + i : Nat) : Int) ∧ (0 : Int) ≤ ((450 + 17 * told + 9 + i : Nat) : Int) ∧ ((450 + 17 * told + 9 + i : Nat) : Int) < 5120 := by
  refine ⟨?_, by omega, by omega⟩
  rw [w32_id (x := 450 + 17 * (told : Int) + 9) (by omega) (by omega), w32_id (by omega) (by omega)]
  omega
section ENTRY
variable {G : Ctx} {h n : Nat} {I : MI} {J : MJ} {b : B3} {x y z u v w : Int}
theorem s148 {K : Int → MI → MJ → B3 → Prop} (hh : 2 ≤ h) (k1 : 1 ≤ x → x ≤ 8 → (∀ k : Nat, (k : Int) < x → 97 ≤ I 61 k ∧ I 61 k ≤ 122) → K 1 I J b) (k0 : ¬ (1 ≤ x ∧ x ≤ 8 ∧ ∀ k : Nat, (k : Int) < x → 97 ≤ I 61 k ∧ I 61 k ≤ 122) → K 0 I J b) : TriM G h 148 119 119 [vr 0, vi x] (I, J, PP b) (cIN K) := by
  have loop : ∀ h, 1 ≤ h → 1 ≤ x → x ≤ 8 → ∀ m i : Nat, (i : Int) + m = x → (∀ k : Nat, k < i → 97 ≤ I 61 k ∧ I 61 k ≤ 122) → Tri G h 148 119 119 15 [some (vr 0), some (vi x), some (vi (i : Int))] [] (I, J, PP b) (cIN K) := by
    intro h hh x1 x2 m
    induction m with
    | zero =>
      intro i hi ho
      exact x148_15 hh ⟨fun _ => cIN_r fun _ => k1 x1 x2 (fun k hk => ho k (by omega)), fun q => by omega⟩
    | succ m ih =>
      intro i hi ho
      refine x148_15 hh ?_
      rw [toN, w32_id (by omega) (by omega)]
      refine ⟨fun q => by omega, fun _ => ⟨by omega, fun q => ih (i + 1) (by omega) (fun k hk => ?_), fun q => cIN_r fun _ => k0 (fun z => q (z.2.2 i (by omega)))⟩⟩
      by_cases e : k = i
      · rw [e]; exact q
      · exact ho k (by omega)
  refine x148_m hh (fun h hh => x148 (by omega) ⟨fun q => cIN_r fun _ => k0 (by omega), fun q => ⟨fun q2 => loop h hh (by omega) q2 x.toNat 0 (by omega) (fun k hk => by omega), fun q2 => cIN_r fun _ => k0 (by omega)⟩⟩)
theorem s23 {K : MI → MJ → B3 → Prop} {told L : Nat} (hh : 2 ≤ h) (hto : I 7 0 = told) (ht : told < 120) (hL : 1 ≤ L ∧ L ≤ 8) (hn : ∀ k : Nat, k < L → 97 ≤ I 61 k ∧ I 61 k ≤ 122) (k : ∀ I2, frK [11, 12] I I2 → I2 11 told = L → (∀ j, j ≠ told → I2 11 j = I 11 j) → (∀ i : Nat, i < L → I2 12 (told * 8 + i) = I 61 i - 97) → (∀ j, j < told * 8 ∨ told * 8 + 8 ≤ j → I2 12 j = I 12 j) → K I2 J b) : TriM G h 23 119 119 [vr 7, vr 61, vi (L : Int)] (I, J, PP b) (cVN K) := by
  have loop : ∀ h, 1 ≤ h → ∀ (m i : Nat) (I' : MI), i + m = 8 → frK [11, 12] I I' → I' 11 told = L → (∀ j, j ≠ told → I' 11 j = I 11 j) → (∀ q : Nat, q < i → q < L → I' 12 (told * 8 + q) = I 61 q - 97) → (∀ j, j < told * 8 ∨ told * 8 + 8 ≤ j → I' 12 j = I 12 j) → Tri G h 23 119 119 27 [some (vr 7), some (vr 61), some (vi (L : Int)), some (vi (i : Int))] [] (I', J, PP b) (cVN K) := by
    intro h hh m
    induction m with
    | zero =>
      intro i I' hi hf h11 h11o h12 h12o
      exact x23_27 (by omega) ⟨fun _ => cVN_r (k I' hf h11 h11o (fun q hq => h12 q (by omega) hq) h12o), fun q => by omega⟩
    | succ m ih =>
      intro i I' hi hf h11 h11o h12 h12o
      have e7 : I' 7 0 = told := by rw [hf 7 (by decide)]; exact hto
      have ew : w32 (w32 ((told : Int) * 8) + (i : Int)) = ((told * 8 + i : Nat) : Int) := by
        rw [w32_id (x := (told : Int) * 8) (by omega) (by omega), w32_id (by omega) (by omega)]
        omega
      have go : ∀ v : Int, (i < L → v = I 61 i - 97) → Tri G h 23 119 119 27 [some (vr 7), some (vr 61), some (vi (L : Int)), some (vi ((i : Int) + 1))] [] (u2 I' 12 (told * 8 + i) v, J, PP b) (cVN K) := by
        intro v hv
        refine ih (i + 1) _ (by omega) (hf.u (by decide)) (by rw [u2_ne (by decide)]; exact h11) (fun j hj => by rw [u2_ne (by decide)]; exact h11o j hj) (fun q hq hqL => ?_) (fun j hj => ?_)
        · rw [u2_at]
          by_cases e : q = i
          · rw [if_pos (by omega), e]
            exact hv (by omega)
          · rw [if_neg (by omega)]
            exact h12 q (by omega) hqL
        · rw [u2_at, if_neg (by omega)]
          exact h12o j hj
      refine x23_27 (by omega) ?_
      rw [e7, ew, toN, toN, w32_id (x := (i : Int) + 1) (by omega) (by omega)]
      refine ⟨fun q => by omega, fun _ => ⟨fun q => ⟨by omega, go _ (fun z => by omega)⟩, fun q => ⟨fun q2 => by omega, fun q2 => ⟨by omega, by omega, go _ (fun z => ?_)⟩⟩⟩⟩
      have := hn i z
      rw [hf 61 (by decide), w32_id (by omega) (by omega), w8_id (x := I 61 i - 97) (by omega) (by omega), w8_id (x := I 61 i - 97) (by omega) (by omega)]
  refine x23_m hh (fun h hh => x23 (by omega) ?_)
  rw [hto, toN]
  refine ⟨fun _ => ⟨by omega, loop h (by omega) 8 0 _ (by omega) (frK.r.u (by decide)) ?_ (fun j hj => u2j hj) (fun q hq => by omega) (fun j _ => by rw [u2_ne (by decide)])⟩, fun q => by omega⟩
  rw [u2e]
  omega
/-- a new entry on both sides -/
def NE1 (I I' : MI) (told L : Nat) (T x y z u v w : Int) : Prop := frK [0, 7, 8, 9, 10, 11, 12, 72] I I' ∧ (I' 0 4 = 0 ∧ ∀ j, j ≠ 4 → I' 0 j = I 0 j) ∧ (I' 7 0 = (told : Int) + 1 ∧ I' 7 1 = T + 1 ∧ I' 7 2 = I 7 2) ∧ (∀ j, I' 8 j = if j = told * 6 + 5 then w else if j = told * 6 + 4 then v else if j = told * 6 + 3 then u else if j = told * 6 + 2 then z else if j = told * 6 + 1 then y else if j = told * 6 then x else I 8 j) ∧ (∀ j, I' 9 j = if j = told then T + 1 else I 9 j) ∧ (∀ j, I' 10 j = if j = told then -1 else I 10 j) ∧ (I' 11 told = L ∧ ∀ j, j ≠ told → I' 11 j = I 11 j) ∧ ((∀ i : Nat, i < L → I' 12 (told * 8 + i) = I 61 i - 97) ∧ ∀ j, j < told * 8 ∨ told * 8 + 8 ≤ j → I' 12 j = I 12 j) ∧ I' 72 3 = 1
def NE2 (I I' : MI) (told L : Nat) (T x y z u v w : Int) : Prop := frK [91, 92] I I' ∧ (I' 91 11 = 0 ∧ ∀ j, j ≠ 11 → I' 91 j = I 91 j) ∧ (I' 92 4 = (told : Int) + 1 ∧ I' 92 5 = T + 1) ∧ (I' 92 (450 + 17 * told) = x ∧ I' 92 (450 + 17 * told + 1) = y ∧ I' 92 (450 + 17 * told + 2) = z ∧ I' 92 (450 + 17 * told + 3) = u ∧ I' 92 (450 + 17 * told + 4) = v ∧ I' 92 (450 + 17 * told + 5) = w ∧ I' 92 (450 + 17 * told + 6) = T + 1 ∧ I' 92 (450 + 17 * told + 7) = 0 ∧ I' 92 (450 + 17 * told + 8) = L) ∧ (∀ i : Nat, i < L → I' 92 (450 + 17 * told + 9 + i) = I 96 i - 97) ∧ ∀ j, j ≠ 4 → j ≠ 5 → (j < 450 + 17 * told ∨ 450 + 17 * told + 17 ≤ j) → I' 92 j = I 92 j
theorem INV.ne {told L : Nat} {T : Int} {I1 I2 : MI} (hI : INV n I J) (hn : n < 64) (hto : I 7 0 = told) (ht : told < 120) (hT : I 7 1 = T) (hL : 1 ≤ L ∧ L ≤ 8) (hx : 0 ≤ x ∧ x < 2) (hy : 0 ≤ y ∧ y < 11) (hz : 0 ≤ z ∧ z < I 2 0) (hu : 0 ≤ u ∧ u < 100) (hv : 0 ≤ v ∧ v < 1440) (hw : 0 ≤ w ∧ w < 120) (hnm : ∀ k : Nat, k < L → (97 ≤ I 61 k ∧ I 61 k ≤ 122) ∧ I 96 k = I 61 k) (h1 : NE1 I I1 told L T x y z u v w) (h2 : NE2 I1 I2 told L T x y z u v w) : INV (n + 1) I2 J := by
  obtain ⟨p0, p1, p2, ⟨a1, a2, a3, a4, a5⟩, ⟨t0, t1, t2⟩, hl, hp, htp, hf2, ⟨k1, k2, k3⟩, hc, hcc⟩ := hI
  obtain ⟨f1, ⟨c1, c2⟩, ⟨d1, d2, d3⟩, g8, g9, g10, ⟨g11, g11o⟩, ⟨g12, g12o⟩, g72⟩ := h1
  obtain ⟨f2, ⟨c3, c4⟩, ⟨e1, e2⟩, ⟨r0, r1, r2, r3, r4, r5, r6, r7, r8⟩, r9, ro⟩ := h2
  obtain ⟨b1, b2, b3, b4⟩ := a2
  simp only [Nat.reduceAdd] at b1 b2 b3 b4
  have ff : ∀ k, k ∉ [0, 7, 8, 9, 10, 11, 12, 72, 91, 92] → I2 k = I k := fun k hk => by
    rw [f2 k (fun q => hk (by revert q; simp; omega)), f1 k (fun q => hk (by revert q; simp; omega))]
  have q8 : ∀ j, I2 8 j = I1 8 j := fun j => by rw [f2 8 (by decide)]
  have q9 : ∀ j, I2 9 j = I1 9 j := fun j => by rw [f2 9 (by decide)]
  have q10 : ∀ j, I2 10 j = I1 10 j := fun j => by rw [f2 10 (by decide)]
  have q11 : I2 11 told = L := by rw [f2 11 (by decide)]; exact g11
  have q11o : ∀ j, j ≠ told → I2 11 j = I 11 j := fun j hj => by rw [f2 11 (by decide)]; exact g11o j hj
  have q12 : ∀ i : Nat, i < L → I2 12 (told * 8 + i) = I 61 i - 97 := fun i hi => by rw [f2 12 (by decide)]; exact g12 i hi
  have q12o : ∀ j, j < told * 8 ∨ told * 8 + 8 ≤ j → I2 12 j = I 12 j := fun j hj => by rw [f2 12 (by decide)]; exact g12o j hj
  have q7 : I2 7 0 = (told : Int) + 1 ∧ I2 7 1 = T + 1 ∧ I2 7 2 = I 7 2 := by rw [f2 7 (by decide)]; exact ⟨d1, d2, d3⟩
  have qw : ∀ j, j ≠ 4 → j ≠ 5 → (j < 450 + 17 * told ∨ 450 + 17 * told + 17 ≤ j) → I2 92 j = I 92 j := fun j h1 h2 h3 => by rw [ro j h1 h2 h3, f1 92 (by decide)]
  have q0 : ∀ j, j ≠ 4 → I2 0 j = I 0 j := fun j hj => by rw [f2 0 (by decide)]; exact c2 j hj
  have q91 : ∀ j, j ≠ 11 → I2 91 j = I 91 j := fun j hj => by rw [c4 j hj, f1 91 (by decide)]
  have h7 := q7.1
  have h71 := q7.2.1
  have old : ∀ e : Nat, e < told → rEnt 0 92 I2 e := by
    intro e he
    refine (b4 e (by omega) (by omega)).fr (by omega) (by omega) ?_ ?_ (fun j => ?_) ?_ ?_ ?_ (fun j => ?_) (fun j hj => ?_)
    · simp only [Nat.reduceAdd]
      rw [ff 2 (by decide)]
      exact Int.le_refl _
    · simp only [Nat.reduceAdd]
      omega
    · simp only [Nat.reduceAdd]
      by_cases hj : 0 ≤ j ∧ j < 6
      · refine Or.inl ?_
        rw [q8, g8, if_neg (by omega), if_neg (by omega), if_neg (by omega), if_neg (by omega), if_neg (by omega), if_neg (by omega)]
      · exact Or.inr hj
    · simp only [Nat.reduceAdd]
      rw [q9, g9, if_neg (by omega)]
    · simp only [Nat.reduceAdd]
      rw [q10, g10, if_neg (by omega)]
    · simp only [Nat.reduceAdd]
      exact q11o _ (by omega)
    · simp only [Nat.reduceAdd]
      by_cases hj : 0 ≤ j ∧ j < 8
      · exact Or.inl (q12o _ (by omega))
      · exact Or.inr hj
    · exact qw _ (by omega) (by omega) (by omega)
  have new : rEnt 0 92 I2 told := by
    have w0 : (450 + 17 * (told : Int)).toNat = 450 + 17 * told := by omega
    have wj : ∀ j : Nat, (450 + 17 * (told : Int) + (j : Int)).toNat = 450 + 17 * told + j := fun j => by omega
    have m0 : ((told : Int) * 6).toNat = told * 6 := by omega
    have mj : ∀ j : Nat, ((told : Int) * 6 + (j : Int)).toNat = told * 6 + j := fun j => by omega
    have w1 := wj 1
    have w2 := wj 2
    have w3 := wj 3
    have w4 := wj 4
    have w5 := wj 5
    have w6 := wj 6
    have w7 := wj 7
    have w8' := wj 8
    have m1 := mj 1
    have m2 := mj 2
    have m3 := mj 3
    have m4 := mj 4
    have m5 := mj 5
    simp only [Int.ofNat_eq_natCast, Int.cast_ofNat_Int] at w1 w2 w3 w4 w5 w6 w7 w8' m1 m2 m3 m4 m5
    have v0 : I2 8 (told * 6) = x := by rw [q8, g8, if_neg (by omega), if_neg (by omega), if_neg (by omega), if_neg (by omega), if_neg (by omega), if_pos rfl]
    have v1 : I2 8 (told * 6 + 1) = y := by rw [q8, g8, if_neg (by omega), if_neg (by omega), if_neg (by omega), if_neg (by omega), if_pos rfl]
    have v2 : I2 8 (told * 6 + 2) = z := by rw [q8, g8, if_neg (by omega), if_neg (by omega), if_neg (by omega), if_pos rfl]
    have v3 : I2 8 (told * 6 + 3) = u := by rw [q8, g8, if_neg (by omega), if_neg (by omega), if_pos rfl]
    have v4 : I2 8 (told * 6 + 4) = v := by rw [q8, g8, if_neg (by omega), if_pos rfl]
    have v5 : I2 8 (told * 6 + 5) = w := by rw [q8, g8, if_pos rfl]
    unfold rEnt
    simp only [Nat.reduceAdd]
    rw [w0, w1, w2, w3, w4, w5, w6, w7, w8', m0, m1, m2, m3, m4, m5, toN, v0, v1, v2, v3, v4, v5, r0, r1, r2, r3, r4, r5, r6, r7, r8, q9, g9, if_pos rfl, q10, g10, if_pos rfl, q11, ff 2 (by decide), h71]
    refine ⟨⟨rfl, rfl, rfl, rfl, rfl, rfl⟩, ⟨hx, hy, hz, hu, hv, hw⟩, ⟨rfl, by omega, by omega⟩, Or.inl ⟨rfl, rfl⟩, ⟨rfl, by omega, by omega⟩, fun k kk1 kk2 => ?_⟩
    obtain ⟨i, rfl⟩ : ∃ i : Nat, k = i := ⟨k.toNat, by omega⟩
    have hi := hnm i (by omega)
    rw [show (450 + 17 * (told : Int) + 9 + (i : Int)).toNat = 450 + 17 * told + 9 + i by omega, show ((told : Int) * 8 + (i : Int)).toNat = told * 8 + i by omega, r9 i (by omega), q12 i (by omega), f1 96 (by decide), hi.2]
    exact ⟨rfl, by omega, by omega⟩
  have hB : rBook 0 92 I2 := by
    refine ⟨?_, ?_, ?_, fun e e1' e2' => ?_⟩
    · simp only [Nat.reduceAdd]
      exact ⟨by omega, by omega, by omega⟩
    · simp only [Nat.reduceAdd]
      exact ⟨by omega, by omega, by omega⟩
    · simp only [Nat.reduceAdd]
      rw [q7.2.2, qw 6 (by decide) (by decide) (by omega)]
      exact ⟨b3.1, by omega, b3.2.2⟩
    · simp only [Nat.reduceAdd] at e2'
      obtain ⟨e', rfl⟩ : ∃ e' : Nat, e = e' := ⟨e.toNat, by omega⟩
      by_cases he : e' = told
      · rw [he]
        exact new
      · exact old e' (by omega)
  refine ⟨p0, p1, p2, ⟨a1.fr (ff 2 (by decide)) (ff 3 (by decide)) (ff 4 (by decide)) (ff 5 (by decide)) (ff 6 (by decide)) (fun j hj => qw j (by omega) (by omega) (by omega)), hB, a3.fr ?_ (ff 22 (by decide)) (ff 23 (by decide)) (ff 24 (by decide)) (fun j hj => qw j (by omega) (by omega) (by omega)), a4.fr (ff 25 (by decide)) (ff 26 (by decide)) (ff 27 (by decide)) (ff 28 (by decide)) (ff 29 (by decide)) (fun j hj => qw j (by omega) (by omega) (by omega)), ?_⟩, ⟨t0.fr (ff 13 (by decide)) (ff 14 (by decide)) (fun j hj => qw j (by omega) (by omega) (by omega)), t1.fr (ff 16 (by decide)) (ff 17 (by decide)) (fun j hj => qw j (by omega) (by omega) (by omega)), t2.fr (ff 19 (by decide)) (ff 20 (by decide)) (fun j hj => qw j (by omega) (by omega) (by omega))⟩, ?_, perI.st (by rw [f2 72 (by decide)]; exact g72), ?_, ?_, ⟨?_, ?_, fun q => ?_⟩, hc, ?_⟩
  · simp only [Nat.reduceAdd]
    rw [ff 2 (by decide)]
    exact Int.le_refl _
  · rw [qw 0 (by decide) (by decide) (by omega), ff 1 (by decide)]
    exact a5
  · refine hl.nw (ff 3 (by decide)) (ff 4 (by decide)) (ff 6 (by decide)) (by omega) (fun e he f hf0 hf6 => ?_) (fun e he => q11o e (by omega)) (fun e he k hk => ?_) (fun e he => ?_) rfl rfl
    · unfold fact
      rw [q8, g8, if_neg (by omega), if_neg (by omega), if_neg (by omega), if_neg (by omega), if_neg (by omega), if_neg (by omega)]
    · unfold nam
      exact q12o _ (by omega)
    · have := (b4 e (by omega) (by omega)).2.2.2.2.1
      simp only [Nat.reduceAdd] at this
      rw [toN] at this
      exact this.2
  · refine ⟨⟨by rw [f2 0 (by decide)]; omega, by rw [f2 0 (by decide)]; omega, by rw [f2 0 (by decide), c3, c1]⟩, fun i i1 i2 => ?_⟩
    rw [f2 0 (by decide), c1] at i2
    omega
  · rw [q91 18 (by decide), q91 20 (by decide), q0 5 (by decide), q0 6 (by decide)]
    exact hf2
  · rw [q0 2 (by decide)]
    exact k1
  · rw [q91 2 (by decide), q0 2 (by decide)]
    exact k2
  · rw [q0 2 (by decide)] at q
    refine (k3 q).fr (fun k hk2 => ff k ?_) (ff 93 (by decide))
    have : ∀ k, k < 60 → 31 ≤ k → k ∉ [0, 7, 8, 9, 10, 11, 12, 72, 91, 92] := by decide
    exact this k hk2.2 hk2.1
  · rw [q0 2 (by decide), ff 37 (by decide)]
    exact ⟨by omega, fun q => by have := hcc.2.1 q; omega, by omega⟩
theorem s222_w {K : Int → MI → MJ → B3 → Prop} {told L : Nat} {I0 : MI} {T : Int} (hh : 0 ≤ h) (ht : told < 120) (hL : 1 ≤ L ∧ L ≤ 8) (hn : ∀ k : Nat, k < L → 97 ≤ I0 96 k ∧ I0 96 k ≤ 122) (k : ∀ I2, NE2 I0 I2 told L T x y z u v w → K told I2 J b) : ∀ (m i : Nat) (I' : MI), i + m = L → frK [91, 92] I0 I' → (I' 91 11 = 0 ∧ ∀ j, j ≠ 11 → I' 91 j = I0 91 j) → (I' 92 4 = (told : Int) ∧ I' 92 5 = T + 1) → (I' 92 (450 + 17 * told) = x ∧ I' 92 (450 + 17 * told + 1) = y ∧ I' 92 (450 + 17 * told + 2) = z ∧ I' 92 (450 + 17 * told + 3) = u ∧ I' 92 (450 + 17 * told + 4) = v ∧ I' 92 (450 + 17 * told + 5) = w ∧ I' 92 (450 + 17 * told + 6) = T + 1 ∧ I' 92 (450 + 17 * told + 7) = 0 ∧ I' 92 (450 + 17 * told + 8) = L) → (∀ q : Nat, q < i → I' 92 (450 + 17 * told + 9 + q) = I0 96 q - 97) → (∀ j, j ≠ 4 → j ≠ 5 → (j < 450 + 17 * told ∨ 450 + 17 * told + 17 ≤ j) → I' 92 j = I0 92 j) → Tri G h 222 119 119 261 [some (vr 91), none, none, none, none, none, none, some (vi (L : Int)), some (vi (450 + 17 * (told : Int))), some (vi (i : Int))] [] (I', J, PP b) (cIN K) := by
  intro m
  induction m with
  | zero =>
    intro i I' hi hf h91 h45 hr h9 ho
    refine x222_261 hh ⟨fun _ => cIN_r fun _ => ?_, fun q => by omega⟩
    rw [h45.1, w32_id (x := (told : Int) + 1) (by omega) (by omega), w32_id (by omega) (by omega), show (told : Int) + 1 - 1 = told by omega]
    refine k _ ⟨hf.u (by decide), ?_, ?_, ?_, fun q hq => ?_, fun j h1 h2 h3 => ?_⟩
    · rw [u2_ne (by decide)]
      exact h91
    · rw [u2e, u2j (by decide)]
      exact ⟨rfl, h45.2⟩
    · rw [u2j (by omega), u2j (by omega), u2j (by omega), u2j (by omega), u2j (by omega), u2j (by omega), u2j (by omega), u2j (by omega), u2j (by omega)]
      exact hr
    · rw [u2j (by omega)]
      exact h9 q (by omega)
    · rw [u2j h1]
      exact ho j h1 h2 h3
  | succ m ih =>
    intro i I' hi hf h91 h45 hr h9 ho
    have hni := hn i (by omega)
    refine x222_261 hh ?_
    have hi8 : i < 8 := by omega
    rw [(ew450 ht hi8).1, toN, toN, hf 96 (by decide), w32_id (x := (i : Int) + 1) (by omega) (by omega), w32_id (x := I0 96 i - 97) (by omega) (by omega)]
    refine ⟨fun q => by omega, fun _ => ⟨by omega, (ew450 ht hi8).2, ih (i + 1) _ (by omega) (hf.u (by decide)) ?_ ?_ ?_ (fun q hq => ?_) (fun j h1 h2 h3 => ?_)⟩⟩
    · rw [u2_ne (by decide)]
      exact h91
    · rw [u2j (by omega), u2j (by omega)]
      exact h45
    · rw [u2j (by omega), u2j (by omega), u2j (by omega), u2j (by omega), u2j (by omega), u2j (by omega), u2j (by omega), u2j (by omega), u2j (by omega)]
      exact hr
    · rw [u2_at]
      by_cases e : q = i
      · rw [if_pos (by omega), e]
      · rw [if_neg (by omega)]
        exact h9 q (by omega)
    · rw [u2j (by omega)]
      exact ho j h1 h2 h3
theorem s222_l {K : Int → MI → MJ → B3 → Prop} {told L : Nat} {I0 : MI} {T : Int} (hh : 1 ≤ h) (hf : frK [91] I0 I) (h91 : I 91 11 = 0 ∧ ∀ j, j ≠ 11 → I 91 j = I0 91 j) (h4 : I0 92 4 = told) (h5 : I0 92 5 = T) (hT : 0 ≤ T ∧ T < 1000) (ht : told < 120) (hL : 1 ≤ L ∧ L ≤ 8) (k : (∀ k : Nat, k < L → 97 ≤ I0 96 k ∧ I0 96 k ≤ 122) → ∀ I2, NE2 I0 I2 told L T x y z u v w → K told I2 J b) (k0 : ¬ (∀ k : Nat, k < L → 97 ≤ I0 96 k ∧ I0 96 k ≤ 122) → K (-1) I J b) : ∀ (m i : Nat), i + m = L → (∀ q : Nat, q < i → 97 ≤ I0 96 q ∧ I0 96 q ≤ 122) → Tri G h 222 119 119 99 [some (vr 91), some (vi x), some (vi y), some (vi z), some (vi u), some (vi v), some (vi w), some (vi (L : Int)), some (vi (i : Int))] [] (I, J, PP b) (cIN K) := by
  intro m
  induction m with
  | zero =>
    intro i hi ho
    have ho2 : ∀ k : Nat, k < L → 97 ≤ I0 96 k ∧ I0 96 k ≤ 122 := fun k hk => ho k (by omega)
    refine x222_99 hh ?_
    have e92 := hf 92 (by decide)
    have w0 : w32 (450 + w32 (17 * (told : Int))) = 450 + 17 * (told : Int) := by
      rw [w32_id (x := 17 * (told : Int)) (by omega) (by omega), w32_id (by omega) (by omega)]
    have wj : ∀ j : Nat, j < 10 → w32 (450 + 17 * (told : Int) + (j : Int)) = ((450 + 17 * told + j : Nat) : Int) := fun j hj => by
      rw [w32_id (by omega) (by omega)]
      omega
    have w00 := wj 0 (by omega)
    have w1 := wj 1 (by omega)
    have w2 := wj 2 (by omega)
    have w3 := wj 3 (by omega)
    have w4 := wj 4 (by omega)
    have w5 := wj 5 (by omega)
    have w6 := wj 6 (by omega)
    have w7 := wj 7 (by omega)
    have w8' := wj 8 (by omega)
    simp only [Int.ofNat_eq_natCast, Int.cast_ofNat_Int] at w00 w1 w2 w3 w4 w5 w6 w7 w8'
    rw [e92, h4, h5, w0, w00, w1, w2, w3, w4, w5, w6, w7, w8', w32_id (x := T + 1) (by omega) (by omega)]
    simp only [toN]
    refine ⟨fun _ => ⟨by omega, by omega, by omega, by omega, by omega, by omega, by omega, by omega, by omega, ?_⟩, fun q => by omega⟩
    refine s222_w (I0 := I0) (T := T) (Nat.zero_le _) ht hL ho2 (k ho2) L 0 _ (by omega) ?_ ?_ ?_ ?_ (fun q hq => by omega) (fun j h1 h2 h3 => ?_)
    · exact ((((((((((hf.mo (by decide)).u (by decide)).u (by decide)).u (by decide)).u (by decide)).u (by decide)).u (by decide)).u (by decide)).u (by decide)).u (by decide)).u (by decide)
    · simp (disch := decide) only [u2_ne]
      exact h91
    · simp (disch := omega) only [u2j, u2e]
      rw [e92, h4]
      exact ⟨rfl, trivial⟩
    · simp (disch := omega) only [u2j, u2e]
      simp
      exact u2e
    · simp (disch := omega) only [u2j]
      rw [e92]
  | succ m ih =>
    intro i hi ho
    refine x222_99 hh ⟨fun q => by omega, fun _ => ⟨by omega, ?_⟩⟩
    rw [toN, hf 96 (by decide), w32_id (by omega) (by omega)]
    refine ⟨fun q => ih (i + 1) (by omega) (fun q' hq' => ?_), fun q => cIN_r fun _ => k0 (fun zz => q (zz i (by omega)))⟩
    by_cases e : q' = i
    · rw [e]; exact q
    · exact ho q' (by omega)
theorem pub_entry (hI : INV n I J) (hn : n < 64) (hh : 40 ≤ h) : PairI G h 147 222 [vi x, vi y, vi z, vi u, vi v, vi w] (n + 1) I J b := by
  have hI2 := hI.suc hn
  obtain ⟨hT, hB, htp, hfl, h92, hcn⟩ : rTown 0 92 I ∧ rBook 0 92 I ∧ rTape I ∧ (I 91 18 = I 0 5 ∧ I 91 20 = I 0 6) ∧ I 91 2 = I 0 2 ∧ I 7 1 ≤ n := by
    obtain ⟨p0, p1, p2, ⟨a1, a2, a3, a4, a5⟩, -, -, -, htp, hf2, ⟨k1, k2, k3⟩, hc, hcc⟩ := hI
    exact ⟨a1, a2, htp, hf2, k2, hcc.1⟩
  have t1 := hT.1
  have b1 := hB.1
  have b2 := hB.2.1
  simp only [Nat.reduceAdd] at t1 b1 b2
  obtain ⟨⟨l0, l1, l2⟩, htx⟩ := htp
  obtain ⟨L, hL⟩ : ∃ L : Nat, I 0 4 = L := ⟨(I 0 4).toNat, by omega⟩
  obtain ⟨told, hto⟩ : ∃ t : Nat, I 7 0 = t := ⟨(I 7 0).toNat, by omega⟩
  have tb : ∀ k : Nat, k < L → ((97 ≤ I 61 k ∧ I 61 k ≤ 122) ↔ (97 ≤ I 96 k ∧ I 96 k ≤ 122)) ∧ (97 ≤ I 61 k → I 61 k ≤ 122 → I 96 k = I 61 k) := by
    intro k hk
    have := htx k (by omega) (by omega)
    rw [toN] at this
    obtain ⟨g1, g2, g3⟩ := this
    split at g3 <;> omega
  have emp : ∀ Ia : MI, frK [0, 91] I Ia → Ia 0 4 = 0 → (∀ j, j ≠ 4 → Ia 0 j = I 0 j) → Ia 91 11 = 0 → (∀ j, j ≠ 11 → Ia 91 j = I 91 j) → INV (n + 1) Ia J := by
    intro Ia f g1 g2 g3 g4
    exact hI2.tp (f.mo (by decide)) g1 g3 (g2 2 (by decide)) (g4 2 (by decide)) (by rw [g4 18 (by decide), g2 5 (by decide)]; exact hfl.1) (by rw [g4 20 (by decide), g2 6 (by decide)]; exact hfl.2) (fun _ _ => rfl)
  have e0 : INV (n + 1) (u2 (u2 I 0 4 0) 91 11 0) J := emp _ ((frK.r.u (by decide)).u (by decide)) (by rw [u2_ne (by decide), u2e]) (fun j hj => by rw [u2_ne (by decide), u2j hj]) u2e (fun j hj => by rw [u2j hj, u2_ne (by decide)])
  have no : ¬ ((0 ≤ x ∧ x < 2) ∧ (0 ≤ y ∧ y < 11) ∧ (0 ≤ z ∧ z < I 2 0) ∧ (0 ≤ u ∧ u < 100) ∧ (0 ≤ v ∧ v < 1440) ∧ (0 ≤ w ∧ w < 120) ∧ (1 ≤ I 0 4 ∧ I 0 4 ≤ 8 ∧ ∀ k : Nat, (k : Int) < I 0 4 → 97 ≤ I 61 k ∧ I 61 k ≤ 122) ∧ I 7 0 < 120) → cIN (fun x_1 I1 J1 b1 => TriM G h 222 119 119 [vr 91, vi x, vi y, vi z, vi u, vi v, vi w] (I1, J1, PP b1) (cIN fun y I2 J2 _ => x_1 = y ∧ INV (n + 1) I2 J2)) (some (vi (-1))) (u2 I 0 4 0, J, PP b) := by
    intro hx
    refine cIN_r fun _ => x222_m (by omega) fun h2 hh2 => x222 (by omega) ?_
    have fin : cIN (fun y I2 J2 _ => -1 = y ∧ INV (n + 1) I2 J2) (some (vi (-1))) (u2 (u2 I 0 4 0) 91 11 0, J, PP b) := cIN_r fun _ => ⟨rfl, e0⟩
    rw [u2_ne (a := 92) (by decide), u2_ne (a := 91) (by decide), t1.2.2, b1.2.2, l2]
    refine ⟨fun q1 => ⟨fun q2 => ⟨by omega, fun q3 => ⟨fun q4 => ⟨fun q5 => ⟨fun q6 => ⟨fun q7 => ⟨fun q8 => ?_, fun _ => fin⟩, fun _ => fin⟩, fun _ => fin⟩, fun _ => fin⟩, fun _ => fin⟩, fun _ => fin⟩, fun _ => fin⟩, fun _ => fin⟩
    rw [hL]
    refine s222_l (I0 := u2 I 0 4 0) (told := told) (T := I 7 1) (by omega) (frK.r.u (by decide)) ⟨u2e, fun j hj => u2j hj⟩ (by rw [u2_ne (by decide)]; omega) (by rw [u2_ne (by decide)]; exact b2.2.2) (by omega) (by omega) (by omega) (fun hk I2 hN => ?_) (fun _ => ⟨rfl, e0⟩) L 0 (by omega) (fun q hq => by omega)
    refine absurd ⟨by omega, by omega, q3, by omega, by omega, by omega, ⟨by omega, by omega, fun k hk2 => ?_⟩, by omega⟩ hx
    have := hk k (by omega)
    rw [u2_ne (by decide)] at this
    exact (tb k (by omega)).1.2 this
  refine x147_m (by omega) (fun h2 hh2 => x147 (by omega) ⟨fun q1 => ⟨fun q2 => ⟨fun q3 => ⟨fun q4 => ⟨fun q5 => ⟨fun q6 => ?_, fun q => no (by omega)⟩, fun q => no (by omega)⟩, fun q => no (by omega)⟩, fun q => ⟨fun _ => ⟨fun _ => ⟨fun _ => no (by omega), fun _ => no (by omega)⟩, fun _ => no (by omega)⟩, fun _ => no (by omega)⟩⟩, fun q => ⟨fun _ => ⟨fun _ => ⟨fun _ => no (by omega), fun _ => no (by omega)⟩, fun _ => no (by omega)⟩, fun _ => no (by omega)⟩⟩, fun q => ⟨fun _ => ⟨fun _ => ⟨fun _ => no (by omega), fun _ => no (by omega)⟩, fun _ => no (by omega)⟩, fun _ => no (by omega)⟩⟩)
  have e61 : (u2 I 0 4 0) 61 = I 61 := u2_ne (by decide)
  refine s148 (by omega) (fun n1 n2 n3 => ⟨fun q => absurd q (by decide), fun _ => ⟨fun q7 => ?_, fun q7 => no ?_⟩⟩) (fun n0 => ⟨fun _ => no ?_, fun q => absurd rfl q⟩)
  · rw [e61] at n3
    rw [u2_ne (by decide), hto] at q7
    rw [hL]
    have nm : ∀ k : Nat, k < L → 97 ≤ I 61 k ∧ I 61 k ≤ 122 := fun k hk => n3 k (by omega)
    refine s23 (told := told) (L := L) (by omega) (by rw [u2_ne (by decide)]; exact hto) (by omega) (by omega) (fun k hk => by rw [e61]; exact nm k hk) fun I2 hf g11 g11o g12 g12o => ?_
    rw [e61] at g12
    rw [u2_ne (by decide)] at g11o g12o
    have f7 : I2 7 = I 7 := by rw [hf 7 (by decide), u2_ne (by decide)]
    have hfa : frK [0, 11, 12] I I2 := (frK.r.u (by decide)).t (hf.mo (by decide))
    have w0 : w32 ((told : Int) * 6) = (told : Int) * 6 := w32_id (by omega) (by omega)
    have wj : ∀ j : Nat, j < 10 → w32 ((told : Int) * 6 + (j : Int)) = ((told * 6 + j : Nat) : Int) := fun j hj => by
      rw [w32_id (by omega) (by omega)]
      omega
    have w00 := wj 0 (by omega)
    have w1 := wj 1 (by omega)
    have w2 := wj 2 (by omega)
    have w3 := wj 3 (by omega)
    have w4 := wj 4 (by omega)
    have w5 := wj 5 (by omega)
    simp only [Int.ofNat_eq_natCast, Int.cast_ofNat_Int] at w00 w1 w2 w3 w4 w5
    rw [f7, hto, w0, w00, w1, w2, w3, w4, w5, w32_id (x := I 7 1 + 1) (by omega) (by omega), w32_id (x := (told : Int) + 1) (by omega) (by omega), w32_id (x := (told : Int) + 1 - 1) (by omega) (by omega), show (told : Int) + 1 - 1 = told by omega]
    simp only [toN, Nat.add_zero]
    refine ⟨fun _ => ⟨by omega, by omega, by omega, by omega, by omega, by omega, by omega, by omega, ?_⟩, fun q => by omega⟩
    have hN1 : NE1 I (u2 (u2 (u2 (u2 (u2 (u2 (u2 (u2 (u2 (u2 (u2 I2 72 3 1) 8 (told * 6) x) 8 (told * 6 + 1) y) 8 (told * 6 + 2) z) 8 (told * 6 + 3) u) 8 (told * 6 + 4) v) 8 (told * 6 + 5) w) 7 1 (I 7 1 + 1)) 9 told (I 7 1 + 1)) 10 told (-1)) 7 0 ((told : Int) + 1)) told L (I 7 1) x y z u v w := by
      refine ⟨?_, ⟨?_, fun j hj => ?_⟩, ⟨?_, ?_, ?_⟩, fun j => ?_, fun j => ?_, fun j => ?_, ⟨?_, fun j hj => ?_⟩, ⟨fun i hi => ?_, fun j hj => ?_⟩, ?_⟩
      · exact (((((((((((hfa.mo (by decide)).u (by decide)).u (by decide)).u (by decide)).u (by decide)).u (by decide)).u (by decide)).u (by decide)).u (by decide)).u (by decide)).u (by decide)).u (by decide)
      · simp (disch := decide) only [u2_ne]
        rw [hf 0 (by decide), u2e]
      · simp (disch := decide) only [u2_ne]
        rw [hf 0 (by decide), u2j hj]
      · exact u2e
      · rw [u2j (by decide)]
        simp (disch := decide) only [u2_ne]
        exact u2e
      · rw [u2j (by decide)]
        simp (disch := decide) only [u2_ne]
        rw [u2j (by decide)]
        simp (disch := decide) only [u2_ne]
        rw [f7]
      · simp (disch := decide) only [u2_ne, u2_at]
        rw [hfa 8 (by decide)]
      · simp (disch := decide) only [u2_ne, u2_at]
        rw [hfa 9 (by decide)]
      · simp (disch := decide) only [u2_ne, u2_at]
        rw [hfa 10 (by decide)]
      · simp (disch := decide) only [u2_ne]
        exact g11
      · simp (disch := decide) only [u2_ne]
        exact g11o j hj
      · simp (disch := decide) only [u2_ne]
        exact g12 i hi
      · simp (disch := decide) only [u2_ne]
        exact g12o j hj
      · simp (disch := decide) only [u2_ne]
        exact u2e
    revert hN1
    generalize (u2 (u2 (u2 (u2 (u2 (u2 (u2 (u2 (u2 (u2 (u2 I2 72 3 1) 8 (told * 6) x) 8 (told * 6 + 1) y) 8 (told * 6 + 2) z) 8 (told * 6 + 3) u) 8 (told * 6 + 4) v) 8 (told * 6 + 5) w) 7 1 (I 7 1 + 1)) 9 told (I 7 1 + 1)) 10 told (-1)) 7 0 ((told : Int) + 1)) = I3
    intro hN1
    have f3 := hN1.1
    refine cIN_r fun _ => x222_m (by omega) fun h4 hh4 => x222 (by omega) ?_
    rw [f3 92 (by decide), f3 91 (by decide), t1.2.2, b1.2.2, l2, hL, hto]
    refine ⟨fun _ => ⟨fun _ => ⟨by omega, fun _ => ⟨fun _ => ⟨fun _ => ⟨fun _ => ⟨fun _ => ⟨fun _ => ?_, fun q => absurd (show ¬ (told : Int) = 120 by omega) q⟩, fun q => absurd (by omega) q⟩, fun q => absurd (by omega) q⟩, fun q => absurd (by omega) q⟩, fun q => absurd (by omega) q⟩, fun q => absurd q3 q⟩, fun q => absurd (by omega) q⟩, fun q => absurd (by omega) q⟩
    have n96 : ∀ k : Nat, k < L → 97 ≤ I3 96 k ∧ I3 96 k ≤ 122 := fun k hk => by
      rw [f3 96 (by decide)]
      exact (tb k hk).1.1 (nm k hk)
    refine s222_l (I0 := I3) (told := told) (T := I 7 1) (by omega) (frK.r.u (by decide)) ⟨u2e, fun j hj => u2j hj⟩ (by rw [f3 92 (by decide)]; omega) (by rw [f3 92 (by decide)]; exact b2.2.2) (by omega) (by omega) (by omega) (fun _ I4 hN2 => ⟨rfl, ?_⟩) (fun hk => absurd n96 hk) L 0 (by omega) (fun q hq => by omega)
    exact INV.ne hI hn hto (by omega) rfl (by omega) q1 q2 q3 q4 q5 q6 (fun k hk => ⟨nm k hk, (tb k hk).2 (nm k hk).1 (nm k hk).2⟩) hN1 hN2
  · intro z2
    rw [u2_ne (by decide)] at q7
    exact q7 z2.2.2.2.2.2.2.2
  · intro z2
    rw [e61] at n0
    exact n0 z2.2.2.2.2.2.2.1
end ENTRY
