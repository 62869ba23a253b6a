set_option maxRecDepth 100000 in
theorem x117 {G : Ctx} {h : Nat} {Q : MP} {I : Nat → Nat → Int} {J : Nat → Nat → BitVec 64} {b : B3} {x y z : Int} (hh : 0 ≤ h) (H : ((x = 3 → (Q (some (vi (iOr y z))) (I, J, PP b))) ∧ (x = 4 → (Q (some (vi (iAnd y z))) (I, J, PP b))) ∧ (x = 42 → (Q (some (vi (w32 (y * z)))) (I, J, PP b))) ∧ (x = 43 → (Q (some (vi (w32 (y + z)))) (I, J, PP b))) ∧ (x = 45 → (Q (some (vi (w32 (y - z)))) (I, J, PP b))) ∧ (x = 47 → (((¬ z = 0) → (z ≠ 0 ∧ (Q (some (vi (iDiv y z))) (I, J, PP b)))) ∧ (¬ (¬ z = 0) → (Q (some (vi 0)) (I, J, PP b))))) ∧ (x = 60 → (((z ≤ y) → (Q (some (vi 0)) (I, J, PP b))) ∧ (¬ (z ≤ y) → (Q (some (vi 1)) (I, J, PP b))))) ∧ (x = 61 → (((¬ y = z) → (Q (some (vi 0)) (I, J, PP b))) ∧ (¬ (¬ y = z) → (Q (some (vi 1)) (I, J, PP b))))) ∧ (x = 62 → (((y ≤ z) → (Q (some (vi 0)) (I, J, PP b))) ∧ (¬ (y ≤ z) → (Q (some (vi 1)) (I, J, PP b))))) ∧ True) ∧ (¬ x = 3 → ¬ x = 4 → ¬ x = 42 → ¬ x = 43 → ¬ x = 45 → ¬ x = 47 → ¬ x = 60 → ¬ x = 61 → ¬ x = 62 → (Q (some (vi 0)) (I, J, PP b)))) : Tri G h 117 119 119 0 [some (vi x), some (vi y), some (vi z)] [] (I, J, PP b) Q := wp_at ck117 [] 400 H
theorem x117_m {G : Ctx} {h : Nat} {Q : MP} {I : Nat → Nat → Int} {J : Nat → Nat → BitVec 64} {b : B3} {x y z : Int} (hh : 1 ≤ h) (H : ∀ h, 0 ≤ h → Tri G h 117 119 119 0 [some (vi x), some (vi y), some (vi z)] [] (I, J, PP b) Q) : TriM G h 117 119 119 [vi x, vi y, vi z] (I, J, PP b) Q := TriM_intro (h - 1) (by omega) (by decide) (Nat.le_of_ble_eq_true rfl) (Nat.le_refl _) (Nat.le_refl _) (H (h - 1) (by omega))
set_option maxRecDepth 100000 in
theorem x115_68 {G : Ctx} {h : Nat} {Q : MP} {I : Nat → Nat → Int} {J : Nat → Nat → BitVec 64} {b : B3} {x : Int} (hh : 1 ≤ h) (H : ((0 ≤ x ∧ x < (7 : Int)) → ((0 ≤ x ∧ x < (7 : Int)) ∧ (Q (some (vi (I 68 x.toNat))) (I, J, PP b)))) ∧ (¬ (0 ≤ x ∧ x < (7 : Int)) → (Q (some (vi 0)) (I, J, PP b)))) : Tri G h 115 119 119 0 [some (vi x), some (vr 68)] [] (I, J, PP b) Q := wp_at ck115 [] 400 (sx172 (by omega)  (fun q555 => And.intro (fun z => absurd z (show ¬ ((1 : Int) = (0 : Int)) by decide)) (fun _ => H.1 q555)) (fun q556 => And.intro (fun _ => H.2 q556) (fun z => absurd (show (0 : Int) = (0 : Int) by decide) z)))
theorem x115_68_m {G : Ctx} {h : Nat} {Q : MP} {I : Nat → Nat → Int} {J : Nat → Nat → BitVec 64} {b : B3} {x : Int} (hh : 2 ≤ h) (H : ∀ h, 1 ≤ h → Tri G h 115 119 119 0 [some (vi x), some (vr 68)] [] (I, J, PP b) Q) : TriM G h 115 119 119 [vi x, vr 68] (I, J, PP b) Q := TriM_intro (h - 1) (by omega) (by decide) (Nat.le_of_ble_eq_true rfl) (Nat.le_refl _) (Nat.le_refl _) (H (h - 1) (by omega))
set_option maxRecDepth 100000 in
theorem x115_30 {G : Ctx} {h : Nat} {Q : MP} {I : Nat → Nat → Int} {J : Nat → Nat → BitVec 64} {b : B3} {x : Int} (hh : 1 ≤ h) (H : ((0 ≤ x ∧ x < (7 : Int)) → ((0 ≤ x ∧ x < (7 : Int)) ∧ (Q (some (vi (I 30 x.toNat))) (I, J, PP b)))) ∧ (¬ (0 ≤ x ∧ x < (7 : Int)) → (Q (some (vi 0)) (I, J, PP b)))) : Tri G h 115 119 119 0 [some (vi x), some (vr 30)] [] (I, J, PP b) Q := wp_at ck115 [] 400 (sx172 (by omega)  (fun q557 => And.intro (fun z => absurd z (show ¬ ((1 : Int) = (0 : Int)) by decide)) (fun _ => H.1 q557)) (fun q558 => And.intro (fun _ => H.2 q558) (fun z => absurd (show (0 : Int) = (0 : Int) by decide) z)))
theorem x115_30_m {G : Ctx} {h : Nat} {Q : MP} {I : Nat → Nat → Int} {J : Nat → Nat → BitVec 64} {b : B3} {x : Int} (hh : 2 ≤ h) (H : ∀ h, 1 ≤ h → Tri G h 115 119 119 0 [some (vi x), some (vr 30)] [] (I, J, PP b) Q) : TriM G h 115 119 119 [vi x, vr 30] (I, J, PP b) Q := TriM_intro (h - 1) (by omega) (by decide) (Nat.le_of_ble_eq_true rfl) (Nat.le_refl _) (Nat.le_refl _) (H (h - 1) (by omega))
set_option maxRecDepth 100000 in
theorem x116_13 {G : Ctx} {h : Nat} {Q : MP} {I : Nat → Nat → Int} {J : Nat → Nat → BitVec 64} {b : B3} {x y : Int} (hh : 1 ≤ h) (H : ((¬ x = 5) → (((y < 2) → (Q (some (vi y)) (I, J, PP b))) ∧ (¬ (y < 2) → (((y ≤ 32) → ((0 ≤ (w32 (y - 2)) ∧ (w32 (y - 2)) < (32 : Int)) ∧ ((0 ≤ (w32 (y - 1)) ∧ (w32 (y - 1)) < (32 : Int)) ∧ (TriM G h 117 119 119 [vi x, vi (I 15 ((w32 (y - 2)).toNat)), vi (I 15 ((w32 (y - 1)).toNat))] (I, J, PP b) (cIN fun r1 I1 J1 b1 => ((0 ≤ (w32 (y - 2)) ∧ (w32 (y - 2)) < (32 : Int)) ∧ (Q (some (vi (w32 (y - 1)))) (u2 I1 15 ((w32 (y - 2)).toNat) r1, J1, PP b1)))))))) ∧ (¬ (y ≤ 32) → (Q (some (vi y)) (I, J, PP b))))))) ∧ (¬ (¬ x = 5) → (((0 ≤ (w32 (y - 1)) ∧ (w32 (y - 1)) < (32 : Int)) → ((0 ≤ (w32 (y - 1)) ∧ (w32 (y - 1)) < (32 : Int)) ∧ ((0 ≤ (w32 (y - 1)) ∧ (w32 (y - 1)) < (32 : Int)) ∧ (Q (some (vi y)) (u2 I 15 ((w32 (y - 1)).toNat) (w32 (1 - (I 15 ((w32 (y - 1)).toNat)))), J, PP b))))) ∧ (¬ (0 ≤ (w32 (y - 1)) ∧ (w32 (y - 1)) < (32 : Int)) → (Q (some (vi y)) (I, J, PP b)))))) : Tri G h 116 119 119 0 [some (vr 13), some (vi x), some (vi y)] [] (I, J, PP b) Q := wp_at ck116 [] 400 (And.intro (fun q559 => And.intro (fun q561 => (H.1 q559).1 q561) (fun q562 => And.intro (fun q563 => And.intro (((H.1 q559).2 q562).1 q563).1 (And.intro ((((H.1 q559).2 q562).1 q563).2).1 (cIN_go (((((H.1 q559).2 q562).1 q563).2).2) (fun r1 I1 J1 b1 q565 => q565)))) (fun q564 => ((H.1 q559).2 q562).2 q564))) (fun q560 => sx172 (by omega)  (fun q566 => And.intro (fun z => absurd z (show ¬ ((1 : Int) = (0 : Int)) by decide)) (fun _ => (H.2 q560).1 q566)) (fun q567 => And.intro (fun _ => (H.2 q560).2 q567) (fun z => absurd (show (0 : Int) = (0 : Int) by decide) z))))
theorem x116_13_m {G : Ctx} {h : Nat} {Q : MP} {I : Nat → Nat → Int} {J : Nat → Nat → BitVec 64} {b : B3} {x y : Int} (hh : 2 ≤ h) (H : ∀ h, 1 ≤ h → Tri G h 116 119 119 0 [some (vr 13), some (vi x), some (vi y)] [] (I, J, PP b) Q) : TriM G h 116 119 119 [vr 13, vi x, vi y] (I, J, PP b) Q := TriM_intro (h - 1) (by omega) (by decide) (Nat.le_of_ble_eq_true rfl) (Nat.le_refl _) (Nat.le_refl _) (H (h - 1) (by omega))
set_option maxRecDepth 100000 in
theorem x116_16 {G : Ctx} {h : Nat} {Q : MP} {I : Nat → Nat → Int} {J : Nat → Nat → BitVec 64} {b : B3} {x y : Int} (hh : 1 ≤ h) (H : ((¬ x = 5) → (((y < 2) → (Q (some (vi y)) (I, J, PP b))) ∧ (¬ (y < 2) → (((y ≤ 32) → ((0 ≤ (w32 (y - 2)) ∧ (w32 (y - 2)) < (32 : Int)) ∧ ((0 ≤ (w32 (y - 1)) ∧ (w32 (y - 1)) < (32 : Int)) ∧ (TriM G h 117 119 119 [vi x, vi (I 18 ((w32 (y - 2)).toNat)), vi (I 18 ((w32 (y - 1)).toNat))] (I, J, PP b) (cIN fun r1 I1 J1 b1 => ((0 ≤ (w32 (y - 2)) ∧ (w32 (y - 2)) < (32 : Int)) ∧ (Q (some (vi (w32 (y - 1)))) (u2 I1 18 ((w32 (y - 2)).toNat) r1, J1, PP b1)))))))) ∧ (¬ (y ≤ 32) → (Q (some (vi y)) (I, J, PP b))))))) ∧ (¬ (¬ x = 5) → (((0 ≤ (w32 (y - 1)) ∧ (w32 (y - 1)) < (32 : Int)) → ((0 ≤ (w32 (y - 1)) ∧ (w32 (y - 1)) < (32 : Int)) ∧ ((0 ≤ (w32 (y - 1)) ∧ (w32 (y - 1)) < (32 : Int)) ∧ (Q (some (vi y)) (u2 I 18 ((w32 (y - 1)).toNat) (w32 (1 - (I 18 ((w32 (y - 1)).toNat)))), J, PP b))))) ∧ (¬ (0 ≤ (w32 (y - 1)) ∧ (w32 (y - 1)) < (32 : Int)) → (Q (some (vi y)) (I, J, PP b)))))) : Tri G h 116 119 119 0 [some (vr 16), some (vi x), some (vi y)] [] (I, J, PP b) Q := wp_at ck116 [] 400 (And.intro (fun q568 => And.intro (fun q570 => (H.1 q568).1 q570) (fun q571 => And.intro (fun q572 => And.intro (((H.1 q568).2 q571).1 q572).1 (And.intro ((((H.1 q568).2 q571).1 q572).2).1 (cIN_go (((((H.1 q568).2 q571).1 q572).2).2) (fun r1 I1 J1 b1 q574 => q574)))) (fun q573 => ((H.1 q568).2 q571).2 q573))) (fun q569 => sx172 (by omega)  (fun q575 => And.intro (fun z => absurd z (show ¬ ((1 : Int) = (0 : Int)) by decide)) (fun _ => (H.2 q569).1 q575)) (fun q576 => And.intro (fun _ => (H.2 q569).2 q576) (fun z => absurd (show (0 : Int) = (0 : Int) by decide) z))))
theorem x116_16_m {G : Ctx} {h : Nat} {Q : MP} {I : Nat → Nat → Int} {J : Nat → Nat → BitVec 64} {b : B3} {x y : Int} (hh : 2 ≤ h) (H : ∀ h, 1 ≤ h → Tri G h 116 119 119 0 [some (vr 16), some (vi x), some (vi y)] [] (I, J, PP b) Q) : TriM G h 116 119 119 [vr 16, vi x, vi y] (I, J, PP b) Q := TriM_intro (h - 1) (by omega) (by decide) (Nat.le_of_ble_eq_true rfl) (Nat.le_refl _) (Nat.le_refl _) (H (h - 1) (by omega))
set_option maxRecDepth 100000 in
theorem x116_19 {G : Ctx} {h : Nat} {Q : MP} {I : Nat → Nat → Int} {J : Nat → Nat → BitVec 64} {b : B3} {x y : Int} (hh : 1 ≤ h) (H : ((¬ x = 5) → (((y < 2) → (Q (some (vi y)) (I, J, PP b))) ∧ (¬ (y < 2) → (((y ≤ 32) → ((0 ≤ (w32 (y - 2)) ∧ (w32 (y - 2)) < (32 : Int)) ∧ ((0 ≤ (w32 (y - 1)) ∧ (w32 (y - 1)) < (32 : Int)) ∧ (TriM G h 117 119 119 [vi x, vi (I 21 ((w32 (y - 2)).toNat)), vi (I 21 ((w32 (y - 1)).toNat))] (I, J, PP b) (cIN fun r1 I1 J1 b1 => ((0 ≤ (w32 (y - 2)) ∧ (w32 (y - 2)) < (32 : Int)) ∧ (Q (some (vi (w32 (y - 1)))) (u2 I1 21 ((w32 (y - 2)).toNat) r1, J1, PP b1)))))))) ∧ (¬ (y ≤ 32) → (Q (some (vi y)) (I, J, PP b))))))) ∧ (¬ (¬ x = 5) → (((0 ≤ (w32 (y - 1)) ∧ (w32 (y - 1)) < (32 : Int)) → ((0 ≤ (w32 (y - 1)) ∧ (w32 (y - 1)) < (32 : Int)) ∧ ((0 ≤ (w32 (y - 1)) ∧ (w32 (y - 1)) < (32 : Int)) ∧ (Q (some (vi y)) (u2 I 21 ((w32 (y - 1)).toNat) (w32 (1 - (I 21 ((w32 (y - 1)).toNat)))), J, PP b))))) ∧ (¬ (0 ≤ (w32 (y - 1)) ∧ (w32 (y - 1)) < (32 : Int)) → (Q (some (vi y)) (I, J, PP b)))))) : Tri G h 116 119 119 0 [some (vr 19), some (vi x), some (vi y)] [] (I, J, PP b) Q := wp_at ck116 [] 400 (And.intro (fun q577 => And.intro (fun q579 => (H.1 q577).1 q579) (fun q580 => And.intro (fun q581 => And.intro (((H.1 q577).2 q580).1 q581).1 (And.intro ((((H.1 q577).2 q580).1 q581).2).1 (cIN_go (((((H.1 q577).2 q580).1 q581).2).2) (fun r1 I1 J1 b1 q583 => q583)))) (fun q582 => ((H.1 q577).2 q580).2 q582))) (fun q578 => sx172 (by omega)  (fun q584 => And.intro (fun z => absurd z (show ¬ ((1 : Int) = (0 : Int)) by decide)) (fun _ => (H.2 q578).1 q584)) (fun q585 => And.intro (fun _ => (H.2 q578).2 q585) (fun z => absurd (show (0 : Int) = (0 : Int) by decide) z))))
theorem x116_19_m {G : Ctx} {h : Nat} {Q : MP} {I : Nat → Nat → Int} {J : Nat → Nat → BitVec 64} {b : B3} {x y : Int} (hh : 2 ≤ h) (H : ∀ h, 1 ≤ h → Tri G h 116 119 119 0 [some (vr 19), some (vi x), some (vi y)] [] (I, J, PP b) Q) : TriM G h 116 119 119 [vr 19, vi x, vi y] (I, J, PP b) Q := TriM_intro (h - 1) (by omega) (by decide) (Nat.le_of_ble_eq_true rfl) (Nat.le_refl _) (Nat.le_refl _) (H (h - 1) (by omega))
set_option maxRecDepth 100000 in
theorem x114_13 {G : Ctx} {h : Nat} {Q : MP} {I : Nat → Nat → Int} {J : Nat → Nat → BitVec 64} {b : B3} (hh : 0 ≤ h) (H : Tri G h 114 119 119 4 [some (vr 13), some (vr 68), some (vi 0), some (vi 0)] [] (I, J, PP b) Q) : Tri G h 114 119 119 0 [some (vr 13), some (vr 68)] [] (I, J, PP b) Q := wp_at ck114 [(4, [true, true, true, true])] 400 H
set_option maxRecDepth 100000 in
theorem x114_13_4 {G : Ctx} {h : Nat} {Q : MP} {I : Nat → Nat → Int} {J : Nat → Nat → BitVec 64} {b : B3} {l2 l3 : Int} (hh : 2 ≤ h) (H : (((I 13 2) ≤ l3) → (Q (some (vi (-1))) (I, J, PP b))) ∧ (¬ ((I 13 2) ≤ l3) → (((400 ≤ l3) → (Q (some (vi (-1))) (I, J, PP b))) ∧ (¬ (400 ≤ l3) → ((0 ≤ l3 ∧ l3 < (400 : Int)) ∧ ((((I 14 l3.toNat) < 30000) → ((((I 14 l3.toNat) < 20000) → (((32 ≤ l2) → (Tri G h 114 119 119 4 [some (vr 13), some (vr 68), some (vi l2), some (vi (w32 (l3 + 1)))] [] (I, J, PP b) Q)) ∧ (¬ (32 ≤ l2) → (((10000 ≤ (I 14 l3.toNat)) → (TriM G h 115 119 119 [vi (w32 ((I 14 l3.toNat) - 10000)), vr 68] (I, J, PP b) (cIN fun r1 I1 J1 b1 => ((0 ≤ l2 ∧ l2 < (32 : Int)) ∧ (Tri G h 114 119 119 4 [some (vr 13), some (vr 68), some (vi (w32 (l2 + 1))), some (vi (w32 (l3 + 1)))] [] (u2 I1 15 l2.toNat r1, J1, PP b1) Q))))) ∧ (¬ (10000 ≤ (I 14 l3.toNat)) → ((0 ≤ l2 ∧ l2 < (32 : Int)) ∧ (Tri G h 114 119 119 4 [some (vr 13), some (vr 68), some (vi (w32 (l2 + 1))), some (vi (w32 (l3 + 1)))] [] (u2 I 15 l2.toNat (I 14 l3.toNat), J, PP b) Q))))))) ∧ (¬ ((I 14 l3.toNat) < 20000) → (TriM G h 116 119 119 [vr 13, vi (w32 ((I 14 l3.toNat) - 20000)), vi l2] (I, J, PP b) (cIN fun r2 I2 J2 b2 => (Tri G h 114 119 119 4 [some (vr 13), some (vr 68), some (vi r2), some (vi (w32 (l3 + 1)))] [] (I2, J2, PP b2) Q)))))) ∧ (¬ ((I 14 l3.toNat) < 30000) → ((((I 15 0) = 0) → (Tri G h 114 119 119 4 [some (vr 13), some (vr 68), some (vi 0), some (vi (w32 (l3 + 1)))] [] (I, J, PP b) Q)) ∧ (¬ ((I 15 0) = 0) → (Q (some (vi (w32 ((I 14 l3.toNat) - 30000)))) (I, J, PP b))))))))))) : Tri G h 114 119 119 4 [some (vr 13), some (vr 68), some (vi l2), some (vi l3)] [] (I, J, PP b) Q := wp_at ck114 [(4, [true, true, true, true])] 400 (And.intro (fun q586 => H.1 q586) (fun q587 => And.intro (fun q588 => (H.2 q587).1 q588) (fun q589 => And.intro ((H.2 q587).2 q589).1 (And.intro (fun q590 => And.intro (fun q592 => And.intro (fun q594 => (((((H.2 q587).2 q589).2).1 q590).1 q592).1 q594) (fun q595 => And.intro (fun q596 => cIN_go (((((((H.2 q587).2 q589).2).1 q590).1 q592).2 q595).1 q596) (fun r1 I1 J1 b1 q598 => q598)) (fun q597 => ((((((H.2 q587).2 q589).2).1 q590).1 q592).2 q595).2 q597))) (fun q593 => cIN_go (((((H.2 q587).2 q589).2).1 q590).2 q593) (fun r2 I2 J2 b2 q599 => q599))) (fun q591 => And.intro (show (0 : Int) ≤ 0 ∧ (0 : Int) < ((32 : Nat) : Int) by decide) ((((H.2 q587).2 q589).2).2 q591))))))
theorem x114_13_m {G : Ctx} {h : Nat} {Q : MP} {I : Nat → Nat → Int} {J : Nat → Nat → BitVec 64} {b : B3} (hh : 3 ≤ h) (H : ∀ h, 2 ≤ h → Tri G h 114 119 119 0 [some (vr 13), some (vr 68)] [] (I, J, PP b) Q) : TriM G h 114 119 119 [vr 13, vr 68] (I, J, PP b) Q := TriM_intro (h - 1) (by omega) (by decide) (Nat.le_of_ble_eq_true rfl) (Nat.le_refl _) (Nat.le_refl _) (H (h - 1) (by omega))
set_option maxRecDepth 100000 in
theorem x114_16 {G : Ctx} {h : Nat} {Q : MP} {I : Nat → Nat → Int} {J : Nat → Nat → BitVec 64} {b : B3} (hh : 0 ≤ h) (H : Tri G h 114 119 119 4 [some (vr 16), some (vr 68), some (vi 0), some (vi 0)] [] (I, J, PP b) Q) : Tri G h 114 119 119 0 [some (vr 16), some (vr 68)] [] (I, J, PP b) Q := wp_at ck114 [(4, [true, true, true, true])] 400 H
set_option maxRecDepth 100000 in
theorem x114_16_4 {G : Ctx} {h : Nat} {Q : MP} {I : Nat → Nat → Int} {J : Nat → Nat → BitVec 64} {b : B3} {l2 l3 : Int} (hh : 2 ≤ h) (H : (((I 16 2) ≤ l3) → (Q (some (vi (-1))) (I, J, PP b))) ∧ (¬ ((I 16 2) ≤ l3) → (((400 ≤ l3) → (Q (some (vi (-1))) (I, J, PP b))) ∧ (¬ (400 ≤ l3) → ((0 ≤ l3 ∧ l3 < (400 : Int)) ∧ ((((I 17 l3.toNat) < 30000) → ((((I 17 l3.toNat) < 20000) → (((32 ≤ l2) → (Tri G h 114 119 119 4 [some (vr 16), some (vr 68), some (vi l2), some (vi (w32 (l3 + 1)))] [] (I, J, PP b) Q)) ∧ (¬ (32 ≤ l2) → (((10000 ≤ (I 17 l3.toNat)) → (TriM G h 115 119 119 [vi (w32 ((I 17 l3.toNat) - 10000)), vr 68] (I, J, PP b) (cIN fun r1 I1 J1 b1 => ((0 ≤ l2 ∧ l2 < (32 : Int)) ∧ (Tri G h 114 119 119 4 [some (vr 16), some (vr 68), some (vi (w32 (l2 + 1))), some (vi (w32 (l3 + 1)))] [] (u2 I1 18 l2.toNat r1, J1, PP b1) Q))))) ∧ (¬ (10000 ≤ (I 17 l3.toNat)) → ((0 ≤ l2 ∧ l2 < (32 : Int)) ∧ (Tri G h 114 119 119 4 [some (vr 16), some (vr 68), some (vi (w32 (l2 + 1))), some (vi (w32 (l3 + 1)))] [] (u2 I 18 l2.toNat (I 17 l3.toNat), J, PP b) Q))))))) ∧ (¬ ((I 17 l3.toNat) < 20000) → (TriM G h 116 119 119 [vr 16, vi (w32 ((I 17 l3.toNat) - 20000)), vi l2] (I, J, PP b) (cIN fun r2 I2 J2 b2 => (Tri G h 114 119 119 4 [some (vr 16), some (vr 68), some (vi r2), some (vi (w32 (l3 + 1)))] [] (I2, J2, PP b2) Q)))))) ∧ (¬ ((I 17 l3.toNat) < 30000) → ((((I 18 0) = 0) → (Tri G h 114 119 119 4 [some (vr 16), some (vr 68), some (vi 0), some (vi (w32 (l3 + 1)))] [] (I, J, PP b) Q)) ∧ (¬ ((I 18 0) = 0) → (Q (some (vi (w32 ((I 17 l3.toNat) - 30000)))) (I, J, PP b))))))))))) : Tri G h 114 119 119 4 [some (vr 16), some (vr 68), some (vi l2), some (vi l3)] [] (I, J, PP b) Q := wp_at ck114 [(4, [true, true, true, true])] 400 (And.intro (fun q600 => H.1 q600) (fun q601 => And.intro (fun q602 => (H.2 q601).1 q602) (fun q603 => And.intro ((H.2 q601).2 q603).1 (And.intro (fun q604 => And.intro (fun q606 => And.intro (fun q608 => (((((H.2 q601).2 q603).2).1 q604).1 q606).1 q608) (fun q609 => And.intro (fun q610 => cIN_go (((((((H.2 q601).2 q603).2).1 q604).1 q606).2 q609).1 q610) (fun r1 I1 J1 b1 q612 => q612)) (fun q611 => ((((((H.2 q601).2 q603).2).1 q604).1 q606).2 q609).2 q611))) (fun q607 => cIN_go (((((H.2 q601).2 q603).2).1 q604).2 q607) (fun r2 I2 J2 b2 q613 => q613))) (fun q605 => And.intro (show (0 : Int) ≤ 0 ∧ (0 : Int) < ((32 : Nat) : Int) by decide) ((((H.2 q601).2 q603).2).2 q605))))))
theorem x114_16_m {G : Ctx} {h : Nat} {Q : MP} {I : Nat → Nat → Int} {J : Nat → Nat → BitVec 64} {b : B3} (hh : 3 ≤ h) (H : ∀ h, 2 ≤ h → Tri G h 114 119 119 0 [some (vr 16), some (vr 68)] [] (I, J, PP b) Q) : TriM G h 114 119 119 [vr 16, vr 68] (I, J, PP b) Q := TriM_intro (h - 1) (by omega) (by decide) (Nat.le_of_ble_eq_true rfl) (Nat.le_refl _) (Nat.le_refl _) (H (h - 1) (by omega))
set_option maxRecDepth 100000 in
theorem x114_19 {G : Ctx} {h : Nat} {Q : MP} {I : Nat → Nat → Int} {J : Nat → Nat → BitVec 64} {b : B3} (hh : 0 ≤ h) (H : Tri G h 114 119 119 4 [some (vr 19), some (vr 30), some (vi 0), some (vi 0)] [] (I, J, PP b) Q) : Tri G h 114 119 119 0 [some (vr 19), some (vr 30)] [] (I, J, PP b) Q := wp_at ck114 [(4, [true, true, true, true])] 400 H
set_option maxRecDepth 100000 in
theorem x114_19_4 {G : Ctx} {h : Nat} {Q : MP} {I : Nat → Nat → Int} {J : Nat → Nat → BitVec 64} {b : B3} {l2 l3 : Int} (hh : 2 ≤ h) (H : (((I 19 2) ≤ l3) → (Q (some (vi (-1))) (I, J, PP b))) ∧ (¬ ((I 19 2) ≤ l3) → (((400 ≤ l3) → (Q (some (vi (-1))) (I, J, PP b))) ∧ (¬ (400 ≤ l3) → ((0 ≤ l3 ∧ l3 < (400 : Int)) ∧ ((((I 20 l3.toNat) < 30000) → ((((I 20 l3.toNat) < 20000) → (((32 ≤ l2) → (Tri G h 114 119 119 4 [some (vr 19), some (vr 30), some (vi l2), some (vi (w32 (l3 + 1)))] [] (I, J, PP b) Q)) ∧ (¬ (32 ≤ l2) → (((10000 ≤ (I 20 l3.toNat)) → (TriM G h 115 119 119 [vi (w32 ((I 20 l3.toNat) - 10000)), vr 30] (I, J, PP b) (cIN fun r1 I1 J1 b1 => ((0 ≤ l2 ∧ l2 < (32 : Int)) ∧ (Tri G h 114 119 119 4 [some (vr 19), some (vr 30), some (vi (w32 (l2 + 1))), some (vi (w32 (l3 + 1)))] [] (u2 I1 21 l2.toNat r1, J1, PP b1) Q))))) ∧ (¬ (10000 ≤ (I 20 l3.toNat)) → ((0 ≤ l2 ∧ l2 < (32 : Int)) ∧ (Tri G h 114 119 119 4 [some (vr 19), some (vr 30), some (vi (w32 (l2 + 1))), some (vi (w32 (l3 + 1)))] [] (u2 I 21 l2.toNat (I 20 l3.toNat), J, PP b) Q))))))) ∧ (¬ ((I 20 l3.toNat) < 20000) → (TriM G h 116 119 119 [vr 19, vi (w32 ((I 20 l3.toNat) - 20000)), vi l2] (I, J, PP b) (cIN fun r2 I2 J2 b2 => (Tri G h 114 119 119 4 [some (vr 19), some (vr 30), some (vi r2), some (vi (w32 (l3 + 1)))] [] (I2, J2, PP b2) Q)))))) ∧ (¬ ((I 20 l3.toNat) < 30000) → ((((I 21 0) = 0) → (Tri G h 114 119 119 4 [some (vr 19), some (vr 30), some (vi 0), some (vi (w32 (l3 + 1)))] [] (I, J, PP b) Q)) ∧ (¬ ((I 21 0) = 0) → (Q (some (vi (w32 ((I 20 l3.toNat) - 30000)))) (I, J, PP b))))))))))) : Tri G h 114 119 119 4 [some (vr 19), some (vr 30), some (vi l2), some (vi l3)] [] (I, J, PP b) Q := wp_at ck114 [(4, [true, true, true, true])] 400 (And.intro (fun q614 => H.1 q614) (fun q615 => And.intro (fun q616 => (H.2 q615).1 q616) (fun q617 => And.intro ((H.2 q615).2 q617).1 (And.intro (fun q618 => And.intro (fun q620 => And.intro (fun q622 => (((((H.2 q615).2 q617).2).1 q618).1 q620).1 q622) (fun q623 => And.intro (fun q624 => cIN_go (((((((H.2 q615).2 q617).2).1 q618).1 q620).2 q623).1 q624) (fun r1 I1 J1 b1 q626 => q626)) (fun q625 => ((((((H.2 q615).2 q617).2).1 q618).1 q620).2 q623).2 q625))) (fun q621 => cIN_go (((((H.2 q615).2 q617).2).1 q618).2 q621) (fun r2 I2 J2 b2 q627 => q627))) (fun q619 => And.intro (show (0 : Int) ≤ 0 ∧ (0 : Int) < ((32 : Nat) : Int) by decide) ((((H.2 q615).2 q617).2).2 q619))))))
theorem x114_19_m {G : Ctx} {h : Nat} {Q : MP} {I : Nat → Nat → Int} {J : Nat → Nat → BitVec 64} {b : B3} (hh : 3 ≤ h) (H : ∀ h, 2 ≤ h → Tri G h 114 119 119 0 [some (vr 19), some (vr 30)] [] (I, J, PP b) Q) : TriM G h 114 119 119 [vr 19, vr 30] (I, J, PP b) Q := TriM_intro (h - 1) (by omega) (by decide) (Nat.le_of_ble_eq_true rfl) (Nat.le_refl _) (Nat.le_refl _) (H (h - 1) (by omega))
set_option maxRecDepth 100000 in
theorem x220 {G : Ctx} {h : Nat} {Q : MP} {I : Nat → Nat → Int} {J : Nat → Nat → BitVec 64} {b : B3} {x y z : Int} (hh : 0 ≤ h) (H : ((x = 13 → (Q (some (vi (w32 (y + z)))) (I, J, PP b))) ∧ (x = 14 → (Q (some (vi (w32 (y - z)))) (I, J, PP b))) ∧ (x = 15 → (Q (some (vi (w32 (y * z)))) (I, J, PP b))) ∧ (x = 16 → (Q (some (vi (iOr y z))) (I, J, PP b))) ∧ (x = 17 → (((z ≤ y) → (Q (some (vi 0)) (I, J, PP b))) ∧ (¬ (z ≤ y) → (Q (some (vi 1)) (I, J, PP b))))) ∧ (x = 18 → (((¬ y = z) → (Q (some (vi 0)) (I, J, PP b))) ∧ (¬ (¬ y = z) → (Q (some (vi 1)) (I, J, PP b))))) ∧ (x = 19 → (((y ≤ z) → (Q (some (vi 0)) (I, J, PP b))) ∧ (¬ (y ≤ z) → (Q (some (vi 1)) (I, J, PP b))))) ∧ (x = 20 → (Q (some (vi (iOr y z))) (I, J, PP b))) ∧ (x = 21 → (Q (some (vi (iAnd y z))) (I, J, PP b))) ∧ True) ∧ ((x < 13 ∨ 21 < x) → (Q (some (vi (iOr y z))) (I, J, PP b)))) : Tri G h 220 119 119 0 [some (vi x), some (vi y), some (vi z)] [] (I, J, PP b) Q := wp_at ck220 [] 400 H
theorem x220_m {G : Ctx} {h : Nat} {Q : MP} {I : Nat → Nat → Int} {J : Nat → Nat → BitVec 64} {b : B3} {x y z : Int} (hh : 1 ≤ h) (H : ∀ h, 0 ≤ h → Tri G h 220 119 119 0 [some (vi x), some (vi y), some (vi z)] [] (I, J, PP b) Q) : TriM G h 220 119 119 [vi x, vi y, vi z] (I, J, PP b) Q := TriM_intro (h - 1) (by omega) (by decide) (Nat.le_of_ble_eq_true rfl) (Nat.le_refl _) (Nat.le_refl _) (H (h - 1) (by omega))
set_option maxRecDepth 100000 in
theorem x221 {G : Ctx} {h : Nat} {Q : MP} {I : Nat → Nat → Int} {J : Nat → Nat → BitVec 64} {b : B3} {x y : Int} (hh : 0 ≤ h) (H : (0 ≤ (w32 ((w32 (2510 + (w32 (16 * x)))) + y)) ∧ (w32 ((w32 (2510 + (w32 (16 * x)))) + y)) < (5120 : Int)) ∧ (Tri G h 221 119 119 19 [some (vr 91), some (vi x), some (vi y), some (vi 0), some (vi (I 92 ((w32 ((w32 (2510 + (w32 (16 * x)))) + y)).toNat)))] [] (I, J, PP b) Q)) : Tri G h 221 119 119 0 [some (vr 91), some (vi x), some (vi y)] [] (I, J, PP b) Q := wp_at ck221 [(19, [true, true, true, true, true])] 400 H
set_option maxRecDepth 100000 in
theorem x221_19 {G : Ctx} {h : Nat} {Q : MP} {I : Nat → Nat → Int} {J : Nat → Nat → BitVec 64} {b : B3} {l1 l2 l3 l4 : Int} (hh : 1 ≤ h) (H : (0 ≤ (w32 ((w32 (2560 + (w32 (16 * l1)))) + l2)) ∧ (w32 ((w32 (2560 + (w32 (16 * l1)))) + l2)) < (5120 : Int)) ∧ ((((I 92 ((w32 ((w32 (2560 + (w32 (16 * l1)))) + l2)).toNat)) ≤ l4) → (((¬ (I 97 0) = 1) → (Q (some (vi 0)) (I, J, PP b))) ∧ (¬ (¬ (I 97 0) = 1) → (Q (some (vi 1)) (I, J, PP b))))) ∧ (¬ ((I 92 ((w32 ((w32 (2560 + (w32 (16 * l1)))) + l2)).toNat)) ≤ l4) → ((0 ≤ (w32 ((w32 (2660 + (w32 (820 * l1)))) + (w32 (2 * l4)))) ∧ (w32 ((w32 (2660 + (w32 (820 * l1)))) + (w32 (2 * l4)))) < (5120 : Int)) ∧ ((0 ≤ (w32 ((w32 ((w32 (2660 + (w32 (820 * l1)))) + (w32 (2 * l4)))) + 1)) ∧ (w32 ((w32 ((w32 (2660 + (w32 (820 * l1)))) + (w32 (2 * l4)))) + 1)) < (5120 : Int)) ∧ (((13 ≤ (I 92 ((w32 ((w32 (2660 + (w32 (820 * l1)))) + (w32 (2 * l4)))).toNat))) → (((¬ (I 92 ((w32 ((w32 (2660 + (w32 (820 * l1)))) + (w32 (2 * l4)))).toNat)) = 16) → (((¬ (I 92 ((w32 ((w32 (2660 + (w32 (820 * l1)))) + (w32 (2 * l4)))).toNat)) = 20) → ((0 ≤ (w32 ((w32 (l3 + (-1))) - 1)) ∧ (w32 ((w32 (l3 + (-1))) - 1)) < (420 : Int)) ∧ ((0 ≤ (w32 (l3 + (-1))) ∧ (w32 (l3 + (-1))) < (420 : Int)) ∧ (TriM G h 220 119 119 [vi (I 92 ((w32 ((w32 (2660 + (w32 (820 * l1)))) + (w32 (2 * l4)))).toNat)), vi (I 97 ((w32 ((w32 (l3 + (-1))) - 1)).toNat)), vi (I 97 ((w32 (l3 + (-1))).toNat))] (I, J, PP b) (cIN fun r1 I1 J1 b1 => ((0 ≤ (w32 ((w32 (l3 + (-1))) - 1)) ∧ (w32 ((w32 (l3 + (-1))) - 1)) < (420 : Int)) ∧ (Tri G h 221 119 119 19 [some (vr 91), some (vi l1), some (vi l2), some (vi (w32 (l3 + (-1)))), some (vi (w32 (l4 + 1)))] [] (u2 I1 97 ((w32 ((w32 (l3 + (-1))) - 1)).toNat) r1, J1, PP b1) Q))))))) ∧ (¬ (¬ (I 92 ((w32 ((w32 (2660 + (w32 (820 * l1)))) + (w32 (2 * l4)))).toNat)) = 20) → ((0 ≤ (w32 (l3 - 1)) ∧ (w32 (l3 - 1)) < (420 : Int)) ∧ ((0 ≤ (w32 (l3 - 1)) ∧ (w32 (l3 - 1)) < (420 : Int)) ∧ (Tri G h 221 119 119 19 [some (vr 91), some (vi l1), some (vi l2), some (vi l3), some (vi (w32 (l4 + 1)))] [] (u2 I 97 ((w32 (l3 - 1)).toNat) (w32 (1 - (I 97 ((w32 (l3 - 1)).toNat)))), J, PP b) Q)))))) ∧ (¬ (¬ (I 92 ((w32 ((w32 (2660 + (w32 (820 * l1)))) + (w32 (2 * l4)))).toNat)) = 16) → ((0 ≤ (w32 (l3 - 1)) ∧ (w32 (l3 - 1)) < (420 : Int)) ∧ ((I 92 ((w32 ((w32 ((w32 (2660 + (w32 (820 * l1)))) + (w32 (2 * l4)))) + 1)).toNat)) ≠ 0 ∧ ((0 ≤ (w32 (l3 - 1)) ∧ (w32 (l3 - 1)) < (420 : Int)) ∧ (Tri G h 221 119 119 19 [some (vr 91), some (vi l1), some (vi l2), some (vi l3), some (vi (w32 (l4 + 1)))] [] (u2 I 97 ((w32 (l3 - 1)).toNat) (iDiv (I 97 ((w32 (l3 - 1)).toNat)) (I 92 ((w32 ((w32 ((w32 (2660 + (w32 (820 * l1)))) + (w32 (2 * l4)))) + 1)).toNat))), J, PP b) Q))))))) ∧ (¬ (13 ≤ (I 92 ((w32 ((w32 (2660 + (w32 (820 * l1)))) + (w32 (2 * l4)))).toNat))) → (((¬ (I 92 ((w32 ((w32 (2660 + (w32 (820 * l1)))) + (w32 (2 * l4)))).toNat)) = 0) → ((0 ≤ (I 92 ((w32 ((w32 (2660 + (w32 (820 * l1)))) + (w32 (2 * l4)))).toNat)) ∧ (I 92 ((w32 ((w32 (2660 + (w32 (820 * l1)))) + (w32 (2 * l4)))).toNat)) < (13 : Int)) ∧ ((0 ≤ l3 ∧ l3 < (420 : Int)) ∧ (Tri G h 221 119 119 19 [some (vr 91), some (vi l1), some (vi l2), some (vi (w32 (l3 + 1))), some (vi (w32 (l4 + 1)))] [] (u2 I 97 l3.toNat (I 98 ((I 92 ((w32 ((w32 (2660 + (w32 (820 * l1)))) + (w32 (2 * l4)))).toNat)).toNat)), J, PP b) Q)))) ∧ (¬ (¬ (I 92 ((w32 ((w32 (2660 + (w32 (820 * l1)))) + (w32 (2 * l4)))).toNat)) = 0) → ((0 ≤ l3 ∧ l3 < (420 : Int)) ∧ (Tri G h 221 119 119 19 [some (vr 91), some (vi l1), some (vi l2), some (vi (w32 (l3 + 1))), some (vi (w32 (l4 + 1)))] [] (u2 I 97 l3.toNat (I 92 ((w32 ((w32 ((w32 (2660 + (w32 (820 * l1)))) + (w32 (2 * l4)))) + 1)).toNat)), J, PP b) Q))))))))))) : Tri G h 221 119 119 19 [some (vr 91), some (vi l1), some (vi l2), some (vi l3), some (vi l4)] [] (I, J, PP b) Q := wp_at ck221 [(19, [true, true, true, true, true])] 400 (And.intro H.1 (And.intro (fun q628 => And.intro (show (0 : Int) ≤ 0 ∧ (0 : Int) < ((420 : Nat) : Int) by decide) (And.intro (fun q630 => And.intro (show (0 : Int) = 0 ∨ (0 : Int) = 1 by decide) ((H.2.1 q628).1 q630)) (fun q631 => And.intro (show (1 : Int) = 0 ∨ (1 : Int) = 1 by decide) ((H.2.1 q628).2 q631)))) (fun q629 => And.intro (H.2.2 q629).1 (And.intro ((H.2.2 q629).2).1 (And.intro (fun q632 => And.intro (fun q634 => And.intro (fun q636 => And.intro ((((((H.2.2 q629).2).2).1 q632).1 q634).1 q636).1 (And.intro (((((((H.2.2 q629).2).2).1 q632).1 q634).1 q636).2).1 (cIN_go ((((((((H.2.2 q629).2).2).1 q632).1 q634).1 q636).2).2) (fun r1 I1 J1 b1 q638 => q638)))) (fun q637 => (((((H.2.2 q629).2).2).1 q632).1 q634).2 q637)) (fun q635 => ((((H.2.2 q629).2).2).1 q632).2 q635)) (fun q633 => (((H.2.2 q629).2).2).2 q633))))))
theorem x221_m {G : Ctx} {h : Nat} {Q : MP} {I : Nat → Nat → Int} {J : Nat → Nat → BitVec 64} {b : B3} {x y : Int} (hh : 2 ≤ h) (H : ∀ h, 1 ≤ h → Tri G h 221 119 119 0 [some (vr 91), some (vi x), some (vi y)] [] (I, J, PP b) Q) : TriM G h 221 119 119 [vr 91, vi x, vi y] (I, J, PP b) Q := TriM_intro (h - 1) (by omega) (by decide) (Nat.le_of_ble_eq_true rfl) (Nat.le_refl _) (Nat.le_refl _) (H (h - 1) (by omega))
/-! a stack in a row -/
def stk (f : Nat → Int) : List Int → Prop
  | [] => True
  | x :: r => f r.length = x ∧ stk f r
theorem stk_u {f g : Nat → Int} : ∀ {s : List Int}, (∀ j, j < s.length → g j = f j) → stk f s → stk g s
  | [], _, _ => trivial
  | x :: r, h, hs => ⟨by rw [h r.length (by simp)]; exact hs.1, stk_u (fun j hj => h j (by simp; omega)) hs.2⟩
theorem stk_p {I : MI} {K : Nat} {s : List Int} {j : Nat} {x : Int} (h : stk (I K) s) (hj : s.length ≤ j) : stk ((u2 I K j x) K) s := stk_u (fun i hi => u2j (by omega)) h
theorem stk_push {I : MI} {K : Nat} {s : List Int} {x : Int} (h : stk (I K) s) : stk ((u2 I K s.length x) K) (x :: s) := ⟨u2e, stk_p h (Nat.le_refl _)⟩
/-- the kinds of what is on the stack -/
def okTy : List Bool → List Int → Prop
  | [], [] => True
  | t :: ts, x :: xs => (t = true → x = 0 ∨ x = 1) ∧ okTy ts xs
  | _, _ => False
theorem okTy_len : ∀ {ts : List Bool} {s : List Int}, okTy ts s → s.length = ts.length
  | [], [], _ => rfl
  | t :: ts, x :: xs, h => by simp [okTy_len h.2]
  | [], _ :: _, h => h.elim
  | _ :: _, [], h => h.elim
theorem okTy1 {t : Bool} {ts : List Bool} {s : List Int} (h : okTy (t :: ts) s) : ∃ x r, s = x :: r ∧ (t = true → x = 0 ∨ x = 1) ∧ okTy ts r := by
  cases s with
  | nil => exact h.elim
  | cons x r => exact ⟨x, r, rfl, h.1, h.2⟩
theorem and01 {x y : Int} (hx : x = 0 ∨ x = 1) (hy : y = 0 ∨ y = 1) : (iAnd x y = 0 ∨ iAnd x y = 1) ∧ (iOr x y = 0 ∨ iOr x y = 1) := by
  rcases hx with rfl | rfl <;> rcases hy with rfl | rfl <;> decide
/-- what a step does, kind by kind -/
def binK (c : Int) : Prop := c = 13 ∨ c = 14 ∨ c = 15 ∨ c = 17 ∨ c = 18 ∨ c = 19 ∨ c = 21 ∨ c = 22
theorem tyS_ok {vals : Int → Int} {q : Stp1} {ty ty2 : List Bool} {s : List Int} {home : Bool} (hq : okStp home q) (ht : tyS q ty = some ty2) (hs : okTy ty s) :
    okTy ty2 (stpS vals q s) ∧ ((q.1 < 13 ∧ 0 ≤ q.1 ∧ stpS vals q s = (if q.1 = 0 then q.2 else vals q.1) :: s) ∨ (q.1 = 16 ∧ ∃ x r, s = x :: r ∧ stpS vals q s = iDiv x q.2 :: r) ∨ (q.1 = 20 ∧ ∃ x r, s = x :: r ∧ stpS vals q s = w32 (1 - x) :: r) ∨ (binK q.1 ∧ ∃ x y r, s = x :: y :: r ∧ stpS vals q s = binS q.1 y x :: r)) := by
  obtain ⟨c, w⟩ := q
  have hc : 0 ≤ c ∧ c < 23 := by
    unfold okStp at hq
    simp only [] at hq
    omega
  by_cases h13 : c < 13
  · have e : stpS vals (c, w) s = (if c = 0 then w else vals c) :: s := by
      unfold stpS
      simp only []
      split
      · rfl
      · first | rfl | rw [if_pos h13]
    unfold tyS at ht
    simp only [h13, if_true] at ht
    obtain rfl := Option.some.inj ht
    rw [e]
    exact ⟨⟨fun q => absurd q (by decide), hs⟩, Or.inl ⟨h13, hc.1, rfl⟩⟩
  · have n0 : ¬ c = 0 := by omega
    by_cases h16 : c = 16
    · subst h16
      unfold tyS at ht
      simp only [show ¬ (16 : Int) < 13 by decide, if_false, if_true] at ht
      match ty, ht, hs with
      | false :: r, ht, hs =>
        obtain rfl := Option.some.inj ht
        obtain ⟨x, r2, rfl, -, h2⟩ := okTy1 hs
        have e : stpS vals (16, w) (x :: r2) = iDiv x w :: r2 := by
          unfold stpS
          simp only [show ¬ (16 : Int) = 0 by decide, show ¬ (16 : Int) < 13 by decide, if_false, if_true]
        rw [e]
        exact ⟨⟨fun q => absurd q (by decide), h2⟩, Or.inr (Or.inl ⟨rfl, x, r2, rfl, rfl⟩)⟩
      | true :: r, ht, hs => exact absurd ht (by simp)
      | [], ht, hs => exact absurd ht (by simp)
    · by_cases h20 : c = 20
      · subst h20
        unfold tyS at ht
        simp only [show ¬ (20 : Int) < 13 by decide, show ¬ (20 : Int) = 16 by decide, show ¬ (20 : Int) < 16 by decide, show ¬ (20 : Int) < 20 by decide, if_false, if_true] at ht
        match ty, ht, hs with
        | true :: r, ht, hs =>
          obtain rfl := Option.some.inj ht
          obtain ⟨x, r2, rfl, h1, h2⟩ := okTy1 hs
          have e : stpS vals (20, w) (x :: r2) = w32 (1 - x) :: r2 := by
            unfold stpS
            simp only [show ¬ (20 : Int) = 0 by decide, show ¬ (20 : Int) < 13 by decide, show ¬ (20 : Int) = 16 by decide, if_false, if_true]
          rw [e]
          refine ⟨⟨fun _ => ?_, h2⟩, Or.inr (Or.inr (Or.inl ⟨rfl, x, r2, rfl, rfl⟩))⟩
          rcases h1 rfl with rfl | rfl
          · exact Or.inr (by decide)
          · exact Or.inl (by decide)
        | false :: r, ht, hs => exact absurd ht (by simp)
        | [], ht, hs => exact absurd ht (by simp)
      · have bin : ∀ x y r, stpS vals (c, w) (x :: y :: r) = binS c y x :: r := by
          intro x y r
          unfold stpS
          simp only [n0, h13, h16, h20, if_false]
        unfold tyS at ht
        simp only [h13, h16, h20, if_false] at ht
        by_cases h16b : c < 16
        · simp only [h16b, if_true] at ht
          match ty, ht, hs with
          | false :: false :: r, ht, hs =>
            obtain rfl := Option.some.inj ht
            obtain ⟨x, r2, rfl, -, h2⟩ := okTy1 hs
            obtain ⟨y, r3, rfl, -, h3⟩ := okTy1 h2
            rw [bin]
            exact ⟨⟨fun q => absurd q (by decide), h3⟩, Or.inr (Or.inr (Or.inr ⟨by unfold binK; omega, x, y, r3, rfl, rfl⟩))⟩
          | true :: r, ht, hs => exact absurd ht (by simp)
          | false :: true :: r, ht, hs => exact absurd ht (by simp)
          | [false], ht, hs => exact absurd ht (by simp)
          | [], ht, hs => exact absurd ht (by simp)
        · simp only [h16b, if_false] at ht
          by_cases h20b : c < 20
          · simp only [h20b, if_true] at ht
            match ty, ht, hs with
            | false :: false :: r, ht, hs =>
              obtain rfl := Option.some.inj ht
              obtain ⟨x, r2, rfl, -, h2⟩ := okTy1 hs
              obtain ⟨y, r3, rfl, -, h3⟩ := okTy1 h2
              rw [bin]
              refine ⟨⟨fun _ => ?_, h3⟩, Or.inr (Or.inr (Or.inr ⟨by unfold binK; omega, x, y, r3, rfl, rfl⟩))⟩
              unfold binS
              rw [if_neg (by omega), if_neg (by omega), if_neg (by omega)]
              split
              · split
                · exact Or.inr rfl
                · exact Or.inl rfl
              · split
                · split
                  · exact Or.inr rfl
                  · exact Or.inl rfl
                · rw [if_pos (by omega)]
                  split
                  · exact Or.inr rfl
                  · exact Or.inl rfl
            | true :: r, ht, hs => exact absurd ht (by simp)
            | false :: true :: r, ht, hs => exact absurd ht (by simp)
            | [false], ht, hs => exact absurd ht (by simp)
            | [], ht, hs => exact absurd ht (by simp)
          · simp only [h20b, if_false] at ht
            match ty, ht, hs with
            | true :: true :: r, ht, hs =>
              obtain rfl := Option.some.inj ht
              obtain ⟨x, r2, rfl, h1, h2⟩ := okTy1 hs
              obtain ⟨y, r3, rfl, h4, h3⟩ := okTy1 h2
              rw [bin]
              refine ⟨⟨fun _ => ?_, h3⟩, Or.inr (Or.inr (Or.inr ⟨by unfold binK; omega, x, y, r3, rfl, rfl⟩))⟩
              have ha := and01 (h4 rfl) (h1 rfl)
              unfold binS
              rw [if_neg (by omega), if_neg (by omega), if_neg (by omega), if_neg (by omega), if_neg (by omega), if_neg (by omega)]
              split
              · exact ha.1
              · exact ha.2
            | false :: r, ht, hs => exact absurd ht (by simp)
            | true :: false :: r, ht, hs => exact absurd ht (by simp)
            | [true], ht, hs => exact absurd ht (by simp)
            | [], ht, hs => exact absurd ht (by simp)
/-- what the class's signs do -/
def jn (op y z : Int) : Int := if op = 3 then iOr y z else if op = 4 then iAnd y z else if op = 42 then w32 (y * z) else if op = 43 then w32 (y + z) else if op = 45 then w32 (y - z) else if op = 47 then (if z = 0 then 0 else iDiv y z) else if op = 60 then (if y < z then 1 else 0) else if op = 61 then (if y = z then 1 else 0) else if op = 62 then (if z < y then 1 else 0) else 0
section EVAL
variable {G : Ctx} {h n : Nat} {I : MI} {J : MJ} {b : B3} {x y z u v e : Int} {a : BitVec 64}
theorem s117 {K : Int → MI → MJ → B3 → Prop} (hh : 1 ≤ h) (k : K (jn x y z) I J b) : TriM G h 117 119 119 [vi x, vi y, vi z] (I, J, PP b) (cIN K) := by
  refine x117_m hh (fun h hh => x117 hh ⟨⟨fun q => ?_, fun q => ?_, fun q => ?_, fun q => ?_, fun q => ?_, fun q => ⟨fun q2 => ⟨q2, ?_⟩, fun q2 => ?_⟩, fun q => ⟨fun q2 => ?_, fun q2 => ?_⟩, fun q => ⟨fun q2 => ?_, fun q2 => ?_⟩, fun q => ⟨fun q2 => ?_, fun q2 => ?_⟩, trivial⟩, fun c1 c2 c3 c4 c5 c6 c7 c8 c9 => ?_⟩)
  all_goals refine cIN_r fun _ => ?_
  · subst q; exact k
  · subst q; exact k
  · subst q; exact k
  · subst q; exact k
  · subst q; exact k
  · subst q
    have e : jn 47 y z = iDiv y z := by show (if z = 0 then 0 else iDiv y z) = _; rw [if_neg q2]
    rw [e] at k; exact k
  · subst q
    have e : jn 47 y z = 0 := by show (if z = 0 then 0 else iDiv y z) = _; rw [if_pos (by omega)]
    rw [e] at k; exact k
  · subst q
    have e : jn 60 y z = 0 := by show (if y < z then (1 : Int) else 0) = _; rw [if_neg (by omega)]
    rw [e] at k; exact k
  · subst q
    have e : jn 60 y z = 1 := by show (if y < z then (1 : Int) else 0) = _; rw [if_pos (by omega)]
    rw [e] at k; exact k
  · subst q
    have e : jn 61 y z = 0 := by show (if y = z then (1 : Int) else 0) = _; rw [if_neg (by omega)]
    rw [e] at k; exact k
  · subst q
    have e : jn 61 y z = 1 := by show (if y = z then (1 : Int) else 0) = _; rw [if_pos (by omega)]
    rw [e] at k; exact k
  · subst q
    have e : jn 62 y z = 0 := by show (if z < y then (1 : Int) else 0) = _; rw [if_neg (by omega)]
    rw [e] at k; exact k
  · subst q
    have e : jn 62 y z = 1 := by show (if z < y then (1 : Int) else 0) = _; rw [if_pos (by omega)]
    rw [e] at k; exact k
  · unfold jn at k
    rw [if_neg c1, if_neg c2, if_neg c3, if_neg c4, if_neg c5, if_neg c6, if_neg c7, if_neg c8, if_neg c9] at k
    exact k
theorem s220 {K : Int → MI → MJ → B3 → Prop} (hh : 1 ≤ h) (hx : binK x) (k : K (binS x y z) I J b) : TriM G h 220 119 119 [vi x, vi y, vi z] (I, J, PP b) (cIN K) := by
  unfold binK at hx
  refine x220_m hh (fun h hh => x220 hh ⟨⟨fun q => ?_, fun q => ?_, fun q => ?_, fun q => by omega, fun q => ⟨fun q2 => ?_, fun q2 => ?_⟩, fun q => ⟨fun q2 => ?_, fun q2 => ?_⟩, fun q => ⟨fun q2 => ?_, fun q2 => ?_⟩, fun q => by omega, fun q => ?_, trivial⟩, fun q => ?_⟩)
  all_goals refine cIN_r fun _ => ?_
  · subst q; exact k
  · subst q; exact k
  · subst q; exact k
  · subst q
    have e : binS 17 y z = 0 := by show (if y < z then (1 : Int) else 0) = _; rw [if_neg (by omega)]
    rw [e] at k; exact k
  · subst q
    have e : binS 17 y z = 1 := by show (if y < z then (1 : Int) else 0) = _; rw [if_pos (by omega)]
    rw [e] at k; exact k
  · subst q
    have e : binS 18 y z = 0 := by show (if y = z then (1 : Int) else 0) = _; rw [if_neg (by omega)]
    rw [e] at k; exact k
  · subst q
    have e : binS 18 y z = 1 := by show (if y = z then (1 : Int) else 0) = _; rw [if_pos (by omega)]
    rw [e] at k; exact k
  · subst q
    have e : binS 19 y z = 0 := by show (if z < y then (1 : Int) else 0) = _; rw [if_neg (by omega)]
    rw [e] at k; exact k
  · subst q
    have e : binS 19 y z = 1 := by show (if z < y then (1 : Int) else 0) = _; rw [if_pos (by omega)]
    rw [e] at k; exact k
  · subst q; exact k
  · obtain rfl : x = 22 := by omega
    exact k

theorem s116_13 {K : Int → MI → MJ → B3 → Prop} {s : List Int} {w : Int} (hh : 2 ≤ h) (hx : ¬ x = 5) (hl : s.length < 30) (k : ∀ I', frK [15] I I' → (stk (I 15) (w :: z :: s) → stk (I' 15) (jn x z w :: s)) → K (s.length + 1) I' J b) (hs : stk (I 15) (w :: z :: s)) : TriM G h 116 119 119 [vr 13, vi x, vi (s.length + 2 : Nat)] (I, J, PP b) (cIN K) := by
  refine x116_13_m hh (fun h hh => x116_13 hh ⟨fun _ => ⟨fun q => by omega, fun q => ⟨fun q2 => ?_, fun q2 => by omega⟩⟩, fun q => absurd hx q⟩)
  rw [w32_id (x := ((s.length + 2 : Nat) : Int) - 2) (by omega) (by omega), w32_id (x := ((s.length + 2 : Nat) : Int) - 1) (by omega) (by omega), show (((s.length + 2 : Nat) : Int) - 2).toNat = s.length by omega, show (((s.length + 2 : Nat) : Int) - 1).toNat = (z :: s).length by simp; omega]
  obtain ⟨h1, h2, h3⟩ := hs
  rw [h1, h2]
  refine ⟨by omega, by omega, s117 (by omega) ⟨by omega, cIN_r fun _ => ?_⟩⟩
  rw [show ((s.length + 2 : Nat) : Int) - 1 = s.length + 1 by omega]
  exact k _ (frK.r.u (by decide)) fun _ => stk_push h3
theorem s116n_13 {K : Int → MI → MJ → B3 → Prop} {s : List Int} {w : Int} (hh : 2 ≤ h) (hl : s.length < 31) (k : ∀ I', frK [15] I I' → stk (I' 15) (w32 (1 - w) :: s) → K (s.length + 1) I' J b) (hs : stk (I 15) (w :: s)) : TriM G h 116 119 119 [vr 13, vi 5, vi (s.length + 1 : Nat)] (I, J, PP b) (cIN K) := by
  refine x116_13_m hh (fun h hh => x116_13 hh ⟨fun q => absurd rfl q, fun q => ?_⟩)
  rw [w32_id (x := ((s.length + 1 : Nat) : Int) - 1) (by omega) (by omega), show (((s.length + 1 : Nat) : Int) - 1).toNat = s.length by omega]
  obtain ⟨h1, h2⟩ := hs
  rw [h1]
  exact ⟨fun q2 => ⟨by omega, by omega, cIN_r fun _ => k _ (frK.r.u (by decide)) (stk_push h2)⟩, fun q2 => by omega⟩
theorem s115_13 {K : Int → MI → MJ → B3 → Prop} (hh : 2 ≤ h) (hx : 0 ≤ x ∧ x < 7) (k : K (I 68 x.toNat) I J b) : TriM G h 115 119 119 [vi x, vr 68] (I, J, PP b) (cIN K) :=
  x115_68_m hh (fun h hh => x115_68 hh ⟨fun q => ⟨q, cIN_r fun _ => k⟩, fun q => absurd hx q⟩)
/-- one step of a line -/
theorem ev_13 {Q : MP} {q : Stp1} {ty ty2 : List Bool} {s : List Int} {i N : Nat} {I' : MI} {vals : Int → Int} (hh : 2 ≤ h) (hN : I 13 2 = N ∧ N ≤ 400) (hv : ∀ c : Int, 1 ≤ c → c < 8 → vals c = I 68 (c - 1).toNat) (hq : okStp false q) (ht : tyS q ty = some ty2) (hty : okTy ty s) (hlen : ty2.length < 31) (hlen1 : ty.length < 31) (hw : hasAt (I 14) i (enc q)) (hi : i + (enc q).length ≤ N) (hf : frK [15] I I') (hs : stk (I' 15) s) (k : ∀ I2, frK [15] I I2 → stk (I2 15) (stpS vals q s) → okTy ty2 (stpS vals q s) → Tri G h 114 119 119 4 [some (vr 13), some (vr 68), some (vi (stpS vals q s).length), some (vi (i + (enc q).length : Nat))] [] (I2, J, PP b) Q) : Tri G h 114 119 119 4 [some (vr 13), some (vr 68), some (vi s.length), some (vi i)] [] (I', J, PP b) Q := by
  have fT := hf 13 (by decide)
  have fC := hf 14 (by decide)
  have fV := hf 68 (by decide)
  have hsl := okTy_len hty
  obtain ⟨ho, hcase⟩ := tyS_ok (vals := vals) hq ht hty
  have hsl2 := okTy_len ho
  -- a word: a number is put on the stack
  have num : ∀ (j : Nat) (w : Int) (s : List Int) (I' : MI), j < N → I 14 j = w → 0 ≤ w → w < 10000 → s.length < 32 → frK [15] I I' → Tri G h 114 119 119 4 [some (vr 13), some (vr 68), some (vi (s.length + 1 : Nat)), some (vi (j + 1 : Nat))] [] (u2 I' 15 s.length w, J, PP b) Q → Tri G h 114 119 119 4 [some (vr 13), some (vr 68), some (vi s.length), some (vi j)] [] (I', J, PP b) Q := by
    intro j w s I' hj hw h0 h1 hl hf k2
    have fT := hf 13 (by decide)
    have fC := hf 14 (by decide)
    refine x114_13_4 hh ?_
    rw [fT, fC, toN, hw, w32_id (x := (j : Int) + 1) (by omega) (by omega), w32_id (x := (s.length : Int) + 1) (by omega) (by omega), toN]
    exact ⟨fun q => by omega, fun q => ⟨fun q2 => by omega, fun q2 => ⟨by omega, fun q3 => ⟨fun q4 => ⟨fun q5 => by omega, fun q5 => ⟨fun q6 => by omega, fun q6 => ⟨by omega, k2⟩⟩⟩, fun q4 => by omega⟩, fun q3 => by omega⟩⟩⟩
  -- a word: a sign that joins two
  have two : ∀ (j : Nat) (op w z : Int) (s : List Int) (I' : MI), j < N → I 14 j = 20000 + op → 0 ≤ op → op < 100 → ¬ op = 5 → s.length < 30 → frK [15] I I' → stk (I' 15) (w :: z :: s) → (∀ I2, frK [15] I I2 → stk (I2 15) (jn op z w :: s) → Tri G h 114 119 119 4 [some (vr 13), some (vr 68), some (vi (s.length + 1 : Nat)), some (vi (j + 1 : Nat))] [] (I2, J, PP b) Q) → Tri G h 114 119 119 4 [some (vr 13), some (vr 68), some (vi (s.length + 2 : Nat)), some (vi j)] [] (I', J, PP b) Q := by
    intro j op w z s I' hj hw h0 h1 h5 hl hf hs k2
    have fT := hf 13 (by decide)
    have fC := hf 14 (by decide)
    refine x114_13_4 hh ?_
    rw [fT, fC, toN, hw, w32_id (x := (j : Int) + 1) (by omega) (by omega), w32_id (x := 20000 + op - 20000) (by omega) (by omega), show 20000 + op - 20000 = op by omega]
    exact ⟨fun q => by omega, fun q => ⟨fun q2 => by omega, fun q2 => ⟨by omega, fun q3 => ⟨fun q4 => by omega, fun q4 => s116_13 (by omega) h5 hl (fun I2 hf2 hs2 => k2 I2 (hf.t hf2) (hs2 hs)) hs⟩, fun q3 => by omega⟩⟩⟩
  rcases hcase with ⟨c1, c0, e⟩ | ⟨c1, x, r, rfl, e⟩ | ⟨c1, x, r, rfl, e⟩ | ⟨c1, x, y, r, rfl, e⟩
  · have hl : s.length < 31 := by rw [hsl]; exact hlen1
    by_cases hz : q.1 = 0
    · have he : enc q = [q.2] := by unfold enc; rw [if_pos hz]
      have hb : 0 ≤ q.2 ∧ q.2 < 10000 := by unfold okStp at hq; omega
      rw [he] at hw hi k
      rw [if_pos hz] at e
      refine num i q.2 s I' (by have : i + 1 ≤ N := hi; omega) (by simpa using hw 0 q.2 rfl) hb.1 hb.2 (by omega) hf ?_
      have := k (u2 I' 15 s.length q.2) (hf.u (by decide)) (by rw [e]; exact stk_push hs) ho
      rw [e] at this
      exact this
    · have hr : 1 ≤ q.1 ∧ q.1 < 8 := by unfold okStp at hq; simp at hq; omega
      have he : enc q = [10000 + (q.1 - 1)] := by
        unfold enc
        rw [if_neg hz]
        rw [if_pos (by omega)]
      rw [he] at hw hi k
      rw [if_neg hz] at e
      have hw0 : I 14 i = 10000 + (q.1 - 1) := by simpa using hw 0 _ rfl
      have hi2 : i < N := by have : i + 1 ≤ N := hi; omega
      refine x114_13_4 hh ?_
      rw [fT, fC, toN, hw0, w32_id (x := (i : Int) + 1) (by omega) (by omega), w32_id (x := (s.length : Int) + 1) (by omega) (by omega), toN, w32_id (x := 10000 + (q.1 - 1) - 10000) (by omega) (by omega)]
      refine ⟨fun q9 => by omega, fun q9 => ⟨fun q2 => by omega, fun q2 => ⟨by omega, fun q3 => ⟨fun q4 => ⟨fun q5 => by omega, fun q5 => ⟨fun q6 => s115_13 (by omega) (by omega) ⟨by omega, ?_⟩, fun q6 => by omega⟩⟩, fun q4 => by omega⟩, fun q3 => by omega⟩⟩⟩
      rw [fV, show 10000 + (q.1 - 1) - 10000 = q.1 - 1 by omega, ← hv q.1 (by omega) (by omega)]
      have := k (u2 I' 15 s.length (vals q.1)) (hf.u (by decide)) (by rw [e]; exact stk_push hs) ho
      rw [e] at this
      exact this
  · have he : enc q = [q.2, 20047] := by
      unfold enc
      rw [c1]
      rfl
    have hb : 1 ≤ q.2 ∧ q.2 < 10000 := by unfold okStp at hq; simp at hq; omega
    rw [he] at hw hi k
    have hi2 : i + 1 < N := by have : i + 2 ≤ N := hi; omega
    have hl : (x :: r).length < 31 := by rw [hsl]; exact hlen1
    have hl2 : r.length < 30 := by simp at hl; omega
    refine num i q.2 (x :: r) I' (by omega) (by simpa using hw 0 q.2 rfl) (by omega) hb.2 (by omega) hf ?_
    refine two (i + 1) 47 q.2 x r _ hi2 (by simpa using hw 1 20047 rfl) (by omega) (by omega) (by omega) hl2 (hf.u (by decide)) (stk_push hs) (fun I2 hf2 hs2 => ?_)
    have ej : jn 47 x q.2 = iDiv x q.2 := by show (if q.2 = 0 then 0 else iDiv x q.2) = _; rw [if_neg (by omega)]
    rw [ej] at hs2
    have := k I2 hf2 (by rw [e]; exact hs2) ho
    rw [e] at this
    exact this
  · have he : enc q = [20005] := by
      unfold enc
      rw [c1]
      rfl
    rw [he] at hw hi k
    have hi2 : i < N := by have : i + 1 ≤ N := hi; omega
    have hl : (x :: r).length < 31 := by rw [hsl]; exact hlen1
    have hl2 : r.length < 31 := by simp at hl; omega
    have hw0 : I 14 i = 20005 := by simpa using hw 0 _ rfl
    refine x114_13_4 hh ?_
    rw [fT, fC, toN, hw0, w32_id (x := (i : Int) + 1) (by omega) (by omega), show w32 (20005 - 20000) = 5 by decide]
    refine ⟨fun q => by omega, fun q => ⟨fun q2 => by omega, fun q2 => ⟨by omega, fun q3 => ⟨fun q4 => by omega, fun q4 => s116n_13 (by omega) hl2 (fun I2 hf2 hs2 => ?_) hs⟩, fun q3 => by omega⟩⟩⟩
    have := k I2 (hf.t hf2) (by rw [e]; exact hs2) ho
    rw [e] at this
    exact this
  · have hl : (x :: y :: r).length < 31 := by rw [hsl]; exact hlen1
    have hl2 : r.length < 30 := by simp at hl; omega
    have key : ∀ op : Int, enc q = [20000 + op] → 0 ≤ op → op < 100 → ¬ op = 5 → jn op y x = binS q.1 y x → Tri G h 114 119 119 4 [some (vr 13), some (vr 68), some (vi (x :: y :: r).length), some (vi i)] [] (I', J, PP b) Q := by
      intro op he h0 h1 h5 ej
      rw [he] at hw hi k
      have hi2 : i < N := by have : i + 1 ≤ N := hi; omega
      refine two i op x y r I' hi2 (by simpa using hw 0 _ rfl) h0 h1 h5 hl2 hf hs (fun I2 hf2 hs2 => ?_)
      rw [ej] at hs2
      have := k I2 hf2 (by rw [e]; exact hs2) ho
      rw [e] at this
      exact this
    obtain ⟨c, w⟩ := q
    rcases c1 with c1 | c1 | c1 | c1 | c1 | c1 | c1 | c1
    · have c1 : c = 13 := c1
      subst c1
      exact key 43 rfl (by omega) (by omega) (by omega) rfl
    · have c1 : c = 14 := c1
      subst c1
      exact key 45 rfl (by omega) (by omega) (by omega) rfl
    · have c1 : c = 15 := c1
      subst c1
      exact key 42 rfl (by omega) (by omega) (by omega) rfl
    · have c1 : c = 17 := c1
      subst c1
      exact key 60 rfl (by omega) (by omega) (by omega) rfl
    · have c1 : c = 18 := c1
      subst c1
      exact key 61 rfl (by omega) (by omega) (by omega) rfl
    · have c1 : c = 19 := c1
      subst c1
      exact key 62 rfl (by omega) (by omega) (by omega) rfl
    · have c1 : c = 21 := c1
      subst c1
      exact key 4 rfl (by omega) (by omega) (by omega) rfl
    · have c1 : c = 22 := c1
      subst c1
      exact key 3 rfl (by omega) (by omega) (by omega) rfl
theorem evs_13 {Q : MP} {N : Nat} {vals : Int → Int} (hh : 2 ≤ h) (hN : I 13 2 = N ∧ N ≤ 400) (hv : ∀ c : Int, 1 ≤ c → c < 8 → vals c = I 68 (c - 1).toNat) : ∀ (l : List Stp1) (ty ty2 : List Bool) (s : List Int) (i : Nat) (I' : MI), (∀ q ∈ l, okStp false q) → tyR l ty = some ty2 → okTy ty s → ty.length < 31 → hasAt (I 14) i (encs l) → i + (encs l).length ≤ N → frK [15] I I' → stk (I' 15) s → (∀ I2, frK [15] I I2 → stk (I2 15) (runS vals l s) → okTy ty2 (runS vals l s) → Tri G h 114 119 119 4 [some (vr 13), some (vr 68), some (vi (runS vals l s).length), some (vi (i + (encs l).length : Nat))] [] (I2, J, PP b) Q) → Tri G h 114 119 119 4 [some (vr 13), some (vr 68), some (vi s.length), some (vi i)] [] (I', J, PP b) Q
  | [], ty, ty2, s, i, I', ho, ht, hty, hl, hw, hi, hf, hs, k => by
    have : ty = ty2 := by simpa [tyR] using ht
    subst this
    exact k I' hf hs hty
  | q :: l, ty, ty2, s, i, I', ho, ht, hty, hl, hw, hi, hf, hs, k => by
    have ee : encs (q :: l) = enc q ++ encs l := rfl
    rw [ee] at hw hi k
    rw [List.length_append] at hi
    simp only [tyR] at ht
    cases h1 : tyS q ty with
    | none => rw [h1] at ht; exact absurd ht (by simp)
    | some ty1 =>
      rw [h1] at ht
      simp only [] at ht
      by_cases hlen : ty1.length < 31
      · rw [if_pos hlen] at ht
        refine ev_13 hh hN hv (ho q List.mem_cons_self) h1 hty hlen hl (fun j x hx => hw j x ?_) (by omega) hf hs (fun I2 hf2 hs2 ho2 => ?_)
        · rw [List.getElem?_append_left (List.getElem?_eq_some_iff.1 hx).1]; exact hx
        · refine evs_13 hh hN hv l ty1 ty2 (stpS vals q s) (i + (enc q).length) I2 (fun q2 hq2 => ho q2 (List.mem_cons_of_mem _ hq2)) ht ho2 hlen (fun j x hx => ?_) (by omega) hf2 hs2 (fun I3 hf3 hs3 ho3 => ?_)
          · have := hw ((enc q).length + j) x (by rw [List.getElem?_append_right (by omega), show (enc q).length + j - (enc q).length = j by omega]; exact hx)
            rw [← Nat.add_assoc] at this
            exact this
          · have := k I3 hf3 hs3 ho3
            rw [List.length_append, ← Nat.add_assoc] at this
            exact this
      · rw [if_neg hlen] at ht; exact absurd ht (by simp)
/-- what a text answers -/
theorem evl_13 {K : Int → MI → MJ → B3 → Prop} {N : Nat} {vals : Int → Int} (hh : 2 ≤ h) (hN : I 13 2 = N ∧ N ≤ 400) (hv : ∀ c : Int, 1 ≤ c → c < 8 → vals c = I 68 (c - 1).toNat) : ∀ (p : List Lin) (i : Nat) (I' : MI), (∀ q ∈ p, okLin false q) → hasAt (I 14) i (encP p) → i + (encP p).length = N → frK [15] I I' → (∀ I2, frK [15] I I2 → K (match firstL vals p with | none => -1 | some q => if q.1 = 2 then 1 else 0) I2 J b) → Tri G h 114 119 119 4 [some (vr 13), some (vr 68), some (vi 0), some (vi i)] [] (I', J, PP b) (cIN K)
  | [], i, I', ho, hw, hi, hf, k => by
    have fT := hf 13 (by decide)
    have hi2 : i = N := hi
    refine x114_13_4 hh ?_
    rw [fT]
    exact ⟨fun q => cIN_r fun _ => k I' hf, fun q => by omega⟩
  | q :: p, i, I', ho, hw, hi, hf, k => by
    have ee : encP (q :: p) = encs q.2 ++ ([30000 + (if q.1 = 2 then 1 else 0)] ++ encP p) := by
      show encL q ++ encP p = _
      unfold encL
      rw [List.append_assoc]
    rw [ee] at hw hi
    rw [List.length_append, List.length_append] at hi
    have hi3 : i + ((encs q.2).length + (1 + (encP p).length)) = N := hi
    obtain ⟨o1, o2, o3⟩ := ho q List.mem_cons_self
    refine evs_13 (s := []) hh hN hv q.2 [] [true] i I' o1 o2 trivial (by decide) (fun j x hx => hw j x ?_) (by omega) hf trivial (fun I2 hf2 hs2 ho2 => ?_)
    · rw [List.getElem?_append_left (List.getElem?_eq_some_iff.1 hx).1]; exact hx
    · obtain ⟨x, r, hr, hx01, hr2⟩ := okTy1 ho2
      have hx01 := hx01 rfl
      have hrn : r = [] := by
        cases r with
        | nil => rfl
        | cons a b => exact hr2.elim
      subst hrn
      rw [hr] at hs2 ⊢
      have h15 : I2 15 0 = x := hs2.1
      have fT := hf2 13 (by decide)
      have fC := hf2 14 (by decide)
      have hw0 : I 14 (i + (encs q.2).length) = 30000 + (if q.1 = 2 then 1 else 0) := hw (encs q.2).length _ (by rw [List.getElem?_append_right (Nat.le_refl _), Nat.sub_self]; rfl)
      obtain ⟨z, hz, hz01⟩ : ∃ z : Int, (if q.1 = 2 then (1 : Int) else 0) = z ∧ (z = 0 ∨ z = 1) := ⟨_, rfl, by split <;> simp⟩
      rw [hz] at hw0
      have hfst : firstL vals (q :: p) = if x = 1 then some q else firstL vals p := by
        unfold firstL
        have e : soL vals q = decide (x = 1) := by
          unfold soL
          rw [hr]
          exact decide_eq_decide.2 ⟨fun q => by simpa using q, fun q => by rw [q]⟩
        rw [List.find?_cons, e]
        by_cases hx1 : x = 1
        · rw [if_pos hx1]; simp [hx1]
        · rw [if_neg hx1]; simp [hx1]
      refine x114_13_4 hh ?_
      rw [fT, fC, toN, hw0, h15, w32_id (x := ((i + (encs q.2).length : Nat) : Int) + 1) (by omega) (by omega), w32_id (x := 30000 + z - 30000) (by omega) (by omega)]
      refine ⟨fun q9 => by omega, fun q9 => ⟨fun q2 => by omega, fun q2 => ⟨by omega, fun q3 => by omega, fun q3 => ⟨fun q4 => ?_, fun q4 => cIN_r fun _ => ?_⟩⟩⟩⟩
      · rw [if_neg (by omega)] at hfst
        rw [hfst] at k
        refine evl_13 hh hN hv p (i + (encs q.2).length + 1) I2 (fun q2 hq2 => ho q2 (List.mem_cons_of_mem _ hq2)) (fun j x hx => ?_) (by omega) hf2 k
        have := hw ((encs q.2).length + (1 + j)) x (by rw [List.getElem?_append_right (by omega), show (encs q.2).length + (1 + j) - (encs q.2).length = 1 + j by omega, List.getElem?_append_right (by simp)]; simp; exact hx)
        rw [show i + (encs q.2).length + 1 + j = i + ((encs q.2).length + (1 + j)) by omega]
        exact this
      · rw [if_pos (by omega)] at hfst
        rw [hfst] at k
        have := k I2 hf2
        simp only [hz] at this
        rw [show 30000 + z - 30000 = z by omega]
        exact this
theorem s114_13 {K : Int → MI → MJ → B3 → Prop} {p : List Lin} {w kk : Nat} {vals : Int → Int} (hh : 3 ≤ h) (ht : rTxt 13 w kk I false p) (hv : ∀ c : Int, 1 ≤ c → c < 8 → vals c = I 68 (c - 1).toNat) (k : ∀ I2, frK [15] I I2 → K (match firstL vals p with | none => -1 | some q => if q.1 = 2 then 1 else 0) I2 J b) : TriM G h 114 119 119 [vr 13, vr 68] (I, J, PP b) (cIN K) := by
  obtain ⟨a1, a2, a3, a4, a5, a6, a7, a8⟩ := ht
  exact x114_13_m hh (fun h hh => x114_13 (Nat.zero_le _) (evl_13 hh ⟨a2.1, a2.2⟩ hv p 0 I a8 a3 (Nat.zero_add _) frK.r k))

theorem s116_16 {K : Int → MI → MJ → B3 → Prop} {s : List Int} {w : Int} (hh : 2 ≤ h) (hx : ¬ x = 5) (hl : s.length < 30) (k : ∀ I', frK [18] I I' → (stk (I 18) (w :: z :: s) → stk (I' 18) (jn x z w :: s)) → K (s.length + 1) I' J b) (hs : stk (I 18) (w :: z :: s)) : TriM G h 116 119 119 [vr 16, vi x, vi (s.length + 2 : Nat)] (I, J, PP b) (cIN K) := by
  refine x116_16_m hh (fun h hh => x116_16 hh ⟨fun _ => ⟨fun q => by omega, fun q => ⟨fun q2 => ?_, fun q2 => by omega⟩⟩, fun q => absurd hx q⟩)
  rw [w32_id (x := ((s.length + 2 : Nat) : Int) - 2) (by omega) (by omega), w32_id (x := ((s.length + 2 : Nat) : Int) - 1) (by omega) (by omega), show (((s.length + 2 : Nat) : Int) - 2).toNat = s.length by omega, show (((s.length + 2 : Nat) : Int) - 1).toNat = (z :: s).length by simp; omega]
  obtain ⟨h1, h2, h3⟩ := hs
  rw [h1, h2]
  refine ⟨by omega, by omega, s117 (by omega) ⟨by omega, cIN_r fun _ => ?_⟩⟩
  rw [show ((s.length + 2 : Nat) : Int) - 1 = s.length + 1 by omega]
  exact k _ (frK.r.u (by decide)) fun _ => stk_push h3
theorem s116n_16 {K : Int → MI → MJ → B3 → Prop} {s : List Int} {w : Int} (hh : 2 ≤ h) (hl : s.length < 31) (k : ∀ I', frK [18] I I' → stk (I' 18) (w32 (1 - w) :: s) → K (s.length + 1) I' J b) (hs : stk (I 18) (w :: s)) : TriM G h 116 119 119 [vr 16, vi 5, vi (s.length + 1 : Nat)] (I, J, PP b) (cIN K) := by
  refine x116_16_m hh (fun h hh => x116_16 hh ⟨fun q => absurd rfl q, fun q => ?_⟩)
  rw [w32_id (x := ((s.length + 1 : Nat) : Int) - 1) (by omega) (by omega), show (((s.length + 1 : Nat) : Int) - 1).toNat = s.length by omega]
  obtain ⟨h1, h2⟩ := hs
  rw [h1]
  exact ⟨fun q2 => ⟨by omega, by omega, cIN_r fun _ => k _ (frK.r.u (by decide)) (stk_push h2)⟩, fun q2 => by omega⟩
theorem s115_16 {K : Int → MI → MJ → B3 → Prop} (hh : 2 ≤ h) (hx : 0 ≤ x ∧ x < 7) (k : K (I 68 x.toNat) I J b) : TriM G h 115 119 119 [vi x, vr 68] (I, J, PP b) (cIN K) :=
  x115_68_m hh (fun h hh => x115_68 hh ⟨fun q => ⟨q, cIN_r fun _ => k⟩, fun q => absurd hx q⟩)
/-- one step of a line -/
theorem ev_16 {Q : MP} {q : Stp1} {ty ty2 : List Bool} {s : List Int} {i N : Nat} {I' : MI} {vals : Int → Int} (hh : 2 ≤ h) (hN : I 16 2 = N ∧ N ≤ 400) (hv : ∀ c : Int, 1 ≤ c → c < 8 → vals c = I 68 (c - 1).toNat) (hq : okStp false q) (ht : tyS q ty = some ty2) (hty : okTy ty s) (hlen : ty2.length < 31) (hlen1 : ty.length < 31) (hw : hasAt (I 17) i (enc q)) (hi : i + (enc q).length ≤ N) (hf : frK [18] I I') (hs : stk (I' 18) s) (k : ∀ I2, frK [18] I I2 → stk (I2 18) (stpS vals q s) → okTy ty2 (stpS vals q s) → Tri G h 114 119 119 4 [some (vr 16), some (vr 68), some (vi (stpS vals q s).length), some (vi (i + (enc q).length : Nat))] [] (I2, J, PP b) Q) : Tri G h 114 119 119 4 [some (vr 16), some (vr 68), some (vi s.length), some (vi i)] [] (I', J, PP b) Q := by
  have fT := hf 16 (by decide)
  have fC := hf 17 (by decide)
  have fV := hf 68 (by decide)
  have hsl := okTy_len hty
  obtain ⟨ho, hcase⟩ := tyS_ok (vals := vals) hq ht hty
  have hsl2 := okTy_len ho
  -- a word: a number is put on the stack
  have num : ∀ (j : Nat) (w : Int) (s : List Int) (I' : MI), j < N → I 17 j = w → 0 ≤ w → w < 10000 → s.length < 32 → frK [18] I I' → Tri G h 114 119 119 4 [some (vr 16), some (vr 68), some (vi (s.length + 1 : Nat)), some (vi (j + 1 : Nat))] [] (u2 I' 18 s.length w, J, PP b) Q → Tri G h 114 119 119 4 [some (vr 16), some (vr 68), some (vi s.length), some (vi j)] [] (I', J, PP b) Q := by
    intro j w s I' hj hw h0 h1 hl hf k2
    have fT := hf 16 (by decide)
    have fC := hf 17 (by decide)
    refine x114_16_4 hh ?_
    rw [fT, fC, toN, hw, w32_id (x := (j : Int) + 1) (by omega) (by omega), w32_id (x := (s.length : Int) + 1) (by omega) (by omega), toN]
    exact ⟨fun q => by omega, fun q => ⟨fun q2 => by omega, fun q2 => ⟨by omega, fun q3 => ⟨fun q4 => ⟨fun q5 => by omega, fun q5 => ⟨fun q6 => by omega, fun q6 => ⟨by omega, k2⟩⟩⟩, fun q4 => by omega⟩, fun q3 => by omega⟩⟩⟩
  -- a word: a sign that joins two
  have two : ∀ (j : Nat) (op w z : Int) (s : List Int) (I' : MI), j < N → I 17 j = 20000 + op → 0 ≤ op → op < 100 → ¬ op = 5 → s.length < 30 → frK [18] I I' → stk (I' 18) (w :: z :: s) → (∀ I2, frK [18] I I2 → stk (I2 18) (jn op z w :: s) → Tri G h 114 119 119 4 [some (vr 16), some (vr 68), some (vi (s.length + 1 : Nat)), some (vi (j + 1 : Nat))] [] (I2, J, PP b) Q) → Tri G h 114 119 119 4 [some (vr 16), some (vr 68), some (vi (s.length + 2 : Nat)), some (vi j)] [] (I', J, PP b) Q := by
    intro j op w z s I' hj hw h0 h1 h5 hl hf hs k2
    have fT := hf 16 (by decide)
    have fC := hf 17 (by decide)
    refine x114_16_4 hh ?_
    rw [fT, fC, toN, hw, w32_id (x := (j : Int) + 1) (by omega) (by omega), w32_id (x := 20000 + op - 20000) (by omega) (by omega), show 20000 + op - 20000 = op by omega]
    exact ⟨fun q => by omega, fun q => ⟨fun q2 => by omega, fun q2 => ⟨by omega, fun q3 => ⟨fun q4 => by omega, fun q4 => s116_16 (by omega) h5 hl (fun I2 hf2 hs2 => k2 I2 (hf.t hf2) (hs2 hs)) hs⟩, fun q3 => by omega⟩⟩⟩
  rcases hcase with ⟨c1, c0, e⟩ | ⟨c1, x, r, rfl, e⟩ | ⟨c1, x, r, rfl, e⟩ | ⟨c1, x, y, r, rfl, e⟩
  · have hl : s.length < 31 := by rw [hsl]; exact hlen1
    by_cases hz : q.1 = 0
    · have he : enc q = [q.2] := by unfold enc; rw [if_pos hz]
      have hb : 0 ≤ q.2 ∧ q.2 < 10000 := by unfold okStp at hq; omega
      rw [he] at hw hi k
      rw [if_pos hz] at e
      refine num i q.2 s I' (by have : i + 1 ≤ N := hi; omega) (by simpa using hw 0 q.2 rfl) hb.1 hb.2 (by omega) hf ?_
      have := k (u2 I' 18 s.length q.2) (hf.u (by decide)) (by rw [e]; exact stk_push hs) ho
      rw [e] at this
      exact this
    · have hr : 1 ≤ q.1 ∧ q.1 < 8 := by unfold okStp at hq; simp at hq; omega
      have he : enc q = [10000 + (q.1 - 1)] := by
        unfold enc
        rw [if_neg hz]
        rw [if_pos (by omega)]
      rw [he] at hw hi k
      rw [if_neg hz] at e
      have hw0 : I 17 i = 10000 + (q.1 - 1) := by simpa using hw 0 _ rfl
      have hi2 : i < N := by have : i + 1 ≤ N := hi; omega
      refine x114_16_4 hh ?_
      rw [fT, fC, toN, hw0, w32_id (x := (i : Int) + 1) (by omega) (by omega), w32_id (x := (s.length : Int) + 1) (by omega) (by omega), toN, w32_id (x := 10000 + (q.1 - 1) - 10000) (by omega) (by omega)]
      refine ⟨fun q9 => by omega, fun q9 => ⟨fun q2 => by omega, fun q2 => ⟨by omega, fun q3 => ⟨fun q4 => ⟨fun q5 => by omega, fun q5 => ⟨fun q6 => s115_16 (by omega) (by omega) ⟨by omega, ?_⟩, fun q6 => by omega⟩⟩, fun q4 => by omega⟩, fun q3 => by omega⟩⟩⟩
      rw [fV, show 10000 + (q.1 - 1) - 10000 = q.1 - 1 by omega, ← hv q.1 (by omega) (by omega)]
      have := k (u2 I' 18 s.length (vals q.1)) (hf.u (by decide)) (by rw [e]; exact stk_push hs) ho
      rw [e] at this
      exact this
  · have he : enc q = [q.2, 20047] := by
      unfold enc
      rw [c1]
      rfl
    have hb : 1 ≤ q.2 ∧ q.2 < 10000 := by unfold okStp at hq; simp at hq; omega
    rw [he] at hw hi k
    have hi2 : i + 1 < N := by have : i + 2 ≤ N := hi; omega
    have hl : (x :: r).length < 31 := by rw [hsl]; exact hlen1
    have hl2 : r.length < 30 := by simp at hl; omega
    refine num i q.2 (x :: r) I' (by omega) (by simpa using hw 0 q.2 rfl) (by omega) hb.2 (by omega) hf ?_
    refine two (i + 1) 47 q.2 x r _ hi2 (by simpa using hw 1 20047 rfl) (by omega) (by omega) (by omega) hl2 (hf.u (by decide)) (stk_push hs) (fun I2 hf2 hs2 => ?_)
    have ej : jn 47 x q.2 = iDiv x q.2 := by show (if q.2 = 0 then 0 else iDiv x q.2) = _; rw [if_neg (by omega)]
    rw [ej] at hs2
    have := k I2 hf2 (by rw [e]; exact hs2) ho
    rw [e] at this
    exact this
  · have he : enc q = [20005] := by
      unfold enc
      rw [c1]
      rfl
    rw [he] at hw hi k
    have hi2 : i < N := by have : i + 1 ≤ N := hi; omega
    have hl : (x :: r).length < 31 := by rw [hsl]; exact hlen1
    have hl2 : r.length < 31 := by simp at hl; omega
    have hw0 : I 17 i = 20005 := by simpa using hw 0 _ rfl
    refine x114_16_4 hh ?_
    rw [fT, fC, toN, hw0, w32_id (x := (i : Int) + 1) (by omega) (by omega), show w32 (20005 - 20000) = 5 by decide]
    refine ⟨fun q => by omega, fun q => ⟨fun q2 => by omega, fun q2 => ⟨by omega, fun q3 => ⟨fun q4 => by omega, fun q4 => s116n_16 (by omega) hl2 (fun I2 hf2 hs2 => ?_) hs⟩, fun q3 => by omega⟩⟩⟩
    have := k I2 (hf.t hf2) (by rw [e]; exact hs2) ho
    rw [e] at this
    exact this
  · have hl : (x :: y :: r).length < 31 := by rw [hsl]; exact hlen1
    have hl2 : r.length < 30 := by simp at hl; omega
    have key : ∀ op : Int, enc q = [20000 + op] → 0 ≤ op → op < 100 → ¬ op = 5 → jn op y x = binS q.1 y x → Tri G h 114 119 119 4 [some (vr 16), some (vr 68), some (vi (x :: y :: r).length), some (vi i)] [] (I', J, PP b) Q := by
      intro op he h0 h1 h5 ej
      rw [he] at hw hi k
      have hi2 : i < N := by have : i + 1 ≤ N := hi; omega
      refine two i op x y r I' hi2 (by simpa using hw 0 _ rfl) h0 h1 h5 hl2 hf hs (fun I2 hf2 hs2 => ?_)
      rw [ej] at hs2
      have := k I2 hf2 (by rw [e]; exact hs2) ho
      rw [e] at this
      exact this
    obtain ⟨c, w⟩ := q
    rcases c1 with c1 | c1 | c1 | c1 | c1 | c1 | c1 | c1
    · have c1 : c = 13 := c1
      subst c1
      exact key 43 rfl (by omega) (by omega) (by omega) rfl
    · have c1 : c = 14 := c1
      subst c1
      exact key 45 rfl (by omega) (by omega) (by omega) rfl
    · have c1 : c = 15 := c1
      subst c1
      exact key 42 rfl (by omega) (by omega) (by omega) rfl
    · have c1 : c = 17 := c1
      subst c1
      exact key 60 rfl (by omega) (by omega) (by omega) rfl
    · have c1 : c = 18 := c1
      subst c1
      exact key 61 rfl (by omega) (by omega) (by omega) rfl
    · have c1 : c = 19 := c1
      subst c1
      exact key 62 rfl (by omega) (by omega) (by omega) rfl
    · have c1 : c = 21 := c1
      subst c1
      exact key 4 rfl (by omega) (by omega) (by omega) rfl
    · have c1 : c = 22 := c1
      subst c1
      exact key 3 rfl (by omega) (by omega) (by omega) rfl
theorem evs_16 {Q : MP} {N : Nat} {vals : Int → Int} (hh : 2 ≤ h) (hN : I 16 2 = N ∧ N ≤ 400) (hv : ∀ c : Int, 1 ≤ c → c < 8 → vals c = I 68 (c - 1).toNat) : ∀ (l : List Stp1) (ty ty2 : List Bool) (s : List Int) (i : Nat) (I' : MI), (∀ q ∈ l, okStp false q) → tyR l ty = some ty2 → okTy ty s → ty.length < 31 → hasAt (I 17) i (encs l) → i + (encs l).length ≤ N → frK [18] I I' → stk (I' 18) s → (∀ I2, frK [18] I I2 → stk (I2 18) (runS vals l s) → okTy ty2 (runS vals l s) → Tri G h 114 119 119 4 [some (vr 16), some (vr 68), some (vi (runS vals l s).length), some (vi (i + (encs l).length : Nat))] [] (I2, J, PP b) Q) → Tri G h 114 119 119 4 [some (vr 16), some (vr 68), some (vi s.length), some (vi i)] [] (I', J, PP b) Q
  | [], ty, ty2, s, i, I', ho, ht, hty, hl, hw, hi, hf, hs, k => by
    have : ty = ty2 := by simpa [tyR] using ht
    subst this
    exact k I' hf hs hty
  | q :: l, ty, ty2, s, i, I', ho, ht, hty, hl, hw, hi, hf, hs, k => by
    have ee : encs (q :: l) = enc q ++ encs l := rfl
    rw [ee] at hw hi k
    rw [List.length_append] at hi
    simp only [tyR] at ht
    cases h1 : tyS q ty with
    | none => rw [h1] at ht; exact absurd ht (by simp)
    | some ty1 =>
      rw [h1] at ht
      simp only [] at ht
      by_cases hlen : ty1.length < 31
      · rw [if_pos hlen] at ht
        refine ev_16 hh hN hv (ho q List.mem_cons_self) h1 hty hlen hl (fun j x hx => hw j x ?_) (by omega) hf hs (fun I2 hf2 hs2 ho2 => ?_)
        · rw [List.getElem?_append_left (List.getElem?_eq_some_iff.1 hx).1]; exact hx
        · refine evs_16 hh hN hv l ty1 ty2 (stpS vals q s) (i + (enc q).length) I2 (fun q2 hq2 => ho q2 (List.mem_cons_of_mem _ hq2)) ht ho2 hlen (fun j x hx => ?_) (by omega) hf2 hs2 (fun I3 hf3 hs3 ho3 => ?_)
          · have := hw ((enc q).length + j) x (by rw [List.getElem?_append_right (by omega), show (enc q).length + j - (enc q).length = j by omega]; exact hx)
            rw [← Nat.add_assoc] at this
            exact this
          · have := k I3 hf3 hs3 ho3
            rw [List.length_append, ← Nat.add_assoc] at this
            exact this
      · rw [if_neg hlen] at ht; exact absurd ht (by simp)
/-- what a text answers -/
theorem evl_16 {K : Int → MI → MJ → B3 → Prop} {N : Nat} {vals : Int → Int} (hh : 2 ≤ h) (hN : I 16 2 = N ∧ N ≤ 400) (hv : ∀ c : Int, 1 ≤ c → c < 8 → vals c = I 68 (c - 1).toNat) : ∀ (p : List Lin) (i : Nat) (I' : MI), (∀ q ∈ p, okLin false q) → hasAt (I 17) i (encP p) → i + (encP p).length = N → frK [18] I I' → (∀ I2, frK [18] I I2 → K (match firstL vals p with | none => -1 | some q => if q.1 = 2 then 1 else 0) I2 J b) → Tri G h 114 119 119 4 [some (vr 16), some (vr 68), some (vi 0), some (vi i)] [] (I', J, PP b) (cIN K)
  | [], i, I', ho, hw, hi, hf, k => by
    have fT := hf 16 (by decide)
    have hi2 : i = N := hi
    refine x114_16_4 hh ?_
    rw [fT]
    exact ⟨fun q => cIN_r fun _ => k I' hf, fun q => by omega⟩
  | q :: p, i, I', ho, hw, hi, hf, k => by
    have ee : encP (q :: p) = encs q.2 ++ ([30000 + (if q.1 = 2 then 1 else 0)] ++ encP p) := by
      show encL q ++ encP p = _
      unfold encL
      rw [List.append_assoc]
    rw [ee] at hw hi
    rw [List.length_append, List.length_append] at hi
    have hi3 : i + ((encs q.2).length + (1 + (encP p).length)) = N := hi
    obtain ⟨o1, o2, o3⟩ := ho q List.mem_cons_self
    refine evs_16 (s := []) hh hN hv q.2 [] [true] i I' o1 o2 trivial (by decide) (fun j x hx => hw j x ?_) (by omega) hf trivial (fun I2 hf2 hs2 ho2 => ?_)
    · rw [List.getElem?_append_left (List.getElem?_eq_some_iff.1 hx).1]; exact hx
    · obtain ⟨x, r, hr, hx01, hr2⟩ := okTy1 ho2
      have hx01 := hx01 rfl
      have hrn : r = [] := by
        cases r with
        | nil => rfl
        | cons a b => exact hr2.elim
      subst hrn
      rw [hr] at hs2 ⊢
      have h15 : I2 18 0 = x := hs2.1
      have fT := hf2 16 (by decide)
      have fC := hf2 17 (by decide)
      have hw0 : I 17 (i + (encs q.2).length) = 30000 + (if q.1 = 2 then 1 else 0) := hw (encs q.2).length _ (by rw [List.getElem?_append_right (Nat.le_refl _), Nat.sub_self]; rfl)
      obtain ⟨z, hz, hz01⟩ : ∃ z : Int, (if q.1 = 2 then (1 : Int) else 0) = z ∧ (z = 0 ∨ z = 1) := ⟨_, rfl, by split <;> simp⟩
      rw [hz] at hw0
      have hfst : firstL vals (q :: p) = if x = 1 then some q else firstL vals p := by
        unfold firstL
        have e : soL vals q = decide (x = 1) := by
          unfold soL
          rw [hr]
          exact decide_eq_decide.2 ⟨fun q => by simpa using q, fun q => by rw [q]⟩
        rw [List.find?_cons, e]
        by_cases hx1 : x = 1
        · rw [if_pos hx1]; simp [hx1]
        · rw [if_neg hx1]; simp [hx1]
      refine x114_16_4 hh ?_
      rw [fT, fC, toN, hw0, h15, w32_id (x := ((i + (encs q.2).length : Nat) : Int) + 1) (by omega) (by omega), w32_id (x := 30000 + z - 30000) (by omega) (by omega)]
      refine ⟨fun q9 => by omega, fun q9 => ⟨fun q2 => by omega, fun q2 => ⟨by omega, fun q3 => by omega, fun q3 => ⟨fun q4 => ?_, fun q4 => cIN_r fun _ => ?_⟩⟩⟩⟩
      · rw [if_neg (by omega)] at hfst
        rw [hfst] at k
        refine evl_16 hh hN hv p (i + (encs q.2).length + 1) I2 (fun q2 hq2 => ho q2 (List.mem_cons_of_mem _ hq2)) (fun j x hx => ?_) (by omega) hf2 k
        have := hw ((encs q.2).length + (1 + j)) x (by rw [List.getElem?_append_right (by omega), show (encs q.2).length + (1 + j) - (encs q.2).length = 1 + j by omega, List.getElem?_append_right (by simp)]; simp; exact hx)
        rw [show i + (encs q.2).length + 1 + j = i + ((encs q.2).length + (1 + j)) by omega]
        exact this
      · rw [if_pos (by omega)] at hfst
        rw [hfst] at k
        have := k I2 hf2
        simp only [hz] at this
        rw [show 30000 + z - 30000 = z by omega]
        exact this
theorem s114_16 {K : Int → MI → MJ → B3 → Prop} {p : List Lin} {w kk : Nat} {vals : Int → Int} (hh : 3 ≤ h) (ht : rTxt 16 w kk I false p) (hv : ∀ c : Int, 1 ≤ c → c < 8 → vals c = I 68 (c - 1).toNat) (k : ∀ I2, frK [18] I I2 → K (match firstL vals p with | none => -1 | some q => if q.1 = 2 then 1 else 0) I2 J b) : TriM G h 114 119 119 [vr 16, vr 68] (I, J, PP b) (cIN K) := by
  obtain ⟨a1, a2, a3, a4, a5, a6, a7, a8⟩ := ht
  exact x114_16_m hh (fun h hh => x114_16 (Nat.zero_le _) (evl_16 hh ⟨a2.1, a2.2⟩ hv p 0 I a8 a3 (Nat.zero_add _) frK.r k))

theorem s116_19 {K : Int → MI → MJ → B3 → Prop} {s : List Int} {w : Int} (hh : 2 ≤ h) (hx : ¬ x = 5) (hl : s.length < 30) (k : ∀ I', frK [21] I I' → (stk (I 21) (w :: z :: s) → stk (I' 21) (jn x z w :: s)) → K (s.length + 1) I' J b) (hs : stk (I 21) (w :: z :: s)) : TriM G h 116 119 119 [vr 19, vi x, vi (s.length + 2 : Nat)] (I, J, PP b) (cIN K) := by
  refine x116_19_m hh (fun h hh => x116_19 hh ⟨fun _ => ⟨fun q => by omega, fun q => ⟨fun q2 => ?_, fun q2 => by omega⟩⟩, fun q => absurd hx q⟩)
  rw [w32_id (x := ((s.length + 2 : Nat) : Int) - 2) (by omega) (by omega), w32_id (x := ((s.length + 2 : Nat) : Int) - 1) (by omega) (by omega), show (((s.length + 2 : Nat) : Int) - 2).toNat = s.length by omega, show (((s.length + 2 : Nat) : Int) - 1).toNat = (z :: s).length by simp; omega]
  obtain ⟨h1, h2, h3⟩ := hs
  rw [h1, h2]
  refine ⟨by omega, by omega, s117 (by omega) ⟨by omega, cIN_r fun _ => ?_⟩⟩
  rw [show ((s.length + 2 : Nat) : Int) - 1 = s.length + 1 by omega]
  exact k _ (frK.r.u (by decide)) fun _ => stk_push h3
theorem s116n_19 {K : Int → MI → MJ → B3 → Prop} {s : List Int} {w : Int} (hh : 2 ≤ h) (hl : s.length < 31) (k : ∀ I', frK [21] I I' → stk (I' 21) (w32 (1 - w) :: s) → K (s.length + 1) I' J b) (hs : stk (I 21) (w :: s)) : TriM G h 116 119 119 [vr 19, vi 5, vi (s.length + 1 : Nat)] (I, J, PP b) (cIN K) := by
  refine x116_19_m hh (fun h hh => x116_19 hh ⟨fun q => absurd rfl q, fun q => ?_⟩)
  rw [w32_id (x := ((s.length + 1 : Nat) : Int) - 1) (by omega) (by omega), show (((s.length + 1 : Nat) : Int) - 1).toNat = s.length by omega]
  obtain ⟨h1, h2⟩ := hs
  rw [h1]
  exact ⟨fun q2 => ⟨by omega, by omega, cIN_r fun _ => k _ (frK.r.u (by decide)) (stk_push h2)⟩, fun q2 => by omega⟩
theorem s115_19 {K : Int → MI → MJ → B3 → Prop} (hh : 2 ≤ h) (hx : 0 ≤ x ∧ x < 7) (k : K (I 30 x.toNat) I J b) : TriM G h 115 119 119 [vi x, vr 30] (I, J, PP b) (cIN K) :=
  x115_30_m hh (fun h hh => x115_30 hh ⟨fun q => ⟨q, cIN_r fun _ => k⟩, fun q => absurd hx q⟩)
/-- one step of a line -/
theorem ev_19 {Q : MP} {q : Stp1} {ty ty2 : List Bool} {s : List Int} {i N : Nat} {I' : MI} {vals : Int → Int} (hh : 2 ≤ h) (hN : I 19 2 = N ∧ N ≤ 400) (hv : ∀ c : Int, 8 ≤ c → c < 13 → vals c = I 30 (c - 8).toNat) (hq : okStp true q) (ht : tyS q ty = some ty2) (hty : okTy ty s) (hlen : ty2.length < 31) (hlen1 : ty.length < 31) (hw : hasAt (I 20) i (enc q)) (hi : i + (enc q).length ≤ N) (hf : frK [21] I I') (hs : stk (I' 21) s) (k : ∀ I2, frK [21] I I2 → stk (I2 21) (stpS vals q s) → okTy ty2 (stpS vals q s) → Tri G h 114 119 119 4 [some (vr 19), some (vr 30), some (vi (stpS vals q s).length), some (vi (i + (enc q).length : Nat))] [] (I2, J, PP b) Q) : Tri G h 114 119 119 4 [some (vr 19), some (vr 30), some (vi s.length), some (vi i)] [] (I', J, PP b) Q := by
  have fT := hf 19 (by decide)
  have fC := hf 20 (by decide)
  have fV := hf 30 (by decide)
  have hsl := okTy_len hty
  obtain ⟨ho, hcase⟩ := tyS_ok (vals := vals) hq ht hty
  have hsl2 := okTy_len ho
  -- a word: a number is put on the stack
  have num : ∀ (j : Nat) (w : Int) (s : List Int) (I' : MI), j < N → I 20 j = w → 0 ≤ w → w < 10000 → s.length < 32 → frK [21] I I' → Tri G h 114 119 119 4 [some (vr 19), some (vr 30), some (vi (s.length + 1 : Nat)), some (vi (j + 1 : Nat))] [] (u2 I' 21 s.length w, J, PP b) Q → Tri G h 114 119 119 4 [some (vr 19), some (vr 30), some (vi s.length), some (vi j)] [] (I', J, PP b) Q := by
    intro j w s I' hj hw h0 h1 hl hf k2
    have fT := hf 19 (by decide)
    have fC := hf 20 (by decide)
    refine x114_19_4 hh ?_
    rw [fT, fC, toN, hw, w32_id (x := (j : Int) + 1) (by omega) (by omega), w32_id (x := (s.length : Int) + 1) (by omega) (by omega), toN]
    exact ⟨fun q => by omega, fun q => ⟨fun q2 => by omega, fun q2 => ⟨by omega, fun q3 => ⟨fun q4 => ⟨fun q5 => by omega, fun q5 => ⟨fun q6 => by omega, fun q6 => ⟨by omega, k2⟩⟩⟩, fun q4 => by omega⟩, fun q3 => by omega⟩⟩⟩
  -- a word: a sign that joins two
  have two : ∀ (j : Nat) (op w z : Int) (s : List Int) (I' : MI), j < N → I 20 j = 20000 + op → 0 ≤ op → op < 100 → ¬ op = 5 → s.length < 30 → frK [21] I I' → stk (I' 21) (w :: z :: s) → (∀ I2, frK [21] I I2 → stk (I2 21) (jn op z w :: s) → Tri G h 114 119 119 4 [some (vr 19), some (vr 30), some (vi (s.length + 1 : Nat)), some (vi (j + 1 : Nat))] [] (I2, J, PP b) Q) → Tri G h 114 119 119 4 [some (vr 19), some (vr 30), some (vi (s.length + 2 : Nat)), some (vi j)] [] (I', J, PP b) Q := by
    intro j op w z s I' hj hw h0 h1 h5 hl hf hs k2
    have fT := hf 19 (by decide)
    have fC := hf 20 (by decide)
    refine x114_19_4 hh ?_
    rw [fT, fC, toN, hw, w32_id (x := (j : Int) + 1) (by omega) (by omega), w32_id (x := 20000 + op - 20000) (by omega) (by omega), show 20000 + op - 20000 = op by omega]
    exact ⟨fun q => by omega, fun q => ⟨fun q2 => by omega, fun q2 => ⟨by omega, fun q3 => ⟨fun q4 => by omega, fun q4 => s116_19 (by omega) h5 hl (fun I2 hf2 hs2 => k2 I2 (hf.t hf2) (hs2 hs)) hs⟩, fun q3 => by omega⟩⟩⟩
  rcases hcase with ⟨c1, c0, e⟩ | ⟨c1, x, r, rfl, e⟩ | ⟨c1, x, r, rfl, e⟩ | ⟨c1, x, y, r, rfl, e⟩
  · have hl : s.length < 31 := by rw [hsl]; exact hlen1
    by_cases hz : q.1 = 0
    · have he : enc q = [q.2] := by unfold enc; rw [if_pos hz]
      have hb : 0 ≤ q.2 ∧ q.2 < 10000 := by unfold okStp at hq; omega
      rw [he] at hw hi k
      rw [if_pos hz] at e
      refine num i q.2 s I' (by have : i + 1 ≤ N := hi; omega) (by simpa using hw 0 q.2 rfl) hb.1 hb.2 (by omega) hf ?_
      have := k (u2 I' 21 s.length q.2) (hf.u (by decide)) (by rw [e]; exact stk_push hs) ho
      rw [e] at this
      exact this
    · have hr : 8 ≤ q.1 ∧ q.1 < 13 := by unfold okStp at hq; simp at hq; omega
      have he : enc q = [10000 + (q.1 - 8)] := by
        unfold enc
        rw [if_neg hz]
        rw [if_neg (by omega), if_pos (by omega)]
      rw [he] at hw hi k
      rw [if_neg hz] at e
      have hw0 : I 20 i = 10000 + (q.1 - 8) := by simpa using hw 0 _ rfl
      have hi2 : i < N := by have : i + 1 ≤ N := hi; omega
      refine x114_19_4 hh ?_
      rw [fT, fC, toN, hw0, w32_id (x := (i : Int) + 1) (by omega) (by omega), w32_id (x := (s.length : Int) + 1) (by omega) (by omega), toN, w32_id (x := 10000 + (q.1 - 8) - 10000) (by omega) (by omega)]
      refine ⟨fun q9 => by omega, fun q9 => ⟨fun q2 => by omega, fun q2 => ⟨by omega, fun q3 => ⟨fun q4 => ⟨fun q5 => by omega, fun q5 => ⟨fun q6 => s115_19 (by omega) (by omega) ⟨by omega, ?_⟩, fun q6 => by omega⟩⟩, fun q4 => by omega⟩, fun q3 => by omega⟩⟩⟩
      rw [fV, show 10000 + (q.1 - 8) - 10000 = q.1 - 8 by omega, ← hv q.1 (by omega) (by omega)]
      have := k (u2 I' 21 s.length (vals q.1)) (hf.u (by decide)) (by rw [e]; exact stk_push hs) ho
      rw [e] at this
      exact this
  · have he : enc q = [q.2, 20047] := by
      unfold enc
      rw [c1]
      rfl
    have hb : 1 ≤ q.2 ∧ q.2 < 10000 := by unfold okStp at hq; simp at hq; omega
    rw [he] at hw hi k
    have hi2 : i + 1 < N := by have : i + 2 ≤ N := hi; omega
    have hl : (x :: r).length < 31 := by rw [hsl]; exact hlen1
    have hl2 : r.length < 30 := by simp at hl; omega
    refine num i q.2 (x :: r) I' (by omega) (by simpa using hw 0 q.2 rfl) (by omega) hb.2 (by omega) hf ?_
    refine two (i + 1) 47 q.2 x r _ hi2 (by simpa using hw 1 20047 rfl) (by omega) (by omega) (by omega) hl2 (hf.u (by decide)) (stk_push hs) (fun I2 hf2 hs2 => ?_)
    have ej : jn 47 x q.2 = iDiv x q.2 := by show (if q.2 = 0 then 0 else iDiv x q.2) = _; rw [if_neg (by omega)]
    rw [ej] at hs2
    have := k I2 hf2 (by rw [e]; exact hs2) ho
    rw [e] at this
    exact this
  · have he : enc q = [20005] := by
      unfold enc
      rw [c1]
      rfl
    rw [he] at hw hi k
    have hi2 : i < N := by have : i + 1 ≤ N := hi; omega
    have hl : (x :: r).length < 31 := by rw [hsl]; exact hlen1
    have hl2 : r.length < 31 := by simp at hl; omega
    have hw0 : I 20 i = 20005 := by simpa using hw 0 _ rfl
    refine x114_19_4 hh ?_
    rw [fT, fC, toN, hw0, w32_id (x := (i : Int) + 1) (by omega) (by omega), show w32 (20005 - 20000) = 5 by decide]
    refine ⟨fun q => by omega, fun q => ⟨fun q2 => by omega, fun q2 => ⟨by omega, fun q3 => ⟨fun q4 => by omega, fun q4 => s116n_19 (by omega) hl2 (fun I2 hf2 hs2 => ?_) hs⟩, fun q3 => by omega⟩⟩⟩
    have := k I2 (hf.t hf2) (by rw [e]; exact hs2) ho
    rw [e] at this
    exact this
  · have hl : (x :: y :: r).length < 31 := by rw [hsl]; exact hlen1
    have hl2 : r.length < 30 := by simp at hl; omega
    have key : ∀ op : Int, enc q = [20000 + op] → 0 ≤ op → op < 100 → ¬ op = 5 → jn op y x = binS q.1 y x → Tri G h 114 119 119 4 [some (vr 19), some (vr 30), some (vi (x :: y :: r).length), some (vi i)] [] (I', J, PP b) Q := by
      intro op he h0 h1 h5 ej
      rw [he] at hw hi k
      have hi2 : i < N := by have : i + 1 ≤ N := hi; omega
      refine two i op x y r I' hi2 (by simpa using hw 0 _ rfl) h0 h1 h5 hl2 hf hs (fun I2 hf2 hs2 => ?_)
      rw [ej] at hs2
      have := k I2 hf2 (by rw [e]; exact hs2) ho
      rw [e] at this
      exact this
    obtain ⟨c, w⟩ := q
    rcases c1 with c1 | c1 | c1 | c1 | c1 | c1 | c1 | c1
    · have c1 : c = 13 := c1
      subst c1
      exact key 43 rfl (by omega) (by omega) (by omega) rfl
    · have c1 : c = 14 := c1
      subst c1
      exact key 45 rfl (by omega) (by omega) (by omega) rfl
    · have c1 : c = 15 := c1
      subst c1
      exact key 42 rfl (by omega) (by omega) (by omega) rfl
    · have c1 : c = 17 := c1
      subst c1
      exact key 60 rfl (by omega) (by omega) (by omega) rfl
    · have c1 : c = 18 := c1
      subst c1
      exact key 61 rfl (by omega) (by omega) (by omega) rfl
    · have c1 : c = 19 := c1
      subst c1
      exact key 62 rfl (by omega) (by omega) (by omega) rfl
    · have c1 : c = 21 := c1
      subst c1
      exact key 4 rfl (by omega) (by omega) (by omega) rfl
    · have c1 : c = 22 := c1
      subst c1
      exact key 3 rfl (by omega) (by omega) (by omega) rfl
theorem evs_19 {Q : MP} {N : Nat} {vals : Int → Int} (hh : 2 ≤ h) (hN : I 19 2 = N ∧ N ≤ 400) (hv : ∀ c : Int, 8 ≤ c → c < 13 → vals c = I 30 (c - 8).toNat) : ∀ (l : List Stp1) (ty ty2 : List Bool) (s : List Int) (i : Nat) (I' : MI), (∀ q ∈ l, okStp true q) → tyR l ty = some ty2 → okTy ty s → ty.length < 31 → hasAt (I 20) i (encs l) → i + (encs l).length ≤ N → frK [21] I I' → stk (I' 21) s → (∀ I2, frK [21] I I2 → stk (I2 21) (runS vals l s) → okTy ty2 (runS vals l s) → Tri G h 114 119 119 4 [some (vr 19), some (vr 30), some (vi (runS vals l s).length), some (vi (i + (encs l).length : Nat))] [] (I2, J, PP b) Q) → Tri G h 114 119 119 4 [some (vr 19), some (vr 30), some (vi s.length), some (vi i)] [] (I', J, PP b) Q
  | [], ty, ty2, s, i, I', ho, ht, hty, hl, hw, hi, hf, hs, k => by
    have : ty = ty2 := by simpa [tyR] using ht
    subst this
    exact k I' hf hs hty
  | q :: l, ty, ty2, s, i, I', ho, ht, hty, hl, hw, hi, hf, hs, k => by
    have ee : encs (q :: l) = enc q ++ encs l := rfl
    rw [ee] at hw hi k
    rw [List.length_append] at hi
    simp only [tyR] at ht
    cases h1 : tyS q ty with
    | none => rw [h1] at ht; exact absurd ht (by simp)
    | some ty1 =>
      rw [h1] at ht
      simp only [] at ht
      by_cases hlen : ty1.length < 31
      · rw [if_pos hlen] at ht
        refine ev_19 hh hN hv (ho q List.mem_cons_self) h1 hty hlen hl (fun j x hx => hw j x ?_) (by omega) hf hs (fun I2 hf2 hs2 ho2 => ?_)
        · rw [List.getElem?_append_left (List.getElem?_eq_some_iff.1 hx).1]; exact hx
        · refine evs_19 hh hN hv l ty1 ty2 (stpS vals q s) (i + (enc q).length) I2 (fun q2 hq2 => ho q2 (List.mem_cons_of_mem _ hq2)) ht ho2 hlen (fun j x hx => ?_) (by omega) hf2 hs2 (fun I3 hf3 hs3 ho3 => ?_)
          · have := hw ((enc q).length + j) x (by rw [List.getElem?_append_right (by omega), show (enc q).length + j - (enc q).length = j by omega]; exact hx)
            rw [← Nat.add_assoc] at this
            exact this
          · have := k I3 hf3 hs3 ho3
            rw [List.length_append, ← Nat.add_assoc] at this
            exact this
      · rw [if_neg hlen] at ht; exact absurd ht (by simp)
/-- what a text answers -/
theorem evl_19 {K : Int → MI → MJ → B3 → Prop} {N : Nat} {vals : Int → Int} (hh : 2 ≤ h) (hN : I 19 2 = N ∧ N ≤ 400) (hv : ∀ c : Int, 8 ≤ c → c < 13 → vals c = I 30 (c - 8).toNat) : ∀ (p : List Lin) (i : Nat) (I' : MI), (∀ q ∈ p, okLin true q) → hasAt (I 20) i (encP p) → i + (encP p).length = N → frK [21] I I' → (∀ I2, frK [21] I I2 → K (match firstL vals p with | none => -1 | some q => if q.1 = 2 then 1 else 0) I2 J b) → Tri G h 114 119 119 4 [some (vr 19), some (vr 30), some (vi 0), some (vi i)] [] (I', J, PP b) (cIN K)
  | [], i, I', ho, hw, hi, hf, k => by
    have fT := hf 19 (by decide)
    have hi2 : i = N := hi
    refine x114_19_4 hh ?_
    rw [fT]
    exact ⟨fun q => cIN_r fun _ => k I' hf, fun q => by omega⟩
  | q :: p, i, I', ho, hw, hi, hf, k => by
    have ee : encP (q :: p) = encs q.2 ++ ([30000 + (if q.1 = 2 then 1 else 0)] ++ encP p) := by
      show encL q ++ encP p = _
      unfold encL
      rw [List.append_assoc]
    rw [ee] at hw hi
    rw [List.length_append, List.length_append] at hi
    have hi3 : i + ((encs q.2).length + (1 + (encP p).length)) = N := hi
    obtain ⟨o1, o2, o3⟩ := ho q List.mem_cons_self
    refine evs_19 (s := []) hh hN hv q.2 [] [true] i I' o1 o2 trivial (by decide) (fun j x hx => hw j x ?_) (by omega) hf trivial (fun I2 hf2 hs2 ho2 => ?_)
    · rw [List.getElem?_append_left (List.getElem?_eq_some_iff.1 hx).1]; exact hx
    · obtain ⟨x, r, hr, hx01, hr2⟩ := okTy1 ho2
      have hx01 := hx01 rfl
      have hrn : r = [] := by
        cases r with
        | nil => rfl
        | cons a b => exact hr2.elim
      subst hrn
      rw [hr] at hs2 ⊢
      have h15 : I2 21 0 = x := hs2.1
      have fT := hf2 19 (by decide)
      have fC := hf2 20 (by decide)
      have hw0 : I 20 (i + (encs q.2).length) = 30000 + (if q.1 = 2 then 1 else 0) := hw (encs q.2).length _ (by rw [List.getElem?_append_right (Nat.le_refl _), Nat.sub_self]; rfl)
      obtain ⟨z, hz, hz01⟩ : ∃ z : Int, (if q.1 = 2 then (1 : Int) else 0) = z ∧ (z = 0 ∨ z = 1) := ⟨_, rfl, by split <;> simp⟩
      rw [hz] at hw0
      have hfst : firstL vals (q :: p) = if x = 1 then some q else firstL vals p := by
        unfold firstL
        have e : soL vals q = decide (x = 1) := by
          unfold soL
          rw [hr]
          exact decide_eq_decide.2 ⟨fun q => by simpa using q, fun q => by rw [q]⟩
        rw [List.find?_cons, e]
        by_cases hx1 : x = 1
        · rw [if_pos hx1]; simp [hx1]
        · rw [if_neg hx1]; simp [hx1]
      refine x114_19_4 hh ?_
      rw [fT, fC, toN, hw0, h15, w32_id (x := ((i + (encs q.2).length : Nat) : Int) + 1) (by omega) (by omega), w32_id (x := 30000 + z - 30000) (by omega) (by omega)]
      refine ⟨fun q9 => by omega, fun q9 => ⟨fun q2 => by omega, fun q2 => ⟨by omega, fun q3 => by omega, fun q3 => ⟨fun q4 => ?_, fun q4 => cIN_r fun _ => ?_⟩⟩⟩⟩
      · rw [if_neg (by omega)] at hfst
        rw [hfst] at k
        refine evl_19 hh hN hv p (i + (encs q.2).length + 1) I2 (fun q2 hq2 => ho q2 (List.mem_cons_of_mem _ hq2)) (fun j x hx => ?_) (by omega) hf2 k
        have := hw ((encs q.2).length + (1 + j)) x (by rw [List.getElem?_append_right (by omega), show (encs q.2).length + (1 + j) - (encs q.2).length = 1 + j by omega, List.getElem?_append_right (by simp)]; simp; exact hx)
        rw [show i + (encs q.2).length + 1 + j = i + ((encs q.2).length + (1 + j)) by omega]
        exact this
      · rw [if_pos (by omega)] at hfst
        rw [hfst] at k
        have := k I2 hf2
        simp only [hz] at this
        rw [show 30000 + z - 30000 = z by omega]
        exact this
theorem s114_19 {K : Int → MI → MJ → B3 → Prop} {p : List Lin} {w kk : Nat} {vals : Int → Int} (hh : 3 ≤ h) (ht : rTxt 19 w kk I true p) (hv : ∀ c : Int, 8 ≤ c → c < 13 → vals c = I 30 (c - 8).toNat) (k : ∀ I2, frK [21] I I2 → K (match firstL vals p with | none => -1 | some q => if q.1 = 2 then 1 else 0) I2 J b) : TriM G h 114 119 119 [vr 19, vr 30] (I, J, PP b) (cIN K) := by
  obtain ⟨a1, a2, a3, a4, a5, a6, a7, a8⟩ := ht
  exact x114_19_m hh (fun h hh => x114_19 (Nat.zero_le _) (evl_19 hh ⟨a2.1, a2.2⟩ hv p 0 I a8 a3 (Nat.zero_add _) frK.r k))

end EVAL
