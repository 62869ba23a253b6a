set_option maxRecDepth 100000 in
theorem x48 {G : Ctx} {h : Nat} {Q : MP} {I : Nat → Nat → Int} {J : Nat → Nat → BitVec 64} {b : B3} {x y : Int} (hh : 1 ≤ h) (H : ((0 ≤ x ∧ x < (5 : Int)) → (((y = (-1)) → (Tri G h 48 119 119 26 [some (vr 25), some (vi x), some (vi y), some (vi 0)] [] (I, J, PP b) Q)) ∧ (¬ (y = (-1)) → (((0 ≤ y ∧ y < (12 : Int)) → (Tri G h 48 119 119 26 [some (vr 25), some (vi x), some (vi y), some (vi 0)] [] (I, J, PP b) Q)) ∧ (¬ (0 ≤ y ∧ y < (12 : Int)) → (Q (some (vi 0)) (I, J, PP b))))))) ∧ (¬ (0 ≤ x ∧ x < (5 : Int)) → (Q (some (vi 0)) (I, J, PP b)))) : Tri G h 48 119 119 0 [some (vr 25), some (vi x), some (vi y)] [] (I, J, PP b) Q := wp_at ck48 [(26, [true, true, true, true])] 400 (sx172 (by omega)  (fun q367 => And.intro (fun z => absurd z (show ¬ ((1 : Int) = (0 : Int)) by decide)) (fun _ => And.intro (fun q369 => (H.1 q367).1 q369) (fun q370 => sx172 (by omega)  (fun q371 => And.intro (fun _ => ((H.1 q367).2 q370).1 q371) (fun z => absurd (show ¬ (1 : Int) = (0 : Int) by decide) z)) (fun q372 => And.intro (fun z => absurd z (show ¬ (¬ (0 : Int) = (0 : Int)) by decide)) (fun _ => And.intro (show (0 : Int) = 0 ∨ (0 : Int) = 1 by decide) (((H.1 q367).2 q370).2 q372)))))) (fun q368 => And.intro (fun _ => And.intro (show (0 : Int) = 0 ∨ (0 : Int) = 1 by decide) (H.2 q368)) (fun z => absurd (show (0 : Int) = (0 : Int) by decide) z)))
set_option maxRecDepth 100000 in
theorem x48_26 {G : Ctx} {h : Nat} {Q : MP} {I : Nat → Nat → Int} {J : Nat → Nat → BitVec 64} {b : B3} {l1 l2 l3 : Int} (hh : 0 ≤ h) (H : ((5 ≤ l3) → ((0 ≤ l1 ∧ l1 < (5 : Int)) ∧ (Q (some (vi 1)) (u2 I 26 l1.toNat l2, J, PP b)))) ∧ (¬ (5 ≤ l3) → (((l3 = l1) → (Tri G h 48 119 119 26 [some (vr 25), some (vi l1), some (vi l2), some (vi (w32 (l3 + 1)))] [] (I, J, PP b) Q)) ∧ (¬ (l3 = l1) → (((l2 = (-1)) → (Tri G h 48 119 119 26 [some (vr 25), some (vi l1), some (vi l2), some (vi (w32 (l3 + 1)))] [] (I, J, PP b) Q)) ∧ (¬ (l2 = (-1)) → ((0 ≤ l3 ∧ l3 < (5 : Int)) ∧ (((¬ (I 26 l3.toNat) = l2) → (Tri G h 48 119 119 26 [some (vr 25), some (vi l1), some (vi l2), some (vi (w32 (l3 + 1)))] [] (I, J, PP b) Q)) ∧ (¬ (¬ (I 26 l3.toNat) = l2) → (Q (some (vi 0)) (I, J, PP b))))))))))) : Tri G h 48 119 119 26 [some (vr 25), some (vi l1), some (vi l2), some (vi l3)] [] (I, J, PP b) Q := wp_at ck48 [(26, [true, true, true, true])] 400 (And.intro (fun q373 => And.intro (H.1 q373).1 (And.intro (show (1 : Int) = 0 ∨ (1 : Int) = 1 by decide) ((H.1 q373).2))) (fun q374 => And.intro (fun q375 => (H.2 q374).1 q375) (fun q376 => And.intro (fun q377 => ((H.2 q374).2 q376).1 q377) (fun q378 => And.intro (((H.2 q374).2 q376).2 q378).1 (And.intro (fun q379 => ((((H.2 q374).2 q376).2 q378).2).1 q379) (fun q380 => And.intro (show (0 : Int) = 0 ∨ (0 : Int) = 1 by decide) (((((H.2 q374).2 q376).2 q378).2).2 q380)))))))
theorem x48_m {G : Ctx} {h : Nat} {Q : MP} {I : Nat → Nat → Int} {J : Nat → Nat → BitVec 64} {b : B3} {x y : Int} (hh : 2 ≤ h) (H : ∀ h, 1 ≤ h → Tri G h 48 119 119 0 [some (vr 25), some (vi x), some (vi y)] [] (I, J, PP b) Q) : TriM G h 48 119 119 [vr 25, vi x, vi y] (I, J, PP b) Q := TriM_intro (h - 1) (by omega) (by decide) (Nat.le_of_ble_eq_true rfl) (Nat.le_refl _) (Nat.le_refl _) (H (h - 1) (by omega))
set_option maxRecDepth 100000 in
theorem x163 {G : Ctx} {h : Nat} {Q : MP} {I : Nat → Nat → Int} {J : Nat → Nat → BitVec 64} {b : B3} {x y z : Int} (hh : 2 ≤ h) (H : ((x = 0 → (TriM G h 48 119 119 [vr 25, vi y, vi z] (I, J, PP b) (cIN fun r1 I1 J1 b1 => ((r1 = 0 ∨ r1 = 1) ∧ Q (some (vi r1)) (I1, J1, PP b1))))) ∧ (x = 1 → (((0 ≤ y ∧ y < (6 : Int)) → (((0 ≤ z ∧ z < (10 : Int)) → ((0 ≤ y ∧ y < (6 : Int)) ∧ (Q (some (vi 1)) (u2 I 27 y.toNat z, J, PP b)))) ∧ (¬ (0 ≤ z ∧ z < (10 : Int)) → (Q (some (vi 0)) (I, J, PP b))))) ∧ (¬ (0 ≤ y ∧ y < (6 : Int)) → (Q (some (vi 0)) (I, J, PP b))))) ∧ (x = 2 → (((z < 1) → (Q (some (vi 0)) (I, J, PP b))) ∧ (¬ (z < 1) → (((z ≤ 4) → (Q (some (vi 1)) (u2 I 25 0 z, J, PP b))) ∧ (¬ (z ≤ 4) → (Q (some (vi 0)) (I, J, PP b))))))) ∧ (x = 3 → (((z < 1) → (Q (some (vi 0)) (I, J, PP b))) ∧ (¬ (z < 1) → (((z ≤ 6) → (Q (some (vi 1)) (u2 I 25 1 z, J, PP b))) ∧ (¬ (z ≤ 6) → (Q (some (vi 0)) (I, J, PP b))))))) ∧ True) ∧ ((x < 0 ∨ 3 < x) → (Q (some (vi 0)) (I, J, PP b)))) : Tri G h 163 119 119 0 [some (vr 0), some (vi x), some (vi y), some (vi z)] [] (I, J, PP b) Q := wp_at ck163 [] 400 (And.intro (And.intro (fun q381 => cIN_go (H.1.1 q381) (fun r1 I1 J1 b1 q382 => q382)) (And.intro (fun q383 => x49_m (by omega) (fun h hh => x49 hh (And.intro (fun q384 => And.intro (fun q386 => And.intro (((H.1.2.1 q383).1 q384).1 q386).1 (cI_r (And.intro (show (1 : Int) = 0 ∨ (1 : Int) = 1 by decide) ((((H.1.2.1 q383).1 q384).1 q386).2)))) (fun q387 => cI_r (And.intro (show (0 : Int) = 0 ∨ (0 : Int) = 1 by decide) (((H.1.2.1 q383).1 q384).2 q387)))) (fun q385 => cI_r (And.intro (show (0 : Int) = 0 ∨ (0 : Int) = 1 by decide) ((H.1.2.1 q383).2 q385)))))) (And.intro (fun q388 => x50_m (by omega) (fun h hh => x50 hh (And.intro (fun q389 => cI_r (And.intro (show (0 : Int) = 0 ∨ (0 : Int) = 1 by decide) ((H.1.2.2.1 q388).1 q389))) (fun q390 => And.intro (fun q391 => cI_r (And.intro (show (1 : Int) = 0 ∨ (1 : Int) = 1 by decide) (((H.1.2.2.1 q388).2 q390).1 q391))) (fun q392 => cI_r (And.intro (show (0 : Int) = 0 ∨ (0 : Int) = 1 by decide) (((H.1.2.2.1 q388).2 q390).2 q392))))))) (And.intro (fun q393 => x51_m (by omega) (fun h hh => x51 hh (And.intro (fun q394 => cI_r (And.intro (show (0 : Int) = 0 ∨ (0 : Int) = 1 by decide) ((H.1.2.2.2.1 q393).1 q394))) (fun q395 => And.intro (fun q396 => cI_r (And.intro (show (1 : Int) = 0 ∨ (1 : Int) = 1 by decide) (((H.1.2.2.2.1 q393).2 q395).1 q396))) (fun q397 => cI_r (And.intro (show (0 : Int) = 0 ∨ (0 : Int) = 1 by decide) (((H.1.2.2.2.1 q393).2 q395).2 q397))))))) trivial)))) (fun q398 => And.intro (show (0 : Int) = 0 ∨ (0 : Int) = 1 by decide) (H.2 q398)))
theorem x163_m {G : Ctx} {h : Nat} {Q : MP} {I : Nat → Nat → Int} {J : Nat → Nat → BitVec 64} {b : B3} {x y z : Int} (hh : 3 ≤ h) (H : ∀ h, 2 ≤ h → Tri G h 163 119 119 0 [some (vr 0), some (vi x), some (vi y), some (vi z)] [] (I, J, PP b) Q) : TriM G h 163 119 119 [vr 0, vi x, vi y, vi z] (I, J, PP b) Q := TriM_intro (h - 1) (by omega) (by decide) (Nat.le_of_ble_eq_true rfl) (Nat.le_refl _) (Nat.le_refl _) (H (h - 1) (by omega))
set_option maxRecDepth 100000 in
theorem x257 {G : Ctx} {h : Nat} {Q : MP} {I : Nat → Nat → Int} {J : Nat → Nat → BitVec 64} {b : B3} {x y z : Int} (hh : 2 ≤ h) (H : ((x = 0 → ((((0 : Int) ≤ y ∧ y ≤ (4 : Int)) → (((z = (-1)) → (Tri G h 257 119 119 58 [some (vr 91), none, some (vi y), some (vi z), some (vi 0)] [] (I, J, PP b) Q)) ∧ (¬ (z = (-1)) → (((0 ≤ z ∧ z < 12) → (Tri G h 257 119 119 58 [some (vr 91), none, some (vi y), some (vi z), some (vi 0)] [] (I, J, PP b) Q)) ∧ (¬ (0 ≤ z ∧ z < 12) → (Q (some (vi 0)) (I, J, PP b))))))) ∧ (¬ ((0 : Int) ≤ y ∧ y ≤ (4 : Int)) → (Q (some (vi 0)) (I, J, PP b))))) ∧ (x = 1 → ((((0 : Int) ≤ y ∧ y ≤ (5 : Int)) → ((((0 : Int) ≤ z ∧ z ≤ (9 : Int)) → ((0 ≤ (w32 (15 + y)) ∧ (w32 (15 + y)) < (5120 : Int)) ∧ (Q (some (vi 1)) (u2 I 92 ((w32 (15 + y)).toNat) z, J, PP b)))) ∧ (¬ ((0 : Int) ≤ z ∧ z ≤ (9 : Int)) → (Q (some (vi 0)) (I, J, PP b))))) ∧ (¬ ((0 : Int) ≤ y ∧ y ≤ (5 : Int)) → (Q (some (vi 0)) (I, J, PP b))))) ∧ (x = 2 → ((((1 : Int) ≤ z ∧ z ≤ (4 : Int)) → (Q (some (vi 1)) (u2 I 92 8 z, J, PP b))) ∧ (¬ ((1 : Int) ≤ z ∧ z ≤ (4 : Int)) → (Q (some (vi 0)) (I, J, PP b))))) ∧ (x = 3 → ((((1 : Int) ≤ z ∧ z ≤ (6 : Int)) → (Q (some (vi 1)) (u2 I 92 9 z, J, PP b))) ∧ (¬ ((1 : Int) ≤ z ∧ z ≤ (6 : Int)) → (Q (some (vi 0)) (I, J, PP b))))) ∧ True) ∧ ((x < 0 ∨ 3 < x) → (Q (some (vi 0)) (I, J, PP b)))) : Tri G h 257 119 119 0 [some (vr 91), some (vi x), some (vi y), some (vi z)] [] (I, J, PP b) Q := wp_at ck257 [(58, [true, false, true, true, true])] 400 (And.intro (And.intro (fun q399 => sx181 (by omega)  (fun q400 => And.intro (fun z => absurd z (show ¬ ((1 : Int) = (0 : Int)) by decide)) (fun _ => And.intro (fun q402 => ((H.1.1 q399).1 q400).1 q402) (fun q403 => sx186 (by omega)  (fun q404 => And.intro (fun _ => (((H.1.1 q399).1 q400).2 q403).1 q404) (fun z => absurd (show ¬ (1 : Int) = (0 : Int) by decide) z)) (fun q405 => And.intro (fun z => absurd z (show ¬ (¬ (0 : Int) = (0 : Int)) by decide)) (fun _ => And.intro (show (0 : Int) = 0 ∨ (0 : Int) = 1 by decide) ((((H.1.1 q399).1 q400).2 q403).2 q405)))))) (fun q401 => And.intro (fun _ => And.intro (show (0 : Int) = 0 ∨ (0 : Int) = 1 by decide) ((H.1.1 q399).2 q401)) (fun z => absurd (show (0 : Int) = (0 : Int) by decide) z))) (And.intro (fun q406 => sx181 (by omega)  (fun q407 => And.intro (fun z => absurd z (show ¬ ((1 : Int) = (0 : Int)) by decide)) (fun _ => sx181 (by omega)  (fun q409 => And.intro (fun _ => And.intro (((H.1.2.1 q406).1 q407).1 q409).1 (And.intro (show (1 : Int) = 0 ∨ (1 : Int) = 1 by decide) ((((H.1.2.1 q406).1 q407).1 q409).2))) (fun z => absurd (show ¬ (1 : Int) = (0 : Int) by decide) z)) (fun q410 => And.intro (fun z => absurd z (show ¬ (¬ (0 : Int) = (0 : Int)) by decide)) (fun _ => And.intro (show (0 : Int) = 0 ∨ (0 : Int) = 1 by decide) (((H.1.2.1 q406).1 q407).2 q410))))) (fun q408 => And.intro (fun _ => And.intro (show (0 : Int) = 0 ∨ (0 : Int) = 1 by decide) ((H.1.2.1 q406).2 q408)) (fun z => absurd (show (0 : Int) = (0 : Int) by decide) z))) (And.intro (fun q411 => sx181 (by omega)  (fun q412 => And.intro (fun _ => And.intro (show (0 : Int) ≤ 8 ∧ (8 : Int) < ((5120 : Nat) : Int) by decide) (And.intro (show (1 : Int) = 0 ∨ (1 : Int) = 1 by decide) ((H.1.2.2.1 q411).1 q412))) (fun z => absurd (show ¬ (1 : Int) = (0 : Int) by decide) z)) (fun q413 => And.intro (fun z => absurd z (show ¬ (¬ (0 : Int) = (0 : Int)) by decide)) (fun _ => And.intro (show (0 : Int) = 0 ∨ (0 : Int) = 1 by decide) ((H.1.2.2.1 q411).2 q413)))) (And.intro (fun q414 => sx181 (by omega)  (fun q415 => And.intro (fun _ => And.intro (show (0 : Int) ≤ 9 ∧ (9 : Int) < ((5120 : Nat) : Int) by decide) (And.intro (show (1 : Int) = 0 ∨ (1 : Int) = 1 by decide) ((H.1.2.2.2.1 q414).1 q415))) (fun z => absurd (show ¬ (1 : Int) = (0 : Int) by decide) z)) (fun q416 => And.intro (fun z => absurd z (show ¬ (¬ (0 : Int) = (0 : Int)) by decide)) (fun _ => And.intro (show (0 : Int) = 0 ∨ (0 : Int) = 1 by decide) ((H.1.2.2.2.1 q414).2 q416)))) trivial)))) (fun q417 => And.intro (show (0 : Int) = 0 ∨ (0 : Int) = 1 by decide) (H.2 q417)))
set_option maxRecDepth 100000 in
theorem x257_58 {G : Ctx} {h : Nat} {Q : MP} {I : Nat → Nat → Int} {J : Nat → Nat → BitVec 64} {b : B3} {l2 l3 l4 : Int} (hh : 0 ≤ h) (H : ((5 ≤ l4) → ((0 ≤ (w32 (10 + l2)) ∧ (w32 (10 + l2)) < (5120 : Int)) ∧ (Q (some (vi 1)) (u2 I 92 ((w32 (10 + l2)).toNat) l3, J, PP b)))) ∧ (¬ (5 ≤ l4) → (((l4 = l2) → (Tri G h 257 119 119 58 [some (vr 91), none, some (vi l2), some (vi l3), some (vi (w32 (l4 + 1)))] [] (I, J, PP b) Q)) ∧ (¬ (l4 = l2) → (((l3 = (-1)) → (Tri G h 257 119 119 58 [some (vr 91), none, some (vi l2), some (vi l3), some (vi (w32 (l4 + 1)))] [] (I, J, PP b) Q)) ∧ (¬ (l3 = (-1)) → ((0 ≤ (w32 (10 + l4)) ∧ (w32 (10 + l4)) < (5120 : Int)) ∧ (((¬ (I 92 ((w32 (10 + l4)).toNat)) = l3) → (Tri G h 257 119 119 58 [some (vr 91), none, some (vi l2), some (vi l3), some (vi (w32 (l4 + 1)))] [] (I, J, PP b) Q)) ∧ (¬ (¬ (I 92 ((w32 (10 + l4)).toNat)) = l3) → (Q (some (vi 0)) (I, J, PP b))))))))))) : Tri G h 257 119 119 58 [some (vr 91), none, some (vi l2), some (vi l3), some (vi l4)] [] (I, J, PP b) Q := wp_at ck257 [(58, [true, false, true, true, true])] 400 (And.intro (fun q418 => And.intro (H.1 q418).1 (And.intro (show (1 : Int) = 0 ∨ (1 : Int) = 1 by decide) ((H.1 q418).2))) (fun q419 => And.intro (fun q420 => (H.2 q419).1 q420) (fun q421 => And.intro (fun q422 => ((H.2 q419).2 q421).1 q422) (fun q423 => And.intro (((H.2 q419).2 q421).2 q423).1 (And.intro (fun q424 => ((((H.2 q419).2 q421).2 q423).2).1 q424) (fun q425 => And.intro (show (0 : Int) = 0 ∨ (0 : Int) = 1 by decide) (((((H.2 q419).2 q421).2 q423).2).2 q425)))))))
theorem x257_m {G : Ctx} {h : Nat} {Q : MP} {I : Nat → Nat → Int} {J : Nat → Nat → BitVec 64} {b : B3} {x y z : Int} (hh : 3 ≤ h) (H : ∀ h, 2 ≤ h → Tri G h 257 119 119 0 [some (vr 91), some (vi x), some (vi y), some (vi z)] [] (I, J, PP b) Q) : TriM G h 257 119 119 [vr 91, vi x, vi y, vi z] (I, J, PP b) Q := TriM_intro (h - 1) (by omega) (by decide) (Nat.le_of_ble_eq_true rfl) (Nat.le_refl _) (Nat.le_refl _) (H (h - 1) (by omega))
set_option maxRecDepth 100000 in
theorem x143 {G : Ctx} {h : Nat} {Q : MP} {I : Nat → Nat → Int} {J : Nat → Nat → BitVec 64} {b : B3} {x : Int} (hh : 0 ≤ h) (H : Tri G h 143 119 119 3 [some (vr 0), some (vi x), some (vi 24)] [] (I, J, PP b) Q) : Tri G h 143 119 119 0 [some (vr 0), some (vi x)] [] (I, J, PP b) Q := wp_at ck143 [(3, [true, true, true])] 400 H
set_option maxRecDepth 100000 in
theorem x143_3 {G : Ctx} {h : Nat} {Q : MP} {I : Nat → Nat → Int} {J : Nat → Nat → BitVec 64} {b : B3} {l1 l2 : Int} (hh : 0 ≤ h) (H : ((l2 < 0) → (Q none (I, J, PP b))) ∧ (¬ (l2 < 0) → (((400 ≤ (I 0 4)) → (Tri G h 143 119 119 3 [some (vr 0), some (vi l1), some (vi (w32 (l2 + (-8))))] [] (I, J, PP b) Q)) ∧ (¬ (400 ≤ (I 0 4)) → ((0 ≤ (I 0 4) ∧ (I 0 4) < (400 : Int)) ∧ (Tri G h 143 119 119 3 [some (vr 0), some (vi l1), some (vi (w32 (l2 + (-8))))] [] (u2 (u2 I 61 ((I 0 4).toNat) (w8 (w8 (iUsh l1 l2)))) 0 4 (w32 ((I 0 4) + 1)), J, PP b) Q)))))) : Tri G h 143 119 119 3 [some (vr 0), some (vi l1), some (vi l2)] [] (I, J, PP b) Q := wp_at ck143 [(3, [true, true, true])] 400 H
theorem x143_m {G : Ctx} {h : Nat} {Q : MP} {I : Nat → Nat → Int} {J : Nat → Nat → BitVec 64} {b : B3} {x : Int} (hh : 1 ≤ h) (H : ∀ h, 0 ≤ h → Tri G h 143 119 119 0 [some (vr 0), some (vi x)] [] (I, J, PP b) Q) : TriM G h 143 119 119 [vr 0, vi x] (I, J, PP b) Q := TriM_intro (h - 1) (by omega) (by decide) (Nat.le_of_ble_eq_true rfl) (Nat.le_refl _) (Nat.le_refl _) (H (h - 1) (by omega))
set_option maxRecDepth 100000 in
theorem x142 {G : Ctx} {h : Nat} {Q : MP} {I : Nat → Nat → Int} {J : Nat → Nat → BitVec 64} {b : B3} {u v x y z : Int} (hh : 1 ≤ h) (H : (((w32 ((I 0 4) + 20)) ≤ 400) → (TriM G h 143 119 119 [vr 0, vi x] (I, J, PP b) (cVN fun I1 J1 b1 => (TriM G h 143 119 119 [vr 0, vi y] (I1, J1, PP b1) (cVN fun I2 J2 b2 => (TriM G h 143 119 119 [vr 0, vi z] (I2, J2, PP b2) (cVN fun I3 J3 b3 => (TriM G h 143 119 119 [vr 0, vi u] (I3, J3, PP b3) (cVN fun I4 J4 b4 => (TriM G h 143 119 119 [vr 0, vi v] (I4, J4, PP b4) (cVN fun I5 J5 b5 => (Q (some (vi (I5 0 4))) (I5, J5, PP b5))))))))))))) ∧ (¬ ((w32 ((I 0 4) + 20)) ≤ 400) → (Q (some (vi (-1))) (I, J, PP b)))) : Tri G h 142 119 119 0 [some (vr 0), some (vi x), some (vi y), some (vi z), some (vi u), some (vi v)] [] (I, J, PP b) Q := wp_at ck142 [] 400 (And.intro (fun q426 => cVN_go (H.1 q426) (fun I1 J1 b1 q428 => cVN_go q428 (fun I2 J2 b2 q429 => cVN_go q429 (fun I3 J3 b3 q430 => cVN_go q430 (fun I4 J4 b4 q431 => cVN_go q431 (fun I5 J5 b5 q432 => q432)))))) (fun q427 => H.2 q427))
theorem x142_m {G : Ctx} {h : Nat} {Q : MP} {I : Nat → Nat → Int} {J : Nat → Nat → BitVec 64} {b : B3} {x y z u v : Int} (hh : 2 ≤ h) (H : ∀ h, 1 ≤ h → Tri G h 142 119 119 0 [some (vr 0), some (vi x), some (vi y), some (vi z), some (vi u), some (vi v)] [] (I, J, PP b) Q) : TriM G h 142 119 119 [vr 0, vi x, vi y, vi z, vi u, vi v] (I, J, PP b) Q := TriM_intro (h - 1) (by omega) (by decide) (Nat.le_of_ble_eq_true rfl) (Nat.le_refl _) (Nat.le_refl _) (H (h - 1) (by omega))
set_option maxRecDepth 100000 in
theorem x197 {G : Ctx} {h : Nat} {Q : MP} {I : Nat → Nat → Int} {J : Nat → Nat → BitVec 64} {b : B3} {u v x y z : Int} (hh : 0 ≤ h) (H : (((w32 ((I 91 11) + 20)) ≤ 400) → (Tri G h 197 119 119 18 [some (vr 91), some (vi x), some (vi y), some (vi z), some (vi u), some (vi v), some (vi 0)] [] (I, J, PP b) Q)) ∧ (¬ ((w32 ((I 91 11) + 20)) ≤ 400) → (Q (some (vi (-1))) (I, J, PP b)))) : Tri G h 197 119 119 0 [some (vr 91), some (vi x), some (vi y), some (vi z), some (vi u), some (vi v)] [] (I, J, PP b) Q := wp_at ck197 [(18, [true, true, true, true, true, true, true])] 400 H
set_option maxRecDepth 100000 in
theorem x197_18 {G : Ctx} {h : Nat} {Q : MP} {I : Nat → Nat → Int} {J : Nat → Nat → BitVec 64} {b : B3} {l1 l2 l3 l4 l5 l6 : Int} (hh : 0 ≤ h) (H : ((20 ≤ l6) → (Q (some (vi (I 91 11))) (I, J, PP b))) ∧ (¬ (20 ≤ l6) → (((4 ≤ l6) → (((8 ≤ l6) → (((12 ≤ l6) → (((16 ≤ l6) → ((0 ≤ (I 91 11) ∧ (I 91 11) < (400 : Int)) ∧ (Tri G h 197 119 119 18 [some (vr 91), some (vi l1), some (vi l2), some (vi l3), some (vi l4), some (vi l5), some (vi (w32 (l6 + 1)))] [] (u2 (u2 I 96 ((I 91 11).toNat) (iAnd (iShr l5 (w32 (24 - (w32 (8 * (iRem l6 4)))))) 255)) 91 11 (w32 ((I 91 11) + 1)), J, PP b) Q))) ∧ (¬ (16 ≤ l6) → ((0 ≤ (I 91 11) ∧ (I 91 11) < (400 : Int)) ∧ (Tri G h 197 119 119 18 [some (vr 91), some (vi l1), some (vi l2), some (vi l3), some (vi l4), some (vi l5), some (vi (w32 (l6 + 1)))] [] (u2 (u2 I 96 ((I 91 11).toNat) (iAnd (iShr l4 (w32 (24 - (w32 (8 * (iRem l6 4)))))) 255)) 91 11 (w32 ((I 91 11) + 1)), J, PP b) Q))))) ∧ (¬ (12 ≤ l6) → ((0 ≤ (I 91 11) ∧ (I 91 11) < (400 : Int)) ∧ (Tri G h 197 119 119 18 [some (vr 91), some (vi l1), some (vi l2), some (vi l3), some (vi l4), some (vi l5), some (vi (w32 (l6 + 1)))] [] (u2 (u2 I 96 ((I 91 11).toNat) (iAnd (iShr l3 (w32 (24 - (w32 (8 * (iRem l6 4)))))) 255)) 91 11 (w32 ((I 91 11) + 1)), J, PP b) Q))))) ∧ (¬ (8 ≤ l6) → ((0 ≤ (I 91 11) ∧ (I 91 11) < (400 : Int)) ∧ (Tri G h 197 119 119 18 [some (vr 91), some (vi l1), some (vi l2), some (vi l3), some (vi l4), some (vi l5), some (vi (w32 (l6 + 1)))] [] (u2 (u2 I 96 ((I 91 11).toNat) (iAnd (iShr l2 (w32 (24 - (w32 (8 * (iRem l6 4)))))) 255)) 91 11 (w32 ((I 91 11) + 1)), J, PP b) Q))))) ∧ (¬ (4 ≤ l6) → ((0 ≤ (I 91 11) ∧ (I 91 11) < (400 : Int)) ∧ (Tri G h 197 119 119 18 [some (vr 91), some (vi l1), some (vi l2), some (vi l3), some (vi l4), some (vi l5), some (vi (w32 (l6 + 1)))] [] (u2 (u2 I 96 ((I 91 11).toNat) (iAnd (iShr l1 (w32 (24 - (w32 (8 * (iRem l6 4)))))) 255)) 91 11 (w32 ((I 91 11) + 1)), J, PP b) Q)))))) : Tri G h 197 119 119 18 [some (vr 91), some (vi l1), some (vi l2), some (vi l3), some (vi l4), some (vi l5), some (vi l6)] [] (I, J, PP b) Q := wp_at ck197 [(18, [true, true, true, true, true, true, true])] 400 (And.intro (fun q433 => H.1 q433) (fun q434 => And.intro (fun q435 => And.intro (fun q437 => And.intro (fun q439 => And.intro (fun q441 => And.intro (show (4 : Int) ≠ 0 by decide) (((((H.2 q434).1 q435).1 q437).1 q439).1 q441)) (fun q442 => And.intro (show (4 : Int) ≠ 0 by decide) (((((H.2 q434).1 q435).1 q437).1 q439).2 q442))) (fun q440 => And.intro (show (4 : Int) ≠ 0 by decide) ((((H.2 q434).1 q435).1 q437).2 q440))) (fun q438 => And.intro (show (4 : Int) ≠ 0 by decide) (((H.2 q434).1 q435).2 q438))) (fun q436 => And.intro (show (4 : Int) ≠ 0 by decide) ((H.2 q434).2 q436))))
theorem x197_m {G : Ctx} {h : Nat} {Q : MP} {I : Nat → Nat → Int} {J : Nat → Nat → BitVec 64} {b : B3} {x y z u v : Int} (hh : 1 ≤ h) (H : ∀ h, 0 ≤ h → Tri G h 197 119 119 0 [some (vr 91), some (vi x), some (vi y), some (vi z), some (vi u), some (vi v)] [] (I, J, PP b) Q) : TriM G h 197 119 119 [vr 91, vi x, vi y, vi z, vi u, vi v] (I, J, PP b) Q := TriM_intro (h - 1) (by omega) (by decide) (Nat.le_of_ble_eq_true rfl) (Nat.le_refl _) (Nat.le_refl _) (H (h - 1) (by omega))
/-! cells that may have changed -/
def frK (S : List Nat) (I I' : MI) : Prop := ∀ k, k ∉ S → I' k = I k
theorem frK.r {S : List Nat} {I : MI} : frK S I I := fun _ _ => rfl
theorem frK.t {S : List Nat} {I I' I2 : MI} (h : frK S I I') (h2 : frK S I' I2) : frK S I I2 := fun k hk => by rw [h2 k hk, h k hk]
theorem frK.mo {S S' : List Nat} {I I' : MI} (h : frK S I I') (hs : ∀ k ∈ S, k ∈ S') : frK S' I I' := fun k hk => h k fun q => hk (hs k q)
theorem frK.u {S : List Nat} {I I' : MI} {k j : Nat} {x : Int} (h : frK S I I') (hk : k ∈ S) : frK S I (u2 I' k j x) := fun a ha => by
  rw [u2_ne (fun q => ha (by rw [q]; exact hk)), h a ha]
theorem frK.u1 {S : List Nat} {I I' : MI} {k : Nat} {g : Nat → Int} (h : frK S I I') (hk : k ∈ S) : frK S I (u1 I' k g) := fun a ha => by
  rw [u1_ne (fun q => ha (by rw [q]; exact hk)), h a ha]
abbrev SCR : List Nat := [15, 18, 21, 30, 62, 63, 64, 65, 66, 68, 69, 78, 79, 80, 81, 83, 84, 85, 86, 87, 88, 89, 90, 94, 95, 97, 98, 99, 100, 101, 102, 103, 104, 105, 106, 107, 108, 110, 111, 112, 113, 114, 115, 116, 117, 118]
theorem INV.sc {c : Nat} {I I' : MI} {J J' : MJ} (h : INV c I J) (hk : frK SCR I I') (hj : ∀ k ∈ [70, 71, 77, 109], J' k = J k) : INV c I' J' := h.fr (fun k q _ => hk k q) (fun j _ => by rw [hk 91 (by decide)]) hj
theorem INV.sc1 {c : Nat} {I I' : MI} {J J' : MJ} (h : INV c I J) (hk : frK (91 :: SCR) I I') (h91 : ∀ j ∈ [2, 11, 18, 20], I' 91 j = I 91 j) (hj : ∀ k ∈ [70, 71, 77, 109], J' k = J k) : INV c I' J' := h.fr (fun k q q2 => hk k (by rw [List.mem_cons, not_or]; exact ⟨q2, q⟩)) h91 hj
section PUBE
variable {G : Ctx} {h n : Nat} {I : MI} {J : MJ} {b : B3} {x y z u v : Int}
def gsOK (I : MI) (x y : Int) : Prop := (0 ≤ x ∧ x < 5) ∧ (y = -1 ∨ ((0 ≤ y ∧ y < 12) ∧ ∀ i : Int, 0 ≤ i → i < 5 → i ≠ x → I 26 i.toNat ≠ y))
theorem s48_l {K : Int → MI → MJ → B3 → Prop} (hx : 0 ≤ x ∧ x < 5) (hy : y = -1 ∨ (0 ≤ y ∧ y < 12)) (k1 : gsOK I x y → K 1 (u2 I 26 x.toNat y) J b) (k0 : ¬ gsOK I x y → K 0 I J b) : ∀ (m : Nat) (i : Int), i + m = 5 → 0 ≤ i → (∀ t : Int, 0 ≤ t → t < i → t ≠ x → y = -1 ∨ I 26 t.toNat ≠ y) → Tri G h 48 119 119 26 [some (vr 25), some (vi x), some (vi y), some (vi i)] [] (I, J, PP b) (cIN K) := by
  intro m
  induction m with
  | zero =>
    intro i hi h0 ht
    refine x48_26 (Nat.zero_le _) ⟨fun q => ⟨hx, cIN_r fun _ => k1 ⟨hx, ?_⟩⟩, fun q => by omega⟩
    by_cases hy1 : y = -1
    · exact Or.inl hy1
    · exact Or.inr ⟨hy.resolve_left hy1, fun t t1 t2 t3 => (ht t t1 (by omega) t3).resolve_left hy1⟩
  | succ m ih =>
    intro i hi h0 ht
    refine x48_26 (Nat.zero_le _) ⟨fun q => by omega, fun q => ⟨fun q1 => ?_, fun q1 => ⟨fun q2 => ?_, fun q2 => ⟨by omega, fun q3 => ?_, fun q3 => cIN_r fun _ => k0 ?_⟩⟩⟩⟩
    · rw [w32_id (by omega) (by omega)]
      exact ih (i + 1) (by omega) (by omega) (fun t t1 t2 t3 => ht t t1 (by omega) t3)
    · rw [w32_id (by omega) (by omega)]
      exact ih (i + 1) (by omega) (by omega) (fun t t1 t2 t3 => Or.inl q2)
    · rw [w32_id (by omega) (by omega)]
      refine ih (i + 1) (by omega) (by omega) (fun t t1 t2 t3 => ?_)
      by_cases ht2 : t = i
      · rw [ht2]; exact Or.inr q3
      · exact ht t t1 (by omega) t3
    · intro hk
      rcases hk.2 with hk | hk
      · exact q2 hk
      · exact q3 (hk.2 i h0 (by omega) q1)
theorem s48 {K : Int → MI → MJ → B3 → Prop} (hh : 2 ≤ h) (k1 : gsOK I x y → K 1 (u2 I 26 x.toNat y) J b) (k0 : ¬ gsOK I x y → K 0 I J b) : TriM G h 48 119 119 [vr 25, vi x, vi y] (I, J, PP b) (cIN K) := by
  refine x48_m hh (fun h hh => x48 hh ⟨fun q => ⟨fun q1 => ?_, fun q1 => ⟨fun q2 => ?_, fun q2 => cIN_r fun _ => k0 ?_⟩⟩, fun q => cIN_r fun _ => k0 fun z => q z.1⟩)
  · exact s48_l q (Or.inl q1) k1 k0 5 0 rfl (by omega) (fun t t1 t2 => by omega)
  · exact s48_l q (Or.inr q2) k1 k0 5 0 rfl (by omega) (fun t t1 t2 => by omega)
  · intro hk
    rcases hk.2 with hk | hk
    · exact q1 hk
    · exact q2 hk.1
def gsM (I : MI) (x y : Int) : Prop := (0 ≤ x ∧ x < 5) ∧ (y = -1 ∨ ((0 ≤ y ∧ y < 12) ∧ ∀ i : Int, 0 ≤ i → i < 5 → i ≠ x → I 92 (10 + i).toNat ≠ y))
theorem s257_l {K : Int → MI → MJ → B3 → Prop} (hx : 0 ≤ x ∧ x < 5) (hy : y = -1 ∨ (0 ≤ y ∧ y < 12)) (k1 : gsM I x y → K 1 (u2 I 92 (10 + x).toNat y) J b) (k0 : ¬ gsM I x y → K 0 I J b) : ∀ (m : Nat) (i : Int), i + m = 5 → 0 ≤ i → (∀ t : Int, 0 ≤ t → t < i → t ≠ x → y = -1 ∨ I 92 (10 + t).toNat ≠ y) → Tri G h 257 119 119 58 [some (vr 91), none, some (vi x), some (vi y), some (vi i)] [] (I, J, PP b) (cIN K) := by
  intro m
  induction m with
  | zero =>
    intro i hi h0 ht
    refine x257_58 (Nat.zero_le _) ?_
    rw [w32_id (x := 10 + x) (by omega) (by omega)]
    refine ⟨fun q => ⟨by omega, cIN_r fun _ => k1 ⟨hx, ?_⟩⟩, fun q => by omega⟩
    by_cases hy1 : y = -1
    · exact Or.inl hy1
    · exact Or.inr ⟨hy.resolve_left hy1, fun t t1 t2 t3 => (ht t t1 (by omega) t3).resolve_left hy1⟩
  | succ m ih =>
    intro i hi h0 ht
    refine x257_58 (Nat.zero_le _) ?_
    rw [w32_id (x := 10 + i) (by omega) (by omega), w32_id (x := i + 1) (by omega) (by omega)]
    refine ⟨fun q => by omega, fun q => ⟨fun q1 => ?_, fun q1 => ⟨fun q2 => ?_, fun q2 => ⟨by omega, fun q3 => ?_, fun q3 => cIN_r fun _ => k0 ?_⟩⟩⟩⟩
    · exact ih (i + 1) (by omega) (by omega) (fun t t1 t2 t3 => ht t t1 (by omega) t3)
    · exact ih (i + 1) (by omega) (by omega) (fun t t1 t2 t3 => Or.inl q2)
    · refine ih (i + 1) (by omega) (by omega) (fun t t1 t2 t3 => ?_)
      by_cases ht2 : t = i
      · rw [ht2]; exact Or.inr q3
      · exact ht t t1 (by omega) t3
    · intro hk
      rcases hk.2 with hk | hk
      · exact q2 hk
      · exact q3 (hk.2 i h0 (by omega) q1)

theorem pub_last (hI : INV n I J) (hn : n < 64) (hh : 40 ≤ h) : PairI G h 163 257 [vi x, vi y, vi z] (n + 1) I J b := by
  have hI2 := hI.suc hn
  have hL : rLast 0 92 I := by
    obtain ⟨p0, p1, p2, ⟨a1, a2, a3, a4, a5⟩, -⟩ := hI
    exact a4
  obtain ⟨b1, b2, b3, -⟩ := hL
  simp only [Nat.reduceAdd] at b1 b2 b3
  have f0 : gsOK I y z → INV (n + 1) (u2 (u2 I 26 y.toNat z) 92 (10 + y).toNat z) J := by
    intro ⟨g1, g2⟩
    have g3 : -1 ≤ z ∧ z < 12 := by
      rcases g2 with g2 | g2
      · omega
      · have := g2.1; omega
    obtain ⟨p0, p1, p2, ⟨a1, a2, a3, a4, a5⟩, ⟨t0, t1, t2⟩, hl, hp, htp, hf, ⟨k1, k2, k3⟩, hc, hcc⟩ := hI.suc hn
    have ht : rLast 0 92 (u2 (u2 I 26 y.toNat z) 92 (10 + y).toNat z) := by
      unfold rLast at a4 ⊢
      simp (disch := omega) only [Nat.reduceAdd, u2n, u2j, u2e, and_true, true_and] at a4 ⊢
      refine ⟨by omega, by omega, fun i i1 i2 => ?_, fun i i1 i2 => ?_, fun i d i1 i2 d1 d2 => ?_, fun i d i1 i2 d1 d2 => ?_⟩
      · first
        | (simp (disch := omega) only [Nat.reduceAdd, u2n, u2j, u2e, and_true, true_and]; exact a4.2.2.1 i i1 i2)
        | (by_cases he : i = y
           · obtain rfl := he
             simp (disch := omega) only [Nat.reduceAdd, u2n, u2j, u2e, and_true, true_and]
             omega
           · simp (disch := omega) only [Nat.reduceAdd, u2n, u2j, u2e, and_true, true_and]; exact a4.2.2.1 i i1 i2)
      · first
        | (simp (disch := omega) only [Nat.reduceAdd, u2n, u2j, u2e, and_true, true_and]; exact a4.2.2.2.1 i i1 i2)
        | (by_cases he : i = y
           · obtain rfl := he
             simp (disch := omega) only [Nat.reduceAdd, u2n, u2j, u2e, and_true, true_and]
             omega
           · simp (disch := omega) only [Nat.reduceAdd, u2n, u2j, u2e, and_true, true_and]; exact a4.2.2.2.1 i i1 i2)
      · simp (disch := omega) only [Nat.reduceAdd, u2n, u2j, u2e, and_true, true_and]; exact a4.2.2.2.2.1 i d i1 i2 d1 d2
      · simp (disch := omega) only [Nat.reduceAdd, u2n, u2j, u2e, and_true, true_and]; exact a4.2.2.2.2.2 i d i1 i2 d1 d2
    refine ⟨p0, p1, p2, ⟨a1.fr ?_ ?_ ?_ ?_ ?_ ?_, a2.fr ?_ ?_ ?_ ?_ ?_ ?_ ?_ ?_, a3.fr ?_ ?_ ?_ ?_ ?_, ht, ?_⟩, ⟨t0.fr ?_ ?_ ?_, t1.fr ?_ ?_ ?_, t2.fr ?_ ?_ ?_⟩, hl.fr ?_ ?_ ?_ ?_ ?_ ?_ ?_ ?_ ?_, hp.fr ?_ ?_ ?_ ?_ ?_ ?_ ?_ ?_ ?_ ?_ ?_ ?_ ?_ ?_ ?_, htp.fr ?_ ?_ ?_ ?_, ?_, ⟨?_, ?_, fun q => (k3 ?_).fr ?_ ?_⟩, hc, ?_⟩
    all_goals first
      | (simp (disch := decide) only [u2_ne, u1_ne]; done)
      | (intro j hj; simp (disch := omega) only [u2n, u2j, u1n]; done)
      | (simp (disch := omega) only [u2n, u2j, u2e, u1n]; first | done | omega | assumption | exact Int.le_refl _)
      | (intro k hk; simp (disch := omega) only [u2_ne, u1_ne]; done)
      | (simp (disch := omega) only [u2n, u2j, u2e] at q; exact q)
      | rfl
  have f1 : (0 ≤ y ∧ y < 6) ∧ 0 ≤ z ∧ z < 10 → INV (n + 1) (u2 (u2 I 27 y.toNat z) 92 (15 + y).toNat z) J := by
    intro ⟨g1, g2⟩
    obtain ⟨p0, p1, p2, ⟨a1, a2, a3, a4, a5⟩, ⟨t0, t1, t2⟩, hl, hp, htp, hf, ⟨k1, k2, k3⟩, hc, hcc⟩ := hI.suc hn
    have ht : rLast 0 92 (u2 (u2 I 27 y.toNat z) 92 (15 + y).toNat z) := by
      unfold rLast at a4 ⊢
      simp (disch := omega) only [Nat.reduceAdd, u2n, u2j, u2e, and_true, true_and] at a4 ⊢
      refine ⟨by omega, by omega, fun i i1 i2 => ?_, fun i i1 i2 => ?_, fun i d i1 i2 d1 d2 => ?_, fun i d i1 i2 d1 d2 => ?_⟩
      · first
        | (simp (disch := omega) only [Nat.reduceAdd, u2n, u2j, u2e, and_true, true_and]; exact a4.2.2.1 i i1 i2)
        | (by_cases he : i = y
           · obtain rfl := he
             simp (disch := omega) only [Nat.reduceAdd, u2n, u2j, u2e, and_true, true_and]
             omega
           · simp (disch := omega) only [Nat.reduceAdd, u2n, u2j, u2e, and_true, true_and]; exact a4.2.2.1 i i1 i2)
      · first
        | (simp (disch := omega) only [Nat.reduceAdd, u2n, u2j, u2e, and_true, true_and]; exact a4.2.2.2.1 i i1 i2)
        | (by_cases he : i = y
           · obtain rfl := he
             simp (disch := omega) only [Nat.reduceAdd, u2n, u2j, u2e, and_true, true_and]
             omega
           · simp (disch := omega) only [Nat.reduceAdd, u2n, u2j, u2e, and_true, true_and]; exact a4.2.2.2.1 i i1 i2)
      · simp (disch := omega) only [Nat.reduceAdd, u2n, u2j, u2e, and_true, true_and]; exact a4.2.2.2.2.1 i d i1 i2 d1 d2
      · simp (disch := omega) only [Nat.reduceAdd, u2n, u2j, u2e, and_true, true_and]; exact a4.2.2.2.2.2 i d i1 i2 d1 d2
    refine ⟨p0, p1, p2, ⟨a1.fr ?_ ?_ ?_ ?_ ?_ ?_, a2.fr ?_ ?_ ?_ ?_ ?_ ?_ ?_ ?_, a3.fr ?_ ?_ ?_ ?_ ?_, ht, ?_⟩, ⟨t0.fr ?_ ?_ ?_, t1.fr ?_ ?_ ?_, t2.fr ?_ ?_ ?_⟩, hl.fr ?_ ?_ ?_ ?_ ?_ ?_ ?_ ?_ ?_, hp.fr ?_ ?_ ?_ ?_ ?_ ?_ ?_ ?_ ?_ ?_ ?_ ?_ ?_ ?_ ?_, htp.fr ?_ ?_ ?_ ?_, ?_, ⟨?_, ?_, fun q => (k3 ?_).fr ?_ ?_⟩, hc, ?_⟩
    all_goals first
      | (simp (disch := decide) only [u2_ne, u1_ne]; done)
      | (intro j hj; simp (disch := omega) only [u2n, u2j, u1n]; done)
      | (simp (disch := omega) only [u2n, u2j, u2e, u1n]; first | done | omega | assumption | exact Int.le_refl _)
      | (intro k hk; simp (disch := omega) only [u2_ne, u1_ne]; done)
      | (simp (disch := omega) only [u2n, u2j, u2e] at q; exact q)
      | rfl
  have f2 : 1 ≤ z ∧ z ≤ 4 → INV (n + 1) (u2 (u2 I 25 0 z) 92 8 z) J := by
    intro g1
    obtain ⟨p0, p1, p2, ⟨a1, a2, a3, a4, a5⟩, ⟨t0, t1, t2⟩, hl, hp, htp, hf, ⟨k1, k2, k3⟩, hc, hcc⟩ := hI.suc hn
    have ht : rLast 0 92 (u2 (u2 I 25 0 z) 92 8 z) := by
      unfold rLast at a4 ⊢
      simp (disch := omega) only [Nat.reduceAdd, u2n, u2j, u2e, and_true, true_and] at a4 ⊢
      refine ⟨by omega, by omega, fun i i1 i2 => ?_, fun i i1 i2 => ?_, fun i d i1 i2 d1 d2 => ?_, fun i d i1 i2 d1 d2 => ?_⟩
      · first
        | (simp (disch := omega) only [Nat.reduceAdd, u2n, u2j, u2e, and_true, true_and]; exact a4.2.2.1 i i1 i2)
        | (by_cases he : i = y
           · obtain rfl := he
             simp (disch := omega) only [Nat.reduceAdd, u2n, u2j, u2e, and_true, true_and]
             omega
           · simp (disch := omega) only [Nat.reduceAdd, u2n, u2j, u2e, and_true, true_and]; exact a4.2.2.1 i i1 i2)
      · first
        | (simp (disch := omega) only [Nat.reduceAdd, u2n, u2j, u2e, and_true, true_and]; exact a4.2.2.2.1 i i1 i2)
        | (by_cases he : i = y
           · obtain rfl := he
             simp (disch := omega) only [Nat.reduceAdd, u2n, u2j, u2e, and_true, true_and]
             omega
           · simp (disch := omega) only [Nat.reduceAdd, u2n, u2j, u2e, and_true, true_and]; exact a4.2.2.2.1 i i1 i2)
      · simp (disch := omega) only [Nat.reduceAdd, u2n, u2j, u2e, and_true, true_and]; exact a4.2.2.2.2.1 i d i1 i2 d1 d2
      · simp (disch := omega) only [Nat.reduceAdd, u2n, u2j, u2e, and_true, true_and]; exact a4.2.2.2.2.2 i d i1 i2 d1 d2
    refine ⟨p0, p1, p2, ⟨a1.fr ?_ ?_ ?_ ?_ ?_ ?_, a2.fr ?_ ?_ ?_ ?_ ?_ ?_ ?_ ?_, a3.fr ?_ ?_ ?_ ?_ ?_, ht, ?_⟩, ⟨t0.fr ?_ ?_ ?_, t1.fr ?_ ?_ ?_, t2.fr ?_ ?_ ?_⟩, hl.fr ?_ ?_ ?_ ?_ ?_ ?_ ?_ ?_ ?_, hp.fr ?_ ?_ ?_ ?_ ?_ ?_ ?_ ?_ ?_ ?_ ?_ ?_ ?_ ?_ ?_, htp.fr ?_ ?_ ?_ ?_, ?_, ⟨?_, ?_, fun q => (k3 ?_).fr ?_ ?_⟩, hc, ?_⟩
    all_goals first
      | (simp (disch := decide) only [u2_ne, u1_ne]; done)
      | (intro j hj; simp (disch := omega) only [u2n, u2j, u1n]; done)
      | (simp (disch := omega) only [u2n, u2j, u2e, u1n]; first | done | omega | assumption | exact Int.le_refl _)
      | (intro k hk; simp (disch := omega) only [u2_ne, u1_ne]; done)
      | (simp (disch := omega) only [u2n, u2j, u2e] at q; exact q)
      | rfl
  have f3 : 1 ≤ z ∧ z ≤ 6 → INV (n + 1) (u2 (u2 I 25 1 z) 92 9 z) J := by
    intro g1
    obtain ⟨p0, p1, p2, ⟨a1, a2, a3, a4, a5⟩, ⟨t0, t1, t2⟩, hl, hp, htp, hf, ⟨k1, k2, k3⟩, hc, hcc⟩ := hI.suc hn
    have ht : rLast 0 92 (u2 (u2 I 25 1 z) 92 9 z) := by
      unfold rLast at a4 ⊢
      simp (disch := omega) only [Nat.reduceAdd, u2n, u2j, u2e, and_true, true_and] at a4 ⊢
      refine ⟨by omega, by omega, fun i i1 i2 => ?_, fun i i1 i2 => ?_, fun i d i1 i2 d1 d2 => ?_, fun i d i1 i2 d1 d2 => ?_⟩
      · first
        | (simp (disch := omega) only [Nat.reduceAdd, u2n, u2j, u2e, and_true, true_and]; exact a4.2.2.1 i i1 i2)
        | (by_cases he : i = y
           · obtain rfl := he
             simp (disch := omega) only [Nat.reduceAdd, u2n, u2j, u2e, and_true, true_and]
             omega
           · simp (disch := omega) only [Nat.reduceAdd, u2n, u2j, u2e, and_true, true_and]; exact a4.2.2.1 i i1 i2)
      · first
        | (simp (disch := omega) only [Nat.reduceAdd, u2n, u2j, u2e, and_true, true_and]; exact a4.2.2.2.1 i i1 i2)
        | (by_cases he : i = y
           · obtain rfl := he
             simp (disch := omega) only [Nat.reduceAdd, u2n, u2j, u2e, and_true, true_and]
             omega
           · simp (disch := omega) only [Nat.reduceAdd, u2n, u2j, u2e, and_true, true_and]; exact a4.2.2.2.1 i i1 i2)
      · simp (disch := omega) only [Nat.reduceAdd, u2n, u2j, u2e, and_true, true_and]; exact a4.2.2.2.2.1 i d i1 i2 d1 d2
      · simp (disch := omega) only [Nat.reduceAdd, u2n, u2j, u2e, and_true, true_and]; exact a4.2.2.2.2.2 i d i1 i2 d1 d2
    refine ⟨p0, p1, p2, ⟨a1.fr ?_ ?_ ?_ ?_ ?_ ?_, a2.fr ?_ ?_ ?_ ?_ ?_ ?_ ?_ ?_, a3.fr ?_ ?_ ?_ ?_ ?_, ht, ?_⟩, ⟨t0.fr ?_ ?_ ?_, t1.fr ?_ ?_ ?_, t2.fr ?_ ?_ ?_⟩, hl.fr ?_ ?_ ?_ ?_ ?_ ?_ ?_ ?_ ?_, hp.fr ?_ ?_ ?_ ?_ ?_ ?_ ?_ ?_ ?_ ?_ ?_ ?_ ?_ ?_ ?_, htp.fr ?_ ?_ ?_ ?_, ?_, ⟨?_, ?_, fun q => (k3 ?_).fr ?_ ?_⟩, hc, ?_⟩
    all_goals first
      | (simp (disch := decide) only [u2_ne, u1_ne]; done)
      | (intro j hj; simp (disch := omega) only [u2n, u2j, u1n]; done)
      | (simp (disch := omega) only [u2n, u2j, u2e, u1n]; first | done | omega | assumption | exact Int.le_refl _)
      | (intro k hk; simp (disch := omega) only [u2_ne, u1_ne]; done)
      | (simp (disch := omega) only [u2n, u2j, u2e] at q; exact q)
      | rfl
  have e0 : gsM I y z ↔ gsOK I y z := by
    unfold gsM gsOK
    refine and_congr Iff.rfl (or_congr Iff.rfl (and_congr Iff.rfl ⟨fun q i i1 i2 i3 => ?_, fun q i i1 i2 i3 => ?_⟩))
    · rw [← (b3 i i1 i2).1]; exact q i i1 i2 i3
    · rw [(b3 i i1 i2).1]; exact q i i1 i2 i3
  have no : ∀ I' : MI, (x = 0 → ¬ gsM I' y z) → (x = 1 → ¬ ((0 ≤ y ∧ y < 6) ∧ 0 ≤ z ∧ z < 10)) → (x = 2 → ¬ (1 ≤ z ∧ z ≤ 4)) → (x = 3 → ¬ (1 ≤ z ∧ z ≤ 6)) → INV (n + 1) I' J → TriM G h 257 119 119 [vr 91, vi x, vi y, vi z] (I', J, PP b) (cIN fun w I2 J2 _ => 0 = w ∧ INV (n + 1) I2 J2) := by
    intro I' g0 g1 g2 g3 hI'
    have hz : cIN (fun w I2 J2 _ => 0 = w ∧ INV (n + 1) I2 J2) (some (vi 0)) (I', J, PP b) := cIN_r fun _ => ⟨rfl, hI'⟩
    have hl : x = 0 → (0 ≤ y ∧ y < 5) → (z = -1 ∨ (0 ≤ z ∧ z < 12)) → ∀ h2, Tri G h2 257 119 119 58 [some (vr 91), none, some (vi y), some (vi z), some (vi 0)] [] (I', J, PP b) (cIN fun w I2 J2 _ => 0 = w ∧ INV (n + 1) I2 J2) := fun q q1 q2 h2 => s257_l q1 q2 (fun k => absurd k (g0 q)) (fun k => ⟨rfl, hI'⟩) 5 0 rfl (by omega) (fun t t1 t2 => by omega)
    refine x257_m (by omega) (fun h2 hh2 => x257 hh2 ?_)
    refine ⟨⟨fun e => ⟨fun q => ⟨fun q2 => hl e (by omega) (Or.inl q2) _, fun q2 => ⟨fun q3 => hl e (by omega) (Or.inr q3) _, fun q3 => hz⟩⟩, fun q => hz⟩, fun e => ⟨fun q => ⟨fun q2 => absurd (show (0 ≤ y ∧ y < 6) ∧ 0 ≤ z ∧ z < 10 by omega) (g1 e), fun q2 => hz⟩, fun q => hz⟩, fun e => ⟨fun q => absurd q (g2 e), fun q => hz⟩, fun e => ⟨fun q => absurd q (g3 e), fun q => hz⟩, trivial⟩, fun q => hz⟩
  refine x163_m (by omega) (fun h2 hh2 => x163 hh2 ⟨⟨fun e => s48 (by omega) (fun g => ?_) (fun g => ?_), fun e => ?_, fun e => ?_, fun e => ?_, trivial⟩, fun e => cIN_r fun _ => no I (by omega) (by omega) (by omega) (by omega) hI2⟩)
  · refine ⟨Or.inr rfl, cIN_r fun _ => ?_⟩
    have gy := g.1
    have gz : z = -1 ∨ (0 ≤ z ∧ z < 12) := g.2.imp id And.left
    have gm : gsM (u2 I 26 y.toNat z) y z := by
      have := e0.2 g
      unfold gsM at this ⊢
      simp (disch := decide) only [u2n]
      exact this
    have hl : ∀ h2, Tri G h2 257 119 119 58 [some (vr 91), none, some (vi y), some (vi z), some (vi 0)] [] (u2 I 26 y.toNat z, J, PP b) (cIN fun w I2 J2 _ => 1 = w ∧ INV (n + 1) I2 J2) := fun h2 => s257_l gy gz (fun _ => ⟨rfl, f0 g⟩) (fun k => absurd gm k) 5 0 rfl (by omega) (fun t t1 t2 => by omega)
    exact x257_m (by omega) (fun h2 hh2 => x257 hh2 ⟨⟨fun _ => ⟨fun _ => ⟨fun _ => hl _, fun _ => ⟨fun _ => hl _, fun q => by omega⟩⟩, fun q => by omega⟩, fun q => by omega, fun q => by omega, fun q => by omega, trivial⟩, fun q => by omega⟩)
  · exact ⟨Or.inl rfl, cIN_r fun _ => no I (fun _ => fun k => g (e0.1 k)) (by omega) (by omega) (by omega) hI2⟩
  · refine ⟨fun q1 => ⟨fun q2 => ⟨q1, cIN_r fun _ => ?_⟩, fun q2 => cIN_r fun _ => no I (by omega) (by omega) (by omega) (by omega) hI2⟩, fun q1 => cIN_r fun _ => no I (by omega) (by omega) (by omega) (by omega) hI2⟩
    refine x257_m (by omega) (fun h2 hh2 => x257 hh2 ⟨⟨fun q => by omega, fun _ => ⟨fun _ => ⟨fun _ => ?_, fun q => by omega⟩, fun q => by omega⟩, fun q => by omega, fun q => by omega, trivial⟩, fun q => by omega⟩)
    rw [w32_id (by omega) (by omega)]
    exact ⟨by omega, cIN_r fun _ => ⟨rfl, f1 ⟨q1, q2⟩⟩⟩
  · refine ⟨fun q1 => cIN_r fun _ => no I (by omega) (by omega) (by omega) (by omega) hI2, fun q1 => ⟨fun q2 => cIN_r fun _ => ?_, fun q2 => cIN_r fun _ => no I (by omega) (by omega) (by omega) (by omega) hI2⟩⟩
    exact x257_m (by omega) (fun h2 hh2 => x257 hh2 ⟨⟨fun q => by omega, fun q => by omega, fun _ => ⟨fun _ => cIN_r fun _ => ⟨rfl, f2 (by omega)⟩, fun q => by omega⟩, fun q => by omega, trivial⟩, fun q => by omega⟩)
  · refine ⟨fun q1 => cIN_r fun _ => no I (by omega) (by omega) (by omega) (by omega) hI2, fun q1 => ⟨fun q2 => cIN_r fun _ => ?_, fun q2 => cIN_r fun _ => no I (by omega) (by omega) (by omega) (by omega) hI2⟩⟩
    exact x257_m (by omega) (fun h2 hh2 => x257 hh2 ⟨⟨fun q => by omega, fun q => by omega, fun q => by omega, fun _ => ⟨fun _ => cIN_r fun _ => ⟨rfl, f3 (by omega)⟩, fun q => by omega⟩, trivial⟩, fun q => by omega⟩)
end PUBE
