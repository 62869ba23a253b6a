set_option maxRecDepth 100000 in
theorem x132 {G : Ctx} {h : Nat} {Q : MP} {I : Nat → Nat → Int} {J : Nat → Nat → BitVec 64} {b : B3} {x y z : Int} (hh : 3 ≤ h) (H : ((0 ≤ x ∧ x < (I 2 0)) → ((0 ≤ x ∧ x < (60 : Int)) ∧ (((0 ≤ x ∧ x < (I 2 0)) → ((0 ≤ x ∧ x < (60 : Int)) ∧ (((0 ≤ x ∧ x < (I 2 0)) → ((0 ≤ x ∧ x < (60 : Int)) ∧ (TriM G h 114 119 119 [vr 19, vr 30] (u2 (u2 (u2 (u2 (u2 I 30 0 (iDiv z 60)) 30 1 y) 30 2 (I 3 x.toNat)) 30 3 (I 4 x.toNat)) 30 4 (I 5 x.toNat), J, PP b) (cIN fun r1 I1 J1 b1 => (((r1 = 1) → (Q (some (vi 0)) (I1, J1, PP b1))) ∧ (¬ (r1 = 1) → (Q (some (vi 1)) (I1, J1, PP b1)))))))) ∧ (¬ (0 ≤ x ∧ x < (I 2 0)) → (TriM G h 114 119 119 [vr 19, vr 30] (u2 (u2 (u2 (u2 (u2 I 30 0 (iDiv z 60)) 30 1 y) 30 2 (I 3 x.toNat)) 30 3 (I 4 x.toNat)) 30 4 (-1), J, PP b) (cIN fun r2 I2 J2 b2 => (((r2 = 1) → (Q (some (vi 0)) (I2, J2, PP b2))) ∧ (¬ (r2 = 1) → (Q (some (vi 1)) (I2, J2, PP b2)))))))))) ∧ (¬ (0 ≤ x ∧ x < (I 2 0)) → (((0 ≤ x ∧ x < (I 2 0)) → ((0 ≤ x ∧ x < (60 : Int)) ∧ (TriM G h 114 119 119 [vr 19, vr 30] (u2 (u2 (u2 (u2 (u2 I 30 0 (iDiv z 60)) 30 1 y) 30 2 (I 3 x.toNat)) 30 3 (-1)) 30 4 (I 5 x.toNat), J, PP b) (cIN fun r3 I3 J3 b3 => (((r3 = 1) → (Q (some (vi 0)) (I3, J3, PP b3))) ∧ (¬ (r3 = 1) → (Q (some (vi 1)) (I3, J3, PP b3)))))))) ∧ (¬ (0 ≤ x ∧ x < (I 2 0)) → (TriM G h 114 119 119 [vr 19, vr 30] (u2 (u2 (u2 (u2 (u2 I 30 0 (iDiv z 60)) 30 1 y) 30 2 (I 3 x.toNat)) 30 3 (-1)) 30 4 (-1), J, PP b) (cIN fun r4 I4 J4 b4 => (((r4 = 1) → (Q (some (vi 0)) (I4, J4, PP b4))) ∧ (¬ (r4 = 1) → (Q (some (vi 1)) (I4, J4, PP b4)))))))))))) ∧ (¬ (0 ≤ x ∧ x < (I 2 0)) → (((0 ≤ x ∧ x < (I 2 0)) → ((0 ≤ x ∧ x < (60 : Int)) ∧ (((0 ≤ x ∧ x < (I 2 0)) → ((0 ≤ x ∧ x < (60 : Int)) ∧ (TriM G h 114 119 119 [vr 19, vr 30] (u2 (u2 (u2 (u2 (u2 I 30 0 (iDiv z 60)) 30 1 y) 30 2 (-1)) 30 3 (I 4 x.toNat)) 30 4 (I 5 x.toNat), J, PP b) (cIN fun r5 I5 J5 b5 => (((r5 = 1) → (Q (some (vi 0)) (I5, J5, PP b5))) ∧ (¬ (r5 = 1) → (Q (some (vi 1)) (I5, J5, PP b5)))))))) ∧ (¬ (0 ≤ x ∧ x < (I 2 0)) → (TriM G h 114 119 119 [vr 19, vr 30] (u2 (u2 (u2 (u2 (u2 I 30 0 (iDiv z 60)) 30 1 y) 30 2 (-1)) 30 3 (I 4 x.toNat)) 30 4 (-1), J, PP b) (cIN fun r6 I6 J6 b6 => (((r6 = 1) → (Q (some (vi 0)) (I6, J6, PP b6))) ∧ (¬ (r6 = 1) → (Q (some (vi 1)) (I6, J6, PP b6)))))))))) ∧ (¬ (0 ≤ x ∧ x < (I 2 0)) → (((0 ≤ x ∧ x < (I 2 0)) → ((0 ≤ x ∧ x < (60 : Int)) ∧ (TriM G h 114 119 119 [vr 19, vr 30] (u2 (u2 (u2 (u2 (u2 I 30 0 (iDiv z 60)) 30 1 y) 30 2 (-1)) 30 3 (-1)) 30 4 (I 5 x.toNat), J, PP b) (cIN fun r7 I7 J7 b7 => (((r7 = 1) → (Q (some (vi 0)) (I7, J7, PP b7))) ∧ (¬ (r7 = 1) → (Q (some (vi 1)) (I7, J7, PP b7)))))))) ∧ (¬ (0 ≤ x ∧ x < (I 2 0)) → (TriM G h 114 119 119 [vr 19, vr 30] (u2 (u2 (u2 (u2 (u2 I 30 0 (iDiv z 60)) 30 1 y) 30 2 (-1)) 30 3 (-1)) 30 4 (-1), J, PP b) (cIN fun r8 I8 J8 b8 => (((r8 = 1) → (Q (some (vi 0)) (I8, J8, PP b8))) ∧ (¬ (r8 = 1) → (Q (some (vi 1)) (I8, J8, PP b8)))))))))))) : Tri G h 132 119 119 0 [some (vr 1), some (vi x), some (vi y), some (vi z)] [] (I, J, PP b) Q := wp_at ck132 [] 400 (And.intro (show (60 : Int) ≠ 0 by decide) (And.intro (show (0 : Int) ≤ 0 ∧ (0 : Int) < ((7 : Nat) : Int) by decide) (And.intro (show (0 : Int) ≤ 1 ∧ (1 : Int) < ((7 : Nat) : Int) by decide) (x121_m (by omega) (fun h hh => x121 hh (And.intro (fun q639 => And.intro (H.1 q639).1 (cI_r (And.intro (show (0 : Int) ≤ 2 ∧ (2 : Int) < ((7 : Nat) : Int) by decide) (x122_m (by omega) (fun h hh => x122 hh (And.intro (fun q641 => And.intro (((H.1 q639).2).1 q641).1 (cI_r (And.intro (show (0 : Int) ≤ 3 ∧ (3 : Int) < ((7 : Nat) : Int) by decide) (x123_m (by omega) (fun h hh => x123 hh (And.intro (fun q643 => And.intro (((((H.1 q639).2).1 q641).2).1 q643).1 (cI_r (And.intro (show (0 : Int) ≤ 4 ∧ (4 : Int) < ((7 : Nat) : Int) by decide) (cIN_go ((((((H.1 q639).2).1 q641).2).1 q643).2) (fun r1 I1 J1 b1 q645 => And.intro (fun q646 => And.intro (show (0 : Int) = 0 ∨ (0 : Int) = 1 by decide) (q645.1 q646)) (fun q647 => And.intro (show (1 : Int) = 0 ∨ (1 : Int) = 1 by decide) (q645.2 q647))))))) (fun q644 => cI_r (And.intro (show (0 : Int) ≤ 4 ∧ (4 : Int) < ((7 : Nat) : Int) by decide) (cIN_go (((((H.1 q639).2).1 q641).2).2 q644) (fun r2 I2 J2 b2 q648 => And.intro (fun q649 => And.intro (show (0 : Int) = 0 ∨ (0 : Int) = 1 by decide) (q648.1 q649)) (fun q650 => And.intro (show (1 : Int) = 0 ∨ (1 : Int) = 1 by decide) (q648.2 q650)))))))))))) (fun q642 => cI_r (And.intro (show (0 : Int) ≤ 3 ∧ (3 : Int) < ((7 : Nat) : Int) by decide) (x123_m (by omega) (fun h hh => x123 hh (And.intro (fun q651 => And.intro ((((H.1 q639).2).2 q642).1 q651).1 (cI_r (And.intro (show (0 : Int) ≤ 4 ∧ (4 : Int) < ((7 : Nat) : Int) by decide) (cIN_go (((((H.1 q639).2).2 q642).1 q651).2) (fun r3 I3 J3 b3 q653 => And.intro (fun q654 => And.intro (show (0 : Int) = 0 ∨ (0 : Int) = 1 by decide) (q653.1 q654)) (fun q655 => And.intro (show (1 : Int) = 0 ∨ (1 : Int) = 1 by decide) (q653.2 q655))))))) (fun q652 => cI_r (And.intro (show (0 : Int) ≤ 4 ∧ (4 : Int) < ((7 : Nat) : Int) by decide) (cIN_go ((((H.1 q639).2).2 q642).2 q652) (fun r4 I4 J4 b4 q656 => And.intro (fun q657 => And.intro (show (0 : Int) = 0 ∨ (0 : Int) = 1 by decide) (q656.1 q657)) (fun q658 => And.intro (show (1 : Int) = 0 ∨ (1 : Int) = 1 by decide) (q656.2 q658))))))))))))))))) (fun q640 => cI_r (And.intro (show (0 : Int) ≤ 2 ∧ (2 : Int) < ((7 : Nat) : Int) by decide) (x122_m (by omega) (fun h hh => x122 hh (And.intro (fun q659 => And.intro ((H.2 q640).1 q659).1 (cI_r (And.intro (show (0 : Int) ≤ 3 ∧ (3 : Int) < ((7 : Nat) : Int) by decide) (x123_m (by omega) (fun h hh => x123 hh (And.intro (fun q661 => And.intro ((((H.2 q640).1 q659).2).1 q661).1 (cI_r (And.intro (show (0 : Int) ≤ 4 ∧ (4 : Int) < ((7 : Nat) : Int) by decide) (cIN_go (((((H.2 q640).1 q659).2).1 q661).2) (fun r5 I5 J5 b5 q663 => And.intro (fun q664 => And.intro (show (0 : Int) = 0 ∨ (0 : Int) = 1 by decide) (q663.1 q664)) (fun q665 => And.intro (show (1 : Int) = 0 ∨ (1 : Int) = 1 by decide) (q663.2 q665))))))) (fun q662 => cI_r (And.intro (show (0 : Int) ≤ 4 ∧ (4 : Int) < ((7 : Nat) : Int) by decide) (cIN_go ((((H.2 q640).1 q659).2).2 q662) (fun r6 I6 J6 b6 q666 => And.intro (fun q667 => And.intro (show (0 : Int) = 0 ∨ (0 : Int) = 1 by decide) (q666.1 q667)) (fun q668 => And.intro (show (1 : Int) = 0 ∨ (1 : Int) = 1 by decide) (q666.2 q668)))))))))))) (fun q660 => cI_r (And.intro (show (0 : Int) ≤ 3 ∧ (3 : Int) < ((7 : Nat) : Int) by decide) (x123_m (by omega) (fun h hh => x123 hh (And.intro (fun q669 => And.intro (((H.2 q640).2 q660).1 q669).1 (cI_r (And.intro (show (0 : Int) ≤ 4 ∧ (4 : Int) < ((7 : Nat) : Int) by decide) (cIN_go ((((H.2 q640).2 q660).1 q669).2) (fun r7 I7 J7 b7 q671 => And.intro (fun q672 => And.intro (show (0 : Int) = 0 ∨ (0 : Int) = 1 by decide) (q671.1 q672)) (fun q673 => And.intro (show (1 : Int) = 0 ∨ (1 : Int) = 1 by decide) (q671.2 q673))))))) (fun q670 => cI_r (And.intro (show (0 : Int) ≤ 4 ∧ (4 : Int) < ((7 : Nat) : Int) by decide) (cIN_go (((H.2 q640).2 q660).2 q670) (fun r8 I8 J8 b8 q674 => And.intro (fun q675 => And.intro (show (0 : Int) = 0 ∨ (0 : Int) = 1 by decide) (q674.1 q675)) (fun q676 => And.intro (show (1 : Int) = 0 ∨ (1 : Int) = 1 by decide) (q674.2 q676))))))))))))))))))))))
theorem x132_m {G : Ctx} {h : Nat} {Q : MP} {I : Nat → Nat → Int} {J : Nat → Nat → BitVec 64} {b : B3} {x y z : Int} (hh : 4 ≤ h) (H : ∀ h, 3 ≤ h → Tri G h 132 119 119 0 [some (vr 1), some (vi x), some (vi y), some (vi z)] [] (I, J, PP b) Q) : TriM G h 132 119 119 [vr 1, vi x, vi y, vi z] (I, J, PP b) Q := TriM_intro (h - 1) (by omega) (by decide) (Nat.le_of_ble_eq_true rfl) (Nat.le_refl _) (Nat.le_refl _) (H (h - 1) (by omega))
set_option maxRecDepth 100000 in
theorem x229 {G : Ctx} {h : Nat} {Q : MP} {I : Nat → Nat → Int} {J : Nat → Nat → BitVec 64} {b : B3} {x y z : Int} (hh : 1 ≤ h) (H : (0 ≤ x ∧ x < 60) ∧ ((0 ≤ x ∧ x < 60) ∧ ((0 ≤ (w32 ((w32 (220 + (w32 (3 * x)))) + 2)) ∧ (w32 ((w32 (220 + (w32 (3 * x)))) + 2)) < (5120 : Int)) ∧ (Tri G h 229 119 119 67 [some (vr 91), none, none, none, some (vi 0)] [] (u2 (u2 (u2 (u2 (u2 I 98 8 (iDiv z 60)) 98 9 y) 98 10 (I 92 ((220 + 3 * x).toNat))) 98 11 (I 92 ((220 + 3 * x + 1).toNat))) 98 12 (I 92 ((w32 ((w32 (220 + (w32 (3 * x)))) + 2)).toNat)), J, PP b) Q)))) : Tri G h 229 119 119 0 [some (vr 91), some (vi x), some (vi y), some (vi z)] [] (I, J, PP b) Q := wp_at ck229 [(67, [true, false, false, false, true])] 400 (And.intro (show (60 : Int) ≠ 0 by decide) (And.intro (show (0 : Int) ≤ 8 ∧ (8 : Int) < ((13 : Nat) : Int) by decide) (And.intro (show (0 : Int) ≤ 9 ∧ (9 : Int) < ((13 : Nat) : Int) by decide) (sx189 (by omega) H.1 (And.intro (show (0 : Int) ≤ 10 ∧ (10 : Int) < ((13 : Nat) : Int) by decide) (sx190 (by omega) H.2.1 (And.intro (show (0 : Int) ≤ 11 ∧ (11 : Int) < ((13 : Nat) : Int) by decide) (And.intro H.2.2.1 (And.intro (show (0 : Int) ≤ 12 ∧ (12 : Int) < ((13 : Nat) : Int) by decide) H.2.2.2)))))))))
set_option maxRecDepth 100000 in
theorem x229_67 {G : Ctx} {h : Nat} {Q : MP} {I : Nat → Nat → Int} {J : Nat → Nat → BitVec 64} {b : B3} {l4 : Int} (hh : 2 ≤ h) (H : (((I 92 2502) ≤ l4) → (Q (some (vi 1)) (I, J, PP b))) ∧ (¬ ((I 92 2502) ≤ l4) → (TriM G h 221 119 119 [vr 91, vi 2, vi l4] (I, J, PP b) (cIN fun r1 I1 J1 b1 => (((r1 = 0) → (Tri G h 229 119 119 67 [some (vr 91), none, none, none, some (vi (w32 (l4 + 1)))] [] (I1, J1, PP b1) Q)) ∧ (¬ (r1 = 0) → ((0 ≤ (w32 (2642 + l4)) ∧ (w32 (2642 + l4)) < (5120 : Int)) ∧ (((¬ (I1 92 ((w32 (2642 + l4)).toNat)) = 1) → (Q (some (vi 0)) (I1, J1, PP b1))) ∧ (¬ (¬ (I1 92 ((w32 (2642 + l4)).toNat)) = 1) → (Q (some (vi 1)) (I1, J1, PP b1))))))))))) : Tri G h 229 119 119 67 [some (vr 91), none, none, none, some (vi l4)] [] (I, J, PP b) Q := wp_at ck229 [(67, [true, false, false, false, true])] 400 (And.intro (show (0 : Int) ≤ 2502 ∧ (2502 : Int) < ((5120 : Nat) : Int) by decide) (And.intro (fun q677 => And.intro (show (1 : Int) = 0 ∨ (1 : Int) = 1 by decide) (H.1 q677)) (fun q678 => cIN_go (H.2 q678) (fun r1 I1 J1 b1 q679 => And.intro (fun q680 => q679.1 q680) (fun q681 => And.intro (q679.2 q681).1 (And.intro (fun q682 => And.intro (show (0 : Int) = 0 ∨ (0 : Int) = 1 by decide) (((q679.2 q681).2).1 q682)) (fun q683 => And.intro (show (1 : Int) = 0 ∨ (1 : Int) = 1 by decide) (((q679.2 q681).2).2 q683))))))))
theorem x229_m {G : Ctx} {h : Nat} {Q : MP} {I : Nat → Nat → Int} {J : Nat → Nat → BitVec 64} {b : B3} {x y z : Int} (hh : 3 ≤ h) (H : ∀ h, 2 ≤ h → Tri G h 229 119 119 0 [some (vr 91), some (vi x), some (vi y), some (vi z)] [] (I, J, PP b) Q) : TriM G h 229 119 119 [vr 91, vi x, vi y, vi z] (I, J, PP b) Q := TriM_intro (h - 1) (by omega) (by decide) (Nat.le_of_ble_eq_true rfl) (Nat.le_refl _) (Nat.le_refl _) (H (h - 1) (by omega))
set_option maxRecDepth 100000 in
theorem x153 {G : Ctx} {h : Nat} {Q : MP} {I : Nat → Nat → Int} {J : Nat → Nat → BitVec 64} {b : B3} {x y z : Int} (hh : 4 ≤ h) (H : ((0 ≤ x ∧ x < (I 2 0)) → (((0 ≤ y ∧ y < (100 : Int)) → (((0 ≤ z ∧ z < (1440 : Int)) → (TriM G h 132 119 119 [vr 1, vi x, vi y, vi z] (I, J, PP b) (cIN fun r1 I1 J1 b1 => (((r1 = 0) → (Q (some (vi 0)) (I1, J1, PP b1))) ∧ (¬ (r1 = 0) → (Q (some (vi 1)) (I1, J1, PP b1))))))) ∧ (¬ (0 ≤ z ∧ z < (1440 : Int)) → (Q (some (vi (-1))) (I, J, PP b))))) ∧ (¬ (0 ≤ y ∧ y < (100 : Int)) → (Q (some (vi (-1))) (I, J, PP b))))) ∧ (¬ (0 ≤ x ∧ x < (I 2 0)) → (Q (some (vi (-1))) (I, J, PP b)))) : Tri G h 153 119 119 0 [some (vr 0), some (vi x), some (vi y), some (vi z)] [] (I, J, PP b) Q := wp_at ck153 [] 400 (sx172 (by omega)  (fun q684 => And.intro (fun z => absurd z (show ¬ ((1 : Int) = (0 : Int)) by decide)) (fun _ => sx172 (by omega)  (fun q686 => And.intro (fun z => absurd z (show ¬ ((1 : Int) = (0 : Int)) by decide)) (fun _ => sx172 (by omega)  (fun q688 => And.intro (fun _ => cIN_go (((H.1 q684).1 q686).1 q688) (fun r1 I1 J1 b1 q690 => q690)) (fun z => absurd (show ¬ (1 : Int) = (0 : Int) by decide) z)) (fun q689 => And.intro (fun z => absurd z (show ¬ (¬ (0 : Int) = (0 : Int)) by decide)) (fun _ => ((H.1 q684).1 q686).2 q689)))) (fun q687 => And.intro (fun _ => (H.1 q684).2 q687) (fun z => absurd (show (0 : Int) = (0 : Int) by decide) z)))) (fun q685 => And.intro (fun _ => H.2 q685) (fun z => absurd (show (0 : Int) = (0 : Int) by decide) z)))
theorem x153_m {G : Ctx} {h : Nat} {Q : MP} {I : Nat → Nat → Int} {J : Nat → Nat → BitVec 64} {b : B3} {x y z : Int} (hh : 5 ≤ h) (H : ∀ h, 4 ≤ h → Tri G h 153 119 119 0 [some (vr 0), some (vi x), some (vi y), some (vi z)] [] (I, J, PP b) Q) : TriM G h 153 119 119 [vr 0, vi x, vi y, vi z] (I, J, PP b) Q := TriM_intro (h - 1) (by omega) (by decide) (Nat.le_of_ble_eq_true rfl) (Nat.le_refl _) (Nat.le_refl _) (H (h - 1) (by omega))
set_option maxRecDepth 100000 in
theorem x230 {G : Ctx} {h : Nat} {Q : MP} {I : Nat → Nat → Int} {J : Nat → Nat → BitVec 64} {b : B3} {x y z : Int} (hh : 3 ≤ h) (H : (0 ≤ (I 92 3) ∧ (I 92 3) < 1000) ∧ (((0 ≤ x ∧ x < (I 92 3)) → ((((0 : Int) ≤ y ∧ y ≤ (99 : Int)) → ((((0 : Int) ≤ z ∧ z ≤ (1439 : Int)) → (TriM G h 229 119 119 [vr 91, vi x, vi y, vi z] (I, J, PP b) (cIN fun r1 I1 J1 b1 => (((r1 = 0) → (Q (some (vi 0)) (I1, J1, PP b1))) ∧ (¬ (r1 = 0) → (Q (some (vi 1)) (I1, J1, PP b1))))))) ∧ (¬ ((0 : Int) ≤ z ∧ z ≤ (1439 : Int)) → (Q (some (vi (-1))) (I, J, PP b))))) ∧ (¬ ((0 : Int) ≤ y ∧ y ≤ (99 : Int)) → (Q (some (vi (-1))) (I, J, PP b))))) ∧ (¬ (0 ≤ x ∧ x < (I 92 3)) → (Q (some (vi (-1))) (I, J, PP b))))) : Tri G h 230 119 119 0 [some (vr 91), some (vi x), some (vi y), some (vi z)] [] (I, J, PP b) Q := wp_at ck230 [] 400 (sx185 (by omega) H.1 (fun q691 => And.intro (fun z => absurd z (show ¬ ((1 : Int) = (0 : Int)) by decide)) (fun _ => sx181 (by omega)  (fun q693 => And.intro (fun z => absurd z (show ¬ ((1 : Int) = (0 : Int)) by decide)) (fun _ => sx181 (by omega)  (fun q695 => And.intro (fun _ => cIN_go (((H.2.1 q691).1 q693).1 q695) (fun r1 I1 J1 b1 q697 => q697)) (fun z => absurd (show ¬ (1 : Int) = (0 : Int) by decide) z)) (fun q696 => And.intro (fun z => absurd z (show ¬ (¬ (0 : Int) = (0 : Int)) by decide)) (fun _ => ((H.2.1 q691).1 q693).2 q696)))) (fun q694 => And.intro (fun _ => (H.2.1 q691).2 q694) (fun z => absurd (show (0 : Int) = (0 : Int) by decide) z)))) (fun q692 => And.intro (fun _ => H.2.2 q692) (fun z => absurd (show (0 : Int) = (0 : Int) by decide) z)))
theorem x230_m {G : Ctx} {h : Nat} {Q : MP} {I : Nat → Nat → Int} {J : Nat → Nat → BitVec 64} {b : B3} {x y z : Int} (hh : 4 ≤ h) (H : ∀ h, 3 ≤ h → Tri G h 230 119 119 0 [some (vr 91), some (vi x), some (vi y), some (vi z)] [] (I, J, PP b) Q) : TriM G h 230 119 119 [vr 91, vi x, vi y, vi z] (I, J, PP b) Q := TriM_intro (h - 1) (by omega) (by decide) (Nat.le_of_ble_eq_true rfl) (Nat.le_refl _) (Nat.le_refl _) (H (h - 1) (by omega))
set_option maxRecDepth 100000 in
theorem x101 {G : Ctx} {h : Nat} {Q : MP} {I : Nat → Nat → Int} {J : Nat → Nat → BitVec 64} {b : B3} {x : Int} (hh : 3 ≤ h) (H : (0 ≤ x ∧ x < (24 : Int)) ∧ ((0 ≤ (w32 (x - 1)) ∧ (w32 (x - 1)) < (24 : Int)) ∧ ((0 ≤ (w32 (x - 1)) ∧ (w32 (x - 1)) < (24 : Int)) ∧ ((0 ≤ x ∧ x < (24 : Int)) ∧ ((rTown 0 92 I ∧ (0 ≤ (I 23 ((w32 (x - 1)).toNat)) ∧ (I 23 ((w32 (x - 1)).toNat)) < I 2 0) ∧ 0 ≤ (I 23 x.toNat) ∧ (I 23 x.toNat) < I 2 0) ∧ ((((w32 ((I 24 ((w32 (x - 1)).toNat)) + (minF I (I 23 ((w32 (x - 1)).toNat)) (I 23 x.toNat)))) ≤ (I 24 x.toNat)) → (Q (some (vi 0)) (I, J, PP b))) ∧ (¬ ((w32 ((I 24 ((w32 (x - 1)).toNat)) + (minF I (I 23 ((w32 (x - 1)).toNat)) (I 23 x.toNat)))) ≤ (I 24 x.toNat)) → (Q (some (vi 1)) (I, J, PP b))))))))) : Tri G h 101 119 119 0 [some (vr 22), some (vr 2), some (vi x)] [] (I, J, PP b) Q := wp_at ck101 [] 400 (And.intro H.1 (And.intro H.2.1 (And.intro H.2.2.1 (And.intro H.2.2.2.1 (sx126 (by omega) H.2.2.2.2.1 (And.intro (fun q698 => And.intro (show (0 : Int) = 0 ∨ (0 : Int) = 1 by decide) (H.2.2.2.2.2.1 q698)) (fun q699 => And.intro (show (1 : Int) = 0 ∨ (1 : Int) = 1 by decide) (H.2.2.2.2.2.2 q699))))))))
theorem x101_m {G : Ctx} {h : Nat} {Q : MP} {I : Nat → Nat → Int} {J : Nat → Nat → BitVec 64} {b : B3} {x : Int} (hh : 4 ≤ h) (H : ∀ h, 3 ≤ h → Tri G h 101 119 119 0 [some (vr 22), some (vr 2), some (vi x)] [] (I, J, PP b) Q) : TriM G h 101 119 119 [vr 22, vr 2, vi x] (I, J, PP b) Q := TriM_intro (h - 1) (by omega) (by decide) (Nat.le_of_ble_eq_true rfl) (Nat.le_refl _) (Nat.le_refl _) (H (h - 1) (by omega))
set_option maxRecDepth 100000 in
theorem x100 {G : Ctx} {h : Nat} {Q : MP} {I : Nat → Nat → Int} {J : Nat → Nat → BitVec 64} {b : B3} {x : Int} (hh : 0 ≤ h) (H : Tri G h 100 119 119 2 [some (vr 22), some (vr 1), some (vi x), some (vi 0)] [] (I, J, PP b) Q) : Tri G h 100 119 119 0 [some (vr 22), some (vr 1), some (vi x)] [] (I, J, PP b) Q := wp_at ck100 [(2, [true, true, true, true])] 400 H
set_option maxRecDepth 100000 in
theorem x100_2 {G : Ctx} {h : Nat} {Q : MP} {I : Nat → Nat → Int} {J : Nat → Nat → BitVec 64} {b : B3} {l2 l3 : Int} (hh : 4 ≤ h) (H : (((I 22 0) ≤ l3) → (Q (some (vi (-1))) (I, J, PP b))) ∧ (¬ ((I 22 0) ≤ l3) → ((0 ≤ l3 ∧ l3 < (24 : Int)) ∧ ((0 ≤ l3 ∧ l3 < (24 : Int)) ∧ (TriM G h 132 119 119 [vr 1, vi (I 23 l3.toNat), vi l2, vi (I 24 l3.toNat)] (I, J, PP b) (cIN fun r1 I1 J1 b1 => (((r1 = 0) → (Q (some (vi l3)) (I1, J1, PP b1))) ∧ (¬ (r1 = 0) → (((l3 ≤ 0) → (Tri G h 100 119 119 2 [some (vr 22), some (vr 1), some (vi l2), some (vi (w32 (l3 + 1)))] [] (I1, J1, PP b1) Q)) ∧ (¬ (l3 ≤ 0) → (TriM G h 101 119 119 [vr 22, vr 2, vi l3] (I1, J1, PP b1) (cIN fun r2 I2 J2 b2 => (((r2 = 0) → (Tri G h 100 119 119 2 [some (vr 22), some (vr 1), some (vi l2), some (vi (w32 (l3 + 1)))] [] (I2, J2, PP b2) Q)) ∧ (¬ (r2 = 0) → (Q (some (vi l3)) (I2, J2, PP b2)))))))))))))))) : Tri G h 100 119 119 2 [some (vr 22), some (vr 1), some (vi l2), some (vi l3)] [] (I, J, PP b) Q := wp_at ck100 [(2, [true, true, true, true])] 400 (And.intro (fun q700 => H.1 q700) (fun q701 => And.intro (H.2 q701).1 (And.intro ((H.2 q701).2).1 (cIN_go (((H.2 q701).2).2) (fun r1 I1 J1 b1 q702 => And.intro (fun q703 => q702.1 q703) (fun q704 => And.intro (fun q705 => (q702.2 q704).1 q705) (fun q706 => cIN_go ((q702.2 q704).2 q706) (fun r2 I2 J2 b2 q707 => q707))))))))
theorem x100_m {G : Ctx} {h : Nat} {Q : MP} {I : Nat → Nat → Int} {J : Nat → Nat → BitVec 64} {b : B3} {x : Int} (hh : 5 ≤ h) (H : ∀ h, 4 ≤ h → Tri G h 100 119 119 0 [some (vr 22), some (vr 1), some (vi x)] [] (I, J, PP b) Q) : TriM G h 100 119 119 [vr 22, vr 1, vi x] (I, J, PP b) Q := TriM_intro (h - 1) (by omega) (by decide) (Nat.le_of_ble_eq_true rfl) (Nat.le_refl _) (Nat.le_refl _) (H (h - 1) (by omega))
set_option maxRecDepth 100000 in
theorem x102 {G : Ctx} {h : Nat} {Q : MP} {I : Nat → Nat → Int} {J : Nat → Nat → BitVec 64} {b : B3} {x : Int} (hh : 5 ≤ h) (H : TriM G h 100 119 119 [vr 22, vr 1, vi x] (I, J, PP b) (cIN fun r1 I1 J1 b1 => (((¬ r1 = (-1)) → (Tri G h 102 119 119 28 [some (vr 22), none, none, none, some (vi r1), some (vl (0#64)), none, some (vi 0)] [] (I1, J1, PP b1) Q)) ∧ (¬ (¬ r1 = (-1)) → (Tri G h 102 119 119 28 [some (vr 22), none, none, none, some (vi (I1 22 0)), some (vl (0#64)), none, some (vi 0)] [] (I1, J1, PP b1) Q))))) : Tri G h 102 119 119 0 [some (vr 22), some (vr 1), some (vi x)] [] (I, J, PP b) Q := wp_at ck102 [(28, [true, false, false, false, true, true, false, true])] 400 (cIN_go H (fun r1 I1 J1 b1 q708 => q708))
set_option maxRecDepth 100000 in
theorem x102_28 {G : Ctx} {h : Nat} {Q : MP} {I : Nat → Nat → Int} {J : Nat → Nat → BitVec 64} {b : B3} {l4 l7 : Int} {l5 : BitVec 64} (hh : 1 ≤ h) (H : ((l4 ≤ l7) → (TriM G h 17 119 119 [vl l5] (I, J, PP b) (cIN fun r1 I1 J1 b1 => (Q (some (vi r1)) (I1, J1, PP b1))))) ∧ (¬ (l4 ≤ l7) → ((0 ≤ l7 ∧ l7 < (24 : Int)) ∧ (Tri G h 102 119 119 28 [some (vr 22), none, none, none, some (vi l4), some (vl (l5 ||| (lShl (1#64) (I 23 l7.toNat)))), none, some (vi (w32 (l7 + 1)))] [] (I, J, PP b) Q)))) : Tri G h 102 119 119 28 [some (vr 22), none, none, none, some (vi l4), some (vl l5), none, some (vi l7)] [] (I, J, PP b) Q := wp_at ck102 [(28, [true, false, false, false, true, true, false, true])] 400 (And.intro (fun q709 => cIN_go (H.1 q709) (fun r1 I1 J1 b1 q711 => q711)) (fun q710 => H.2 q710))
theorem x102_m {G : Ctx} {h : Nat} {Q : MP} {I : Nat → Nat → Int} {J : Nat → Nat → BitVec 64} {b : B3} {x : Int} (hh : 6 ≤ h) (H : ∀ h, 5 ≤ h → Tri G h 102 119 119 0 [some (vr 22), some (vr 1), some (vi x)] [] (I, J, PP b) Q) : TriM G h 102 119 119 [vr 22, vr 1, vi x] (I, J, PP b) Q := TriM_intro (h - 1) (by omega) (by decide) (Nat.le_of_ble_eq_true rfl) (Nat.le_refl _) (Nat.le_refl _) (H (h - 1) (by omega))
set_option maxRecDepth 100000 in
theorem x162 {G : Ctx} {h : Nat} {Q : MP} {I : Nat → Nat → Int} {J : Nat → Nat → BitVec 64} {b : B3} {x y : Int} (hh : 6 ≤ h) (H : ((0 ≤ x ∧ x < (100 : Int)) → (((y = 0 → (TriM G h 100 119 119 [vr 22, vr 1, vi x] (I, J, PP b) (cIN fun r1 I1 J1 b1 => (Q (some (vi r1)) (I1, J1, PP b1))))) ∧ (y = 1 → (TriM G h 102 119 119 [vr 22, vr 1, vi x] (I, J, PP b) (cIN fun r2 I2 J2 b2 => (Q (some (vi r2)) (I2, J2, PP b2))))) ∧ True) ∧ (¬ y = 0 → ¬ y = 1 → (Q (some (vi (-1))) (I, J, PP b))))) ∧ (¬ (0 ≤ x ∧ x < (100 : Int)) → (Q (some (vi (-1))) (I, J, PP b)))) : Tri G h 162 119 119 0 [some (vr 0), some (vi x), some (vi y)] [] (I, J, PP b) Q := wp_at ck162 [] 400 (sx172 (by omega)  (fun q712 => And.intro (fun _ => And.intro (And.intro (fun q714 => cIN_go (((H.1 q712).1).1 q714) (fun r1 I1 J1 b1 q715 => q715)) (And.intro (fun q716 => cIN_go ((((H.1 q712).1).2).1 q716) (fun r2 I2 J2 b2 q717 => q717)) trivial)) (fun q718 q719 => (H.1 q712).2 q718 q719)) (fun z => absurd (show ¬ (1 : Int) = (0 : Int) by decide) z)) (fun q713 => And.intro (fun z => absurd z (show ¬ (¬ (0 : Int) = (0 : Int)) by decide)) (fun _ => H.2 q713)))
theorem x162_m {G : Ctx} {h : Nat} {Q : MP} {I : Nat → Nat → Int} {J : Nat → Nat → BitVec 64} {b : B3} {x y : Int} (hh : 7 ≤ h) (H : ∀ h, 6 ≤ h → Tri G h 162 119 119 0 [some (vr 0), some (vi x), some (vi y)] [] (I, J, PP b) Q) : TriM G h 162 119 119 [vr 0, vi x, vi y] (I, J, PP b) Q := TriM_intro (h - 1) (by omega) (by decide) (Nat.le_of_ble_eq_true rfl) (Nat.le_refl _) (Nat.le_refl _) (H (h - 1) (by omega))
set_option maxRecDepth 100000 in
theorem x254 {G : Ctx} {h : Nat} {Q : MP} {I : Nat → Nat → Int} {J : Nat → Nat → BitVec 64} {b : B3} {x y : Int} (hh : 3 ≤ h) (H : (0 ≤ (w32 (400 + (w32 (2 * x)))) ∧ (w32 (400 + (w32 (2 * x)))) < (5120 : Int)) ∧ ((0 ≤ (w32 ((w32 (400 + (w32 (2 * x)))) + 1)) ∧ (w32 ((w32 (400 + (w32 (2 * x)))) + 1)) < (5120 : Int)) ∧ (TriM G h 229 119 119 [vr 91, vi (I 92 ((w32 (400 + (w32 (2 * x)))).toNat)), vi y, vi (I 92 ((w32 ((w32 (400 + (w32 (2 * x)))) + 1)).toNat))] (I, J, PP b) (cIN fun r1 I1 J1 b1 => (((r1 = 0) → (Q (some (vi 0)) (I1, J1, PP b1))) ∧ (¬ (r1 = 0) → (((x = 0) → (Q (some (vi 1)) (I1, J1, PP b1))) ∧ (¬ (x = 0) → ((0 ≤ (w32 ((w32 (400 + (w32 (2 * x)))) - 1)) ∧ (w32 ((w32 (400 + (w32 (2 * x)))) - 1)) < (5120 : Int)) ∧ ((0 ≤ (w32 ((w32 (400 + (w32 (2 * x)))) - 2)) ∧ (w32 ((w32 (400 + (w32 (2 * x)))) - 2)) < (5120 : Int)) ∧ ((rTown 0 92 I1 ∧ (0 ≤ (I1 92 ((w32 ((w32 (400 + (w32 (2 * x)))) - 2)).toNat)) ∧ (I1 92 ((w32 ((w32 (400 + (w32 (2 * x)))) - 2)).toNat)) < I1 2 0) ∧ 0 ≤ (I 92 ((w32 (400 + (w32 (2 * x)))).toNat)) ∧ (I 92 ((w32 (400 + (w32 (2 * x)))).toNat)) < I1 2 0) ∧ ((((I 92 ((w32 ((w32 (400 + (w32 (2 * x)))) + 1)).toNat)) < (w32 ((I1 92 ((w32 ((w32 (400 + (w32 (2 * x)))) - 1)).toNat)) + (minF I1 (I1 92 ((w32 ((w32 (400 + (w32 (2 * x)))) - 2)).toNat)) (I 92 ((w32 (400 + (w32 (2 * x)))).toNat)))))) → (Q (some (vi 0)) (I1, J1, PP b1))) ∧ (¬ ((I 92 ((w32 ((w32 (400 + (w32 (2 * x)))) + 1)).toNat)) < (w32 ((I1 92 ((w32 ((w32 (400 + (w32 (2 * x)))) - 1)).toNat)) + (minF I1 (I1 92 ((w32 ((w32 (400 + (w32 (2 * x)))) - 2)).toNat)) (I 92 ((w32 (400 + (w32 (2 * x)))).toNat)))))) → (Q (some (vi 1)) (I1, J1, PP b1))))))))))))))) : Tri G h 254 119 119 0 [some (vr 91), some (vi x), some (vi y)] [] (I, J, PP b) Q := wp_at ck254 [] 400 (And.intro H.1 (And.intro H.2.1 (cIN_go H.2.2 (fun r1 I1 J1 b1 q720 => And.intro (fun q721 => And.intro (show (0 : Int) = 0 ∨ (0 : Int) = 1 by decide) (q720.1 q721)) (fun q722 => And.intro (fun q723 => And.intro (show (1 : Int) = 0 ∨ (1 : Int) = 1 by decide) ((q720.2 q722).1 q723)) (fun q724 => And.intro ((q720.2 q722).2 q724).1 (And.intro (((q720.2 q722).2 q724).2).1 (sx195 (by omega) ((((q720.2 q722).2 q724).2).2).1 (And.intro (fun q725 => And.intro (show (0 : Int) = 0 ∨ (0 : Int) = 1 by decide) ((((((q720.2 q722).2 q724).2).2).2).1 q725)) (fun q726 => And.intro (show (1 : Int) = 0 ∨ (1 : Int) = 1 by decide) ((((((q720.2 q722).2 q724).2).2).2).2 q726)))))))))))
theorem x254_m {G : Ctx} {h : Nat} {Q : MP} {I : Nat → Nat → Int} {J : Nat → Nat → BitVec 64} {b : B3} {x y : Int} (hh : 4 ≤ h) (H : ∀ h, 3 ≤ h → Tri G h 254 119 119 0 [some (vr 91), some (vi x), some (vi y)] [] (I, J, PP b) Q) : TriM G h 254 119 119 [vr 91, vi x, vi y] (I, J, PP b) Q := TriM_intro (h - 1) (by omega) (by decide) (Nat.le_of_ble_eq_true rfl) (Nat.le_refl _) (Nat.le_refl _) (H (h - 1) (by omega))
set_option maxRecDepth 100000 in
theorem x255 {G : Ctx} {h : Nat} {Q : MP} {I : Nat → Nat → Int} {J : Nat → Nat → BitVec 64} {b : B3} {x y : Int} (hh : 1 ≤ h) (H : (((0 : Int) ≤ x ∧ x ≤ (99 : Int)) → ((((0 : Int) ≤ y ∧ y ≤ (1 : Int)) → (Tri G h 255 119 119 23 [some (vr 91), some (vi x), some (vi y), some (vi 0)] [] (I, J, PP b) Q)) ∧ (¬ ((0 : Int) ≤ y ∧ y ≤ (1 : Int)) → (Q (some (vi (-1))) (I, J, PP b))))) ∧ (¬ ((0 : Int) ≤ x ∧ x ≤ (99 : Int)) → (Q (some (vi (-1))) (I, J, PP b)))) : Tri G h 255 119 119 0 [some (vr 91), some (vi x), some (vi y)] [] (I, J, PP b) Q := wp_at ck255 [(23, [true, true, true, true]), (76, [true, false, false, true, true, true]), (88, [true, false, false, true, true, true, true, true])] 400 (sx181 (by omega)  (fun q727 => And.intro (fun z => absurd z (show ¬ ((1 : Int) = (0 : Int)) by decide)) (fun _ => sx181 (by omega)  (fun q729 => And.intro (fun _ => (H.1 q727).1 q729) (fun z => absurd (show ¬ (1 : Int) = (0 : Int) by decide) z)) (fun q730 => And.intro (fun z => absurd z (show ¬ (¬ (0 : Int) = (0 : Int)) by decide)) (fun _ => (H.1 q727).2 q730)))) (fun q728 => And.intro (fun _ => H.2 q728) (fun z => absurd (show (0 : Int) = (0 : Int) by decide) z)))
set_option maxRecDepth 100000 in
theorem x255_23 {G : Ctx} {h : Nat} {Q : MP} {I : Nat → Nat → Int} {J : Nat → Nat → BitVec 64} {b : B3} {l1 l2 l3 : Int} (hh : 4 ≤ h) (H : (((I 92 7) ≤ l3) → (((¬ l2 = 0) → (Tri G h 255 119 119 76 [some (vr 91), none, none, some (vi l3), some (vi 0), some (vi 0)] [] (I, J, PP b) Q)) ∧ (¬ (¬ l2 = 0) → (((¬ l3 = (I 92 7)) → (Q (some (vi l3)) (I, J, PP b))) ∧ (¬ (¬ l3 = (I 92 7)) → (Q (some (vi (-1))) (I, J, PP b))))))) ∧ (¬ ((I 92 7) ≤ l3) → (TriM G h 254 119 119 [vr 91, vi l3, vi l1] (I, J, PP b) (cIN fun r1 I1 J1 b1 => (((r1 = 0) → (((¬ l2 = 0) → (Tri G h 255 119 119 76 [some (vr 91), none, none, some (vi l3), some (vi 0), some (vi 0)] [] (I1, J1, PP b1) Q)) ∧ (¬ (¬ l2 = 0) → (((¬ l3 = (I1 92 7)) → (Q (some (vi l3)) (I1, J1, PP b1))) ∧ (¬ (¬ l3 = (I1 92 7)) → (Q (some (vi (-1))) (I1, J1, PP b1))))))) ∧ (¬ (r1 = 0) → (Tri G h 255 119 119 23 [some (vr 91), some (vi l1), some (vi l2), some (vi (w32 (l3 + 1)))] [] (I1, J1, PP b1) Q))))))) : Tri G h 255 119 119 23 [some (vr 91), some (vi l1), some (vi l2), some (vi l3)] [] (I, J, PP b) Q := wp_at ck255 [(23, [true, true, true, true]), (76, [true, false, false, true, true, true]), (88, [true, false, false, true, true, true, true, true])] 400 (And.intro (show (0 : Int) ≤ 7 ∧ (7 : Int) < ((5120 : Nat) : Int) by decide) (And.intro (fun q731 => And.intro (fun q733 => (H.1 q731).1 q733) (fun q734 => And.intro (show (0 : Int) ≤ 7 ∧ (7 : Int) < ((5120 : Nat) : Int) by decide) ((H.1 q731).2 q734))) (fun q732 => cIN_go (H.2 q732) (fun r1 I1 J1 b1 q735 => And.intro (fun q736 => And.intro (fun q738 => (q735.1 q736).1 q738) (fun q739 => And.intro (show (0 : Int) ≤ 7 ∧ (7 : Int) < ((5120 : Nat) : Int) by decide) ((q735.1 q736).2 q739))) (fun q737 => q735.2 q737)))))
set_option maxRecDepth 100000 in
theorem x255_76 {G : Ctx} {h : Nat} {Q : MP} {I : Nat → Nat → Int} {J : Nat → Nat → BitVec 64} {b : B3} {l3 l4 l5 : Int} (hh : 0 ≤ h) (H : ((l3 ≤ l5) → (Q (some (vi l4)) (I, J, PP b))) ∧ (¬ (l3 ≤ l5) → (Tri G h 255 119 119 88 [some (vr 91), none, none, some (vi l3), some (vi l4), some (vi l5), some (vi 0), some (vi 0)] [] (I, J, PP b) Q))) : Tri G h 255 119 119 76 [some (vr 91), none, none, some (vi l3), some (vi l4), some (vi l5)] [] (I, J, PP b) Q := wp_at ck255 [(23, [true, true, true, true]), (76, [true, false, false, true, true, true]), (88, [true, false, false, true, true, true, true, true])] 400 H
set_option maxRecDepth 100000 in
theorem x255_88 {G : Ctx} {h : Nat} {Q : MP} {I : Nat → Nat → Int} {J : Nat → Nat → BitVec 64} {b : B3} {l3 l4 l5 l6 l7 : Int} (hh : 0 ≤ h) (H : ((l5 ≤ l7) → (((l6 = 0) → (Tri G h 255 119 119 76 [some (vr 91), none, none, some (vi l3), some (vi (w32 (l4 + 1))), some (vi (w32 (l5 + 1)))] [] (I, J, PP b) Q)) ∧ (¬ (l6 = 0) → (Tri G h 255 119 119 76 [some (vr 91), none, none, some (vi l3), some (vi (w32 (l4 + 0))), some (vi (w32 (l5 + 1)))] [] (I, J, PP b) Q)))) ∧ (¬ (l5 ≤ l7) → (((¬ l6 = 0) → (Tri G h 255 119 119 88 [some (vr 91), none, none, some (vi l3), some (vi l4), some (vi l5), some (vi 1), some (vi (w32 (l7 + 1)))] [] (I, J, PP b) Q)) ∧ (¬ (¬ l6 = 0) → ((0 ≤ (w32 (400 + (w32 (2 * l7)))) ∧ (w32 (400 + (w32 (2 * l7)))) < (5120 : Int)) ∧ ((0 ≤ (w32 (400 + (w32 (2 * l5)))) ∧ (w32 (400 + (w32 (2 * l5)))) < (5120 : Int)) ∧ (((¬ (I 92 ((w32 (400 + (w32 (2 * l7)))).toNat)) = (I 92 ((w32 (400 + (w32 (2 * l5)))).toNat))) → (Tri G h 255 119 119 88 [some (vr 91), none, none, some (vi l3), some (vi l4), some (vi l5), some (vi 0), some (vi (w32 (l7 + 1)))] [] (I, J, PP b) Q)) ∧ (¬ (¬ (I 92 ((w32 (400 + (w32 (2 * l7)))).toNat)) = (I 92 ((w32 (400 + (w32 (2 * l5)))).toNat))) → (Tri G h 255 119 119 88 [some (vr 91), none, none, some (vi l3), some (vi l4), some (vi l5), some (vi 1), some (vi (w32 (l7 + 1)))] [] (I, J, PP b) Q))))))))) : Tri G h 255 119 119 88 [some (vr 91), none, none, some (vi l3), some (vi l4), some (vi l5), some (vi l6), some (vi l7)] [] (I, J, PP b) Q := wp_at ck255 [(23, [true, true, true, true]), (76, [true, false, false, true, true, true]), (88, [true, false, false, true, true, true, true, true])] 400 H
theorem x255_m {G : Ctx} {h : Nat} {Q : MP} {I : Nat → Nat → Int} {J : Nat → Nat → BitVec 64} {b : B3} {x y : Int} (hh : 5 ≤ h) (H : ∀ h, 4 ≤ h → Tri G h 255 119 119 0 [some (vr 91), some (vi x), some (vi y)] [] (I, J, PP b) Q) : TriM G h 255 119 119 [vr 91, vi x, vi y] (I, J, PP b) Q := TriM_intro (h - 1) (by omega) (by decide) (Nat.le_of_ble_eq_true rfl) (Nat.le_refl _) (Nat.le_refl _) (H (h - 1) (by omega))
section HOME
variable {G : Ctx} {h n : Nat} {I : MI} {J : MJ} {b : B3} {x y z u v e : Int} {a : BitVec 64}
/-- the reference: one line's steps -/
theorem evM {Q : MP} {kk l : Nat} {vals : Int → Int} {home : Bool} {N : Nat} (hh : 1 ≤ h) (hk : kk < 3) (hl : l < 16) (hN : I 92 (2560 + 16 * kk + l) = N ∧ N ≤ 400) (hv : ∀ c : Int, (home = false ∧ 1 ≤ c ∧ c < 8) ∨ (home = true ∧ 8 ≤ c ∧ c < 13) → vals c = I 98 c.toNat) : ∀ (ls : List Stp1) (ty ty2 : List Bool) (s : List Int) (j : Nat) (I' : MI), (∀ q ∈ ls, okStp home q) → tyR ls ty = some ty2 → okTy ty s → ty.length < 31 → hasSt (I 92) (2660 + 820 * kk + 2 * j) ls → j + ls.length = N → frK [97] I I' → stk (I' 97) s → (∀ I2, frK [97] I I2 → stk (I2 97) (runS vals ls s) → okTy ty2 (runS vals ls s) → Tri G h 221 119 119 19 [some (vr 91), some (vi kk), some (vi l), some (vi (runS vals ls s).length), some (vi N)] [] (I2, J, PP b) Q) → Tri G h 221 119 119 19 [some (vr 91), some (vi kk), some (vi l), some (vi s.length), some (vi j)] [] (I', J, PP b) Q
  | [], ty, ty2, s, j, I', ho, ht, hty, hl1, hw, hj, hf, hs, k => by
    have : ty = ty2 := by simpa [tyR] using ht
    subst this
    have hj2 : j = N := hj
    subst hj2
    exact k I' hf hs hty
  | q :: ls, ty, ty2, s, j, I', ho, ht, hty, hl1, hw, hj, hf, hs, k => by
    have hj2 : j + (ls.length + 1) = N := hj
    simp only [tyR] at ht
    cases h1 : tyS q ty with
    | none => rw [h1] at ht; exact absurd ht (by simp)
    | some ty1 =>
      rw [h1] at ht
      simp only [] at ht
      by_cases hlen : ty1.length < 31
      · rw [if_pos hlen] at ht
        have hq := ho q List.mem_cons_self
        obtain ⟨ho2, hcase⟩ := tyS_ok (vals := vals) hq h1 hty
        have hsl := okTy_len hty
        have hw0 := hw 0 q rfl
        simp only [Nat.mul_zero, Nat.add_zero] at hw0
        have go : ∀ I2, frK [97] I I2 → stk (I2 97) (stpS vals q s) → Tri G h 221 119 119 19 [some (vr 91), some (vi kk), some (vi l), some (vi (stpS vals q s).length), some (vi ((j : Int) + 1))] [] (I2, J, PP b) Q := by
          intro I2 hf2 hs2
          refine evM hh hk hl hN hv ls ty1 ty2 (stpS vals q s) (j + 1) I2 (fun q2 hq2 => ho q2 (List.mem_cons_of_mem _ hq2)) ht ho2 hlen (fun i st hi => ?_) (by omega) hf2 hs2 k
          have := hw (i + 1) st hi
          rw [show 2660 + 820 * kk + 2 * (j + 1) + 2 * i = 2660 + 820 * kk + 2 * j + 2 * (i + 1) by omega]
          exact this
        refine x221_19 hh ?_
        rw [hf 92 (by decide), hf 98 (by decide), w32_id (x := 16 * (kk : Int)) (by omega) (by omega), w32_id (x := 2560 + 16 * (kk : Int)) (by omega) (by omega), w32_id (x := 2560 + 16 * (kk : Int) + l) (by omega) (by omega), show (2560 + 16 * (kk : Int) + (l : Int)).toNat = 2560 + 16 * kk + l by omega, hN.1, w32_id (x := 820 * (kk : Int)) (by omega) (by omega), w32_id (x := 2660 + 820 * (kk : Int)) (by omega) (by omega), w32_id (x := 2 * (j : Int)) (by omega) (by omega), w32_id (x := 2660 + 820 * (kk : Int) + 2 * j) (by omega) (by omega), w32_id (x := 2660 + 820 * (kk : Int) + 2 * j + 1) (by omega) (by omega), show (2660 + 820 * (kk : Int) + 2 * (j : Int)).toNat = 2660 + 820 * kk + 2 * j by omega, show (2660 + 820 * (kk : Int) + 2 * (j : Int) + 1).toNat = 2660 + 820 * kk + 2 * j + 1 by omega, hw0.1, w32_id (x := (j : Int) + 1) (by omega) (by omega)]
        refine ⟨by omega, fun q9 => by omega, fun q9 => ⟨by omega, by omega, ?_⟩⟩
        rcases hcase with ⟨c1, c0, e⟩ | ⟨c1, x, r, rfl, e⟩ | ⟨c1, x, r, rfl, e⟩ | ⟨c1, x, y, r, rfl, e⟩
        · have hsl31 : s.length < 31 := by omega
          rw [e] at go
          rw [toN, w32_id (x := (s.length : Int) + 1) (by omega) (by omega)]
          refine ⟨fun q2 => by omega, fun q2 => ⟨fun q3 => ⟨by omega, by omega, ?_⟩, fun q3 => ⟨by omega, ?_⟩⟩⟩
          · rw [if_neg q3] at go
            have hv2 := hv q.1 (by
              rcases hq with hq | hq | hq | hq | hq
              · exact absurd hq.1 q3
              · exact Or.inl hq
              · exact Or.inr hq
              · omega
              · omega)
            rw [hv2] at go
            exact go _ (hf.u (by decide)) (stk_push hs)
          · have hz : q.1 = 0 := by omega
            rw [if_pos hz] at go
            rw [hw0.2 (Or.inl hz)]
            exact go _ (hf.u (by decide)) (stk_push hs)
        · rw [e] at go
          have hl2 : r.length + 1 < 31 := by simp at hsl; omega
          have hx : I' 97 r.length = x := hs.1
          have hb : 1 ≤ q.2 := by unfold okStp at hq; omega
          rw [hw0.2 (Or.inr c1)]
          refine ⟨fun q2 => ⟨fun q3 => by omega, fun q3 => ?_⟩, fun q2 => by omega⟩
          have el : ((x :: r).length : Int) - 1 = r.length := by simp
          rw [el, w32_id (x := (r.length : Int)) (by omega) (by omega), toN, hx]
          exact ⟨by omega, by omega, by omega, go _ (hf.u (by decide)) (stk_push hs.2)⟩
        · rw [e] at go
          have hl2 : r.length + 1 < 31 := by simp at hsl; omega
          have hx : I' 97 r.length = x := hs.1
          refine ⟨fun q2 => ⟨fun q3 => ⟨fun q4 => by omega, fun q4 => ?_⟩, fun q3 => by omega⟩, fun q2 => by omega⟩
          have el : ((x :: r).length : Int) - 1 = r.length := by simp
          rw [el, w32_id (x := (r.length : Int)) (by omega) (by omega), toN, hx]
          exact ⟨by omega, by omega, go _ (hf.u (by decide)) (stk_push hs.2)⟩
        · rw [e] at go
          have hl2 : r.length + 2 < 31 := by simp at hsl; omega
          have hx : I' 97 (r.length + 1) = x := hs.1
          have hy : I' 97 r.length = y := hs.2.1
          have hc1 := c1
          unfold binK at hc1
          refine ⟨fun q2 => ⟨fun q3 => ⟨fun q4 => ?_, fun q4 => by omega⟩, fun q3 => by omega⟩, fun q2 => by omega⟩
          have el : w32 (((x :: y :: r).length : Int) + (-1)) = ((r.length + 1 : Nat) : Int) := by
            rw [w32_id (by simp; omega) (by simp; omega)]
            simp
            omega
          rw [el, w32_id (x := ((r.length + 1 : Nat) : Int) - 1) (by omega) (by omega), show (((r.length + 1 : Nat) : Int) - 1).toNat = r.length by omega, toN, hx, hy]
          exact ⟨by omega, by omega, s220 (by omega) c1 ⟨by omega, go _ (hf.u (by decide)) (stk_push hs.2.2)⟩⟩
      · rw [if_neg hlen] at ht; exact absurd ht (by simp)
theorem steps_at {p : List Lin} {l : Nat} {q : Lin} (hq : p[l]? = some q) : stepsOf p = stepsOf (p.take l) ++ (q.2 ++ stepsOf (p.drop (l + 1))) ∧ stepsOf (p.take (l + 1)) = stepsOf (p.take l) ++ q.2 := by
  obtain ⟨hl, e⟩ := List.getElem?_eq_some_iff.1 hq
  have e1 : p = p.take l ++ (q :: p.drop (l + 1)) := by
    rw [← e, List.getElem_cons_drop, List.take_append_drop]
  have e2 : p.take (l + 1) = p.take l ++ [q] := by
    rw [List.take_add_one, hq]
    rfl
  constructor
  · have : stepsOf p = stepsOf (p.take l ++ (q :: p.drop (l + 1))) := congrArg stepsOf e1
    rw [this]
    unfold stepsOf
    rw [List.flatMap_append, List.flatMap_cons]
  · rw [e2]
    unfold stepsOf
    rw [List.flatMap_append, List.flatMap_cons, List.flatMap_nil, List.append_nil]
theorem s221 {K : Int → MI → MJ → B3 → Prop} {t kk l : Nat} {vals : Int → Int} {home : Bool} {p : List Lin} {q : Lin} (hh : 2 ≤ h) (hk : kk < 3) (ht : rTxt t 92 kk I home p) (hq : p[l]? = some q) (hv : ∀ c : Int, (home = false ∧ 1 ≤ c ∧ c < 8) ∨ (home = true ∧ 8 ≤ c ∧ c < 13) → vals c = I 98 c.toNat) (k1 : ∀ I2, frK [97] I I2 → soL vals q = true → K 1 I2 J b) (k0 : ∀ I2, frK [97] I I2 → soL vals q = false → K 0 I2 J b) : TriM G h 221 119 119 [vr 91, vi kk, vi l] (I, J, PP b) (cIN K) := by
  obtain ⟨a1, a2, a3, a4, a5, a6, a7, a8⟩ := ht
  have hl : l < 16 := by have := (List.getElem?_eq_some_iff.1 hq).1; omega
  obtain ⟨-, b2, b3⟩ := a5 l q hq
  obtain ⟨s1, s2⟩ := steps_at hq
  obtain ⟨o1, o2, o3⟩ := a8 q (List.mem_of_getElem? hq)
  have hle : (stepsOf (p.take l)).length + q.2.length ≤ 400 := by
    rw [s1, List.length_append, List.length_append] at a7
    omega
  rw [s2, List.length_append] at b3
  refine x221_m hh (fun h hh => x221 (Nat.zero_le _) ?_)
  rw [w32_id (x := 16 * (kk : Int)) (by omega) (by omega), w32_id (x := 2510 + 16 * (kk : Int)) (by omega) (by omega), w32_id (x := 2510 + 16 * (kk : Int) + l) (by omega) (by omega), show (2510 + 16 * (kk : Int) + (l : Int)).toNat = 2510 + 16 * kk + l by omega, b2]
  refine ⟨by omega, evM (s := []) hh hk hl ⟨b3, hle⟩ hv q.2 [] [true] (stepsOf (p.take l)).length I o1 o2 trivial (by decide) (fun i st hi => ?_) rfl frK.r trivial (fun I2 hf2 hs2 ho2 => ?_)⟩
  · have := a6 ((stepsOf (p.take l)).length + i) st (by
      rw [s1, List.getElem?_append_right (by omega), show (stepsOf (p.take l)).length + i - (stepsOf (p.take l)).length = i by omega, List.getElem?_append_left (List.getElem?_eq_some_iff.1 hi).1]
      exact hi)
    rw [show 2660 + 820 * kk + 2 * (stepsOf (p.take l)).length + 2 * i = 2660 + 820 * kk + 2 * ((stepsOf (p.take l)).length + i) by omega]
    exact this
  · obtain ⟨x, r, hr, hx01, hr2⟩ := okTy1 ho2
    have hx01 := hx01 rfl
    have hrn : r = [] := by
      cases r with
      | nil => rfl
      | cons a b => exact hr2.elim
    subst hrn
    rw [hr] at hs2
    have h97 : I2 97 0 = x := hs2.1
    have es : soL vals q = decide (x = 1) := by
      unfold soL
      rw [hr]
      exact decide_eq_decide.2 ⟨fun q => by simpa using q, fun q => by rw [q]⟩
    refine x221_19 hh ?_
    rw [hf2 92 (by decide), h97, w32_id (x := 16 * (kk : Int)) (by omega) (by omega), w32_id (x := 2560 + 16 * (kk : Int)) (by omega) (by omega), w32_id (x := 2560 + 16 * (kk : Int) + l) (by omega) (by omega), show (2560 + 16 * (kk : Int) + (l : Int)).toNat = 2560 + 16 * kk + l by omega, b3]
    exact ⟨by omega, fun q9 => ⟨fun q2 => cIN_r fun _ => k0 I2 hf2 (by rw [es]; exact decide_eq_false q2), fun q2 => cIN_r fun _ => k1 I2 hf2 (by rw [es]; exact decide_eq_true (by omega))⟩, fun q9 => absurd (Int.le_refl _) q9⟩
/-! somebody at home -/
theorem s132 {K : Int → MI → MJ → B3 → Prop} {p2 : List Lin} (hh : 4 ≤ h) (hT : rTown 0 92 I) (ht : rTxt 19 92 2 I true p2) (hx : 0 ≤ x ∧ x < I 2 0) (k : ∀ I2, frK [21, 30] I I2 → K (if homeB p2 I x y z = true then 1 else 0) I2 J b) : TriM G h 132 119 119 [vr 1, vi x, vi y, vi z] (I, J, PP b) (cIN K) := by
  have t1 := hT.1
  simp only [Nat.reduceAdd] at t1
  refine x132_m hh (fun h hh => x132 hh ⟨fun _ => ⟨by omega, fun _ => ⟨by omega, fun _ => ⟨by omega, ?_⟩, fun q => absurd hx q⟩, fun q => absurd hx q⟩, fun q => absurd hx q⟩)
  have hfr : frK [21, 30] I (u2 (u2 (u2 (u2 (u2 I 30 0 (iDiv z 60)) 30 1 y) 30 2 (I 3 x.toNat)) 30 3 (I 4 x.toNat)) 30 4 (I 5 x.toNat)) := ((((frK.r.u (by decide)).u (by decide)).u (by decide)).u (by decide)).u (by decide)
  refine s114_19 (p := p2) (w := 92) (kk := 2) (vals := homeV I x y z) (by omega) (ht.fr (hfr 19 (by decide)) (hfr 20 (by decide)) (fun j _ => by rw [hfr 92 (by decide)])) (fun c c1 c2 => ?_) (fun I2 hf2 => ?_)
  · unfold homeV
    have : c = 8 ∨ c = 9 ∨ c = 10 ∨ c = 11 ∨ c = 12 := by omega
    rcases this with rfl | rfl | rfl | rfl | rfl <;> rfl
  · have hk := k I2 (hfr.t (hf2.mo (by decide)))
    unfold homeB at hk
    have hol : ∀ q, firstL (homeV I x y z) p2 = some q → q.1 = 1 ∨ q.1 = 2 := by
      intro q hq
      have hm := List.mem_of_find?_eq_some hq
      obtain ⟨-, -, -, -, -, -, -, a8⟩ := ht
      have := (a8 q hm).2.2
      simpa using this
    cases hq : firstL (homeV I x y z) p2 with
    | none =>
      rw [hq] at hk
      exact ⟨fun q9 => absurd q9 (by decide), fun q9 => cIN_r fun _ => hk⟩
    | some q =>
      rw [hq] at hk
      simp only [] at hk ⊢
      rcases hol q hq with h1 | h1
      · rw [if_neg (by omega)]
        rw [if_pos (by rw [h1]; rfl)] at hk
        exact ⟨fun q9 => absurd q9 (by decide), fun q9 => cIN_r fun _ => hk⟩
      · rw [if_pos h1]
        rw [if_neg (by rw [h1]; decide)] at hk
        exact ⟨fun q9 => cIN_r fun _ => hk, fun q9 => absurd rfl q9⟩
theorem find_drop {vals : Int → Int} : ∀ {p : List Lin} {l : Nat} {q : Lin}, p[l]? = some q → firstL vals (p.drop l) = if soL vals q = true then some q else firstL vals (p.drop (l + 1)) := by
  intro p l q hq
  obtain ⟨hl, e⟩ := List.getElem?_eq_some_iff.1 hq
  unfold firstL
  rw [← List.getElem_cons_drop hl, e, List.find?_cons]
  cases h : soL vals q with
  | true => simp
  | false => simp
theorem s229_l {K : Int → MI → MJ → B3 → Prop} {p2 : List Lin} {vals : Int → Int} (hh : 2 ≤ h) (ht : rTxt 19 92 2 I true p2) (hv : ∀ c : Int, 8 ≤ c → c < 13 → vals c = I 98 c.toNat) (k : ∀ I2, frK [97] I I2 → K (if (match firstL vals p2 with | some q => decide (q.1 = 1) | none => true) = true then 1 else 0) I2 J b) : ∀ (m l : Nat) (I' : MI), l + m = p2.length → frK [97] I I' → firstL vals (p2.drop l) = firstL vals p2 → Tri G h 229 119 119 67 [some (vr 91), none, none, none, some (vi l)] [] (I', J, PP b) (cIN K) := by
  intro m
  have a1 := ht.1
  have a4 := ht.2.2.2.1
  induction m with
  | zero =>
    intro l I' hl hf hd
    rw [List.drop_of_length_le (by omega)] at hd
    rw [← hd] at k
    refine x229_67 hh ⟨fun q => cIN_r fun _ => k I' hf, fun q => ?_⟩
    rw [hf 92 (by decide)] at q
    have : I 92 2502 = p2.length := a4
    omega
  | succ m ih =>
    intro l I' hl hf hd
    have hlt : l < p2.length := by omega
    obtain ⟨q, hq⟩ : ∃ q, p2[l]? = some q := ⟨p2[l], List.getElem?_eq_getElem hlt⟩
    have hfd := find_drop (vals := vals) hq
    have ht' : rTxt 19 92 2 I' true p2 := ht.fr (hf 19 (by decide)) (hf 20 (by decide)) (fun j _ => by rw [hf 92 (by decide)])
    have h4 : I 92 2502 = p2.length := a4
    refine x229_67 hh ⟨fun q9 => by rw [hf 92 (by decide)] at q9; omega, fun q9 => s221 (kk := 2) (vals := vals) (by omega) (by omega) ht' hq (fun c hc => ?_) (fun I2 hf2 hs => ?_) (fun I2 hf2 hs => ?_)⟩
    · rw [hf 98 (by decide)]
      simp at hc
      exact hv c hc.1 hc.2
    · rw [hs, if_pos rfl] at hfd
      rw [← hd, hfd] at k
      simp only [] at k
      have hf3 := hf.t hf2
      refine ⟨fun q2 => absurd q2 (by decide), fun q2 => ?_⟩
      rw [w32_id (by omega) (by omega), hf3 92 (by decide), show (2642 + (l : Int)).toNat = 2610 + 16 * 2 + l by omega, (ht.2.2.2.2.1 l q hq).1]
      refine ⟨by omega, fun q3 => cIN_r fun _ => ?_, fun q3 => cIN_r fun _ => ?_⟩
      · have := k I2 hf3
        rw [if_neg (by simpa using q3)] at this
        exact this
      · have := k I2 hf3
        rw [if_pos (by simpa using q3)] at this
        exact this
    · rw [hs, if_neg (by decide)] at hfd
      refine ⟨fun q2 => ?_, fun q2 => absurd rfl q2⟩
      rw [w32_id (by omega) (by omega)]
      exact ih (l + 1) I2 (by omega) (hf.t hf2) (by rw [← hfd]; exact hd)
theorem s229 {K : Int → MI → MJ → B3 → Prop} {p2 : List Lin} (hh : 3 ≤ h) (hT : rTown 0 92 I) (ht : rTxt 19 92 2 I true p2) (hx : 0 ≤ x ∧ x < I 2 0) (k : ∀ I2, frK [97, 98] I I2 → K (if homeB p2 I x y z = true then 1 else 0) I2 J b) : TriM G h 229 119 119 [vr 91, vi x, vi y, vi z] (I, J, PP b) (cIN K) := by
  have t1 := hT.1
  simp only [Nat.reduceAdd] at t1
  have t4 := (hT.2.2.2.1 x hx.1 (by simp only [Nat.reduceAdd]; exact hx.2)).1
  simp only [Nat.reduceAdd] at t4
  refine x229_m hh (fun h hh => x229 (by omega) ?_)
  rw [w32_id (x := 3 * x) (by omega) (by omega), w32_id (x := 220 + 3 * x) (by omega) (by omega), w32_id (x := 220 + 3 * x + 2) (by omega) (by omega), t4.1, t4.2.1, t4.2.2]
  refine ⟨by omega, by omega, by omega, ?_⟩
  have hfr : frK [97, 98] I (u2 (u2 (u2 (u2 (u2 I 98 8 (iDiv z 60)) 98 9 y) 98 10 (I 3 x.toNat)) 98 11 (I 4 x.toNat)) 98 12 (I 5 x.toNat)) := ((((frK.r.u (by decide)).u (by decide)).u (by decide)).u (by decide)).u (by decide)
  refine s229_l (vals := homeV I x y z) hh (ht.fr (hfr 19 (by decide)) (hfr 20 (by decide)) (fun j _ => by rw [hfr 92 (by decide)])) (fun c c1 c2 => ?_) (fun I2 hf2 => k I2 (hfr.t (hf2.mo (by decide)))) p2.length 0 _ (Nat.zero_add _) frK.r rfl
  unfold homeV
  have : c = 8 ∨ c = 9 ∨ c = 10 ∨ c = 11 ∨ c = 12 := by omega
  rcases this with rfl | rfl | rfl | rfl | rfl <;> rfl
theorem homeB_k {S : List Nat} {I' : MI} (p : List Lin) (hf : frK S I I') (hS : ∀ k ∈ [3, 4, 5], k ∉ S) : homeB p I' = homeB p I := by
  funext x y z
  have : homeV I' x y z = homeV I x y z := by
    funext s
    unfold homeV
    rw [hf 3 (hS 3 (by decide)), hf 4 (hS 4 (by decide)), hf 5 (hS 5 (by decide))]
  unfold homeB
  rw [this]
theorem rTxt.k {S : List Nat} {I' : MI} {t k : Nat} {hm : Bool} {p : List Lin} (h : rTxt t 92 k I hm p) (hf : frK S I I') (h1 : t ∉ S) (h2 : t + 1 ∉ S) (h3 : 92 ∉ S) : rTxt t 92 k I' hm p := h.fr (hf t h1) (hf (t + 1) h2) (fun j _ => by rw [hf 92 h3])
theorem pub_home (hI : INV n I J) (hn : n < 64) (hh : 40 ≤ h) : PairI G h 153 230 [vi x, vi y, vi z] (n + 1) I J b := by
  have hI2 := hI.suc hn
  obtain ⟨p2, hT, ht⟩ : ∃ p2, rTown 0 92 I ∧ rTxt 19 92 2 I true p2 := by
    obtain ⟨p0, p1, p2, ⟨a1, a2, a3, a4, a5⟩, ⟨t0, t1, t2⟩, -⟩ := hI
    exact ⟨p2, a1, t2⟩
  have t1 := hT.1
  simp only [Nat.reduceAdd] at t1
  have no : ¬ ((0 ≤ x ∧ x < I 2 0) ∧ (0 ≤ y ∧ y < 100) ∧ 0 ≤ z ∧ z < 1440) → cIN (fun x_1 I1 J1 b1 => TriM G h 230 119 119 [vr 91, vi x, vi y, vi z] (I1, J1, PP b1) (cIN fun y I2 J2 _ => x_1 = y ∧ INV (n + 1) I2 J2)) (some (vi (-1))) (I, J, PP b) := by
    intro hx
    have fin : cIN (fun y I2 J2 _ => -1 = y ∧ INV (n + 1) I2 J2) (some (vi (-1))) (I, J, PP b) := cIN_r fun _ => ⟨rfl, hI2⟩
    exact cIN_r fun _ => x230_m (by omega) fun h2 hh2 => x230 (by omega) ⟨by omega, fun q1 => ⟨fun q2 => ⟨fun q3 => absurd (show (0 ≤ x ∧ x < I 2 0) ∧ (0 ≤ y ∧ y < 100) ∧ 0 ≤ z ∧ z < 1440 by omega) hx, fun _ => fin⟩, fun _ => fin⟩, fun _ => fin⟩
  refine x153_m (by omega) (fun h2 hh2 => x153 hh2 ⟨fun q1 => ⟨fun q2 => ⟨fun q3 => s132 (by omega) hT ht q1 fun I2 hf2 => ?_, fun q3 => no (by omega)⟩, fun q2 => no (by omega)⟩, fun q1 => no (by omega)⟩)
  have key : ∀ w : Int, w = (if homeB p2 I x y z = true then 1 else 0) → cIN (fun x_1 I1 J1 b1 => TriM G h 230 119 119 [vr 91, vi x, vi y, vi z] (I1, J1, PP b1) (cIN fun y I2 J2 _ => x_1 = y ∧ INV (n + 1) I2 J2)) (some (vi w)) (I2, J, PP b) := by
    intro w hw
    have hT2 := hT.k hf2 (by decide)
    have ht2 := ht.k hf2 (by decide) (by decide) (by decide)
    have e2 := hf2 2 (by decide)
    have e92 := hf2 92 (by decide)
    refine cIN_r fun _ => x230_m (by omega) fun h3 hh3 => x230 (by omega) ?_
    rw [e92]
    refine ⟨by omega, fun _ => ⟨fun _ => ⟨fun _ => s229 (by omega) hT2 ht2 (by rw [e2]; exact q1) fun I3 hf3 => ?_, fun q => by omega⟩, fun q => by omega⟩, fun q => by omega⟩
    rw [homeB_k p2 hf2 (by decide)]
    have hI3 : INV (n + 1) I3 J := hI2.sc ((hf2.mo (by decide)).t (hf3.mo (by decide))) (fun _ _ => rfl)
    cases hb : homeB p2 I x y z with
    | true =>
      rw [hb] at hw
      exact ⟨fun q => absurd q (by decide), fun _ => cIN_r fun _ => ⟨hw, hI3⟩⟩
    | false =>
      rw [hb] at hw
      exact ⟨fun _ => cIN_r fun _ => ⟨hw, hI3⟩, fun q => absurd rfl q⟩
  cases hb : homeB p2 I x y z with
  | true =>
    rw [hb] at key
    exact ⟨fun q => absurd q (by decide), fun _ => key 1 rfl⟩
  | false =>
    rw [hb] at key
    exact ⟨fun _ => key 0 rfl, fun q => absurd rfl q⟩
end HOME
