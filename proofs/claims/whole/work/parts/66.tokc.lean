set_option maxRecDepth 100000 in
theorem x16 {G : Ctx} {h : Nat} {Q : MP} {I : Nat → Nat → Int} {J : Nat → Nat → BitVec 64} {b : B3} {x y z : Int} (hh : 0 ≤ h) (H : Tri G h 16 119 119 7 [some (vr 3002), none, none, some (vi z), some (vi (w8 x)), some (vi y)] [] (I, J, PP b) Q) : Tri G h 16 119 119 0 [some (vr 3002), some (vi x), some (vi y), some (vi z)] [] (I, J, PP b) Q := wp_at ck16 [(7, [true, false, false, true, true, true])] 400 H
set_option maxRecDepth 100000 in
theorem x16_7 {G : Ctx} {h : Nat} {Q : MP} {I : Nat → Nat → Int} {J : Nat → Nat → BitVec 64} {b : B3} {l3 l4 l5 : Int} (hh : 0 ≤ h) (H : ((l3 ≤ l5) → (Q (some (vi (-1))) (I, J, PP b))) ∧ (¬ (l3 ≤ l5) → ((0 ≤ l5 ∧ l5 < (10 : Int)) ∧ (((¬ (stC 2 l5.toNat) = l4) → (Tri G h 16 119 119 7 [some (vr 3002), none, none, some (vi l3), some (vi l4), some (vi (w32 (l5 + 1)))] [] (I, J, PP b) Q)) ∧ (¬ (¬ (stC 2 l5.toNat) = l4) → (Q (some (vi l5)) (I, J, PP b))))))) : Tri G h 16 119 119 7 [some (vr 3002), none, none, some (vi l3), some (vi l4), some (vi l5)] [] (I, J, PP b) Q := wp_at ck16 [(7, [true, false, false, true, true, true])] 400 H
theorem x16_m {G : Ctx} {h : Nat} {Q : MP} {I : Nat → Nat → Int} {J : Nat → Nat → BitVec 64} {b : B3} {x y z : Int} (hh : 1 ≤ h) (H : ∀ h, 0 ≤ h → Tri G h 16 119 119 0 [some (vr 3002), some (vi x), some (vi y), some (vi z)] [] (I, J, PP b) Q) : TriM G h 16 119 119 [vr 3002, vi x, vi y, vi z] (I, J, PP b) Q := TriM_intro (h - 1) (by omega) (by decide) (Nat.le_of_ble_eq_true rfl) (Nat.le_refl _) (Nat.le_refl _) (H (h - 1) (by omega))
set_option maxRecDepth 100000 in
theorem x14 {G : Ctx} {h : Nat} {Q : MP} {I : Nat → Nat → Int} {J : Nat → Nat → BitVec 64} {b : B3} {x : Int} (hh : 0 ≤ h) (H : ((x < 0) → (Q (some (vi 0)) (I, J, PP b))) ∧ (¬ (x < 0) → (((255 < x) → (Q (some (vi 0)) (I, J, PP b))) ∧ (¬ (255 < x) → (Q (some (vi 1)) (I, J, PP b)))))) : Tri G h 14 119 119 0 [some (vi x)] [] (I, J, PP b) Q := wp_at ck14 [] 400 (And.intro (fun q1748 => And.intro (show (0 : Int) = 0 ∨ (0 : Int) = 1 by decide) (H.1 q1748)) (fun q1749 => And.intro (fun q1750 => And.intro (show (0 : Int) = 0 ∨ (0 : Int) = 1 by decide) ((H.2 q1749).1 q1750)) (fun q1751 => And.intro (show (1 : Int) = 0 ∨ (1 : Int) = 1 by decide) ((H.2 q1749).2 q1751))))
theorem x14_m {G : Ctx} {h : Nat} {Q : MP} {I : Nat → Nat → Int} {J : Nat → Nat → BitVec 64} {b : B3} {x : Int} (hh : 1 ≤ h) (H : ∀ h, 0 ≤ h → Tri G h 14 119 119 0 [some (vi x)] [] (I, J, PP b) Q) : TriM G h 14 119 119 [vi x] (I, J, PP b) Q := TriM_intro (h - 1) (by omega) (by decide) (Nat.le_of_ble_eq_true rfl) (Nat.le_refl _) (Nat.le_refl _) (H (h - 1) (by omega))
set_option maxRecDepth 100000 in
theorem x13 {G : Ctx} {h : Nat} {Q : MP} {I : Nat → Nat → Int} {J : Nat → Nat → BitVec 64} {b : B3} {x y z : Int} (hh : 1 ≤ h) (H : ((x < 0) → (Q (some (vi (-1))) (I, J, PP b))) ∧ (¬ (x < 0) → (((255 < x) → (Q (some (vi (-1))) (I, J, PP b))) ∧ (¬ (255 < x) → ((((max y (0 : Int)) < (min z (10 : Int))) → (TriM G h 16 119 119 [vr 3002, vi x, vi (max y (0 : Int)), vi (min z (10 : Int))] (I, J, PP b) (cIN fun r1 I1 J1 b1 => (Q (some (vi r1)) (I1, J1, PP b1))))) ∧ (¬ ((max y (0 : Int)) < (min z (10 : Int))) → (Q (some (vi (-1))) (I, J, PP b)))))))) : Tri G h 13 119 119 0 [some (vr 3002), some (vi x), some (vi y), some (vi z)] [] (I, J, PP b) Q := wp_at ck13 [] 400 (x14_m (by omega) (fun h hh => x14 hh (And.intro (fun q1752 => cI_r (And.intro (fun z => absurd z (show ¬ (¬ (0 : Int) = (0 : Int)) by decide)) (fun _ => H.1 q1752))) (fun q1753 => And.intro (fun q1754 => cI_r (And.intro (fun z => absurd z (show ¬ (¬ (0 : Int) = (0 : Int)) by decide)) (fun _ => (H.2 q1753).1 q1754))) (fun q1755 => cI_r (And.intro (fun _ => sx15 (by omega)  (sx3 (by omega)  (And.intro (fun q1756 => cIN_go (((H.2 q1753).2 q1755).1 q1756) (fun r1 I1 J1 b1 q1758 => q1758)) (fun q1757 => ((H.2 q1753).2 q1755).2 q1757)))) (fun z => absurd (show ¬ (1 : Int) = (0 : Int) by decide) z)))))))
theorem x13_m {G : Ctx} {h : Nat} {Q : MP} {I : Nat → Nat → Int} {J : Nat → Nat → BitVec 64} {b : B3} {x y z : Int} (hh : 2 ≤ h) (H : ∀ h, 1 ≤ h → Tri G h 13 119 119 0 [some (vr 3002), some (vi x), some (vi y), some (vi z)] [] (I, J, PP b) Q) : TriM G h 13 119 119 [vr 3002, vi x, vi y, vi z] (I, J, PP b) Q := TriM_intro (h - 1) (by omega) (by decide) (Nat.le_of_ble_eq_true rfl) (Nat.le_refl _) (Nat.le_refl _) (H (h - 1) (by omega))
set_option maxRecDepth 100000 in
theorem x12 {G : Ctx} {h : Nat} {Q : MP} {I : Nat → Nat → Int} {J : Nat → Nat → BitVec 64} {b : B3} {x y : Int} (hh : 2 ≤ h) (H : TriM G h 13 119 119 [vr 3002, vi x, vi y, vi 10] (I, J, PP b) (cIN fun r1 I1 J1 b1 => (Q (some (vi r1)) (I1, J1, PP b1)))) : Tri G h 12 119 119 0 [some (vr 2002), some (vi x), some (vi y)] [] (I, J, PP b) Q := wp_at ck12 [] 400 (x7_2_m (by omega) (fun h hh => x7_2 hh (cI_r (And.intro (fun z => absurd z (show ¬ ((1 : Int) = (0 : Int)) by decide)) (fun _ => sl4_2 (by omega)  (cIN_go H (fun r1 I1 J1 b1 q1759 => q1759)))))))
theorem x12_m {G : Ctx} {h : Nat} {Q : MP} {I : Nat → Nat → Int} {J : Nat → Nat → BitVec 64} {b : B3} {x y : Int} (hh : 3 ≤ h) (H : ∀ h, 2 ≤ h → Tri G h 12 119 119 0 [some (vr 2002), some (vi x), some (vi y)] [] (I, J, PP b) Q) : TriM G h 12 119 119 [vr 2002, vi x, vi y] (I, J, PP b) Q := TriM_intro (h - 1) (by omega) (by decide) (Nat.le_of_ble_eq_true rfl) (Nat.le_refl _) (Nat.le_refl _) (H (h - 1) (by omega))
set_option maxRecDepth 100000 in
theorem x11 {G : Ctx} {h : Nat} {Q : MP} {I : Nat → Nat → Int} {J : Nat → Nat → BitVec 64} {b : B3} {x : Int} (hh : 3 ≤ h) (H : TriM G h 12 119 119 [vr 2002, vi x, vi 0] (I, J, PP b) (cIN fun r1 I1 J1 b1 => (Q (some (vi r1)) (I1, J1, PP b1)))) : Tri G h 11 119 119 0 [some (vr 2002), some (vi x)] [] (I, J, PP b) Q := wp_at ck11 [] 400 (cIN_go H (fun r1 I1 J1 b1 q1760 => q1760))
theorem x11_m {G : Ctx} {h : Nat} {Q : MP} {I : Nat → Nat → Int} {J : Nat → Nat → BitVec 64} {b : B3} {x : Int} (hh : 4 ≤ h) (H : ∀ h, 3 ≤ h → Tri G h 11 119 119 0 [some (vr 2002), some (vi x)] [] (I, J, PP b) Q) : TriM G h 11 119 119 [vr 2002, vi x] (I, J, PP b) Q := TriM_intro (h - 1) (by omega) (by decide) (Nat.le_of_ble_eq_true rfl) (Nat.le_refl _) (Nat.le_refl _) (H (h - 1) (by omega))
set_option maxRecDepth 100000 in
theorem x64 {G : Ctx} {h : Nat} {Q : MP} {I : Nat → Nat → Int} {J : Nat → Nat → BitVec 64} {b : B3} {x y : Int} (hh : 2 ≤ h) (H : (0 ≤ x ∧ x < (400 : Int)) ∧ (((97 ≤ (I 61 x.toNat) ∧ (I 61 x.toNat) ≤ 122 ∨ 65 ≤ (I 61 x.toNat) ∧ (I 61 x.toNat) ≤ 90) → ((0 ≤ x ∧ x < (400 : Int)) ∧ (((48 ≤ (I 61 x.toNat) ∧ (I 61 x.toNat) ≤ 57) → (Tri G h 64 119 119 20 [some (vr 61), none, some (vi y), some (vi 1), some (vi 1), some (vi (w32 (x + 1)))] [] (I, J, PP b) Q)) ∧ (¬ (48 ≤ (I 61 x.toNat) ∧ (I 61 x.toNat) ≤ 57) → (Tri G h 64 119 119 20 [some (vr 61), none, some (vi y), some (vi 1), some (vi 0), some (vi (w32 (x + 1)))] [] (I, J, PP b) Q))))) ∧ (¬ (97 ≤ (I 61 x.toNat) ∧ (I 61 x.toNat) ≤ 122 ∨ 65 ≤ (I 61 x.toNat) ∧ (I 61 x.toNat) ≤ 90) → ((0 ≤ x ∧ x < (400 : Int)) ∧ (((48 ≤ (I 61 x.toNat) ∧ (I 61 x.toNat) ≤ 57) → (Tri G h 64 119 119 20 [some (vr 61), none, some (vi y), some (vi 0), some (vi 1), some (vi (w32 (x + 1)))] [] (I, J, PP b) Q)) ∧ (¬ (48 ≤ (I 61 x.toNat) ∧ (I 61 x.toNat) ≤ 57) → (Tri G h 64 119 119 20 [some (vr 61), none, some (vi y), some (vi 0), some (vi 0), some (vi (w32 (x + 1)))] [] (I, J, PP b) Q))))))) : Tri G h 64 119 119 0 [some (vr 61), some (vi x), some (vi y)] [] (I, J, PP b) Q := wp_at ck64 [(20, [true, false, true, true, true, true])] 400 (And.intro H.1 (sx174 (by omega)  (fun q1761 => And.intro (H.2.1 q1761).1 (sx175 (by omega)  (fun q1763 => ((H.2.1 q1761).2).1 q1763) (fun q1764 => ((H.2.1 q1761).2).2 q1764))) (fun q1762 => And.intro (H.2.2 q1762).1 (sx175 (by omega)  (fun q1765 => ((H.2.2 q1762).2).1 q1765) (fun q1766 => ((H.2.2 q1762).2).2 q1766)))))
set_option maxRecDepth 100000 in
theorem x64_20 {G : Ctx} {h : Nat} {Q : MP} {I : Nat → Nat → Int} {J : Nat → Nat → BitVec 64} {b : B3} {l2 l3 l4 l5 : Int} (hh : 2 ≤ h) (H : ((l2 ≤ l5) → (Q (some (vi l5)) (I, J, PP b))) ∧ (¬ (l2 ≤ l5) → (((l3 = 0) → (((l4 = 0) → (Q (some (vi l5)) (I, J, PP b))) ∧ (¬ (l4 = 0) → ((0 ≤ l5 ∧ l5 < (400 : Int)) ∧ (((48 ≤ (I 61 l5.toNat) ∧ (I 61 l5.toNat) ≤ 57) → (Tri G h 64 119 119 20 [some (vr 61), none, some (vi l2), some (vi l3), some (vi l4), some (vi (w32 (l5 + 1)))] [] (I, J, PP b) Q)) ∧ (¬ (48 ≤ (I 61 l5.toNat) ∧ (I 61 l5.toNat) ≤ 57) → (Q (some (vi l5)) (I, J, PP b)))))))) ∧ (¬ (l3 = 0) → ((0 ≤ l5 ∧ l5 < (400 : Int)) ∧ (((97 ≤ (I 61 l5.toNat) ∧ (I 61 l5.toNat) ≤ 122 ∨ 65 ≤ (I 61 l5.toNat) ∧ (I 61 l5.toNat) ≤ 90) → (Tri G h 64 119 119 20 [some (vr 61), none, some (vi l2), some (vi l3), some (vi l4), some (vi (w32 (l5 + 1)))] [] (I, J, PP b) Q)) ∧ (¬ (97 ≤ (I 61 l5.toNat) ∧ (I 61 l5.toNat) ≤ 122 ∨ 65 ≤ (I 61 l5.toNat) ∧ (I 61 l5.toNat) ≤ 90) → (((l4 = 0) → (Q (some (vi l5)) (I, J, PP b))) ∧ (¬ (l4 = 0) → ((0 ≤ l5 ∧ l5 < (400 : Int)) ∧ (((48 ≤ (I 61 l5.toNat) ∧ (I 61 l5.toNat) ≤ 57) → (Tri G h 64 119 119 20 [some (vr 61), none, some (vi l2), some (vi l3), some (vi l4), some (vi (w32 (l5 + 1)))] [] (I, J, PP b) Q)) ∧ (¬ (48 ≤ (I 61 l5.toNat) ∧ (I 61 l5.toNat) ≤ 57) → (Q (some (vi l5)) (I, J, PP b)))))))))))))) : Tri G h 64 119 119 20 [some (vr 61), none, some (vi l2), some (vi l3), some (vi l4), some (vi l5)] [] (I, J, PP b) Q := wp_at ck64 [(20, [true, false, true, true, true, true])] 400 (And.intro (fun q1767 => H.1 q1767) (fun q1768 => And.intro (fun q1769 => And.intro (fun q1771 => ((H.2 q1768).1 q1769).1 q1771) (fun q1772 => And.intro (((H.2 q1768).1 q1769).2 q1772).1 (sx175 (by omega)  (fun q1773 => And.intro (fun z => absurd z (show ¬ ((1 : Int) = (0 : Int)) by decide)) (fun _ => ((((H.2 q1768).1 q1769).2 q1772).2).1 q1773)) (fun q1774 => And.intro (fun _ => ((((H.2 q1768).1 q1769).2 q1772).2).2 q1774) (fun z => absurd (show (0 : Int) = (0 : Int) by decide) z))))) (fun q1770 => And.intro ((H.2 q1768).2 q1770).1 (sx174 (by omega)  (fun q1775 => And.intro (fun _ => (((H.2 q1768).2 q1770).2).1 q1775) (fun z => absurd (show ¬ (1 : Int) = (0 : Int) by decide) z)) (fun q1776 => And.intro (fun z => absurd z (show ¬ (¬ (0 : Int) = (0 : Int)) by decide)) (fun _ => And.intro (fun q1777 => ((((H.2 q1768).2 q1770).2).2 q1776).1 q1777) (fun q1778 => And.intro (((((H.2 q1768).2 q1770).2).2 q1776).2 q1778).1 (sx175 (by omega)  (fun q1779 => And.intro (fun z => absurd z (show ¬ ((1 : Int) = (0 : Int)) by decide)) (fun _ => ((((((H.2 q1768).2 q1770).2).2 q1776).2 q1778).2).1 q1779)) (fun q1780 => And.intro (fun _ => ((((((H.2 q1768).2 q1770).2).2 q1776).2 q1778).2).2 q1780) (fun z => absurd (show (0 : Int) = (0 : Int) by decide) z))))))))))
theorem x64_m {G : Ctx} {h : Nat} {Q : MP} {I : Nat → Nat → Int} {J : Nat → Nat → BitVec 64} {b : B3} {x y : Int} (hh : 3 ≤ h) (H : ∀ h, 2 ≤ h → Tri G h 64 119 119 0 [some (vr 61), some (vi x), some (vi y)] [] (I, J, PP b) Q) : TriM G h 64 119 119 [vr 61, vi x, vi y] (I, J, PP b) Q := TriM_intro (h - 1) (by omega) (by decide) (Nat.le_of_ble_eq_true rfl) (Nat.le_refl _) (Nat.le_refl _) (H (h - 1) (by omega))
set_option maxRecDepth 100000 in
theorem x67 {G : Ctx} {h : Nat} {Q : MP} {I : Nat → Nat → Int} {J : Nat → Nat → BitVec 64} {b : B3} {x y : Int} (hh : 0 ≤ h) (H : Tri G h 67 119 119 5 [some (vr 61), some (vi x), some (vi y), some (vi 0), some (vi x)] [] (I, J, PP b) Q) : Tri G h 67 119 119 0 [some (vr 61), some (vi x), some (vi y)] [] (I, J, PP b) Q := wp_at ck67 [(5, [true, true, true, true, true])] 400 H
set_option maxRecDepth 100000 in
theorem x67_5 {G : Ctx} {h : Nat} {Q : MP} {I : Nat → Nat → Int} {J : Nat → Nat → BitVec 64} {b : B3} {l1 l2 l3 l4 : Int} (hh : 0 ≤ h) (H : ((l2 ≤ l4) → (Q (some (vi l3)) (I, J, PP b))) ∧ (¬ (l2 ≤ l4) → ((((w32 (l1 + 4)) ≤ l4) → (Q (some (vi l3)) (I, J, PP b))) ∧ (¬ ((w32 (l1 + 4)) ≤ l4) → ((0 ≤ l4 ∧ l4 < (400 : Int)) ∧ (Tri G h 67 119 119 5 [some (vr 61), some (vi l1), some (vi l2), some (vi (w32 ((w32 (l3 * 10)) + (w32 ((I 61 l4.toNat) - 48))))), some (vi (w32 (l4 + 1)))] [] (I, J, PP b) Q)))))) : Tri G h 67 119 119 5 [some (vr 61), some (vi l1), some (vi l2), some (vi l3), some (vi l4)] [] (I, J, PP b) Q := wp_at ck67 [(5, [true, true, true, true, true])] 400 H
theorem x67_m {G : Ctx} {h : Nat} {Q : MP} {I : Nat → Nat → Int} {J : Nat → Nat → BitVec 64} {b : B3} {x y : Int} (hh : 1 ≤ h) (H : ∀ h, 0 ≤ h → Tri G h 67 119 119 0 [some (vr 61), some (vi x), some (vi y)] [] (I, J, PP b) Q) : TriM G h 67 119 119 [vr 61, vi x, vi y] (I, J, PP b) Q := TriM_intro (h - 1) (by omega) (by decide) (Nat.le_of_ble_eq_true rfl) (Nat.le_refl _) (Nat.le_refl _) (H (h - 1) (by omega))
set_option maxRecDepth 100000 in
theorem x66_0 {G : Ctx} {h : Nat} {Q : MP} {I : Nat → Nat → Int} {J : Nat → Nat → BitVec 64} {b : B3} {x y : Int} (hh : 0 ≤ h) (H : Tri G h 66 119 119 9 [some (vr 61), some (vi x), some (vi y), some (vr 2000), some (vi 0), some (vi x), some (vi 0)] [] (I, J, PP b) Q) : Tri G h 66 119 119 0 [some (vr 61), some (vi x), some (vi y), some (vr 2000)] [] (I, J, PP b) Q := wp_at ck66 [(9, [true, true, true, true, true, true, true])] 400 H
set_option maxRecDepth 100000 in
theorem x66_0_9 {G : Ctx} {h : Nat} {Q : MP} {I : Nat → Nat → Int} {J : Nat → Nat → BitVec 64} {b : B3} {l1 l2 l4 l5 l6 : Int} (hh : 4 ≤ h) (H : ((53 < l6) → (Q (some (vi 22)) (I, J, PP b))) ∧ (¬ (53 < l6) → (((53 ≤ l6) → (((¬ l5 = l2) → (Tri G h 66 119 119 9 [some (vr 61), some (vi l1), some (vi l2), some (vr 2000), some (vi (w32 (l4 + 1))), some (vi l1), some (vi (w32 (l6 + 1)))] [] (I, J, PP b) Q)) ∧ (¬ (¬ l5 = l2) → (Q (some (vi l4)) (I, J, PP b))))) ∧ (¬ (53 ≤ l6) → ((0 ≤ l6 ∧ l6 < (53 : Int)) ∧ ((((stC 0 l6.toNat) = 32) → (((¬ l5 = l2) → (Tri G h 66 119 119 9 [some (vr 61), some (vi l1), some (vi l2), some (vr 2000), some (vi (w32 (l4 + 1))), some (vi l1), some (vi (w32 (l6 + 1)))] [] (I, J, PP b) Q)) ∧ (¬ (¬ l5 = l2) → (Q (some (vi l4)) (I, J, PP b))))) ∧ (¬ ((stC 0 l6.toNat) = 32) → (((l2 ≤ l5) → (Tri G h 66 119 119 9 [some (vr 61), some (vi l1), some (vi l2), some (vr 2000), some (vi l4), some (vi (w32 (l2 + 1))), some (vi (w32 (l6 + 1)))] [] (I, J, PP b) Q)) ∧ (¬ (l2 ≤ l5) → ((0 ≤ l5 ∧ l5 < (400 : Int)) ∧ (((¬ (I 61 l5.toNat) = (stC 0 l6.toNat)) → (Tri G h 66 119 119 9 [some (vr 61), some (vi l1), some (vi l2), some (vr 2000), some (vi l4), some (vi (w32 (l2 + 1))), some (vi (w32 (l6 + 1)))] [] (I, J, PP b) Q)) ∧ (¬ (¬ (I 61 l5.toNat) = (stC 0 l6.toNat)) → (Tri G h 66 119 119 9 [some (vr 61), some (vi l1), some (vi l2), some (vr 2000), some (vi l4), some (vi (w32 (l5 + 1))), some (vi (w32 (l6 + 1)))] [] (I, J, PP b) Q))))))))))))) : Tri G h 66 119 119 9 [some (vr 61), some (vi l1), some (vi l2), some (vr 2000), some (vi l4), some (vi l5), some (vi l6)] [] (I, J, PP b) Q := wp_at ck66 [(9, [true, true, true, true, true, true, true])] 400 (sl4_0 (by omega)  (And.intro (fun q1781 => H.1 q1781) (fun q1782 => sl4_0 (by omega)  (And.intro (fun q1783 => And.intro (fun _ => (H.2 q1782).1 q1783) (fun z => absurd (show (32 : Int) = (32 : Int) by decide) z)) (fun q1784 => sc6_0 (by omega) ((H.2 q1782).2 q1784).1 (((H.2 q1782).2 q1784).2))))))
theorem x66_0_m {G : Ctx} {h : Nat} {Q : MP} {I : Nat → Nat → Int} {J : Nat → Nat → BitVec 64} {b : B3} {x y : Int} (hh : 5 ≤ h) (H : ∀ h, 4 ≤ h → Tri G h 66 119 119 0 [some (vr 61), some (vi x), some (vi y), some (vr 2000)] [] (I, J, PP b) Q) : TriM G h 66 119 119 [vr 61, vi x, vi y, vr 2000] (I, J, PP b) Q := TriM_intro (h - 1) (by omega) (by decide) (Nat.le_of_ble_eq_true rfl) (Nat.le_refl _) (Nat.le_refl _) (H (h - 1) (by omega))
set_option maxRecDepth 100000 in
theorem x66_1 {G : Ctx} {h : Nat} {Q : MP} {I : Nat → Nat → Int} {J : Nat → Nat → BitVec 64} {b : B3} {x y : Int} (hh : 0 ≤ h) (H : Tri G h 66 119 119 9 [some (vr 61), some (vi x), some (vi y), some (vr 2001), some (vi 0), some (vi x), some (vi 0)] [] (I, J, PP b) Q) : Tri G h 66 119 119 0 [some (vr 61), some (vi x), some (vi y), some (vr 2001)] [] (I, J, PP b) Q := wp_at ck66 [(9, [true, true, true, true, true, true, true])] 400 H
set_option maxRecDepth 100000 in
theorem x66_1_9 {G : Ctx} {h : Nat} {Q : MP} {I : Nat → Nat → Int} {J : Nat → Nat → BitVec 64} {b : B3} {l1 l2 l4 l5 l6 : Int} (hh : 4 ≤ h) (H : ((62 < l6) → (Q (some (vi 22)) (I, J, PP b))) ∧ (¬ (62 < l6) → (((62 ≤ l6) → (((¬ l5 = l2) → (Tri G h 66 119 119 9 [some (vr 61), some (vi l1), some (vi l2), some (vr 2001), some (vi (w32 (l4 + 1))), some (vi l1), some (vi (w32 (l6 + 1)))] [] (I, J, PP b) Q)) ∧ (¬ (¬ l5 = l2) → (Q (some (vi l4)) (I, J, PP b))))) ∧ (¬ (62 ≤ l6) → ((0 ≤ l6 ∧ l6 < (62 : Int)) ∧ ((((stC 1 l6.toNat) = 32) → (((¬ l5 = l2) → (Tri G h 66 119 119 9 [some (vr 61), some (vi l1), some (vi l2), some (vr 2001), some (vi (w32 (l4 + 1))), some (vi l1), some (vi (w32 (l6 + 1)))] [] (I, J, PP b) Q)) ∧ (¬ (¬ l5 = l2) → (Q (some (vi l4)) (I, J, PP b))))) ∧ (¬ ((stC 1 l6.toNat) = 32) → (((l2 ≤ l5) → (Tri G h 66 119 119 9 [some (vr 61), some (vi l1), some (vi l2), some (vr 2001), some (vi l4), some (vi (w32 (l2 + 1))), some (vi (w32 (l6 + 1)))] [] (I, J, PP b) Q)) ∧ (¬ (l2 ≤ l5) → ((0 ≤ l5 ∧ l5 < (400 : Int)) ∧ (((¬ (I 61 l5.toNat) = (stC 1 l6.toNat)) → (Tri G h 66 119 119 9 [some (vr 61), some (vi l1), some (vi l2), some (vr 2001), some (vi l4), some (vi (w32 (l2 + 1))), some (vi (w32 (l6 + 1)))] [] (I, J, PP b) Q)) ∧ (¬ (¬ (I 61 l5.toNat) = (stC 1 l6.toNat)) → (Tri G h 66 119 119 9 [some (vr 61), some (vi l1), some (vi l2), some (vr 2001), some (vi l4), some (vi (w32 (l5 + 1))), some (vi (w32 (l6 + 1)))] [] (I, J, PP b) Q))))))))))))) : Tri G h 66 119 119 9 [some (vr 61), some (vi l1), some (vi l2), some (vr 2001), some (vi l4), some (vi l5), some (vi l6)] [] (I, J, PP b) Q := wp_at ck66 [(9, [true, true, true, true, true, true, true])] 400 (sl4_1 (by omega)  (And.intro (fun q1785 => H.1 q1785) (fun q1786 => sl4_1 (by omega)  (And.intro (fun q1787 => And.intro (fun _ => (H.2 q1786).1 q1787) (fun z => absurd (show (32 : Int) = (32 : Int) by decide) z)) (fun q1788 => sc6_1 (by omega) ((H.2 q1786).2 q1788).1 (((H.2 q1786).2 q1788).2))))))
theorem x66_1_m {G : Ctx} {h : Nat} {Q : MP} {I : Nat → Nat → Int} {J : Nat → Nat → BitVec 64} {b : B3} {x y : Int} (hh : 5 ≤ h) (H : ∀ h, 4 ≤ h → Tri G h 66 119 119 0 [some (vr 61), some (vi x), some (vi y), some (vr 2001)] [] (I, J, PP b) Q) : TriM G h 66 119 119 [vr 61, vi x, vi y, vr 2001] (I, J, PP b) Q := TriM_intro (h - 1) (by omega) (by decide) (Nat.le_of_ble_eq_true rfl) (Nat.le_refl _) (Nat.le_refl _) (H (h - 1) (by omega))
set_option maxRecDepth 100000 in
theorem x65_0 {G : Ctx} {h : Nat} {Q : MP} {I : Nat → Nat → Int} {J : Nat → Nat → BitVec 64} {b : B3} {x y : Int} (hh : 5 ≤ h) (H : (0 ≤ x ∧ x < (400 : Int)) ∧ (((97 ≤ (I 61 x.toNat) ∧ (I 61 x.toNat) ≤ 122 ∨ 65 ≤ (I 61 x.toNat) ∧ (I 61 x.toNat) ≤ 90) → (TriM G h 66 119 119 [vr 61, vi x, vi y, vr 2000] (I, J, PP b) (cIN fun r1 I1 J1 b1 => (Q (some (vi r1)) (I1, J1, PP b1))))) ∧ (¬ (97 ≤ (I 61 x.toNat) ∧ (I 61 x.toNat) ≤ 122 ∨ 65 ≤ (I 61 x.toNat) ∧ (I 61 x.toNat) ≤ 90) → (((48 ≤ (I 61 x.toNat) ∧ (I 61 x.toNat) ≤ 57) → (((4 < (w32 (y - x))) → (Q (some (vi 22)) (I, J, PP b))) ∧ (¬ (4 < (w32 (y - x))) → (Q (some (vi 20)) (I, J, PP b))))) ∧ (¬ (48 ≤ (I 61 x.toNat) ∧ (I 61 x.toNat) ≤ 57) → ((((I 61 x.toNat) ≤ 0) → (Q (some (vi 22)) (I, J, PP b))) ∧ (¬ ((I 61 x.toNat) ≤ 0) → (TriM G h 11 119 119 [vr 2002, vi (i2c (I 61 x.toNat))] (I, J, PP b) (cIN fun r2 I2 J2 b2 => (((r2 < 0) → (Q (some (vi 22)) (I2, J2, PP b2))) ∧ (¬ (r2 < 0) → (Q (some (vi (I 61 x.toNat))) (I2, J2, PP b2))))))))))))) : Tri G h 65 119 119 0 [some (vr 61), some (vi x), some (vi y), some (vr 2000)] [] (I, J, PP b) Q := wp_at ck65 [] 400 (And.intro H.1 (sx174 (by omega)  (fun q1789 => And.intro (fun z => absurd z (show ¬ ((1 : Int) = (0 : Int)) by decide)) (fun _ => cIN_go (H.2.1 q1789) (fun r1 I1 J1 b1 q1791 => q1791))) (fun q1790 => And.intro (fun _ => sx175 (by omega)  (fun q1792 => And.intro (fun z => absurd z (show ¬ ((1 : Int) = (0 : Int)) by decide)) (fun _ => (H.2.2 q1790).1 q1792)) (fun q1793 => And.intro (fun _ => And.intro (fun q1794 => ((H.2.2 q1790).2 q1793).1 q1794) (fun q1795 => cIN_go (((H.2.2 q1790).2 q1793).2 q1795) (fun r2 I2 J2 b2 q1796 => q1796))) (fun z => absurd (show (0 : Int) = (0 : Int) by decide) z))) (fun z => absurd (show (0 : Int) = (0 : Int) by decide) z))))
theorem x65_0_m {G : Ctx} {h : Nat} {Q : MP} {I : Nat → Nat → Int} {J : Nat → Nat → BitVec 64} {b : B3} {x y : Int} (hh : 6 ≤ h) (H : ∀ h, 5 ≤ h → Tri G h 65 119 119 0 [some (vr 61), some (vi x), some (vi y), some (vr 2000)] [] (I, J, PP b) Q) : TriM G h 65 119 119 [vr 61, vi x, vi y, vr 2000] (I, J, PP b) Q := TriM_intro (h - 1) (by omega) (by decide) (Nat.le_of_ble_eq_true rfl) (Nat.le_refl _) (Nat.le_refl _) (H (h - 1) (by omega))
set_option maxRecDepth 100000 in
theorem x65_1 {G : Ctx} {h : Nat} {Q : MP} {I : Nat → Nat → Int} {J : Nat → Nat → BitVec 64} {b : B3} {x y : Int} (hh : 5 ≤ h) (H : (0 ≤ x ∧ x < (400 : Int)) ∧ (((97 ≤ (I 61 x.toNat) ∧ (I 61 x.toNat) ≤ 122 ∨ 65 ≤ (I 61 x.toNat) ∧ (I 61 x.toNat) ≤ 90) → (TriM G h 66 119 119 [vr 61, vi x, vi y, vr 2001] (I, J, PP b) (cIN fun r1 I1 J1 b1 => (Q (some (vi r1)) (I1, J1, PP b1))))) ∧ (¬ (97 ≤ (I 61 x.toNat) ∧ (I 61 x.toNat) ≤ 122 ∨ 65 ≤ (I 61 x.toNat) ∧ (I 61 x.toNat) ≤ 90) → (((48 ≤ (I 61 x.toNat) ∧ (I 61 x.toNat) ≤ 57) → (((4 < (w32 (y - x))) → (Q (some (vi 22)) (I, J, PP b))) ∧ (¬ (4 < (w32 (y - x))) → (Q (some (vi 20)) (I, J, PP b))))) ∧ (¬ (48 ≤ (I 61 x.toNat) ∧ (I 61 x.toNat) ≤ 57) → ((((I 61 x.toNat) ≤ 0) → (Q (some (vi 22)) (I, J, PP b))) ∧ (¬ ((I 61 x.toNat) ≤ 0) → (TriM G h 11 119 119 [vr 2002, vi (i2c (I 61 x.toNat))] (I, J, PP b) (cIN fun r2 I2 J2 b2 => (((r2 < 0) → (Q (some (vi 22)) (I2, J2, PP b2))) ∧ (¬ (r2 < 0) → (Q (some (vi (I 61 x.toNat))) (I2, J2, PP b2))))))))))))) : Tri G h 65 119 119 0 [some (vr 61), some (vi x), some (vi y), some (vr 2001)] [] (I, J, PP b) Q := wp_at ck65 [] 400 (And.intro H.1 (sx174 (by omega)  (fun q1797 => And.intro (fun z => absurd z (show ¬ ((1 : Int) = (0 : Int)) by decide)) (fun _ => cIN_go (H.2.1 q1797) (fun r1 I1 J1 b1 q1799 => q1799))) (fun q1798 => And.intro (fun _ => sx175 (by omega)  (fun q1800 => And.intro (fun z => absurd z (show ¬ ((1 : Int) = (0 : Int)) by decide)) (fun _ => (H.2.2 q1798).1 q1800)) (fun q1801 => And.intro (fun _ => And.intro (fun q1802 => ((H.2.2 q1798).2 q1801).1 q1802) (fun q1803 => cIN_go (((H.2.2 q1798).2 q1801).2 q1803) (fun r2 I2 J2 b2 q1804 => q1804))) (fun z => absurd (show (0 : Int) = (0 : Int) by decide) z))) (fun z => absurd (show (0 : Int) = (0 : Int) by decide) z))))
theorem x65_1_m {G : Ctx} {h : Nat} {Q : MP} {I : Nat → Nat → Int} {J : Nat → Nat → BitVec 64} {b : B3} {x y : Int} (hh : 6 ≤ h) (H : ∀ h, 5 ≤ h → Tri G h 65 119 119 0 [some (vr 61), some (vi x), some (vi y), some (vr 2001)] [] (I, J, PP b) Q) : TriM G h 65 119 119 [vr 61, vi x, vi y, vr 2001] (I, J, PP b) Q := TriM_intro (h - 1) (by omega) (by decide) (Nat.le_of_ble_eq_true rfl) (Nat.le_refl _) (Nat.le_refl _) (H (h - 1) (by omega))
set_option maxRecDepth 100000 in
theorem x63_0 {G : Ctx} {h : Nat} {Q : MP} {I : Nat → Nat → Int} {J : Nat → Nat → BitVec 64} {b : B3} {x : Int} (hh : 1 ≤ h) (H : Tri G h 63 119 119 33 [some (vr 62), some (vr 61), none, none, some (vr 2000), some (vi (min x (400 : Int))), some (vi 0), some (vi 0)] [] (u2 I 62 8 0, J, PP b) Q) : Tri G h 63 119 119 0 [some (vr 62), some (vr 61), some (vi x), some (vi 1)] [] (I, J, PP b) Q := wp_at ck63 [(33, [true, true, false, false, true, true, true, true])] 400 (And.intro (fun z => absurd z (show ¬ ((1 : Int) = (0 : Int)) by decide)) (fun _ => sx3 (by omega)  H))
set_option maxRecDepth 100000 in
theorem x63_0_33 {G : Ctx} {h : Nat} {Q : MP} {I : Nat → Nat → Int} {J : Nat → Nat → BitVec 64} {b : B3} {l5 l6 l7 : Int} (hh : 6 ≤ h) (H : ((400 ≤ l7) → ((0 ≤ (I 62 8) ∧ (I 62 8) < (401 : Int)) ∧ ((0 ≤ (I 62 8) ∧ (I 62 8) < (401 : Int)) ∧ (Q none (u2 (u2 I 65 ((I 62 8).toNat) l5) 64 ((I 62 8).toNat) 21, J, PP b))))) ∧ (¬ (400 ≤ l7) → (((l5 ≤ l6) → ((0 ≤ (I 62 8) ∧ (I 62 8) < (401 : Int)) ∧ ((0 ≤ (I 62 8) ∧ (I 62 8) < (401 : Int)) ∧ (Q none (u2 (u2 I 65 ((I 62 8).toNat) l5) 64 ((I 62 8).toNat) 21, J, PP b))))) ∧ (¬ (l5 ≤ l6) → (TriM G h 64 119 119 [vr 61, vi l6, vi l5] (I, J, PP b) (cIN fun r1 I1 J1 b1 => ((0 ≤ l6 ∧ l6 < (400 : Int)) ∧ ((((I1 61 l6.toNat) = 32) → (Tri G h 63 119 119 33 [some (vr 62), some (vr 61), none, none, some (vr 2000), some (vi l5), some (vi r1), some (vi (w32 (l7 + 1)))] [] (I1, J1, PP b1) Q)) ∧ (¬ ((I1 61 l6.toNat) = 32) → ((0 ≤ l6 ∧ l6 < (400 : Int)) ∧ ((((I1 61 l6.toNat) = 10) → (Tri G h 63 119 119 33 [some (vr 62), some (vr 61), none, none, some (vr 2000), some (vi l5), some (vi r1), some (vi (w32 (l7 + 1)))] [] (I1, J1, PP b1) Q)) ∧ (¬ ((I1 61 l6.toNat) = 10) → ((0 ≤ (I1 62 8) ∧ (I1 62 8) < (401 : Int)) ∧ (TriM G h 67 119 119 [vr 61, vi l6, vi r1] (u2 I1 65 ((I1 62 8).toNat) l6, J1, PP b1) (cIN fun r2 I2 J2 b2 => ((0 ≤ (I1 62 8) ∧ (I1 62 8) < (401 : Int)) ∧ (TriM G h 65 119 119 [vr 61, vi l6, vi r1, vr 2000] (u2 I2 66 ((I1 62 8).toNat) r2, J2, PP b2) (cIN fun r3 I3 J3 b3 => ((0 ≤ (I2 62 8) ∧ (I2 62 8) < (401 : Int)) ∧ (Tri G h 63 119 119 33 [some (vr 62), some (vr 61), none, none, some (vr 2000), some (vi l5), some (vi r1), some (vi (w32 (l7 + 1)))] [] (u2 (u2 I3 64 ((I2 62 8).toNat) r3) 62 8 (w32 ((I3 62 8) + 1)), J3, PP b3) Q)))))))))))))))))))) : Tri G h 63 119 119 33 [some (vr 62), some (vr 61), none, none, some (vr 2000), some (vi l5), some (vi l6), some (vi l7)] [] (I, J, PP b) Q := wp_at ck63 [(33, [true, true, false, false, true, true, true, true])] 400 (And.intro (fun q1805 => H.1 q1805) (fun q1806 => And.intro (fun q1807 => (H.2 q1806).1 q1807) (fun q1808 => cIN_go ((H.2 q1806).2 q1808) (fun r1 I1 J1 b1 q1809 => And.intro q1809.1 (And.intro (fun q1810 => q1809.2.1 q1810) (fun q1811 => And.intro (q1809.2.2 q1811).1 (And.intro (fun q1812 => ((q1809.2.2 q1811).2).1 q1812) (fun q1813 => And.intro (((q1809.2.2 q1811).2).2 q1813).1 (cIN_go ((((q1809.2.2 q1811).2).2 q1813).2) (fun r2 I2 J2 b2 q1814 => And.intro q1814.1 (cIN_go q1814.2 (fun r3 I3 J3 b3 q1815 => q1815))))))))))))
theorem x63_0_m {G : Ctx} {h : Nat} {Q : MP} {I : Nat → Nat → Int} {J : Nat → Nat → BitVec 64} {b : B3} {x : Int} (hh : 7 ≤ h) (H : ∀ h, 6 ≤ h → Tri G h 63 119 119 0 [some (vr 62), some (vr 61), some (vi x), some (vi 1)] [] (I, J, PP b) Q) : TriM G h 63 119 119 [vr 62, vr 61, vi x, vi 1] (I, J, PP b) Q := TriM_intro (h - 1) (by omega) (by decide) (Nat.le_of_ble_eq_true rfl) (Nat.le_refl _) (Nat.le_refl _) (H (h - 1) (by omega))
set_option maxRecDepth 100000 in
theorem x63_1 {G : Ctx} {h : Nat} {Q : MP} {I : Nat → Nat → Int} {J : Nat → Nat → BitVec 64} {b : B3} {x : Int} (hh : 1 ≤ h) (H : Tri G h 63 119 119 33 [some (vr 62), some (vr 61), none, none, some (vr 2001), some (vi (min x (400 : Int))), some (vi 0), some (vi 0)] [] (u2 I 62 8 0, J, PP b) Q) : Tri G h 63 119 119 0 [some (vr 62), some (vr 61), some (vi x), some (vi 0)] [] (I, J, PP b) Q := wp_at ck63 [(33, [true, true, false, false, true, true, true, true])] 400 (And.intro (fun _ => sx3 (by omega)  H) (fun z => absurd (show (0 : Int) = (0 : Int) by decide) z))
set_option maxRecDepth 100000 in
theorem x63_1_33 {G : Ctx} {h : Nat} {Q : MP} {I : Nat → Nat → Int} {J : Nat → Nat → BitVec 64} {b : B3} {l5 l6 l7 : Int} (hh : 6 ≤ h) (H : ((400 ≤ l7) → ((0 ≤ (I 62 8) ∧ (I 62 8) < (401 : Int)) ∧ ((0 ≤ (I 62 8) ∧ (I 62 8) < (401 : Int)) ∧ (Q none (u2 (u2 I 65 ((I 62 8).toNat) l5) 64 ((I 62 8).toNat) 21, J, PP b))))) ∧ (¬ (400 ≤ l7) → (((l5 ≤ l6) → ((0 ≤ (I 62 8) ∧ (I 62 8) < (401 : Int)) ∧ ((0 ≤ (I 62 8) ∧ (I 62 8) < (401 : Int)) ∧ (Q none (u2 (u2 I 65 ((I 62 8).toNat) l5) 64 ((I 62 8).toNat) 21, J, PP b))))) ∧ (¬ (l5 ≤ l6) → (TriM G h 64 119 119 [vr 61, vi l6, vi l5] (I, J, PP b) (cIN fun r1 I1 J1 b1 => ((0 ≤ l6 ∧ l6 < (400 : Int)) ∧ ((((I1 61 l6.toNat) = 32) → (Tri G h 63 119 119 33 [some (vr 62), some (vr 61), none, none, some (vr 2001), some (vi l5), some (vi r1), some (vi (w32 (l7 + 1)))] [] (I1, J1, PP b1) Q)) ∧ (¬ ((I1 61 l6.toNat) = 32) → ((0 ≤ l6 ∧ l6 < (400 : Int)) ∧ ((((I1 61 l6.toNat) = 10) → (Tri G h 63 119 119 33 [some (vr 62), some (vr 61), none, none, some (vr 2001), some (vi l5), some (vi r1), some (vi (w32 (l7 + 1)))] [] (I1, J1, PP b1) Q)) ∧ (¬ ((I1 61 l6.toNat) = 10) → ((0 ≤ (I1 62 8) ∧ (I1 62 8) < (401 : Int)) ∧ (TriM G h 67 119 119 [vr 61, vi l6, vi r1] (u2 I1 65 ((I1 62 8).toNat) l6, J1, PP b1) (cIN fun r2 I2 J2 b2 => ((0 ≤ (I1 62 8) ∧ (I1 62 8) < (401 : Int)) ∧ (TriM G h 65 119 119 [vr 61, vi l6, vi r1, vr 2001] (u2 I2 66 ((I1 62 8).toNat) r2, J2, PP b2) (cIN fun r3 I3 J3 b3 => ((0 ≤ (I2 62 8) ∧ (I2 62 8) < (401 : Int)) ∧ (Tri G h 63 119 119 33 [some (vr 62), some (vr 61), none, none, some (vr 2001), some (vi l5), some (vi r1), some (vi (w32 (l7 + 1)))] [] (u2 (u2 I3 64 ((I2 62 8).toNat) r3) 62 8 (w32 ((I3 62 8) + 1)), J3, PP b3) Q)))))))))))))))))))) : Tri G h 63 119 119 33 [some (vr 62), some (vr 61), none, none, some (vr 2001), some (vi l5), some (vi l6), some (vi l7)] [] (I, J, PP b) Q := wp_at ck63 [(33, [true, true, false, false, true, true, true, true])] 400 (And.intro (fun q1816 => H.1 q1816) (fun q1817 => And.intro (fun q1818 => (H.2 q1817).1 q1818) (fun q1819 => cIN_go ((H.2 q1817).2 q1819) (fun r1 I1 J1 b1 q1820 => And.intro q1820.1 (And.intro (fun q1821 => q1820.2.1 q1821) (fun q1822 => And.intro (q1820.2.2 q1822).1 (And.intro (fun q1823 => ((q1820.2.2 q1822).2).1 q1823) (fun q1824 => And.intro (((q1820.2.2 q1822).2).2 q1824).1 (cIN_go ((((q1820.2.2 q1822).2).2 q1824).2) (fun r2 I2 J2 b2 q1825 => And.intro q1825.1 (cIN_go q1825.2 (fun r3 I3 J3 b3 q1826 => q1826))))))))))))
theorem x63_1_m {G : Ctx} {h : Nat} {Q : MP} {I : Nat → Nat → Int} {J : Nat → Nat → BitVec 64} {b : B3} {x : Int} (hh : 7 ≤ h) (H : ∀ h, 6 ≤ h → Tri G h 63 119 119 0 [some (vr 62), some (vr 61), some (vi x), some (vi 0)] [] (I, J, PP b) Q) : TriM G h 63 119 119 [vr 62, vr 61, vi x, vi 0] (I, J, PP b) Q := TriM_intro (h - 1) (by omega) (by decide) (Nat.le_of_ble_eq_true rfl) (Nat.le_refl _) (Nat.le_refl _) (H (h - 1) (by omega))
/-! the tape's bytes as the class has them -/
def TP (f : Nat → Int) (n : Nat) (I : MI) : Prop := n ≤ 400 ∧ ∀ i, i < n → (0 ≤ f i ∧ f i < 256) ∧ I 61 i = if f i < 128 then f i else f i - 256
theorem TP.L {f : Nat → Int} {n : Nat} {I : MI} (h : TP f n I) {i : Nat} (hi : i < n) : (97 ≤ I 61 i ∧ I 61 i ≤ 122 ∨ 65 ≤ I 61 i ∧ I 61 i ≤ 90) ↔ isLb (f i) = true := by
  have := h.2 i hi
  rw [isLb_iff, this.2]
  split <;> omega
theorem TP.D {f : Nat → Int} {n : Nat} {I : MI} (h : TP f n I) {i : Nat} (hi : i < n) : (48 ≤ I 61 i ∧ I 61 i ≤ 57) ↔ isDb (f i) = true := by
  have := h.2 i hi
  rw [isDb_iff, this.2]
  split <;> omega
theorem TP.E {f : Nat → Int} {n : Nat} {I : MI} (h : TP f n I) {i : Nat} (hi : i < n) {c : Int} (hc : 0 ≤ c ∧ c < 128) : I 61 i = c ↔ f i = c := by
  have := h.2 i hi
  rw [this.2]
  split <;> omega
theorem TP.k {S : List Nat} {f : Nat → Int} {n : Nat} {I I' : MI} (h : TP f n I) (hf : frK S I I') (hS : 61 ∉ S) : TP f n I' := ⟨h.1, fun i hi => by rw [hf 61 hS]; exact h.2 i hi⟩
theorem i2c_id {x : Int} (h1 : 0 ≤ x) (h2 : x < 128) : i2c x = x := by
  have : ∀ k : Nat, k < 128 → i2c (k : Int) = k := by decide +kernel
  have h3 := this x.toNat (by omega)
  rw [show ((x.toNat : Nat) : Int) = x by omega] at h3
  exact h3
theorem kdT_dg {f : Nat → Int} {home : Bool} {n i : Nat} (h : i < n) (hk : kdT f home i (tEnd f n i) = 20) : ∀ j, i ≤ j → j < tEnd f n i → 48 ≤ f j ∧ f j ≤ 57 := by
  have hD : isDb (f i) = true ∧ ¬ isLb (f i) = true := by
    unfold kdT at hk
    split at hk
    · exfalso
      unfold kwV at hk
      cases home with
      | true =>
        rw [if_pos rfl] at hk
        have := kwF_r (f := f) (i := i) (e := tEnd f n i) homeW 0
        rw [show homeW.length = 11 from rfl] at this
        omega
      | false =>
        rw [if_neg (by decide)] at hk
        have := kwF_r (f := f) (i := i) (e := tEnd f n i) likeW 0
        rw [show likeW.length = 13 from rfl] at this
        omega
    · next hL =>
      split at hk
      · next hD => exact ⟨hD, hL⟩
      · exfalso
        unfold kdS at hk
        split at hk <;> omega
  have hr := run_b (P := isDb) (f := f) (n := n) (n - i) i (by omega)
  rw [← tEnd_D h hD.2 hD.1] at hr
  exact fun j h1 h2 => isDb_iff.1 (hr.2.2 j h1 h2)
section TOKC
variable {G : Ctx} {h : Nat} {I : MI} {J : MJ} {b : B3} {f : Nat → Int} {n i : Nat} {home : Bool}
theorem s64 {K : Int → MI → MJ → B3 → Prop} (hh : 3 ≤ h) (hT : TP f n I) (hi : i < n) (k : K (tEnd f n i : Nat) I J b) : TriM G h 64 119 119 [vr 61, vi (i : Int), vi (n : Int)] (I, J, PP b) (cIN K) := by
  have hn := hT.1
  have lL : ∀ h, 2 ≤ h → K (run isLb f n (i + 1) : Nat) I J b → ∀ m j : Nat, j + m = n → run isLb f n j = run isLb f n (i + 1) → Tri G h 64 119 119 20 [some (vr 61), none, some (vi (n : Int)), some (vi 1), some (vi 0), some (vi (j : Int))] [] (I, J, PP b) (cIN K) := by
    intro h hh kk m
    induction m with
    | zero =>
      intro j hj hr
      rw [run_n (by omega)] at hr
      refine x64_20 hh ⟨fun _ => cIN_r fun _ => ?_, fun q => by omega⟩
      rw [hr]
      exact kk
    | succ m ih =>
      intro j hj hr
      refine x64_20 hh ⟨fun q => by omega, fun _ => ⟨fun q => absurd q (by decide), fun _ => ⟨by omega, fun q => ?_, fun q => ⟨fun _ => cIN_r fun _ => ?_, fun q => absurd rfl q⟩⟩⟩⟩
      · rw [toN, hT.L (by omega)] at q
        rw [w32_id (by omega) (by omega)]
        exact ih (j + 1) (by omega) (by rw [← hr, run_y (by omega) q])
      · rw [toN, hT.L (by omega)] at q
        rw [run_n (fun z => q z.2)] at hr
        rw [hr]
        exact kk
  have lD : ∀ h, 2 ≤ h → K (run isDb f n (i + 1) : Nat) I J b → ∀ m j : Nat, j + m = n → run isDb f n j = run isDb f n (i + 1) → Tri G h 64 119 119 20 [some (vr 61), none, some (vi (n : Int)), some (vi 0), some (vi 1), some (vi (j : Int))] [] (I, J, PP b) (cIN K) := by
    intro h hh kk m
    induction m with
    | zero =>
      intro j hj hr
      rw [run_n (by omega)] at hr
      refine x64_20 hh ⟨fun _ => cIN_r fun _ => ?_, fun q => by omega⟩
      rw [hr]
      exact kk
    | succ m ih =>
      intro j hj hr
      refine x64_20 hh ⟨fun q => by omega, fun _ => ⟨fun _ => ⟨fun q => absurd q (by decide), fun _ => ⟨by omega, fun q => ?_, fun q => cIN_r fun _ => ?_⟩⟩, fun q => absurd rfl q⟩⟩
      · rw [toN, hT.D (by omega)] at q
        rw [w32_id (by omega) (by omega)]
        exact ih (j + 1) (by omega) (by rw [← hr, run_y (by omega) q])
      · rw [toN, hT.D (by omega)] at q
        rw [run_n (fun z => q z.2)] at hr
        rw [hr]
        exact kk
  refine x64_m hh (fun h hh => x64 (by omega) ?_)
  rw [toN, hT.L hi, hT.D hi, w32_id (by omega) (by omega)]
  unfold tEnd at k
  refine ⟨by omega, fun q1 => ⟨by omega, fun q2 => ?_, fun q2 => ?_⟩, fun q1 => ⟨by omega, fun q2 => ?_, fun q2 => ?_⟩⟩
  · rw [isLb_iff] at q1
    rw [isDb_iff] at q2
    omega
  · rw [if_pos q1] at k
    exact lL h hh k (n - (i + 1)) (i + 1) (by omega) rfl
  · rw [if_neg q1, if_pos q2] at k
    exact lD h hh k (n - (i + 1)) (i + 1) (by omega) rfl
  · rw [if_neg q1, if_neg q2] at k
    exact x64_20 hh ⟨fun _ => cIN_r fun _ => k, fun _ => ⟨fun _ => ⟨fun _ => cIN_r fun _ => k, fun q => absurd rfl q⟩, fun q => absurd rfl q⟩⟩
theorem s67 {K : Int → MI → MJ → B3 → Prop} {e : Nat} (hh : 1 ≤ h) (hT : TP f n I) (hie : i < e) (he : e ≤ n) (k : ∀ v : Int, ((∀ j, i ≤ j → j < e → 48 ≤ f j ∧ f j ≤ 57) → v = numV f (min (e - i) 4) i 0) → K v I J b) : TriM G h 67 119 119 [vr 61, vi (i : Int), vi (e : Int)] (I, J, PP b) (cIN K) := by
  have hn := hT.1
  have loop : ∀ h (m j : Nat) (v : Int), j + m = min e (i + 4) → i ≤ j → ((∀ j, i ≤ j → j < e → 48 ≤ f j ∧ f j ≤ 57) → numV f m j v = numV f (min (e - i) 4) i 0 ∧ 0 ≤ v ∧ (v < 1 ∨ (v < 10 ∧ i + 1 ≤ j) ∨ (v < 100 ∧ i + 2 ≤ j) ∨ (v < 1000 ∧ i + 3 ≤ j) ∨ (v < 10000 ∧ i + 4 ≤ j))) → Tri G h 67 119 119 5 [some (vr 61), some (vi (i : Int)), some (vi (e : Int)), some (vi v), some (vi (j : Int))] [] (I, J, PP b) (cIN K) := by
    intro h m
    induction m with
    | zero =>
      intro j v hj hij hv
      have fin : cIN K (some (vi v)) (I, J, PP b) := cIN_r fun _ => k v (fun z => (hv z).1)
      refine x67_5 (Nat.zero_le _) ⟨fun _ => fin, fun q => ?_⟩
      rw [w32_id (by omega) (by omega)]
      exact ⟨fun _ => fin, fun q2 => by omega⟩
    | succ m ih =>
      intro j v hj hij hv
      refine x67_5 (Nat.zero_le _) ⟨fun q => by omega, fun _ => ?_⟩
      rw [w32_id (x := (i : Int) + 4) (by omega) (by omega), w32_id (x := (j : Int) + 1) (by omega) (by omega)]
      refine ⟨fun q => by omega, fun _ => ⟨by omega, ih (j + 1) _ (by omega) (by omega) (fun z => ?_)⟩⟩
      obtain ⟨z1, z2, z3⟩ := hv z
      have hj2 := z j hij (by omega)
      have e61 : I 61 j = f j := by
        rw [(hT.2 j (by omega)).2, if_pos (by omega)]
      rw [toN, e61, w32_id (x := v * 10) (by omega) (by omega), w32_id (x := f j - 48) (by omega) (by omega), w32_id (by omega) (by omega)]
      refine ⟨?_, by omega, by omega⟩
      rw [← z1]
      show _ = numV f m (j + 1) (10 * v + (f j - 48))
      rw [Int.mul_comm]
  refine x67_m hh (fun h hh => x67 (Nat.zero_le _) (loop h (min (e - i) 4) i 0 (by omega) (Nat.le_refl _) (fun z => ⟨rfl, by omega, Or.inl (by omega)⟩)))
/-! keywords in a row of words -/
def kSi (f : Nat → Int) (a e q : Nat) : Nat → Nat → Int → Nat → Int
  | 0, _, p, x => if x = e then p else 22
  | m + 1, i, p, x => if stC q i = 32 then (if x = e then p else kSi f a e q m (i + 1) (p + 1) a) else kSi f a e q m (i + 1) p (if x < e ∧ f x = stC q i then x + 1 else e + 1)
def wrd (f : Nat → Int) (e : Nat) : List Int → Nat → Nat
  | [], x => x
  | c :: r, x => wrd f e r (if x < e ∧ f x = c then x + 1 else e + 1)
theorem wrd_d {e : Nat} : ∀ w, wrd f e w (e + 1) = e + 1
  | [] => rfl
  | c :: r => by
    show wrd f e r (if e + 1 < e ∧ f (e + 1) = c then e + 1 + 1 else e + 1) = _
    rw [if_neg (by omega)]
    exact wrd_d r
theorem wrd_q {e : Nat} : ∀ (w : List Int) (x : Nat), x ≤ e → (wrd f e w x = e ↔ wq f e x w = true)
  | [], x, _ => by
    show x = e ↔ decide (x = e) = true
    rw [decide_eq_true_eq]
  | c :: r, x, hx => by
    show wrd f e r (if x < e ∧ f x = c then x + 1 else e + 1) = e ↔ (decide (x < e) && (decide (f x = c) && wq f e (x + 1) r)) = true
    by_cases h : x < e ∧ f x = c
    · rw [if_pos h, wrd_q r (x + 1) (by omega), decide_eq_true h.1, decide_eq_true h.2, Bool.true_and, Bool.true_and]
    · rw [if_neg h, wrd_d]
      simp only [Bool.and_eq_true, decide_eq_true_eq]
      exact ⟨fun z => by omega, fun z => absurd ⟨z.1, z.2.1⟩ h⟩
theorem kSi_w {a e q m : Nat} : ∀ (w : List Int) (i : Nat) (p : Int) (x : Nat), (∀ k c, w[k]? = some c → stC q (i + k) = c ∧ c ≠ 32) → kSi f a e q (w.length + m) i p x = kSi f a e q m (i + w.length) p (wrd f e w x)
  | [], i, p, x, _ => by
    rw [show ([] : List Int).length + m = m by simp]
    rfl
  | c :: r, i, p, x, h => by
    have h0 := h 0 c rfl
    rw [Nat.add_zero] at h0
    rw [show (c :: r).length + m = (r.length + m) + 1 by simp; omega]
    show (if stC q i = 32 then _ else kSi f a e q (r.length + m) (i + 1) p (if x < e ∧ f x = stC q i then x + 1 else e + 1)) = _
    rw [if_neg (by rw [h0.1]; exact h0.2), h0.1, kSi_w r (i + 1) p _ (fun k c' hc => by
      have := h (k + 1) c' hc
      rw [show i + (k + 1) = i + 1 + k by omega] at this
      exact this), show i + (c :: r).length = i + 1 + r.length by simp; omega]
    rfl
theorem kSi_s {a e q m : Nat} {w : List Int} {i : Nat} {p : Int} (ha : a ≤ e) (h : ∀ k c, w[k]? = some c → stC q (i + k) = c ∧ c ≠ 32) (hs : stC q (i + w.length) = 32) : kSi f a e q (w.length + (m + 1)) i p a = if wq f e a w = true then p else kSi f a e q m (i + w.length + 1) (p + 1) a := by
  rw [kSi_w w i p a h]
  show (if stC q (i + w.length) = 32 then (if wrd f e w a = e then p else _) else _) = _
  rw [if_pos hs]
  by_cases z : wq f e a w = true
  · rw [if_pos z, if_pos ((wrd_q w a ha).2 z)]
  · rw [if_neg z, if_neg (fun y => z ((wrd_q w a ha).1 y))]
theorem kSi_e {a e q : Nat} {w : List Int} {i : Nat} {p : Int} (ha : a ≤ e) (h : ∀ k c, w[k]? = some c → stC q (i + k) = c ∧ c ≠ 32) : kSi f a e q w.length i p a = if wq f e a w = true then p else 22 := by
  have := kSi_w (f := f) (a := a) (e := e) (q := q) (m := 0) w i p a h
  rw [Nat.add_zero] at this
  rw [this]
  show (if wrd f e w a = e then p else 22) = _
  by_cases z : wq f e a w = true
  · rw [if_pos z, if_pos ((wrd_q w a ha).2 z)]
  · rw [if_neg z, if_neg (fun y => z ((wrd_q w a ha).1 y))]
theorem chW {q i : Nat} {w : List Int} (h : (List.range w.length).all (fun k => decide (stC q (i + k) = w.getD k 0) && decide (w.getD k 0 ≠ 32)) = true) : ∀ k c, w[k]? = some c → stC q (i + k) = c ∧ c ≠ 32 := by
  intro k c hc
  have hk : k < w.length := by
    rw [List.getElem?_eq_some_iff] at hc
    exact hc.1
  have := List.all_eq_true.1 h k (List.mem_range.2 hk)
  rw [Bool.and_eq_true, decide_eq_true_eq, decide_eq_true_eq, List.getD_eq_getElem?_getD, hc] at this
  exact this
theorem kSi_0 {a e : Nat} (ha : a ≤ e) : kSi f a e 0 53 0 0 a = kwF f a e homeW 0 := by
  have e0 : kSi f a e 0 53 0 (0) a = if wq f e a [104, 111, 109, 101] = true then (0) else kSi f a e 0 48 5 (0 + 1) a := kSi_s (w := [104, 111, 109, 101]) (m := 48) (i := 0) ha (chW (by decide +kernel)) (by decide +kernel)
  have e1 : kSi f a e 0 48 5 (0 + 1) a = if wq f e a [97, 119, 97, 121] = true then (0 + 1) else kSi f a e 0 43 10 (0 + 1 + 1) a := kSi_s (w := [97, 119, 97, 121]) (m := 43) (i := 5) ha (chW (by decide +kernel)) (by decide +kernel)
  have e2 : kSi f a e 0 43 10 (0 + 1 + 1) a = if wq f e a [119, 104, 101, 110] = true then (0 + 1 + 1) else kSi f a e 0 38 15 (0 + 1 + 1 + 1) a := kSi_s (w := [119, 104, 101, 110]) (m := 38) (i := 10) ha (chW (by decide +kernel)) (by decide +kernel)
  have e3 : kSi f a e 0 38 15 (0 + 1 + 1 + 1) a = if wq f e a [111, 114] = true then (0 + 1 + 1 + 1) else kSi f a e 0 35 18 (0 + 1 + 1 + 1 + 1) a := kSi_s (w := [111, 114]) (m := 35) (i := 15) ha (chW (by decide +kernel)) (by decide +kernel)
  have e4 : kSi f a e 0 35 18 (0 + 1 + 1 + 1 + 1) a = if wq f e a [97, 110, 100] = true then (0 + 1 + 1 + 1 + 1) else kSi f a e 0 31 22 (0 + 1 + 1 + 1 + 1 + 1) a := kSi_s (w := [97, 110, 100]) (m := 31) (i := 18) ha (chW (by decide +kernel)) (by decide +kernel)
  have e5 : kSi f a e 0 31 22 (0 + 1 + 1 + 1 + 1 + 1) a = if wq f e a [110, 111, 116] = true then (0 + 1 + 1 + 1 + 1 + 1) else kSi f a e 0 27 26 (0 + 1 + 1 + 1 + 1 + 1 + 1) a := kSi_s (w := [110, 111, 116]) (m := 27) (i := 22) ha (chW (by decide +kernel)) (by decide +kernel)
  have e6 : kSi f a e 0 27 26 (0 + 1 + 1 + 1 + 1 + 1 + 1) a = if wq f e a [104, 111, 117, 114] = true then (0 + 1 + 1 + 1 + 1 + 1 + 1) else kSi f a e 0 22 31 (0 + 1 + 1 + 1 + 1 + 1 + 1 + 1) a := kSi_s (w := [104, 111, 117, 114]) (m := 22) (i := 26) ha (chW (by decide +kernel)) (by decide +kernel)
  have e7 : kSi f a e 0 22 31 (0 + 1 + 1 + 1 + 1 + 1 + 1 + 1) a = if wq f e a [100, 97, 121] = true then (0 + 1 + 1 + 1 + 1 + 1 + 1 + 1) else kSi f a e 0 18 35 (0 + 1 + 1 + 1 + 1 + 1 + 1 + 1 + 1) a := kSi_s (w := [100, 97, 121]) (m := 18) (i := 31) ha (chW (by decide +kernel)) (by decide +kernel)
  have e8 : kSi f a e 0 18 35 (0 + 1 + 1 + 1 + 1 + 1 + 1 + 1 + 1) a = if wq f e a [115, 116, 114, 101, 101, 116] = true then (0 + 1 + 1 + 1 + 1 + 1 + 1 + 1 + 1) else kSi f a e 0 11 42 (0 + 1 + 1 + 1 + 1 + 1 + 1 + 1 + 1 + 1) a := kSi_s (w := [115, 116, 114, 101, 101, 116]) (m := 11) (i := 35) ha (chW (by decide +kernel)) (by decide +kernel)
  have e9 : kSi f a e 0 11 42 (0 + 1 + 1 + 1 + 1 + 1 + 1 + 1 + 1 + 1) a = if wq f e a [110, 117, 109, 98, 101, 114] = true then (0 + 1 + 1 + 1 + 1 + 1 + 1 + 1 + 1 + 1) else kSi f a e 0 4 49 (0 + 1 + 1 + 1 + 1 + 1 + 1 + 1 + 1 + 1 + 1) a := kSi_s (w := [110, 117, 109, 98, 101, 114]) (m := 4) (i := 42) ha (chW (by decide +kernel)) (by decide +kernel)
  have e10 : kSi f a e 0 4 49 (0 + 1 + 1 + 1 + 1 + 1 + 1 + 1 + 1 + 1 + 1) a = if wq f e a [107, 105, 110, 100] = true then (0 + 1 + 1 + 1 + 1 + 1 + 1 + 1 + 1 + 1 + 1) else 22 := kSi_e (w := [107, 105, 110, 100]) (i := 49) ha (chW (by decide +kernel))
  rw [e0, e1, e2, e3, e4, e5, e6, e7, e8, e9, e10]
  rfl
theorem kSi_1 {a e : Nat} (ha : a ≤ e) : kSi f a e 1 62 0 0 a = kwF f a e likeW 0 := by
  have e0 : kSi f a e 1 62 0 (0) a = if wq f e a [108, 105, 107, 101] = true then (0) else kSi f a e 1 57 5 (0 + 1) a := kSi_s (w := [108, 105, 107, 101]) (m := 57) (i := 0) ha (chW (by decide +kernel)) (by decide +kernel)
  have e1 : kSi f a e 1 57 5 (0 + 1) a = if wq f e a [45] = true then (0 + 1) else kSi f a e 1 55 7 (0 + 1 + 1) a := kSi_s (w := [45]) (m := 55) (i := 5) ha (chW (by decide +kernel)) (by decide +kernel)
  have e2 : kSi f a e 1 55 7 (0 + 1 + 1) a = if wq f e a [119, 104, 101, 110] = true then (0 + 1 + 1) else kSi f a e 1 50 12 (0 + 1 + 1 + 1) a := kSi_s (w := [119, 104, 101, 110]) (m := 50) (i := 7) ha (chW (by decide +kernel)) (by decide +kernel)
  have e3 : kSi f a e 1 50 12 (0 + 1 + 1 + 1) a = if wq f e a [111, 114] = true then (0 + 1 + 1 + 1) else kSi f a e 1 47 15 (0 + 1 + 1 + 1 + 1) a := kSi_s (w := [111, 114]) (m := 47) (i := 12) ha (chW (by decide +kernel)) (by decide +kernel)
  have e4 : kSi f a e 1 47 15 (0 + 1 + 1 + 1 + 1) a = if wq f e a [97, 110, 100] = true then (0 + 1 + 1 + 1 + 1) else kSi f a e 1 43 19 (0 + 1 + 1 + 1 + 1 + 1) a := kSi_s (w := [97, 110, 100]) (m := 43) (i := 15) ha (chW (by decide +kernel)) (by decide +kernel)
  have e5 : kSi f a e 1 43 19 (0 + 1 + 1 + 1 + 1 + 1) a = if wq f e a [110, 111, 116] = true then (0 + 1 + 1 + 1 + 1 + 1) else kSi f a e 1 39 23 (0 + 1 + 1 + 1 + 1 + 1 + 1) a := kSi_s (w := [110, 111, 116]) (m := 39) (i := 19) ha (chW (by decide +kernel)) (by decide +kernel)
  have e6 : kSi f a e 1 39 23 (0 + 1 + 1 + 1 + 1 + 1 + 1) a = if wq f e a [108, 101, 116, 116, 101, 114, 115] = true then (0 + 1 + 1 + 1 + 1 + 1 + 1) else kSi f a e 1 31 31 (0 + 1 + 1 + 1 + 1 + 1 + 1 + 1) a := kSi_s (w := [108, 101, 116, 116, 101, 114, 115]) (m := 31) (i := 23) ha (chW (by decide +kernel)) (by decide +kernel)
  have e7 : kSi f a e 1 31 31 (0 + 1 + 1 + 1 + 1 + 1 + 1 + 1) a = if wq f e a [102, 105, 114, 115, 116] = true then (0 + 1 + 1 + 1 + 1 + 1 + 1 + 1) else kSi f a e 1 25 37 (0 + 1 + 1 + 1 + 1 + 1 + 1 + 1 + 1) a := kSi_s (w := [102, 105, 114, 115, 116]) (m := 25) (i := 31) ha (chW (by decide +kernel)) (by decide +kernel)
  have e8 : kSi f a e 1 25 37 (0 + 1 + 1 + 1 + 1 + 1 + 1 + 1 + 1) a = if wq f e a [97, 103, 101, 115] = true then (0 + 1 + 1 + 1 + 1 + 1 + 1 + 1 + 1) else kSi f a e 1 20 42 (0 + 1 + 1 + 1 + 1 + 1 + 1 + 1 + 1 + 1) a := kSi_s (w := [97, 103, 101, 115]) (m := 20) (i := 37) ha (chW (by decide +kernel)) (by decide +kernel)
  have e9 : kSi f a e 1 20 42 (0 + 1 + 1 + 1 + 1 + 1 + 1 + 1 + 1 + 1) a = if wq f e a [110, 101, 97, 114] = true then (0 + 1 + 1 + 1 + 1 + 1 + 1 + 1 + 1 + 1) else kSi f a e 1 15 47 (0 + 1 + 1 + 1 + 1 + 1 + 1 + 1 + 1 + 1 + 1) a := kSi_s (w := [110, 101, 97, 114]) (m := 15) (i := 42) ha (chW (by decide +kernel)) (by decide +kernel)
  have e10 : kSi f a e 1 15 47 (0 + 1 + 1 + 1 + 1 + 1 + 1 + 1 + 1 + 1 + 1) a = if wq f e a [100, 97, 121, 115] = true then (0 + 1 + 1 + 1 + 1 + 1 + 1 + 1 + 1 + 1 + 1) else kSi f a e 1 10 52 (0 + 1 + 1 + 1 + 1 + 1 + 1 + 1 + 1 + 1 + 1 + 1) a := kSi_s (w := [100, 97, 121, 115]) (m := 10) (i := 47) ha (chW (by decide +kernel)) (by decide +kernel)
  have e11 : kSi f a e 1 10 52 (0 + 1 + 1 + 1 + 1 + 1 + 1 + 1 + 1 + 1 + 1 + 1) a = if wq f e a [98, 111, 111, 107] = true then (0 + 1 + 1 + 1 + 1 + 1 + 1 + 1 + 1 + 1 + 1 + 1) else kSi f a e 1 5 57 (0 + 1 + 1 + 1 + 1 + 1 + 1 + 1 + 1 + 1 + 1 + 1 + 1) a := kSi_s (w := [98, 111, 111, 107]) (m := 5) (i := 52) ha (chW (by decide +kernel)) (by decide +kernel)
  have e12 : kSi f a e 1 5 57 (0 + 1 + 1 + 1 + 1 + 1 + 1 + 1 + 1 + 1 + 1 + 1 + 1) a = if wq f e a [104, 111, 117, 115, 101] = true then (0 + 1 + 1 + 1 + 1 + 1 + 1 + 1 + 1 + 1 + 1 + 1 + 1) else 22 := kSi_e (w := [104, 111, 117, 115, 101]) (i := 57) ha (chW (by decide +kernel))
  rw [e0, e1, e2, e3, e4, e5, e6, e7, e8, e9, e10, e11, e12]
  rfl
theorem s66_0 {K : Int → MI → MJ → B3 → Prop} {e : Nat} (hh : 5 ≤ h) (hT : TP f n I) (hie : i ≤ e) (he : e ≤ n) (k : K (kwV f true i e) I J b) : TriM G h 66 119 119 [vr 61, vi (i : Int), vi (e : Int), vr 2000] (I, J, PP b) (cIN K) := by
  have hn := hT.1
  have loop : ∀ h, 4 ≤ h → ∀ (m j x : Nat) (p : Int), j + m = 53 → 0 ≤ p → p ≤ j → x ≤ e + 1 → kSi f i e 0 m j p x = kwV f true i e → Tri G h 66 119 119 9 [some (vr 61), some (vi (i : Int)), some (vi (e : Int)), some (vr 2000), some (vi p), some (vi (x : Int)), some (vi (j : Int))] [] (I, J, PP b) (cIN K) := by
    intro h hh m
    induction m with
    | zero =>
      intro j x p hj p0 p1 hx hk
      have hk2 : (if x = e then p else 22) = kwV f true i e := hk
      refine x66_0_9 hh ⟨fun q => by omega, fun _ => ⟨fun _ => ⟨fun q => ?_, fun q => cIN_r fun _ => ?_⟩, fun q => by omega⟩⟩
      · rw [w32_id (x := (j : Int) + 1) (by omega) (by omega)]
        rw [if_neg (by omega)] at hk2
        rw [← hk2] at k
        exact x66_0_9 hh ⟨fun _ => cIN_r fun _ => k, fun q => by omega⟩
      · rw [if_pos (by omega)] at hk2
        rw [hk2]
        exact k
    | succ m ih =>
      intro j x p hj p0 p1 hx hk
      have hk2 : (if stC 0 j = 32 then (if x = e then p else kSi f i e 0 m (j + 1) (p + 1) i) else kSi f i e 0 m (j + 1) p (if x < e ∧ f x = stC 0 j then x + 1 else e + 1)) = kwV f true i e := hk
      have hc := stv_0 j (by omega)
      refine x66_0_9 hh ⟨fun q => by omega, fun _ => ⟨fun q => by omega, fun _ => ⟨by omega, ?_⟩⟩⟩
      rw [toN, w32_id (x := (j : Int) + 1) (by omega) (by omega), w32_id (x := p + 1) (by omega) (by omega), w32_id (x := (e : Int) + 1) (by omega) (by omega), w32_id (x := (x : Int) + 1) (by omega) (by omega)]
      refine ⟨fun q => ?_, fun q => ?_⟩
      · rw [if_pos q] at hk2
        refine ⟨fun q2 => ?_, fun q2 => cIN_r fun _ => ?_⟩
        · rw [if_neg (by omega)] at hk2
          exact ih (j + 1) i (p + 1) (by omega) (by omega) (by omega) (by omega) hk2
        · rw [if_pos (by omega)] at hk2
          rw [hk2]
          exact k
      · rw [if_neg q] at hk2
        refine ⟨fun q2 => ?_, fun q2 => ⟨by omega, fun q3 => ?_, fun q3 => ?_⟩⟩
        · rw [if_neg (by omega)] at hk2
          exact ih (j + 1) (e + 1) p (by omega) p0 (by omega) (by omega) hk2
        · rw [toN, hT.E (by omega) hc.2] at q3
          rw [if_neg (fun z => q3 z.2)] at hk2
          exact ih (j + 1) (e + 1) p (by omega) p0 (by omega) (by omega) hk2
        · rw [toN, hT.E (by omega) hc.2] at q3
          rw [if_pos ⟨by omega, Decidable.of_not_not q3⟩] at hk2
          exact ih (j + 1) (x + 1) p (by omega) p0 (by omega) (by omega) hk2
  refine x66_0_m hh (fun h hh => x66_0 (by omega) (loop h hh 53 0 i 0 (by omega) (by omega) (by omega) (by omega) ?_))
  rw [kSi_0 hie]
  rfl
theorem s66_1 {K : Int → MI → MJ → B3 → Prop} {e : Nat} (hh : 5 ≤ h) (hT : TP f n I) (hie : i ≤ e) (he : e ≤ n) (k : K (kwV f false i e) I J b) : TriM G h 66 119 119 [vr 61, vi (i : Int), vi (e : Int), vr 2001] (I, J, PP b) (cIN K) := by
  have hn := hT.1
  have loop : ∀ h, 4 ≤ h → ∀ (m j x : Nat) (p : Int), j + m = 62 → 0 ≤ p → p ≤ j → x ≤ e + 1 → kSi f i e 1 m j p x = kwV f false i e → Tri G h 66 119 119 9 [some (vr 61), some (vi (i : Int)), some (vi (e : Int)), some (vr 2001), some (vi p), some (vi (x : Int)), some (vi (j : Int))] [] (I, J, PP b) (cIN K) := by
    intro h hh m
    induction m with
    | zero =>
      intro j x p hj p0 p1 hx hk
      have hk2 : (if x = e then p else 22) = kwV f false i e := hk
      refine x66_1_9 hh ⟨fun q => by omega, fun _ => ⟨fun _ => ⟨fun q => ?_, fun q => cIN_r fun _ => ?_⟩, fun q => by omega⟩⟩
      · rw [w32_id (x := (j : Int) + 1) (by omega) (by omega)]
        rw [if_neg (by omega)] at hk2
        rw [← hk2] at k
        exact x66_1_9 hh ⟨fun _ => cIN_r fun _ => k, fun q => by omega⟩
      · rw [if_pos (by omega)] at hk2
        rw [hk2]
        exact k
    | succ m ih =>
      intro j x p hj p0 p1 hx hk
      have hk2 : (if stC 1 j = 32 then (if x = e then p else kSi f i e 1 m (j + 1) (p + 1) i) else kSi f i e 1 m (j + 1) p (if x < e ∧ f x = stC 1 j then x + 1 else e + 1)) = kwV f false i e := hk
      have hc := stv_1 j (by omega)
      refine x66_1_9 hh ⟨fun q => by omega, fun _ => ⟨fun q => by omega, fun _ => ⟨by omega, ?_⟩⟩⟩
      rw [toN, w32_id (x := (j : Int) + 1) (by omega) (by omega), w32_id (x := p + 1) (by omega) (by omega), w32_id (x := (e : Int) + 1) (by omega) (by omega), w32_id (x := (x : Int) + 1) (by omega) (by omega)]
      refine ⟨fun q => ?_, fun q => ?_⟩
      · rw [if_pos q] at hk2
        refine ⟨fun q2 => ?_, fun q2 => cIN_r fun _ => ?_⟩
        · rw [if_neg (by omega)] at hk2
          exact ih (j + 1) i (p + 1) (by omega) (by omega) (by omega) (by omega) hk2
        · rw [if_pos (by omega)] at hk2
          rw [hk2]
          exact k
      · rw [if_neg q] at hk2
        refine ⟨fun q2 => ?_, fun q2 => ⟨by omega, fun q3 => ?_, fun q3 => ?_⟩⟩
        · rw [if_neg (by omega)] at hk2
          exact ih (j + 1) (e + 1) p (by omega) p0 (by omega) (by omega) hk2
        · rw [toN, hT.E (by omega) hc.2] at q3
          rw [if_neg (fun z => q3 z.2)] at hk2
          exact ih (j + 1) (e + 1) p (by omega) p0 (by omega) (by omega) hk2
        · rw [toN, hT.E (by omega) hc.2] at q3
          rw [if_pos ⟨by omega, Decidable.of_not_not q3⟩] at hk2
          exact ih (j + 1) (x + 1) p (by omega) p0 (by omega) (by omega) hk2
  refine x66_1_m hh (fun h hh => x66_1 (by omega) (loop h hh 62 0 i 0 (by omega) (by omega) (by omega) (by omega) ?_))
  rw [kSi_1 hie]
  rfl
theorem s16 {K : Int → MI → MJ → B3 → Prop} {x : Int} (hh : 1 ≤ h) (hx : 0 ≤ x ∧ x < 128) (k : ∀ r : Int, (0 ≤ r ↔ isSg x) → K r I J b) : TriM G h 16 119 119 [vr 3002, vi x, vi 0, vi 10] (I, J, PP b) (cIN K) := by
  have row : ∀ j : Nat, j < 10 → stC 2 j = [59, 43, 45, 42, 47, 40, 41, 60, 61, 62].getD j 0 := by decide +kernel
  have loop : ∀ h (m j : Nat), j + m = 10 → (∀ k : Nat, k < j → stC 2 k ≠ x) → Tri G h 16 119 119 7 [some (vr 3002), none, none, some (vi 10), some (vi x), some (vi (j : Int))] [] (I, J, PP b) (cIN K) := by
    intro h m
    induction m with
    | zero =>
      intro j hj hno
      refine x16_7 (Nat.zero_le _) ⟨fun _ => cIN_r fun _ => k (-1) ⟨fun z => by omega, fun z => ?_⟩, fun q => by omega⟩
      exfalso
      unfold isSg at z
      have n0 := hno 0 (by omega)
      have n1 := hno 1 (by omega)
      have n2 := hno 2 (by omega)
      have n3 := hno 3 (by omega)
      have n4 := hno 4 (by omega)
      have n5 := hno 5 (by omega)
      have n6 := hno 6 (by omega)
      have n7 := hno 7 (by omega)
      have n8 := hno 8 (by omega)
      have n9 := hno 9 (by omega)
      rw [row _ (by decide)] at n0 n1 n2 n3 n4 n5 n6 n7 n8 n9
      simp only [List.getD_cons_zero, List.getD_cons_succ] at n0 n1 n2 n3 n4 n5 n6 n7 n8 n9
      omega
    | succ m ih =>
      intro j hj hno
      refine x16_7 (Nat.zero_le _) ⟨fun q => by omega, fun _ => ⟨by omega, fun q => ?_, fun q => cIN_r fun _ => k j ⟨fun _ => ?_, fun _ => by omega⟩⟩⟩
      · rw [toN] at q
        rw [w32_id (by omega) (by omega)]
        refine ih (j + 1) (by omega) (fun k2 hk2 => ?_)
        by_cases e : k2 = j
        · rw [e]; exact q
        · exact hno k2 (by omega)
      · have q2 := Decidable.of_not_not q
        rw [toN, row j (by omega)] at q2
        have : j = 0 ∨ j = 1 ∨ j = 2 ∨ j = 3 ∨ j = 4 ∨ j = 5 ∨ j = 6 ∨ j = 7 ∨ j = 8 ∨ j = 9 := by omega
        unfold isSg
        rcases this with rfl | rfl | rfl | rfl | rfl | rfl | rfl | rfl | rfl | rfl <;> simp only [List.getD_cons_zero, List.getD_cons_succ] at q2 <;> omega
  refine x16_m hh (fun h hh => x16 (Nat.zero_le _) ?_)
  rw [w8_id (by omega) (by omega)]
  exact loop h 10 0 (by omega) (fun k hk => by omega)
theorem s11 {K : Int → MI → MJ → B3 → Prop} {x : Int} (hh : 6 ≤ h) (hx : 0 ≤ x ∧ x < 128) (k : ∀ r : Int, (0 ≤ r ↔ isSg x) → K r I J b) : TriM G h 11 119 119 [vr 2002, vi x] (I, J, PP b) (cIN K) := by
  refine TriM_intro (h - 1) (by omega) (by decide) (Nat.le_of_ble_eq_true rfl) (Nat.le_refl _) (Nat.le_refl _) (x11 (by omega) (TriM_intro (h - 2) (by omega) (by decide) (Nat.le_of_ble_eq_true rfl) (Nat.le_refl _) (Nat.le_refl _) (x12 (by omega) (TriM_intro (h - 3) (by omega) (by decide) (Nat.le_of_ble_eq_true rfl) (Nat.le_refl _) (Nat.le_refl _) (x13 (by omega) ?_)))))
  rw [show max (0 : Int) 0 = 0 by decide, show min (10 : Int) 10 = 10 by decide]
  exact ⟨fun q => by omega, fun _ => ⟨fun q => by omega, fun _ => ⟨fun _ => s16 (by omega) hx (fun r hr => cIN_r fun _ => cIN_r fun _ => cIN_r fun _ => k r hr), fun q => absurd (by decide) q⟩⟩⟩
theorem s65_0 {K : Int → MI → MJ → B3 → Prop} {e : Nat} (hh : 8 ≤ h) (hT : TP f n I) (hie : i < e) (he : e ≤ n) (k : K (kdT f true i e) I J b) : TriM G h 65 119 119 [vr 61, vi (i : Int), vi (e : Int), vr 2000] (I, J, PP b) (cIN K) := by
  have hn := hT.1
  have hb := hT.2 i (by omega)
  unfold kdT at k
  refine TriM_intro (h - 1) (by omega) (by decide) (Nat.le_of_ble_eq_true rfl) (Nat.le_refl _) (Nat.le_refl _) (x65_0 (by omega) ?_)
  rw [toN, hT.L (by omega), hT.D (by omega), w32_id (x := (e : Int) - i) (by omega) (by omega)]
  refine ⟨by omega, fun q1 => s66_0 (by omega) hT (by omega) he ?_, fun q1 => ⟨fun q2 => ⟨fun q3 => cIN_r fun _ => ?_, fun q3 => cIN_r fun _ => ?_⟩, fun q2 => ⟨fun q3 => cIN_r fun _ => ?_, fun q3 => ?_⟩⟩⟩
  · rw [if_pos q1] at k
    exact cIN_r fun _ => k
  · rw [if_neg q1, if_pos q2, if_neg (by omega)] at k
    exact k
  · rw [if_neg q1, if_pos q2, if_pos (by omega)] at k
    exact k
  · rw [if_neg q1, if_neg q2] at k
    unfold kdS at k
    rw [if_neg (by split at hb <;> omega)] at k
    exact k
  · rw [if_neg q1, if_neg q2] at k
    have e61 : I 61 i = f i ∧ f i < 128 := by
      obtain ⟨g1, g2⟩ := hb
      split at g2 <;> omega
    rw [e61.1, i2c_id (by omega) (by omega)]
    refine s11 (by omega) (by omega) (fun r hr => ⟨fun q4 => cIN_r fun _ => ?_, fun q4 => cIN_r fun _ => ?_⟩)
    all_goals unfold isSg at hr
    · unfold kdS at k
      rw [if_neg (fun z => by have := hr.2 z; omega)] at k
      exact k
    · unfold kdS at k
      rw [if_pos (hr.1 (by omega))] at k
      exact k
theorem s65_1 {K : Int → MI → MJ → B3 → Prop} {e : Nat} (hh : 8 ≤ h) (hT : TP f n I) (hie : i < e) (he : e ≤ n) (k : K (kdT f false i e) I J b) : TriM G h 65 119 119 [vr 61, vi (i : Int), vi (e : Int), vr 2001] (I, J, PP b) (cIN K) := by
  have hn := hT.1
  have hb := hT.2 i (by omega)
  unfold kdT at k
  refine TriM_intro (h - 1) (by omega) (by decide) (Nat.le_of_ble_eq_true rfl) (Nat.le_refl _) (Nat.le_refl _) (x65_1 (by omega) ?_)
  rw [toN, hT.L (by omega), hT.D (by omega), w32_id (x := (e : Int) - i) (by omega) (by omega)]
  refine ⟨by omega, fun q1 => s66_1 (by omega) hT (by omega) he ?_, fun q1 => ⟨fun q2 => ⟨fun q3 => cIN_r fun _ => ?_, fun q3 => cIN_r fun _ => ?_⟩, fun q2 => ⟨fun q3 => cIN_r fun _ => ?_, fun q3 => ?_⟩⟩⟩
  · rw [if_pos q1] at k
    exact cIN_r fun _ => k
  · rw [if_neg q1, if_pos q2, if_neg (by omega)] at k
    exact k
  · rw [if_neg q1, if_pos q2, if_pos (by omega)] at k
    exact k
  · rw [if_neg q1, if_neg q2] at k
    unfold kdS at k
    rw [if_neg (by split at hb <;> omega)] at k
    exact k
  · rw [if_neg q1, if_neg q2] at k
    have e61 : I 61 i = f i ∧ f i < 128 := by
      obtain ⟨g1, g2⟩ := hb
      split at g2 <;> omega
    rw [e61.1, i2c_id (by omega) (by omega)]
    refine s11 (by omega) (by omega) (fun r hr => ⟨fun q4 => cIN_r fun _ => ?_, fun q4 => cIN_r fun _ => ?_⟩)
    all_goals unfold isSg at hr
    · unfold kdS at k
      rw [if_neg (fun z => by have := hr.2 z; omega)] at k
      exact k
    · unfold kdS at k
      rw [if_pos (hr.1 (by omega))] at k
      exact k
theorem s63_0 {K : MI → MJ → B3 → Prop} (hh : 9 ≤ h) (hT : TP f n I) (k : ∀ I2, frK [62, 64, 65, 66] I I2 → (∀ j, j ≠ 8 → I2 62 j = I 62 j) → (∀ (j : Nat) (t : Tok), (TK f n true 0)[j]? = some t → I2 64 j = t.1 ∧ I2 65 j = t.2.1 ∧ (t.1 = 20 → I2 66 j = t.2.2)) → K I2 J b) : TriM G h 63 119 119 [vr 62, vr 61, vi (n : Int), vi 1] (I, J, PP b) (cVN K) := by
  have hn := hT.1
  have loop : ∀ h, 8 ≤ h → ∀ (m p l : Nat) (I' : MI) (pre : List Tok), p + m = n → l ≤ p → pre.length ≤ p → pre ++ TK f n true p = TK f n true 0 → frK [62, 64, 65, 66] I I' → (∀ j, j ≠ 8 → I' 62 j = I 62 j) → I' 62 8 = pre.length → (∀ (j : Nat) (t : Tok), pre[j]? = some t → I' 64 j = t.1 ∧ I' 65 j = t.2.1 ∧ (t.1 = 20 → I' 66 j = t.2.2)) → Tri G h 63 119 119 33 [some (vr 62), some (vr 61), none, none, some (vr 2000), some (vi (n : Int)), some (vi (p : Int)), some (vi (l : Int))] [] (I', J, PP b) (cVN K) := by
    intro h hh m
    induction m using Nat.strongRecOn with
    | _ m ih =>
    intro p l I' pre hp hl hpl hpre hf h62 h8 hrow
    have fin : n ≤ p → (0 ≤ (pre.length : Int) ∧ (pre.length : Int) < 401) ∧ (0 ≤ (pre.length : Int) ∧ (pre.length : Int) < 401) ∧ cVN K none (u2 (u2 I' 65 pre.length (n : Int)) 64 pre.length 21, J, PP b) := by
      intro hnp
      refine ⟨by omega, by omega, cVN_r (k _ ((hf.u (by decide)).u (by decide)) (fun j hj => by rw [u2_ne (by decide), u2_ne (by decide)]; exact h62 j hj) (fun j t ht => ?_))⟩
      rw [← hpre, TK_e hnp] at ht
      rw [u2_ne (a := 66) (by decide), u2_ne (a := 66) (by decide), u2_ne (a := 65) (by decide), u2_at, u2_at, u2_ne (a := 64) (by decide)]
      by_cases hj : j < pre.length
      · rw [List.getElem?_append_left hj] at ht
        rw [if_neg (by omega), if_neg (by omega)]
        exact hrow j t ht
      · rw [List.getElem?_append_right (by omega)] at ht
        have hj2 : j = pre.length := by
          rw [List.getElem?_eq_some_iff] at ht
          obtain ⟨g, -⟩ := ht
          simp at g
          omega
        rw [hj2, Nat.sub_self] at ht
        simp only [List.getElem?_cons_zero, Option.some.injEq] at ht
        rw [if_pos hj2, if_pos hj2, ← ht]
        exact ⟨rfl, rfl, fun z => absurd (show (21 : Int) = 20 from z) (by decide)⟩
    refine x63_0_33 (by omega) ?_
    rw [h8]
    simp only [toN]
    by_cases hnp : n ≤ p
    · exact ⟨fun _ => fin hnp, fun _ => ⟨fun _ => fin hnp, fun q => by omega⟩⟩
    · have hb2 := tEnd_b (f := f) (n := n) (i := p) (by omega)
      have hT' : TP f n I' := hT.k hf (by decide)
      refine ⟨fun q => by omega, fun _ => ⟨fun q => by omega, fun _ => s64 (by omega) hT' (by omega) ⟨by omega, ?_⟩⟩⟩
      rw [hT'.E (by omega) (c := 32) (by decide), hT'.E (by omega) (c := 10) (by decide), h8, w32_id (x := (l : Int) + 1) (by omega) (by omega)]
      have blank : (f p = 32 ∨ f p = 10) → Tri G h 63 119 119 33 [some (vr 62), some (vr 61), none, none, some (vr 2000), some (vi (n : Int)), some (vi ((tEnd f n p : Nat) : Int)), some (vi ((l : Int) + 1))] [] (I', J, PP b) (cVN K) := by
        intro hbl
        have e1 : tEnd f n p = p + 1 := by
          unfold tEnd
          rw [if_neg (by rw [isLb_iff]; omega), if_neg (by rw [isDb_iff]; omega)]
        rw [e1]
        exact ih (m - 1) (by omega) (p + 1) (l + 1) I' pre (by omega) (by omega) (by omega) (by rw [← TK_b (by omega) hbl]; exact hpre) hf h62 h8 hrow
      refine ⟨fun q => blank (Or.inl q), fun q => ⟨by omega, fun q2 => blank (Or.inr q2), fun q2 => ⟨by omega, ?_⟩⟩⟩
      simp only [toN]
      have hf1 : frK [62, 64, 65, 66] I (u2 I' 65 pre.length (p : Int)) := hf.u (by decide)
      refine s67 (by omega) (hT.k hf1 (by decide)) hb2.1 hb2.2 (fun v hv => ⟨by omega, ?_⟩)
      have hf2 : frK [62, 64, 65, 66] I (u2 (u2 I' 65 pre.length (p : Int)) 66 pre.length v) := hf1.u (by decide)
      refine s65_0 (by omega) (hT.k hf2 (by decide)) hb2.1 hb2.2 ⟨?_, ?_⟩
      · rw [u2_ne (by decide), h8]
        omega
      · rw [u2_ne (a := 62) (by decide), h8, u2_ne (a := 62) (by decide), u2_ne (a := 62) (by decide), h8, toN, w32_id (by omega) (by omega)]
        have hTc := TK_c (f := f) (n := n) (home := true) (i := p) (by omega) (by omega)
        refine ih (n - tEnd f n p) (by omega) (tEnd f n p) (l + 1) _ (pre ++ [(kdT f true p (tEnd f n p), p, numV f (min (tEnd f n p - p) 4) p 0)]) (by omega) (by omega) (by simp; omega) ?_ ((hf2.u (by decide)).u (by decide)) (fun j hj => ?_) ?_ (fun j t ht => ?_)
        · rw [List.append_assoc, ← hpre, hTc]
          rfl
        · rw [u2j hj, u2_ne (by decide), u2_ne (by decide), u2_ne (by decide)]
          exact h62 j hj
        · rw [u2e]
          simp
        · simp only [u2_ne (a := 66) (k := 62) (by decide), u2_ne (a := 65) (k := 62) (by decide), u2_ne (a := 64) (k := 62) (by decide), u2_ne (a := 66) (k := 64) (by decide), u2_ne (a := 65) (k := 64) (by decide), u2_ne (a := 65) (k := 66) (by decide), u2_ne (a := 64) (k := 66) (by decide), u2_ne (a := 64) (k := 65) (by decide), u2_ne (a := 66) (k := 65) (by decide), u2_at]
          by_cases hj : j < pre.length
          · rw [List.getElem?_append_left hj] at ht
            rw [if_neg (by omega), if_neg (by omega), if_neg (by omega)]
            exact hrow j t ht
          · rw [List.getElem?_append_right (by omega)] at ht
            have hj2 : j = pre.length := by
              rw [List.getElem?_eq_some_iff] at ht
              obtain ⟨g, -⟩ := ht
              simp at g
              omega
            rw [hj2, Nat.sub_self] at ht
            simp only [List.getElem?_cons_zero, Option.some.injEq] at ht
            rw [if_pos hj2, if_pos hj2, if_pos hj2, ← ht]
            refine ⟨rfl, rfl, fun z => hv (fun j2 h1 h2 => ?_)⟩
            exact kdT_dg (by omega) z j2 h1 h2
  refine TriM_intro (h - 1) (by omega) (by decide) (Nat.le_of_ble_eq_true rfl) (Nat.le_refl _) (Nat.le_refl _) (x63_0 (by omega) ?_)
  rw [show min (n : Int) 400 = n by omega]
  exact loop (h - 1) (by omega) n 0 0 _ [] (by omega) (by omega) (by simp) rfl (frK.r.u (by decide)) (fun j hj => u2j hj) (by rw [u2e]; rfl) (fun j t ht => by simp at ht)
theorem s63_1 {K : MI → MJ → B3 → Prop} (hh : 9 ≤ h) (hT : TP f n I) (k : ∀ I2, frK [62, 64, 65, 66] I I2 → (∀ j, j ≠ 8 → I2 62 j = I 62 j) → (∀ (j : Nat) (t : Tok), (TK f n false 0)[j]? = some t → I2 64 j = t.1 ∧ I2 65 j = t.2.1 ∧ (t.1 = 20 → I2 66 j = t.2.2)) → K I2 J b) : TriM G h 63 119 119 [vr 62, vr 61, vi (n : Int), vi 0] (I, J, PP b) (cVN K) := by
  have hn := hT.1
  have loop : ∀ h, 8 ≤ h → ∀ (m p l : Nat) (I' : MI) (pre : List Tok), p + m = n → l ≤ p → pre.length ≤ p → pre ++ TK f n false p = TK f n false 0 → frK [62, 64, 65, 66] I I' → (∀ j, j ≠ 8 → I' 62 j = I 62 j) → I' 62 8 = pre.length → (∀ (j : Nat) (t : Tok), pre[j]? = some t → I' 64 j = t.1 ∧ I' 65 j = t.2.1 ∧ (t.1 = 20 → I' 66 j = t.2.2)) → Tri G h 63 119 119 33 [some (vr 62), some (vr 61), none, none, some (vr 2001), some (vi (n : Int)), some (vi (p : Int)), some (vi (l : Int))] [] (I', J, PP b) (cVN K) := by
    intro h hh m
    induction m using Nat.strongRecOn with
    | _ m ih =>
    intro p l I' pre hp hl hpl hpre hf h62 h8 hrow
    have fin : n ≤ p → (0 ≤ (pre.length : Int) ∧ (pre.length : Int) < 401) ∧ (0 ≤ (pre.length : Int) ∧ (pre.length : Int) < 401) ∧ cVN K none (u2 (u2 I' 65 pre.length (n : Int)) 64 pre.length 21, J, PP b) := by
      intro hnp
      refine ⟨by omega, by omega, cVN_r (k _ ((hf.u (by decide)).u (by decide)) (fun j hj => by rw [u2_ne (by decide), u2_ne (by decide)]; exact h62 j hj) (fun j t ht => ?_))⟩
      rw [← hpre, TK_e hnp] at ht
      rw [u2_ne (a := 66) (by decide), u2_ne (a := 66) (by decide), u2_ne (a := 65) (by decide), u2_at, u2_at, u2_ne (a := 64) (by decide)]
      by_cases hj : j < pre.length
      · rw [List.getElem?_append_left hj] at ht
        rw [if_neg (by omega), if_neg (by omega)]
        exact hrow j t ht
      · rw [List.getElem?_append_right (by omega)] at ht
        have hj2 : j = pre.length := by
          rw [List.getElem?_eq_some_iff] at ht
          obtain ⟨g, -⟩ := ht
          simp at g
          omega
        rw [hj2, Nat.sub_self] at ht
        simp only [List.getElem?_cons_zero, Option.some.injEq] at ht
        rw [if_pos hj2, if_pos hj2, ← ht]
        exact ⟨rfl, rfl, fun z => absurd (show (21 : Int) = 20 from z) (by decide)⟩
    refine x63_1_33 (by omega) ?_
    rw [h8]
    simp only [toN]
    by_cases hnp : n ≤ p
    · exact ⟨fun _ => fin hnp, fun _ => ⟨fun _ => fin hnp, fun q => by omega⟩⟩
    · have hb2 := tEnd_b (f := f) (n := n) (i := p) (by omega)
      have hT' : TP f n I' := hT.k hf (by decide)
      refine ⟨fun q => by omega, fun _ => ⟨fun q => by omega, fun _ => s64 (by omega) hT' (by omega) ⟨by omega, ?_⟩⟩⟩
      rw [hT'.E (by omega) (c := 32) (by decide), hT'.E (by omega) (c := 10) (by decide), h8, w32_id (x := (l : Int) + 1) (by omega) (by omega)]
      have blank : (f p = 32 ∨ f p = 10) → Tri G h 63 119 119 33 [some (vr 62), some (vr 61), none, none, some (vr 2001), some (vi (n : Int)), some (vi ((tEnd f n p : Nat) : Int)), some (vi ((l : Int) + 1))] [] (I', J, PP b) (cVN K) := by
        intro hbl
        have e1 : tEnd f n p = p + 1 := by
          unfold tEnd
          rw [if_neg (by rw [isLb_iff]; omega), if_neg (by rw [isDb_iff]; omega)]
        rw [e1]
        exact ih (m - 1) (by omega) (p + 1) (l + 1) I' pre (by omega) (by omega) (by omega) (by rw [← TK_b (by omega) hbl]; exact hpre) hf h62 h8 hrow
      refine ⟨fun q => blank (Or.inl q), fun q => ⟨by omega, fun q2 => blank (Or.inr q2), fun q2 => ⟨by omega, ?_⟩⟩⟩
      simp only [toN]
      have hf1 : frK [62, 64, 65, 66] I (u2 I' 65 pre.length (p : Int)) := hf.u (by decide)
      refine s67 (by omega) (hT.k hf1 (by decide)) hb2.1 hb2.2 (fun v hv => ⟨by omega, ?_⟩)
      have hf2 : frK [62, 64, 65, 66] I (u2 (u2 I' 65 pre.length (p : Int)) 66 pre.length v) := hf1.u (by decide)
      refine s65_1 (by omega) (hT.k hf2 (by decide)) hb2.1 hb2.2 ⟨?_, ?_⟩
      · rw [u2_ne (by decide), h8]
        omega
      · rw [u2_ne (a := 62) (by decide), h8, u2_ne (a := 62) (by decide), u2_ne (a := 62) (by decide), h8, toN, w32_id (by omega) (by omega)]
        have hTc := TK_c (f := f) (n := n) (home := false) (i := p) (by omega) (by omega)
        refine ih (n - tEnd f n p) (by omega) (tEnd f n p) (l + 1) _ (pre ++ [(kdT f false p (tEnd f n p), p, numV f (min (tEnd f n p - p) 4) p 0)]) (by omega) (by omega) (by simp; omega) ?_ ((hf2.u (by decide)).u (by decide)) (fun j hj => ?_) ?_ (fun j t ht => ?_)
        · rw [List.append_assoc, ← hpre, hTc]
          rfl
        · rw [u2j hj, u2_ne (by decide), u2_ne (by decide), u2_ne (by decide)]
          exact h62 j hj
        · rw [u2e]
          simp
        · simp only [u2_ne (a := 66) (k := 62) (by decide), u2_ne (a := 65) (k := 62) (by decide), u2_ne (a := 64) (k := 62) (by decide), u2_ne (a := 66) (k := 64) (by decide), u2_ne (a := 65) (k := 64) (by decide), u2_ne (a := 65) (k := 66) (by decide), u2_ne (a := 64) (k := 66) (by decide), u2_ne (a := 64) (k := 65) (by decide), u2_ne (a := 66) (k := 65) (by decide), u2_at]
          by_cases hj : j < pre.length
          · rw [List.getElem?_append_left hj] at ht
            rw [if_neg (by omega), if_neg (by omega), if_neg (by omega)]
            exact hrow j t ht
          · rw [List.getElem?_append_right (by omega)] at ht
            have hj2 : j = pre.length := by
              rw [List.getElem?_eq_some_iff] at ht
              obtain ⟨g, -⟩ := ht
              simp at g
              omega
            rw [hj2, Nat.sub_self] at ht
            simp only [List.getElem?_cons_zero, Option.some.injEq] at ht
            rw [if_pos hj2, if_pos hj2, if_pos hj2, ← ht]
            refine ⟨rfl, rfl, fun z => hv (fun j2 h1 h2 => ?_)⟩
            exact kdT_dg (by omega) z j2 h1 h2
  refine TriM_intro (h - 1) (by omega) (by decide) (Nat.le_of_ble_eq_true rfl) (Nat.le_refl _) (Nat.le_refl _) (x63_1 (by omega) ?_)
  rw [show min (n : Int) 400 = n by omega]
  exact loop (h - 1) (by omega) n 0 0 _ [] (by omega) (by omega) (by simp) rfl (frK.r.u (by decide)) (fun j hj => u2j hj) (by rw [u2e]; rfl) (fun j t ht => by simp at ht)
end TOKC
