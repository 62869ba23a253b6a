set_option maxRecDepth 100000 in
theorem x176_70 {G : Ctx} {h : Nat} {Q : MP} {I : Nat → Nat → Int} {J : Nat → Nat → BitVec 64} {b : B3} {x : Int} (hh : 1 ≤ h) (H : ((0 ≤ (iShr x 6) ∧ (iShr x 6) < (224 : Int)) → ((0 ≤ (iShr x 6) ∧ (iShr x 6) < (224 : Int)) ∧ ((((lCmp ((lUsh (J 70 ((iShr x 6).toNat)) (iAnd x 63)) &&& (1#64)) (0#64)) = 0) → (Q (some (vi 0)) (I, J, PP b))) ∧ (¬ ((lCmp ((lUsh (J 70 ((iShr x 6).toNat)) (iAnd x 63)) &&& (1#64)) (0#64)) = 0) → (Q (some (vi 1)) (I, J, PP b)))))) ∧ (¬ (0 ≤ (iShr x 6) ∧ (iShr x 6) < (224 : Int)) → (Q (some (vi 0)) (I, J, PP b)))) : Tri G h 176 119 119 0 [some (vr 70), some (vi x)] [] (I, J, PP b) Q := wp_at ck176 [] 400 (sx172 (by omega)  (fun q902 => And.intro (fun z => absurd z (show ¬ ((1 : Int) = (0 : Int)) by decide)) (fun _ => And.intro (H.1 q902).1 (And.intro (fun q904 => And.intro (show (0 : Int) = 0 ∨ (0 : Int) = 1 by decide) (((H.1 q902).2).1 q904)) (fun q905 => And.intro (show (1 : Int) = 0 ∨ (1 : Int) = 1 by decide) (((H.1 q902).2).2 q905))))) (fun q903 => And.intro (fun _ => And.intro (show (0 : Int) = 0 ∨ (0 : Int) = 1 by decide) (H.2 q903)) (fun z => absurd (show (0 : Int) = (0 : Int) by decide) z)))
theorem x176_70_m {G : Ctx} {h : Nat} {Q : MP} {I : Nat → Nat → Int} {J : Nat → Nat → BitVec 64} {b : B3} {x : Int} (hh : 2 ≤ h) (H : ∀ h, 1 ≤ h → Tri G h 176 119 119 0 [some (vr 70), some (vi x)] [] (I, J, PP b) Q) : TriM G h 176 119 119 [vr 70, vi x] (I, J, PP b) Q := TriM_intro (h - 1) (by omega) (by decide) (Nat.le_of_ble_eq_true rfl) (Nat.le_refl _) (Nat.le_refl _) (H (h - 1) (by omega))
set_option maxRecDepth 100000 in
theorem x177_70 {G : Ctx} {h : Nat} {Q : MP} {I : Nat → Nat → Int} {J : Nat → Nat → BitVec 64} {b : B3} {x : Int} (hh : 1 ≤ h) (H : ((0 ≤ (iShr x 6) ∧ (iShr x 6) < (224 : Int)) → ((0 ≤ (iShr x 6) ∧ (iShr x 6) < (224 : Int)) ∧ ((0 ≤ (iShr x 6) ∧ (iShr x 6) < (224 : Int)) ∧ (Q none (I, u2 J 70 ((iShr x 6).toNat) ((J 70 ((iShr x 6).toNat)) ||| (lShl (1#64) (iAnd x 63))), PP b))))) ∧ (¬ (0 ≤ (iShr x 6) ∧ (iShr x 6) < (224 : Int)) → (Q none (I, J, PP b)))) : Tri G h 177 119 119 0 [some (vr 70), some (vi x)] [] (I, J, PP b) Q := wp_at ck177 [] 400 (sx172 (by omega)  (fun q906 => And.intro (fun z => absurd z (show ¬ ((1 : Int) = (0 : Int)) by decide)) (fun _ => H.1 q906)) (fun q907 => And.intro (fun _ => H.2 q907) (fun z => absurd (show (0 : Int) = (0 : Int) by decide) z)))
theorem x177_70_m {G : Ctx} {h : Nat} {Q : MP} {I : Nat → Nat → Int} {J : Nat → Nat → BitVec 64} {b : B3} {x : Int} (hh : 2 ≤ h) (H : ∀ h, 1 ≤ h → Tri G h 177 119 119 0 [some (vr 70), some (vi x)] [] (I, J, PP b) Q) : TriM G h 177 119 119 [vr 70, vi x] (I, J, PP b) Q := TriM_intro (h - 1) (by omega) (by decide) (Nat.le_of_ble_eq_true rfl) (Nat.le_refl _) (Nat.le_refl _) (H (h - 1) (by omega))
set_option maxRecDepth 100000 in
theorem x176_71 {G : Ctx} {h : Nat} {Q : MP} {I : Nat → Nat → Int} {J : Nat → Nat → BitVec 64} {b : B3} {x : Int} (hh : 1 ≤ h) (H : ((0 ≤ (iShr x 6) ∧ (iShr x 6) < (224 : Int)) → ((0 ≤ (iShr x 6) ∧ (iShr x 6) < (224 : Int)) ∧ ((((lCmp ((lUsh (J 71 ((iShr x 6).toNat)) (iAnd x 63)) &&& (1#64)) (0#64)) = 0) → (Q (some (vi 0)) (I, J, PP b))) ∧ (¬ ((lCmp ((lUsh (J 71 ((iShr x 6).toNat)) (iAnd x 63)) &&& (1#64)) (0#64)) = 0) → (Q (some (vi 1)) (I, J, PP b)))))) ∧ (¬ (0 ≤ (iShr x 6) ∧ (iShr x 6) < (224 : Int)) → (Q (some (vi 0)) (I, J, PP b)))) : Tri G h 176 119 119 0 [some (vr 71), some (vi x)] [] (I, J, PP b) Q := wp_at ck176 [] 400 (sx172 (by omega)  (fun q908 => And.intro (fun z => absurd z (show ¬ ((1 : Int) = (0 : Int)) by decide)) (fun _ => And.intro (H.1 q908).1 (And.intro (fun q910 => And.intro (show (0 : Int) = 0 ∨ (0 : Int) = 1 by decide) (((H.1 q908).2).1 q910)) (fun q911 => And.intro (show (1 : Int) = 0 ∨ (1 : Int) = 1 by decide) (((H.1 q908).2).2 q911))))) (fun q909 => And.intro (fun _ => And.intro (show (0 : Int) = 0 ∨ (0 : Int) = 1 by decide) (H.2 q909)) (fun z => absurd (show (0 : Int) = (0 : Int) by decide) z)))
theorem x176_71_m {G : Ctx} {h : Nat} {Q : MP} {I : Nat → Nat → Int} {J : Nat → Nat → BitVec 64} {b : B3} {x : Int} (hh : 2 ≤ h) (H : ∀ h, 1 ≤ h → Tri G h 176 119 119 0 [some (vr 71), some (vi x)] [] (I, J, PP b) Q) : TriM G h 176 119 119 [vr 71, vi x] (I, J, PP b) Q := TriM_intro (h - 1) (by omega) (by decide) (Nat.le_of_ble_eq_true rfl) (Nat.le_refl _) (Nat.le_refl _) (H (h - 1) (by omega))
set_option maxRecDepth 100000 in
theorem x177_71 {G : Ctx} {h : Nat} {Q : MP} {I : Nat → Nat → Int} {J : Nat → Nat → BitVec 64} {b : B3} {x : Int} (hh : 1 ≤ h) (H : ((0 ≤ (iShr x 6) ∧ (iShr x 6) < (224 : Int)) → ((0 ≤ (iShr x 6) ∧ (iShr x 6) < (224 : Int)) ∧ ((0 ≤ (iShr x 6) ∧ (iShr x 6) < (224 : Int)) ∧ (Q none (I, u2 J 71 ((iShr x 6).toNat) ((J 71 ((iShr x 6).toNat)) ||| (lShl (1#64) (iAnd x 63))), PP b))))) ∧ (¬ (0 ≤ (iShr x 6) ∧ (iShr x 6) < (224 : Int)) → (Q none (I, J, PP b)))) : Tri G h 177 119 119 0 [some (vr 71), some (vi x)] [] (I, J, PP b) Q := wp_at ck177 [] 400 (sx172 (by omega)  (fun q912 => And.intro (fun z => absurd z (show ¬ ((1 : Int) = (0 : Int)) by decide)) (fun _ => H.1 q912)) (fun q913 => And.intro (fun _ => H.2 q913) (fun z => absurd (show (0 : Int) = (0 : Int) by decide) z)))
theorem x177_71_m {G : Ctx} {h : Nat} {Q : MP} {I : Nat → Nat → Int} {J : Nat → Nat → BitVec 64} {b : B3} {x : Int} (hh : 2 ≤ h) (H : ∀ h, 1 ≤ h → Tri G h 177 119 119 0 [some (vr 71), some (vi x)] [] (I, J, PP b) Q) : TriM G h 177 119 119 [vr 71, vi x] (I, J, PP b) Q := TriM_intro (h - 1) (by omega) (by decide) (Nat.le_of_ble_eq_true rfl) (Nat.le_refl _) (Nat.le_refl _) (H (h - 1) (by omega))
set_option maxRecDepth 100000 in
theorem x176_79 {G : Ctx} {h : Nat} {Q : MP} {I : Nat → Nat → Int} {J : Nat → Nat → BitVec 64} {b : B3} {x : Int} (hh : 1 ≤ h) (H : ((0 ≤ (iShr x 6) ∧ (iShr x 6) < (240 : Int)) → ((0 ≤ (iShr x 6) ∧ (iShr x 6) < (240 : Int)) ∧ ((((lCmp ((lUsh (J 79 ((iShr x 6).toNat)) (iAnd x 63)) &&& (1#64)) (0#64)) = 0) → (Q (some (vi 0)) (I, J, PP b))) ∧ (¬ ((lCmp ((lUsh (J 79 ((iShr x 6).toNat)) (iAnd x 63)) &&& (1#64)) (0#64)) = 0) → (Q (some (vi 1)) (I, J, PP b)))))) ∧ (¬ (0 ≤ (iShr x 6) ∧ (iShr x 6) < (240 : Int)) → (Q (some (vi 0)) (I, J, PP b)))) : Tri G h 176 119 119 0 [some (vr 79), some (vi x)] [] (I, J, PP b) Q := wp_at ck176 [] 400 (sx172 (by omega)  (fun q914 => And.intro (fun z => absurd z (show ¬ ((1 : Int) = (0 : Int)) by decide)) (fun _ => And.intro (H.1 q914).1 (And.intro (fun q916 => And.intro (show (0 : Int) = 0 ∨ (0 : Int) = 1 by decide) (((H.1 q914).2).1 q916)) (fun q917 => And.intro (show (1 : Int) = 0 ∨ (1 : Int) = 1 by decide) (((H.1 q914).2).2 q917))))) (fun q915 => And.intro (fun _ => And.intro (show (0 : Int) = 0 ∨ (0 : Int) = 1 by decide) (H.2 q915)) (fun z => absurd (show (0 : Int) = (0 : Int) by decide) z)))
theorem x176_79_m {G : Ctx} {h : Nat} {Q : MP} {I : Nat → Nat → Int} {J : Nat → Nat → BitVec 64} {b : B3} {x : Int} (hh : 2 ≤ h) (H : ∀ h, 1 ≤ h → Tri G h 176 119 119 0 [some (vr 79), some (vi x)] [] (I, J, PP b) Q) : TriM G h 176 119 119 [vr 79, vi x] (I, J, PP b) Q := TriM_intro (h - 1) (by omega) (by decide) (Nat.le_of_ble_eq_true rfl) (Nat.le_refl _) (Nat.le_refl _) (H (h - 1) (by omega))
set_option maxRecDepth 100000 in
theorem x177_79 {G : Ctx} {h : Nat} {Q : MP} {I : Nat → Nat → Int} {J : Nat → Nat → BitVec 64} {b : B3} {x : Int} (hh : 1 ≤ h) (H : ((0 ≤ (iShr x 6) ∧ (iShr x 6) < (240 : Int)) → ((0 ≤ (iShr x 6) ∧ (iShr x 6) < (240 : Int)) ∧ ((0 ≤ (iShr x 6) ∧ (iShr x 6) < (240 : Int)) ∧ (Q none (I, u2 J 79 ((iShr x 6).toNat) ((J 79 ((iShr x 6).toNat)) ||| (lShl (1#64) (iAnd x 63))), PP b))))) ∧ (¬ (0 ≤ (iShr x 6) ∧ (iShr x 6) < (240 : Int)) → (Q none (I, J, PP b)))) : Tri G h 177 119 119 0 [some (vr 79), some (vi x)] [] (I, J, PP b) Q := wp_at ck177 [] 400 (sx172 (by omega)  (fun q918 => And.intro (fun z => absurd z (show ¬ ((1 : Int) = (0 : Int)) by decide)) (fun _ => H.1 q918)) (fun q919 => And.intro (fun _ => H.2 q919) (fun z => absurd (show (0 : Int) = (0 : Int) by decide) z)))
theorem x177_79_m {G : Ctx} {h : Nat} {Q : MP} {I : Nat → Nat → Int} {J : Nat → Nat → BitVec 64} {b : B3} {x : Int} (hh : 2 ≤ h) (H : ∀ h, 1 ≤ h → Tri G h 177 119 119 0 [some (vr 79), some (vi x)] [] (I, J, PP b) Q) : TriM G h 177 119 119 [vr 79, vi x] (I, J, PP b) Q := TriM_intro (h - 1) (by omega) (by decide) (Nat.le_of_ble_eq_true rfl) (Nat.le_refl _) (Nat.le_refl _) (H (h - 1) (by omega))
set_option maxRecDepth 100000 in
theorem x176_86 {G : Ctx} {h : Nat} {Q : MP} {I : Nat → Nat → Int} {J : Nat → Nat → BitVec 64} {b : B3} {x : Int} (hh : 1 ≤ h) (H : ((0 ≤ (iShr x 6) ∧ (iShr x 6) < (1563 : Int)) → ((0 ≤ (iShr x 6) ∧ (iShr x 6) < (1563 : Int)) ∧ ((((lCmp ((lUsh (J 86 ((iShr x 6).toNat)) (iAnd x 63)) &&& (1#64)) (0#64)) = 0) → (Q (some (vi 0)) (I, J, PP b))) ∧ (¬ ((lCmp ((lUsh (J 86 ((iShr x 6).toNat)) (iAnd x 63)) &&& (1#64)) (0#64)) = 0) → (Q (some (vi 1)) (I, J, PP b)))))) ∧ (¬ (0 ≤ (iShr x 6) ∧ (iShr x 6) < (1563 : Int)) → (Q (some (vi 0)) (I, J, PP b)))) : Tri G h 176 119 119 0 [some (vr 86), some (vi x)] [] (I, J, PP b) Q := wp_at ck176 [] 400 (sx172 (by omega)  (fun q920 => And.intro (fun z => absurd z (show ¬ ((1 : Int) = (0 : Int)) by decide)) (fun _ => And.intro (H.1 q920).1 (And.intro (fun q922 => And.intro (show (0 : Int) = 0 ∨ (0 : Int) = 1 by decide) (((H.1 q920).2).1 q922)) (fun q923 => And.intro (show (1 : Int) = 0 ∨ (1 : Int) = 1 by decide) (((H.1 q920).2).2 q923))))) (fun q921 => And.intro (fun _ => And.intro (show (0 : Int) = 0 ∨ (0 : Int) = 1 by decide) (H.2 q921)) (fun z => absurd (show (0 : Int) = (0 : Int) by decide) z)))
theorem x176_86_m {G : Ctx} {h : Nat} {Q : MP} {I : Nat → Nat → Int} {J : Nat → Nat → BitVec 64} {b : B3} {x : Int} (hh : 2 ≤ h) (H : ∀ h, 1 ≤ h → Tri G h 176 119 119 0 [some (vr 86), some (vi x)] [] (I, J, PP b) Q) : TriM G h 176 119 119 [vr 86, vi x] (I, J, PP b) Q := TriM_intro (h - 1) (by omega) (by decide) (Nat.le_of_ble_eq_true rfl) (Nat.le_refl _) (Nat.le_refl _) (H (h - 1) (by omega))
set_option maxRecDepth 100000 in
theorem x177_86 {G : Ctx} {h : Nat} {Q : MP} {I : Nat → Nat → Int} {J : Nat → Nat → BitVec 64} {b : B3} {x : Int} (hh : 1 ≤ h) (H : ((0 ≤ (iShr x 6) ∧ (iShr x 6) < (1563 : Int)) → ((0 ≤ (iShr x 6) ∧ (iShr x 6) < (1563 : Int)) ∧ ((0 ≤ (iShr x 6) ∧ (iShr x 6) < (1563 : Int)) ∧ (Q none (I, u2 J 86 ((iShr x 6).toNat) ((J 86 ((iShr x 6).toNat)) ||| (lShl (1#64) (iAnd x 63))), PP b))))) ∧ (¬ (0 ≤ (iShr x 6) ∧ (iShr x 6) < (1563 : Int)) → (Q none (I, J, PP b)))) : Tri G h 177 119 119 0 [some (vr 86), some (vi x)] [] (I, J, PP b) Q := wp_at ck177 [] 400 (sx172 (by omega)  (fun q924 => And.intro (fun z => absurd z (show ¬ ((1 : Int) = (0 : Int)) by decide)) (fun _ => H.1 q924)) (fun q925 => And.intro (fun _ => H.2 q925) (fun z => absurd (show (0 : Int) = (0 : Int) by decide) z)))
theorem x177_86_m {G : Ctx} {h : Nat} {Q : MP} {I : Nat → Nat → Int} {J : Nat → Nat → BitVec 64} {b : B3} {x : Int} (hh : 2 ≤ h) (H : ∀ h, 1 ≤ h → Tri G h 177 119 119 0 [some (vr 86), some (vi x)] [] (I, J, PP b) Q) : TriM G h 177 119 119 [vr 86, vi x] (I, J, PP b) Q := TriM_intro (h - 1) (by omega) (by decide) (Nat.le_of_ble_eq_true rfl) (Nat.le_refl _) (Nat.le_refl _) (H (h - 1) (by omega))
set_option maxRecDepth 100000 in
theorem x176_87 {G : Ctx} {h : Nat} {Q : MP} {I : Nat → Nat → Int} {J : Nat → Nat → BitVec 64} {b : B3} {x : Int} (hh : 1 ≤ h) (H : ((0 ≤ (iShr x 6) ∧ (iShr x 6) < (1563 : Int)) → ((0 ≤ (iShr x 6) ∧ (iShr x 6) < (1563 : Int)) ∧ ((((lCmp ((lUsh (J 87 ((iShr x 6).toNat)) (iAnd x 63)) &&& (1#64)) (0#64)) = 0) → (Q (some (vi 0)) (I, J, PP b))) ∧ (¬ ((lCmp ((lUsh (J 87 ((iShr x 6).toNat)) (iAnd x 63)) &&& (1#64)) (0#64)) = 0) → (Q (some (vi 1)) (I, J, PP b)))))) ∧ (¬ (0 ≤ (iShr x 6) ∧ (iShr x 6) < (1563 : Int)) → (Q (some (vi 0)) (I, J, PP b)))) : Tri G h 176 119 119 0 [some (vr 87), some (vi x)] [] (I, J, PP b) Q := wp_at ck176 [] 400 (sx172 (by omega)  (fun q926 => And.intro (fun z => absurd z (show ¬ ((1 : Int) = (0 : Int)) by decide)) (fun _ => And.intro (H.1 q926).1 (And.intro (fun q928 => And.intro (show (0 : Int) = 0 ∨ (0 : Int) = 1 by decide) (((H.1 q926).2).1 q928)) (fun q929 => And.intro (show (1 : Int) = 0 ∨ (1 : Int) = 1 by decide) (((H.1 q926).2).2 q929))))) (fun q927 => And.intro (fun _ => And.intro (show (0 : Int) = 0 ∨ (0 : Int) = 1 by decide) (H.2 q927)) (fun z => absurd (show (0 : Int) = (0 : Int) by decide) z)))
theorem x176_87_m {G : Ctx} {h : Nat} {Q : MP} {I : Nat → Nat → Int} {J : Nat → Nat → BitVec 64} {b : B3} {x : Int} (hh : 2 ≤ h) (H : ∀ h, 1 ≤ h → Tri G h 176 119 119 0 [some (vr 87), some (vi x)] [] (I, J, PP b) Q) : TriM G h 176 119 119 [vr 87, vi x] (I, J, PP b) Q := TriM_intro (h - 1) (by omega) (by decide) (Nat.le_of_ble_eq_true rfl) (Nat.le_refl _) (Nat.le_refl _) (H (h - 1) (by omega))
set_option maxRecDepth 100000 in
theorem x177_87 {G : Ctx} {h : Nat} {Q : MP} {I : Nat → Nat → Int} {J : Nat → Nat → BitVec 64} {b : B3} {x : Int} (hh : 1 ≤ h) (H : ((0 ≤ (iShr x 6) ∧ (iShr x 6) < (1563 : Int)) → ((0 ≤ (iShr x 6) ∧ (iShr x 6) < (1563 : Int)) ∧ ((0 ≤ (iShr x 6) ∧ (iShr x 6) < (1563 : Int)) ∧ (Q none (I, u2 J 87 ((iShr x 6).toNat) ((J 87 ((iShr x 6).toNat)) ||| (lShl (1#64) (iAnd x 63))), PP b))))) ∧ (¬ (0 ≤ (iShr x 6) ∧ (iShr x 6) < (1563 : Int)) → (Q none (I, J, PP b)))) : Tri G h 177 119 119 0 [some (vr 87), some (vi x)] [] (I, J, PP b) Q := wp_at ck177 [] 400 (sx172 (by omega)  (fun q930 => And.intro (fun z => absurd z (show ¬ ((1 : Int) = (0 : Int)) by decide)) (fun _ => H.1 q930)) (fun q931 => And.intro (fun _ => H.2 q931) (fun z => absurd (show (0 : Int) = (0 : Int) by decide) z)))
theorem x177_87_m {G : Ctx} {h : Nat} {Q : MP} {I : Nat → Nat → Int} {J : Nat → Nat → BitVec 64} {b : B3} {x : Int} (hh : 2 ≤ h) (H : ∀ h, 1 ≤ h → Tri G h 177 119 119 0 [some (vr 87), some (vi x)] [] (I, J, PP b) Q) : TriM G h 177 119 119 [vr 87, vi x] (I, J, PP b) Q := TriM_intro (h - 1) (by omega) (by decide) (Nat.le_of_ble_eq_true rfl) (Nat.le_refl _) (Nat.le_refl _) (H (h - 1) (by omega))
set_option maxRecDepth 100000 in
theorem x109 {G : Ctx} {h : Nat} {Q : MP} {I : Nat → Nat → Int} {J : Nat → Nat → BitVec 64} {b : B3} {x y : Int} (hh : 0 ≤ h) (H : (0 ≤ y ∧ y < (5 : Int)) ∧ ((0 ≤ y ∧ y < (5 : Int)) ∧ ((((I 88 y.toNat) ≤ 0) → (Q (some (vi 0)) (I, J, PP b))) ∧ (¬ ((I 88 y.toNat) ≤ 0) → ((((I 89 y.toNat) ≤ 0) → (Q (some (vi 0)) (I, J, PP b))) ∧ (¬ ((I 89 y.toNat) ≤ 0) → ((I 88 y.toNat) ≠ 0 ∧ ((I 89 y.toNat) ≠ 0 ∧ (Q (some (vi (iRem (iDiv x (I 88 y.toNat)) (I 89 y.toNat)))) (I, J, PP b)))))))))) : Tri G h 109 119 119 0 [some (vr 85), some (vi x), some (vi y)] [] (I, J, PP b) Q := wp_at ck109 [] 400 H
theorem x109_m {G : Ctx} {h : Nat} {Q : MP} {I : Nat → Nat → Int} {J : Nat → Nat → BitVec 64} {b : B3} {x y : Int} (hh : 1 ≤ h) (H : ∀ h, 0 ≤ h → Tri G h 109 119 119 0 [some (vr 85), some (vi x), some (vi y)] [] (I, J, PP b) Q) : TriM G h 109 119 119 [vr 85, vi x, vi y] (I, J, PP b) Q := TriM_intro (h - 1) (by omega) (by decide) (Nat.le_of_ble_eq_true rfl) (Nat.le_refl _) (Nat.le_refl _) (H (h - 1) (by omega))
set_option maxRecDepth 100000 in
theorem x106_86 {G : Ctx} {h : Nat} {Q : MP} {I : Nat → Nat → Int} {J : Nat → Nat → BitVec 64} {b : B3} (hh : 0 ≤ h) (H : Tri G h 106 119 119 2 [some (vr 85), some (vr 86), some (vi 0)] [] (I, J, PP b) Q) : Tri G h 106 119 119 0 [some (vr 85), some (vr 86)] [] (I, J, PP b) Q := wp_at ck106 [(2, [true, true, true])] 400 H
set_option maxRecDepth 100000 in
theorem x106_86_2 {G : Ctx} {h : Nat} {Q : MP} {I : Nat → Nat → Int} {J : Nat → Nat → BitVec 64} {b : B3} {l2 : Int} (hh : 0 ≤ h) (H : (((I 85 4) ≤ l2) → (Q none (I, J, PP b))) ∧ (¬ ((I 85 4) ≤ l2) → ((0 ≤ l2 ∧ l2 < (1563 : Int)) ∧ (Tri G h 106 119 119 2 [some (vr 85), some (vr 86), some (vi (w32 (l2 + 1)))] [] (I, u2 J 86 l2.toNat (0#64), PP b) Q)))) : Tri G h 106 119 119 2 [some (vr 85), some (vr 86), some (vi l2)] [] (I, J, PP b) Q := wp_at ck106 [(2, [true, true, true])] 400 H
theorem x106_86_m {G : Ctx} {h : Nat} {Q : MP} {I : Nat → Nat → Int} {J : Nat → Nat → BitVec 64} {b : B3} (hh : 1 ≤ h) (H : ∀ h, 0 ≤ h → Tri G h 106 119 119 0 [some (vr 85), some (vr 86)] [] (I, J, PP b) Q) : TriM G h 106 119 119 [vr 85, vr 86] (I, J, PP b) Q := TriM_intro (h - 1) (by omega) (by decide) (Nat.le_of_ble_eq_true rfl) (Nat.le_refl _) (Nat.le_refl _) (H (h - 1) (by omega))
set_option maxRecDepth 100000 in
theorem x106_87 {G : Ctx} {h : Nat} {Q : MP} {I : Nat → Nat → Int} {J : Nat → Nat → BitVec 64} {b : B3} (hh : 0 ≤ h) (H : Tri G h 106 119 119 2 [some (vr 85), some (vr 87), some (vi 0)] [] (I, J, PP b) Q) : Tri G h 106 119 119 0 [some (vr 85), some (vr 87)] [] (I, J, PP b) Q := wp_at ck106 [(2, [true, true, true])] 400 H
set_option maxRecDepth 100000 in
theorem x106_87_2 {G : Ctx} {h : Nat} {Q : MP} {I : Nat → Nat → Int} {J : Nat → Nat → BitVec 64} {b : B3} {l2 : Int} (hh : 0 ≤ h) (H : (((I 85 4) ≤ l2) → (Q none (I, J, PP b))) ∧ (¬ ((I 85 4) ≤ l2) → ((0 ≤ l2 ∧ l2 < (1563 : Int)) ∧ (Tri G h 106 119 119 2 [some (vr 85), some (vr 87), some (vi (w32 (l2 + 1)))] [] (I, u2 J 87 l2.toNat (0#64), PP b) Q)))) : Tri G h 106 119 119 2 [some (vr 85), some (vr 87), some (vi l2)] [] (I, J, PP b) Q := wp_at ck106 [(2, [true, true, true])] 400 H
theorem x106_87_m {G : Ctx} {h : Nat} {Q : MP} {I : Nat → Nat → Int} {J : Nat → Nat → BitVec 64} {b : B3} (hh : 1 ≤ h) (H : ∀ h, 0 ≤ h → Tri G h 106 119 119 0 [some (vr 85), some (vr 87)] [] (I, J, PP b) Q) : TriM G h 106 119 119 [vr 85, vr 87] (I, J, PP b) Q := TriM_intro (h - 1) (by omega) (by decide) (Nat.le_of_ble_eq_true rfl) (Nat.le_refl _) (Nat.le_refl _) (H (h - 1) (by omega))
/-! single bits of rows -/
theorem iShr6 {x : Int} (hx : 0 ≤ x ∧ x < 2147483648) : iShr x 6 = x / 64 := by
  unfold iShr
  rw [pk_shr (Int32.ofInt x) _ 6 (by decide), toI (by unfold inR; omega), Int.shiftRight_eq_div_pow]
  rfl
theorem iAnd63 {x : Int} (hx : 0 ≤ x ∧ x < 2147483648) : iAnd x 63 = x % 64 := by
  unfold iAnd
  rw [pk_and (Int32.ofInt x) (m := Int32.ofInt 63) 6 (by decide)]
  have h1 : (Int32.ofInt x).toBitVec.toNat = x.toNat := by
    have e1 := BitVec.toInt_eq_toNat_bmod (Int32.ofInt x).toBitVec
    have e2 : (Int32.ofInt x).toBitVec.toInt = x := toI (by unfold inR; omega)
    have e3 := (Int32.ofInt x).toBitVec.isLt
    rw [e2, Int.bmod_def] at e1
    split at e1 <;> omega
  rw [h1, show nI (x.toNat % 2 ^ 6) = Int32.ofNat _ from rfl, Int32.toInt_ofNat_of_lt (by omega)]
  omega
theorem bit_and1 {a : BitVec 64} {s : Nat} : (a >>> s) &&& 1#64 = 0#64 ↔ a.getLsbD s = false := by
  constructor
  · intro q
    have := congrArg (fun w => w.getLsbD 0) q
    simpa using this
  · intro q
    apply BitVec.eq_of_getLsbD_eq
    intro i _
    rw [BitVec.getLsbD_and, BitVec.getLsbD_ushiftRight, BitVec.getLsbD_one, BitVec.getLsbD_zero]
    by_cases hi : i = 0
    · subst hi; simp [q]
    · simp [hi]
theorem bitJ_set {J : MJ} {R i j : Nat} : bitJ (u2 J R (i / 64) ((J R (i / 64)) ||| (lShl (1#64) ((i % 64 : Nat) : Int)))) R j = (bitJ J R j || decide (j = i)) := by
  unfold bitJ
  by_cases hw : j / 64 = i / 64
  · rw [hw, u2e, BitVec.getLsbD_or, shl1_bit rfl (by omega)]
    congr 1
    exact decide_eq_decide.2 (by omega)
  · rw [u2j hw, decide_eq_false (by omega), Bool.or_false]
theorem bitJ_oth {J : MJ} {R R2 w j : Nat} {x : BitVec 64} (h : R2 ≠ R) : bitJ (u2 J R w x) R2 j = bitJ J R2 j := by
  unfold bitJ
  rw [u2n h]
section BITROW
variable {G : Ctx} {h n : Nat} {I : MI} {J : MJ} {b : B3} {x y z u v e : Int} {a : BitVec 64} {f1 f2 f3 : Bool}

theorem sx176_70 {K : Int → MS → Prop} (hh : 2 ≤ h) (g : 0 ≤ x ∧ x < 14336) (k1 : bitJ J 70 x.toNat = true → K 1 (I, J, PP b)) (k0 : ¬ (bitJ J 70 x.toNat = true) → K 0 (I, J, PP b)) : TriM G h 176 119 119 [vr 70, vi x] (I, J, PP b) (cI' K) := by
  refine x176_70_m hh (fun h hh => x176_70 hh ?_)
  rw [iShr6 ⟨g.1, by omega⟩, iAnd63 ⟨g.1, by omega⟩, lUsh_eq _ (k := x.toNat % 64) (by omega) (by omega), show (x / 64).toNat = x.toNat / 64 by omega]
  unfold bitJ at k1 k0
  refine ⟨fun _ => ⟨by omega, fun q => cI_r (k0 ?_), fun q => cI_r (k1 ?_)⟩, fun q => by omega⟩
  · rw [bit_and1.1 (lCmp_0.1 q)]; decide
  · cases hb : (J 70 (x.toNat / 64)).getLsbD (x.toNat % 64) with
    | true => rfl
    | false => exact absurd (lCmp_0.2 (bit_and1.2 hb)) q
theorem sx177_70 {K : MS → Prop} (hh : 2 ≤ h) (g : 0 ≤ x ∧ x < 14336) (k : K (I, u2 J 70 (x.toNat / 64) ((J 70 (x.toNat / 64)) ||| (lShl (1#64) ((x.toNat % 64 : Nat) : Int))), PP b)) : TriM G h 177 119 119 [vr 70, vi x] (I, J, PP b) (cV' K) := by
  refine x177_70_m hh (fun h hh => x177_70 hh ?_)
  rw [iShr6 ⟨g.1, by omega⟩, iAnd63 ⟨g.1, by omega⟩, show (x / 64).toNat = x.toNat / 64 by omega, show x % 64 = ((x.toNat % 64 : Nat) : Int) by omega]
  exact ⟨fun _ => ⟨by omega, by omega, cV_r k⟩, fun q => by omega⟩
theorem sx176_71 {K : Int → MS → Prop} (hh : 2 ≤ h) (g : 0 ≤ x ∧ x < 14336) (k1 : bitJ J 71 x.toNat = true → K 1 (I, J, PP b)) (k0 : ¬ (bitJ J 71 x.toNat = true) → K 0 (I, J, PP b)) : TriM G h 176 119 119 [vr 71, vi x] (I, J, PP b) (cI' K) := by
  refine x176_71_m hh (fun h hh => x176_71 hh ?_)
  rw [iShr6 ⟨g.1, by omega⟩, iAnd63 ⟨g.1, by omega⟩, lUsh_eq _ (k := x.toNat % 64) (by omega) (by omega), show (x / 64).toNat = x.toNat / 64 by omega]
  unfold bitJ at k1 k0
  refine ⟨fun _ => ⟨by omega, fun q => cI_r (k0 ?_), fun q => cI_r (k1 ?_)⟩, fun q => by omega⟩
  · rw [bit_and1.1 (lCmp_0.1 q)]; decide
  · cases hb : (J 71 (x.toNat / 64)).getLsbD (x.toNat % 64) with
    | true => rfl
    | false => exact absurd (lCmp_0.2 (bit_and1.2 hb)) q
theorem sx177_71 {K : MS → Prop} (hh : 2 ≤ h) (g : 0 ≤ x ∧ x < 14336) (k : K (I, u2 J 71 (x.toNat / 64) ((J 71 (x.toNat / 64)) ||| (lShl (1#64) ((x.toNat % 64 : Nat) : Int))), PP b)) : TriM G h 177 119 119 [vr 71, vi x] (I, J, PP b) (cV' K) := by
  refine x177_71_m hh (fun h hh => x177_71 hh ?_)
  rw [iShr6 ⟨g.1, by omega⟩, iAnd63 ⟨g.1, by omega⟩, show (x / 64).toNat = x.toNat / 64 by omega, show x % 64 = ((x.toNat % 64 : Nat) : Int) by omega]
  exact ⟨fun _ => ⟨by omega, by omega, cV_r k⟩, fun q => by omega⟩
theorem sx176_79 {K : Int → MS → Prop} (hh : 2 ≤ h) (g : 0 ≤ x ∧ x < 15360) (k1 : bitJ J 79 x.toNat = true → K 1 (I, J, PP b)) (k0 : ¬ (bitJ J 79 x.toNat = true) → K 0 (I, J, PP b)) : TriM G h 176 119 119 [vr 79, vi x] (I, J, PP b) (cI' K) := by
  refine x176_79_m hh (fun h hh => x176_79 hh ?_)
  rw [iShr6 ⟨g.1, by omega⟩, iAnd63 ⟨g.1, by omega⟩, lUsh_eq _ (k := x.toNat % 64) (by omega) (by omega), show (x / 64).toNat = x.toNat / 64 by omega]
  unfold bitJ at k1 k0
  refine ⟨fun _ => ⟨by omega, fun q => cI_r (k0 ?_), fun q => cI_r (k1 ?_)⟩, fun q => by omega⟩
  · rw [bit_and1.1 (lCmp_0.1 q)]; decide
  · cases hb : (J 79 (x.toNat / 64)).getLsbD (x.toNat % 64) with
    | true => rfl
    | false => exact absurd (lCmp_0.2 (bit_and1.2 hb)) q
theorem sx177_79 {K : MS → Prop} (hh : 2 ≤ h) (g : 0 ≤ x ∧ x < 15360) (k : K (I, u2 J 79 (x.toNat / 64) ((J 79 (x.toNat / 64)) ||| (lShl (1#64) ((x.toNat % 64 : Nat) : Int))), PP b)) : TriM G h 177 119 119 [vr 79, vi x] (I, J, PP b) (cV' K) := by
  refine x177_79_m hh (fun h hh => x177_79 hh ?_)
  rw [iShr6 ⟨g.1, by omega⟩, iAnd63 ⟨g.1, by omega⟩, show (x / 64).toNat = x.toNat / 64 by omega, show x % 64 = ((x.toNat % 64 : Nat) : Int) by omega]
  exact ⟨fun _ => ⟨by omega, by omega, cV_r k⟩, fun q => by omega⟩
theorem sx176_86 {K : Int → MS → Prop} (hh : 2 ≤ h) (g : 0 ≤ x ∧ x < 100032) (k1 : bitJ J 86 x.toNat = true → K 1 (I, J, PP b)) (k0 : ¬ (bitJ J 86 x.toNat = true) → K 0 (I, J, PP b)) : TriM G h 176 119 119 [vr 86, vi x] (I, J, PP b) (cI' K) := by
  refine x176_86_m hh (fun h hh => x176_86 hh ?_)
  rw [iShr6 ⟨g.1, by omega⟩, iAnd63 ⟨g.1, by omega⟩, lUsh_eq _ (k := x.toNat % 64) (by omega) (by omega), show (x / 64).toNat = x.toNat / 64 by omega]
  unfold bitJ at k1 k0
  refine ⟨fun _ => ⟨by omega, fun q => cI_r (k0 ?_), fun q => cI_r (k1 ?_)⟩, fun q => by omega⟩
  · rw [bit_and1.1 (lCmp_0.1 q)]; decide
  · cases hb : (J 86 (x.toNat / 64)).getLsbD (x.toNat % 64) with
    | true => rfl
    | false => exact absurd (lCmp_0.2 (bit_and1.2 hb)) q
theorem sx177_86 {K : MS → Prop} (hh : 2 ≤ h) (g : 0 ≤ x ∧ x < 100032) (k : K (I, u2 J 86 (x.toNat / 64) ((J 86 (x.toNat / 64)) ||| (lShl (1#64) ((x.toNat % 64 : Nat) : Int))), PP b)) : TriM G h 177 119 119 [vr 86, vi x] (I, J, PP b) (cV' K) := by
  refine x177_86_m hh (fun h hh => x177_86 hh ?_)
  rw [iShr6 ⟨g.1, by omega⟩, iAnd63 ⟨g.1, by omega⟩, show (x / 64).toNat = x.toNat / 64 by omega, show x % 64 = ((x.toNat % 64 : Nat) : Int) by omega]
  exact ⟨fun _ => ⟨by omega, by omega, cV_r k⟩, fun q => by omega⟩
theorem sx176_87 {K : Int → MS → Prop} (hh : 2 ≤ h) (g : 0 ≤ x ∧ x < 100032) (k1 : bitJ J 87 x.toNat = true → K 1 (I, J, PP b)) (k0 : ¬ (bitJ J 87 x.toNat = true) → K 0 (I, J, PP b)) : TriM G h 176 119 119 [vr 87, vi x] (I, J, PP b) (cI' K) := by
  refine x176_87_m hh (fun h hh => x176_87 hh ?_)
  rw [iShr6 ⟨g.1, by omega⟩, iAnd63 ⟨g.1, by omega⟩, lUsh_eq _ (k := x.toNat % 64) (by omega) (by omega), show (x / 64).toNat = x.toNat / 64 by omega]
  unfold bitJ at k1 k0
  refine ⟨fun _ => ⟨by omega, fun q => cI_r (k0 ?_), fun q => cI_r (k1 ?_)⟩, fun q => by omega⟩
  · rw [bit_and1.1 (lCmp_0.1 q)]; decide
  · cases hb : (J 87 (x.toNat / 64)).getLsbD (x.toNat % 64) with
    | true => rfl
    | false => exact absurd (lCmp_0.2 (bit_and1.2 hb)) q
theorem sx177_87 {K : MS → Prop} (hh : 2 ≤ h) (g : 0 ≤ x ∧ x < 100032) (k : K (I, u2 J 87 (x.toNat / 64) ((J 87 (x.toNat / 64)) ||| (lShl (1#64) ((x.toNat % 64 : Nat) : Int))), PP b)) : TriM G h 177 119 119 [vr 87, vi x] (I, J, PP b) (cV' K) := by
  refine x177_87_m hh (fun h hh => x177_87 hh ?_)
  rw [iShr6 ⟨g.1, by omega⟩, iAnd63 ⟨g.1, by omega⟩, show (x / 64).toNat = x.toNat / 64 by omega, show x % 64 = ((x.toNat % 64 : Nat) : Int) by omega]
  exact ⟨fun _ => ⟨by omega, by omega, cV_r k⟩, fun q => by omega⟩
theorem sx106_86_l {Q : MP} (H : Q none (I, u1 J 86 (fun j => if (j : Int) < I 85 4 then 0#64 else J 86 j), PP b)) (g : 0 ≤ I 85 4 ∧ I 85 4 ≤ 1563) : ∀ (m i : Nat), (i : Int) + m = I 85 4 → Tri G h 106 119 119 2 [some (vr 85), some (vr 86), some (vi i)] [] (I, u1 J 86 (fun j => if j < i then 0#64 else J 86 j), PP b) Q := by
  intro m
  induction m with
  | zero =>
    intro i hi
    refine x106_86_2 (Nat.zero_le _) ⟨fun q => ?_, fun q => by omega⟩
    have e : (fun j => if j < i then 0#64 else J 86 j) = (fun j : Nat => if (j : Int) < I 85 4 then 0#64 else J 86 j) := by
      funext j
      by_cases hj : j < i
      · rw [if_pos hj, if_pos (by omega)]
      · rw [if_neg hj, if_neg (by omega)]
    rw [e]
    exact H
  | succ m ih =>
    intro i hi
    refine x106_86_2 (Nat.zero_le _) ⟨fun q => by omega, fun q => ⟨by omega, ?_⟩⟩
    rw [w32_id (by omega) (by omega), toN, fill_s]
    exact ih (i + 1) (by omega)
theorem sx106_86 {K : MS → Prop} (hh : 1 ≤ h) (g : 0 ≤ I 85 4 ∧ I 85 4 ≤ 1563) (k : K (I, u1 J 86 (fun j => if (j : Int) < I 85 4 then 0#64 else J 86 j), PP b)) : TriM G h 106 119 119 [vr 85, vr 86] (I, J, PP b) (cV' K) := by
  refine x106_86_m hh (fun h hh => x106_86 hh ?_)
  have h1 := sx106_86_l (G := G) (h := h) (I := I) (J := J) (b := b) (Q := cV' K) (cV_r k) g (I 85 4).toNat 0 (by omega)
  rw [fill_0] at h1
  exact h1
theorem sx106_87_l {Q : MP} (H : Q none (I, u1 J 87 (fun j => if (j : Int) < I 85 4 then 0#64 else J 87 j), PP b)) (g : 0 ≤ I 85 4 ∧ I 85 4 ≤ 1563) : ∀ (m i : Nat), (i : Int) + m = I 85 4 → Tri G h 106 119 119 2 [some (vr 85), some (vr 87), some (vi i)] [] (I, u1 J 87 (fun j => if j < i then 0#64 else J 87 j), PP b) Q := by
  intro m
  induction m with
  | zero =>
    intro i hi
    refine x106_87_2 (Nat.zero_le _) ⟨fun q => ?_, fun q => by omega⟩
    have e : (fun j => if j < i then 0#64 else J 87 j) = (fun j : Nat => if (j : Int) < I 85 4 then 0#64 else J 87 j) := by
      funext j
      by_cases hj : j < i
      · rw [if_pos hj, if_pos (by omega)]
      · rw [if_neg hj, if_neg (by omega)]
    rw [e]
    exact H
  | succ m ih =>
    intro i hi
    refine x106_87_2 (Nat.zero_le _) ⟨fun q => by omega, fun q => ⟨by omega, ?_⟩⟩
    rw [w32_id (by omega) (by omega), toN, fill_s]
    exact ih (i + 1) (by omega)
theorem sx106_87 {K : MS → Prop} (hh : 1 ≤ h) (g : 0 ≤ I 85 4 ∧ I 85 4 ≤ 1563) (k : K (I, u1 J 87 (fun j => if (j : Int) < I 85 4 then 0#64 else J 87 j), PP b)) : TriM G h 106 119 119 [vr 85, vr 87] (I, J, PP b) (cV' K) := by
  refine x106_87_m hh (fun h hh => x106_87 hh ?_)
  have h1 := sx106_87_l (G := G) (h := h) (I := I) (J := J) (b := b) (Q := cV' K) (cV_r k) g (I 85 4).toNat 0 (by omega)
  rw [fill_0] at h1
  exact h1
def lfI (I : MI) (c s : Int) : Int := c / I 88 s.toNat % I 89 s.toNat
theorem sx109 {K : Int → MS → Prop} (hh : 1 ≤ h) (g : (0 ≤ x ∧ x < 200000) ∧ (0 ≤ y ∧ y < 5) ∧ (0 < I 88 y.toNat ∧ I 88 y.toNat < 200000) ∧ 0 < I 89 y.toNat ∧ I 89 y.toNat ≤ 10) (k : K (lfI I x y) (I, J, PP b)) : TriM G h 109 119 119 [vr 85, vi x, vi y] (I, J, PP b) (cI' K) := by
  refine x109_m hh (fun h hh => x109 hh ?_)
  have hd : 0 ≤ x / I 88 y.toNat := Int.ediv_nonneg g.1.1 (by omega)
  have hd2 : x / I 88 y.toNat ≤ x := Int.ediv_le_self _ g.1.1
  rw [iDiv_pos g.1.1 (by omega) g.2.2.1.1 (by omega), iRem_pos hd (by omega) g.2.2.2.1 (by omega)]
  exact ⟨g.2.1, g.2.1, fun q => by omega, fun q => ⟨fun q2 => by omega, fun q2 => ⟨by omega, by omega, cI_r k⟩⟩⟩

set_option maxRecDepth 100000 in
theorem x105t {G : Ctx} {h : Nat} {Q : MP} {I : Nat → Nat → Int} {J : Nat → Nat → BitVec 64} {f2 f3 : Bool} (hh : 0 ≤ h) (H : Tri G h 105 119 119 10 [some (vr 85), some (vr 90), some (vi 1), some (vi 0), some (vi 0), some (vi 0)] [] (I, J, PP (true, f2, f3)) Q) : Tri G h 105 119 119 0 [some (vr 85), some (vr 90)] [] (I, J, PP (true, f2, f3)) Q := wp_at ck105 [(10, [true, true, true, true, true, true])] 400 H
set_option maxRecDepth 100000 in
theorem x105t_10 {G : Ctx} {h : Nat} {Q : MP} {I : Nat → Nat → Int} {J : Nat → Nat → BitVec 64} {f2 f3 : Bool} {l2 l3 l4 l5 : Int} (hh : 2 ≤ h) (H : ((5 ≤ l5) → ((0 ≤ min (1563 : Int) (iDiv (w32 (l2 + 63)) 64) ∧ min (1563 : Int) (iDiv (w32 (l2 + 63)) 64) ≤ 1563) ∧ ((0 ≤ l3 ∧ l3 < 100032) ∧ (Q (some (vi l4)) (u2 I 85 4 (min (1563 : Int) (iDiv (w32 (l2 + 63)) 64)), u2 (u1 J 86 (fun j => if (j : Int) < min (1563 : Int) (iDiv (w32 (l2 + 63)) 64) then 0#64 else J 86 j)) 86 (l3.toNat / 64) (((u1 J 86 (fun j => if (j : Int) < min (1563 : Int) (iDiv (w32 (l2 + 63)) 64) then 0#64 else J 86 j)) 86 (l3.toNat / 64)) ||| (lShl (1#64) ((l3.toNat % 64 : Nat) : Int))), PP (true, f2, f3)))))) ∧ (¬ (5 ≤ l5) → ((0 ≤ l5 ∧ l5 < (5 : Int)) ∧ ((0 ≤ l5 ∧ l5 < (5 : Int)) ∧ ((0 ≤ l5 ∧ l5 < (5 : Int)) ∧ (Tri G h 105 119 119 10 [some (vr 85), some (vr 90), some (vi (w32 (l2 * (w32 ((min (I 90 l5.toNat) (9 : Int)) + 1))))), some (vi (w32 (l3 + (w32 ((min (I 90 l5.toNat) (9 : Int)) * l2))))), some (vi (w32 (l4 + (min (I 90 l5.toNat) (9 : Int))))), some (vi (w32 (l5 + 1)))] [] (u2 (u2 I 88 l5.toNat l2) 89 l5.toNat (w32 ((min (I 90 l5.toNat) (9 : Int)) + 1)), J, PP (true, f2, f3)) Q)))))) : Tri G h 105 119 119 10 [some (vr 85), some (vr 90), some (vi l2), some (vi l3), some (vi l4), some (vi l5)] [] (I, J, PP (true, f2, f3)) Q := wp_at ck105 [(10, [true, true, true, true, true, true])] 400 (And.intro (fun q932 => And.intro (show (64 : Int) ≠ 0 by decide) (sx3 (by omega)  (sx106_86 (by omega) (H.1 q932).1 (sx177_86 (by omega) ((H.1 q932).2).1 (((H.1 q932).2).2))))) (fun q933 => And.intro (H.2 q933).1 (sx3 (by omega)  ((H.2 q933).2))))
theorem x105t_m {G : Ctx} {h : Nat} {Q : MP} {I : Nat → Nat → Int} {J : Nat → Nat → BitVec 64} {f2 f3 : Bool} (hh : 3 ≤ h) (H : ∀ h, 2 ≤ h → Tri G h 105 119 119 0 [some (vr 85), some (vr 90)] [] (I, J, PP (true, f2, f3)) Q) : TriM G h 105 119 119 [vr 85, vr 90] (I, J, PP (true, f2, f3)) Q := TriM_intro (h - 1) (by omega) (by decide) (Nat.le_of_ble_eq_true rfl) (Nat.le_refl _) (Nat.le_refl _) (H (h - 1) (by omega))
set_option maxRecDepth 100000 in
theorem x108t {G : Ctx} {h : Nat} {Q : MP} {I : Nat → Nat → Int} {J : Nat → Nat → BitVec 64} {f2 f3 : Bool} {x y z : Int} (hh : 0 ≤ h) (H : Tri G h 108 119 119 6 [some (vr 85), some (vi x), some (vr 25), some (vi y), some (vi z), some (vi 1), some (vi 0)] [] (I, J, PP (true, f2, f3)) Q) : Tri G h 108 119 119 0 [some (vr 85), some (vi x), some (vr 25), some (vi y), some (vi z)] [] (I, J, PP (true, f2, f3)) Q := wp_at ck108 [(6, [true, true, true, true, true, true, true])] 400 H
set_option maxRecDepth 100000 in
theorem x108t_6 {G : Ctx} {h : Nat} {Q : MP} {I : Nat → Nat → Int} {J : Nat → Nat → BitVec 64} {f2 f3 : Bool} {l1 l3 l4 l5 l6 : Int} (hh : 2 ≤ h) (H : ((5 ≤ l6) → (((l5 = 0) → (Q none (I, J, PP (true, f2, f3)))) ∧ (¬ (l5 = 0) → ((0 ≤ l1 ∧ l1 < 100032) ∧ (Q none (I, u2 J 87 (l1.toNat / 64) ((J 87 (l1.toNat / 64)) ||| (lShl (1#64) ((l1.toNat % 64 : Nat) : Int))), PP (true, f2, f3))))))) ∧ (¬ (5 ≤ l6) → (((0 ≤ l1 ∧ l1 < 200000) ∧ (0 ≤ l6 ∧ l6 < 5) ∧ (0 < I 88 l6.toNat ∧ I 88 l6.toNat < 200000) ∧ 0 < I 89 l6.toNat ∧ I 89 l6.toNat ≤ 10) ∧ ((((lfI I l1 l6) ≤ 0) → (Tri G h 108 119 119 6 [some (vr 85), some (vi l1), some (vr 25), some (vi l3), some (vi l4), some (vi l5), some (vi (w32 (l6 + 1)))] [] (I, J, PP (true, f2, f3)) Q)) ∧ (¬ ((lfI I l1 l6) ≤ 0) → (((0 ≤ l6 ∧ l6 < (5 : Int)) → (((0 ≤ l3 ∧ l3 < (4 : Int)) → ((0 ≤ (w32 ((w32 (l6 * 4)) + l3)) ∧ (w32 ((w32 (l6 * 4)) + l3)) < (20 : Int)) ∧ (((¬ (I 28 ((w32 ((w32 (l6 * 4)) + l3)).toNat)) = 0) → (Tri G h 108 119 119 6 [some (vr 85), some (vi l1), some (vr 25), some (vi l3), some (vi l4), some (vi l5), some (vi (w32 (l6 + 1)))] [] (I, J, PP (true, f2, f3)) Q)) ∧ (¬ (¬ (I 28 ((w32 ((w32 (l6 * 4)) + l3)).toNat)) = 0) → ((0 ≤ l6 ∧ l6 < (5 : Int)) ∧ ((0 ≤ (w32 (l1 - (w32 ((min (lfI I l1 l6) l4) * (I 88 l6.toNat))))) ∧ (w32 (l1 - (w32 ((min (lfI I l1 l6) l4) * (I 88 l6.toNat))))) < 100032) ∧ (Tri G h 108 119 119 6 [some (vr 85), some (vi l1), some (vr 25), some (vi l3), some (vi l4), some (vi 0), some (vi (w32 (l6 + 1)))] [] (I, u2 J 87 ((w32 (l1 - (w32 ((min (lfI I l1 l6) l4) * (I 88 l6.toNat))))).toNat / 64) ((J 87 ((w32 (l1 - (w32 ((min (lfI I l1 l6) l4) * (I 88 l6.toNat))))).toNat / 64)) ||| (lShl (1#64) (((w32 (l1 - (w32 ((min (lfI I l1 l6) l4) * (I 88 l6.toNat))))).toNat % 64 : Nat) : Int))), PP (true, f2, f3)) Q))))))) ∧ (¬ (0 ≤ l3 ∧ l3 < (4 : Int)) → (Tri G h 108 119 119 6 [some (vr 85), some (vi l1), some (vr 25), some (vi l3), some (vi l4), some (vi l5), some (vi (w32 (l6 + 1)))] [] (I, J, PP (true, f2, f3)) Q)))) ∧ (¬ (0 ≤ l6 ∧ l6 < (5 : Int)) → (Tri G h 108 119 119 6 [some (vr 85), some (vi l1), some (vr 25), some (vi l3), some (vi l4), some (vi l5), some (vi (w32 (l6 + 1)))] [] (I, J, PP (true, f2, f3)) Q)))))))) : Tri G h 108 119 119 6 [some (vr 85), some (vi l1), some (vr 25), some (vi l3), some (vi l4), some (vi l5), some (vi l6)] [] (I, J, PP (true, f2, f3)) Q := wp_at ck108 [(6, [true, true, true, true, true, true, true])] 400 (And.intro (fun q934 => And.intro (fun q936 => (H.1 q934).1 q936) (fun q937 => sx177_87 (by omega) ((H.1 q934).2 q937).1 (((H.1 q934).2 q937).2))) (fun q935 => sx109 (by omega) (H.2 q935).1 (And.intro (fun q938 => ((H.2 q935).2).1 q938) (fun q939 => x53_m (by omega) (fun h hh => x53 hh (And.intro (fun q940 => And.intro (fun q942 => And.intro (((((H.2 q935).2).2 q939).1 q940).1 q942).1 (And.intro (fun q944 => cI_r (And.intro (fun _ => ((((((H.2 q935).2).2 q939).1 q940).1 q942).2).1 q944) (fun z => absurd (show (0 : Int) = (0 : Int) by decide) z))) (fun q945 => cI_r (And.intro (fun z => absurd z (show ¬ ((1 : Int) = (0 : Int)) by decide)) (fun _ => sx3 (by omega)  (And.intro (((((((H.2 q935).2).2 q939).1 q940).1 q942).2).2 q945).1 (sx177_87 (by omega) ((((((((H.2 q935).2).2 q939).1 q940).1 q942).2).2 q945).2).1 (((((((((H.2 q935).2).2 q939).1 q940).1 q942).2).2 q945).2).2)))))))) (fun q943 => cI_r (And.intro (fun _ => ((((H.2 q935).2).2 q939).1 q940).2 q943) (fun z => absurd (show (0 : Int) = (0 : Int) by decide) z)))) (fun q941 => cI_r (And.intro (fun _ => (((H.2 q935).2).2 q939).2 q941) (fun z => absurd (show (0 : Int) = (0 : Int) by decide) z)))))))))
theorem x108t_m {G : Ctx} {h : Nat} {Q : MP} {I : Nat → Nat → Int} {J : Nat → Nat → BitVec 64} {f2 f3 : Bool} {x y z : Int} (hh : 3 ≤ h) (H : ∀ h, 2 ≤ h → Tri G h 108 119 119 0 [some (vr 85), some (vi x), some (vr 25), some (vi y), some (vi z)] [] (I, J, PP (true, f2, f3)) Q) : TriM G h 108 119 119 [vr 85, vi x, vr 25, vi y, vi z] (I, J, PP (true, f2, f3)) Q := TriM_intro (h - 1) (by omega) (by decide) (Nat.le_of_ble_eq_true rfl) (Nat.le_refl _) (Nat.le_refl _) (H (h - 1) (by omega))
set_option maxRecDepth 100000 in
theorem x107t {G : Ctx} {h : Nat} {Q : MP} {I : Nat → Nat → Int} {J : Nat → Nat → BitVec 64} {f2 f3 : Bool} {x y : Int} (hh : 1 ≤ h) (H : (0 ≤ I 85 4 ∧ I 85 4 ≤ 1563) ∧ (Tri G h 107 119 119 11 [some (vr 85), some (vr 25), some (vi x), some (vi y), some (vi 0)] [] (I, u1 J 87 (fun j => if (j : Int) < I 85 4 then 0#64 else J 87 j), PP (true, f2, f3)) Q)) : Tri G h 107 119 119 0 [some (vr 85), some (vr 25), some (vi x), some (vi y)] [] (I, J, PP (true, f2, f3)) Q := wp_at ck107 [(11, [true, true, true, true, true]), (32, [true, true, true, true, true, true, false, true])] 400 (sx106_87 (by omega) H.1 H.2)
set_option maxRecDepth 100000 in
theorem x107t_11 {G : Ctx} {h : Nat} {Q : MP} {I : Nat → Nat → Int} {J : Nat → Nat → BitVec 64} {f2 f3 : Bool} {l2 l3 l4 : Int} (hh : 0 ≤ h) (H : (((I 85 4) ≤ l4) → (Q none (I, J, u2 (u2 (PP (true, f2, f3)) 85 0 87) 85 1 86))) ∧ (¬ ((I 85 4) ≤ l4) → ((0 ≤ l4 ∧ l4 < (1563 : Int)) ∧ (Tri G h 107 119 119 32 [some (vr 85), some (vr 25), some (vi l2), some (vi l3), some (vi l4), some (vl (J 86 l4.toNat)), none, some (vi 0)] [] (I, J, PP (true, f2, f3)) Q)))) : Tri G h 107 119 119 11 [some (vr 85), some (vr 25), some (vi l2), some (vi l3), some (vi l4)] [] (I, J, PP (true, f2, f3)) Q := wp_at ck107 [(11, [true, true, true, true, true]), (32, [true, true, true, true, true, true, false, true])] 400 H
set_option maxRecDepth 100000 in
theorem x107t_32 {G : Ctx} {h : Nat} {Q : MP} {I : Nat → Nat → Int} {J : Nat → Nat → BitVec 64} {f2 f3 : Bool} {l2 l3 l4 l7 : Int} {l5 : BitVec 64} (hh : 4 ≤ h) (H : ((64 ≤ l7) → (Tri G h 107 119 119 11 [some (vr 85), some (vr 25), some (vi l2), some (vi l3), some (vi (w32 (l4 + 1)))] [] (I, J, PP (true, f2, f3)) Q)) ∧ (¬ (64 ≤ l7) → ((((lCmp l5 (0#64)) = 0) → (Tri G h 107 119 119 11 [some (vr 85), some (vr 25), some (vi l2), some (vi l3), some (vi (w32 (l4 + 1)))] [] (I, J, PP (true, f2, f3)) Q)) ∧ (¬ ((lCmp l5 (0#64)) = 0) → (TriM G h 19 119 119 [vl l5] (I, J, PP (true, f2, f3)) (cIN fun r1 I1 J1 b1 => (TriM G h 108 119 119 [vr 85, vi (w32 ((w32 (l4 * 64)) + r1)), vr 25, vi l2, vi l3] (I1, J1, PP b1) (cVN fun I2 J2 b2 => (Tri G h 107 119 119 32 [some (vr 85), some (vr 25), some (vi l2), some (vi l3), some (vi l4), some (vl (l5 &&& (l5 - (1#64)))), none, some (vi (w32 (l7 + 1)))] [] (I2, J2, PP b2) Q))))))))) : Tri G h 107 119 119 32 [some (vr 85), some (vr 25), some (vi l2), some (vi l3), some (vi l4), some (vl l5), none, some (vi l7)] [] (I, J, PP (true, f2, f3)) Q := wp_at ck107 [(11, [true, true, true, true, true]), (32, [true, true, true, true, true, true, false, true])] 400 (And.intro (fun q946 => H.1 q946) (fun q947 => And.intro (fun q948 => (H.2 q947).1 q948) (fun q949 => cIN_go ((H.2 q947).2 q949) (fun r1 I1 J1 b1 q950 => cVN_go q950 (fun I2 J2 b2 q951 => q951)))))
theorem x107t_m {G : Ctx} {h : Nat} {Q : MP} {I : Nat → Nat → Int} {J : Nat → Nat → BitVec 64} {f2 f3 : Bool} {x y : Int} (hh : 5 ≤ h) (H : ∀ h, 4 ≤ h → Tri G h 107 119 119 0 [some (vr 85), some (vr 25), some (vi x), some (vi y)] [] (I, J, PP (true, f2, f3)) Q) : TriM G h 107 119 119 [vr 85, vr 25, vi x, vi y] (I, J, PP (true, f2, f3)) Q := TriM_intro (h - 1) (by omega) (by decide) (Nat.le_of_ble_eq_true rfl) (Nat.le_refl _) (Nat.le_refl _) (H (h - 1) (by omega))
set_option maxRecDepth 100000 in
theorem x110t {G : Ctx} {h : Nat} {Q : MP} {I : Nat → Nat → Int} {J : Nat → Nat → BitVec 64} {f2 f3 : Bool} (hh : 0 ≤ h) (H : Tri G h 110 119 119 5 [some (vr 85), some (vi 45), some (vi 0)] [] (I, J, PP (true, f2, f3)) Q) : Tri G h 110 119 119 0 [some (vr 85)] [] (I, J, PP (true, f2, f3)) Q := wp_at ck110 [(5, [true, true, true]), (23, [true, true, true, true, false, true]), (53, [true, true, true, true, false, true, true, true, true])] 400 H
set_option maxRecDepth 100000 in
theorem x110t_5 {G : Ctx} {h : Nat} {Q : MP} {I : Nat → Nat → Int} {J : Nat → Nat → BitVec 64} {f2 f3 : Bool} {l1 l2 : Int} (hh : 0 ≤ h) (H : (((I 85 4) ≤ l2) → (Q (some (vi l1)) (I, J, PP (true, f2, f3)))) ∧ (¬ ((I 85 4) ≤ l2) → ((0 ≤ l2 ∧ l2 < (1563 : Int)) ∧ (Tri G h 110 119 119 23 [some (vr 85), some (vi l1), some (vi l2), some (vl (J 86 l2.toNat)), none, some (vi 0)] [] (I, J, PP (true, f2, f3)) Q)))) : Tri G h 110 119 119 5 [some (vr 85), some (vi l1), some (vi l2)] [] (I, J, PP (true, f2, f3)) Q := wp_at ck110 [(5, [true, true, true]), (23, [true, true, true, true, false, true]), (53, [true, true, true, true, false, true, true, true, true])] 400 H
set_option maxRecDepth 100000 in
theorem x110t_23 {G : Ctx} {h : Nat} {Q : MP} {I : Nat → Nat → Int} {J : Nat → Nat → BitVec 64} {f2 f3 : Bool} {l1 l2 l5 : Int} {l3 : BitVec 64} (hh : 2 ≤ h) (H : ((64 ≤ l5) → (Tri G h 110 119 119 5 [some (vr 85), some (vi l1), some (vi (w32 (l2 + 1)))] [] (I, J, PP (true, f2, f3)) Q)) ∧ (¬ (64 ≤ l5) → ((((lCmp l3 (0#64)) = 0) → (Tri G h 110 119 119 5 [some (vr 85), some (vi l1), some (vi (w32 (l2 + 1)))] [] (I, J, PP (true, f2, f3)) Q)) ∧ (¬ ((lCmp l3 (0#64)) = 0) → (TriM G h 19 119 119 [vl l3] (I, J, PP (true, f2, f3)) (cIN fun r1 I1 J1 b1 => (Tri G h 110 119 119 53 [some (vr 85), some (vi l1), some (vi l2), some (vl l3), none, some (vi l5), some (vi (w32 ((w32 (l2 * 64)) + r1))), some (vi 0), some (vi 0)] [] (I1, J1, PP b1) Q))))))) : Tri G h 110 119 119 23 [some (vr 85), some (vi l1), some (vi l2), some (vl l3), none, some (vi l5)] [] (I, J, PP (true, f2, f3)) Q := wp_at ck110 [(5, [true, true, true]), (23, [true, true, true, true, false, true]), (53, [true, true, true, true, false, true, true, true, true])] 400 (And.intro (fun q952 => H.1 q952) (fun q953 => And.intro (fun q954 => (H.2 q953).1 q954) (fun q955 => cIN_go ((H.2 q953).2 q955) (fun r1 I1 J1 b1 q956 => q956))))
set_option maxRecDepth 100000 in
theorem x110t_53 {G : Ctx} {h : Nat} {Q : MP} {I : Nat → Nat → Int} {J : Nat → Nat → BitVec 64} {f2 f3 : Bool} {l1 l2 l5 l6 l7 l8 : Int} {l3 : BitVec 64} (hh : 1 ≤ h) (H : ((5 ≤ l8) → (Tri G h 110 119 119 23 [some (vr 85), some (vi (min l1 l7)), some (vi l2), some (vl (l3 &&& (l3 - (1#64)))), none, some (vi (w32 (l5 + 1)))] [] (I, J, PP (true, f2, f3)) Q)) ∧ (¬ (5 ≤ l8) → (((0 ≤ l6 ∧ l6 < 200000) ∧ (0 ≤ l8 ∧ l8 < 5) ∧ (0 < I 88 l8.toNat ∧ I 88 l8.toNat < 200000) ∧ 0 < I 89 l8.toNat ∧ I 89 l8.toNat ≤ 10) ∧ (Tri G h 110 119 119 53 [some (vr 85), some (vi l1), some (vi l2), some (vl l3), none, some (vi l5), some (vi l6), some (vi (w32 (l7 + (lfI I l6 l8)))), some (vi (w32 (l8 + 1)))] [] (I, J, PP (true, f2, f3)) Q)))) : Tri G h 110 119 119 53 [some (vr 85), some (vi l1), some (vi l2), some (vl l3), none, some (vi l5), some (vi l6), some (vi l7), some (vi l8)] [] (I, J, PP (true, f2, f3)) Q := wp_at ck110 [(5, [true, true, true]), (23, [true, true, true, true, false, true]), (53, [true, true, true, true, false, true, true, true, true])] 400 (And.intro (fun q957 => sx3 (by omega)  (H.1 q957)) (fun q958 => sx109 (by omega) (H.2 q958).1 ((H.2 q958).2)))
theorem x110t_m {G : Ctx} {h : Nat} {Q : MP} {I : Nat → Nat → Int} {J : Nat → Nat → BitVec 64} {f2 f3 : Bool} (hh : 3 ≤ h) (H : ∀ h, 2 ≤ h → Tri G h 110 119 119 0 [some (vr 85)] [] (I, J, PP (true, f2, f3)) Q) : TriM G h 110 119 119 [vr 85] (I, J, PP (true, f2, f3)) Q := TriM_intro (h - 1) (by omega) (by decide) (Nat.le_of_ble_eq_true rfl) (Nat.le_refl _) (Nat.le_refl _) (H (h - 1) (by omega))
set_option maxRecDepth 100000 in
theorem x104t {G : Ctx} {h : Nat} {Q : MP} {I : Nat → Nat → Int} {J : Nat → Nat → BitVec 64} {f2 f3 : Bool} (hh : 3 ≤ h) (H : TriM G h 105 119 119 [vr 85, vr 90] (I, J, PP (true, f2, f3)) (cIN fun r1 I1 J1 b1 => (Tri G h 104 119 119 9 [some (vr 85), some (vr 25), none, some (vi r1), some (vi 0)] [] (I1, J1, PP b1) Q))) : Tri G h 104 119 119 0 [some (vr 85), some (vr 25), some (vr 90)] [] (I, J, PP (true, f2, f3)) Q := wp_at ck104 [(9, [true, true, false, true, true]), (21, [true, true, false, true, true, true])] 400 (cIN_go H (fun r1 I1 J1 b1 q959 => q959))
set_option maxRecDepth 100000 in
theorem x104t_9 {G : Ctx} {h : Nat} {Q : MP} {I : Nat → Nat → Int} {J : Nat → Nat → BitVec 64} {f2 f3 : Bool} {l3 l4 : Int} (hh : 3 ≤ h) (H : (((I 25 0) ≤ l4) → (TriM G h 110 119 119 [vr 85] (I, J, PP (true, f2, f3)) (cIN fun r1 I1 J1 b1 => (Q (some (vi (w32 (l3 - r1)))) (I1, J1, PP b1))))) ∧ (¬ ((I 25 0) ≤ l4) → (Tri G h 104 119 119 21 [some (vr 85), some (vr 25), none, some (vi l3), some (vi l4), some (vi 0)] [] (I, J, PP (true, f2, f3)) Q))) : Tri G h 104 119 119 9 [some (vr 85), some (vr 25), none, some (vi l3), some (vi l4)] [] (I, J, PP (true, f2, f3)) Q := wp_at ck104 [(9, [true, true, false, true, true]), (21, [true, true, false, true, true, true])] 400 (And.intro (fun q960 => cIN_go (H.1 q960) (fun r1 I1 J1 b1 q962 => q962)) (fun q961 => H.2 q961))
set_option maxRecDepth 100000 in
theorem x104t_21 {G : Ctx} {h : Nat} {Q : MP} {I : Nat → Nat → Int} {J : Nat → Nat → BitVec 64} {f2 f3 : Bool} {l3 l4 l5 : Int} (hh : 5 ≤ h) (H : (((I 25 1) ≤ l5) → (Tri G h 104 119 119 9 [some (vr 85), some (vr 25), none, some (vi l3), some (vi (w32 (l4 + 1)))] [] (I, J, PP (true, f2, f3)) Q)) ∧ (¬ ((I 25 1) ≤ l5) → ((0 ≤ (0 : Int) ∧ (0 : Int) < 100032) ∧ (((bitJ J 86 (0 : Int).toNat = true) → ((0 ≤ l5 ∧ l5 < (6 : Int)) ∧ ((((I 27 l5.toNat) ≤ 0) → (Tri G h 104 119 119 21 [some (vr 85), some (vr 25), none, some (vi l3), some (vi l4), some (vi (w32 (l5 + 1)))] [] (I, J, PP (true, f2, f3)) Q)) ∧ (¬ ((I 27 l5.toNat) ≤ 0) → (Tri G h 104 119 119 21 [some (vr 85), some (vr 25), none, some (vi l3), some (vi l4), some (vi (w32 (l5 + 1)))] [] (I, J, PP (true, f2, f3)) Q))))) ∧ (¬ (bitJ J 86 (0 : Int).toNat = true) → ((0 ≤ l5 ∧ l5 < (6 : Int)) ∧ ((((I 27 l5.toNat) ≤ 0) → (Tri G h 104 119 119 21 [some (vr 85), some (vr 25), none, some (vi l3), some (vi l4), some (vi (w32 (l5 + 1)))] [] (I, J, PP (true, f2, f3)) Q)) ∧ (¬ ((I 27 l5.toNat) ≤ 0) → ((0 ≤ l5 ∧ l5 < (6 : Int)) ∧ (TriM G h 107 119 119 [vr 85, vr 25, vi l4, vi (I 27 l5.toNat)] (I, J, PP (true, f2, f3)) (cVN fun I1 J1 b1 => (Tri G h 104 119 119 21 [some (vr 85), some (vr 25), none, some (vi l3), some (vi l4), some (vi (w32 (l5 + 1)))] [] (I1, J1, PP b1) Q)))))))))))) : Tri G h 104 119 119 21 [some (vr 85), some (vr 25), none, some (vi l3), some (vi l4), some (vi l5)] [] (I, J, PP (true, f2, f3)) Q := wp_at ck104 [(9, [true, true, false, true, true]), (21, [true, true, false, true, true, true])] 400 (And.intro (fun q963 => H.1 q963) (fun q964 => sx176_86 (by omega) (H.2 q964).1 (fun q965 => And.intro (((H.2 q964).2).1 q965).1 (And.intro (fun q967 => ((((H.2 q964).2).1 q965).2).1 q967) (fun q968 => And.intro (fun _ => ((((H.2 q964).2).1 q965).2).2 q968) (fun z => absurd (show ¬ (1 : Int) = (0 : Int) by decide) z)))) (fun q966 => And.intro (((H.2 q964).2).2 q966).1 (And.intro (fun q969 => ((((H.2 q964).2).2 q966).2).1 q969) (fun q970 => And.intro (fun z => absurd z (show ¬ (¬ (0 : Int) = (0 : Int)) by decide)) (fun _ => And.intro (((((H.2 q964).2).2 q966).2).2 q970).1 (cVN_go ((((((H.2 q964).2).2 q966).2).2 q970).2) (fun I1 J1 b1 q971 => q971))))))))
theorem x104t_m {G : Ctx} {h : Nat} {Q : MP} {I : Nat → Nat → Int} {J : Nat → Nat → BitVec 64} {f2 f3 : Bool} (hh : 6 ≤ h) (H : ∀ h, 5 ≤ h → Tri G h 104 119 119 0 [some (vr 85), some (vr 25), some (vr 90)] [] (I, J, PP (true, f2, f3)) Q) : TriM G h 104 119 119 [vr 85, vr 25, vr 90] (I, J, PP (true, f2, f3)) Q := TriM_intro (h - 1) (by omega) (by decide) (Nat.le_of_ble_eq_true rfl) (Nat.le_refl _) (Nat.le_refl _) (H (h - 1) (by omega))
set_option maxRecDepth 100000 in
theorem x105f {G : Ctx} {h : Nat} {Q : MP} {I : Nat → Nat → Int} {J : Nat → Nat → BitVec 64} {f2 f3 : Bool} (hh : 0 ≤ h) (H : Tri G h 105 119 119 10 [some (vr 85), some (vr 90), some (vi 1), some (vi 0), some (vi 0), some (vi 0)] [] (I, J, PP (false, f2, f3)) Q) : Tri G h 105 119 119 0 [some (vr 85), some (vr 90)] [] (I, J, PP (false, f2, f3)) Q := wp_at ck105 [(10, [true, true, true, true, true, true])] 400 H
set_option maxRecDepth 100000 in
theorem x105f_10 {G : Ctx} {h : Nat} {Q : MP} {I : Nat → Nat → Int} {J : Nat → Nat → BitVec 64} {f2 f3 : Bool} {l2 l3 l4 l5 : Int} (hh : 2 ≤ h) (H : ((5 ≤ l5) → ((0 ≤ min (1563 : Int) (iDiv (w32 (l2 + 63)) 64) ∧ min (1563 : Int) (iDiv (w32 (l2 + 63)) 64) ≤ 1563) ∧ ((0 ≤ l3 ∧ l3 < 100032) ∧ (Q (some (vi l4)) (u2 I 85 4 (min (1563 : Int) (iDiv (w32 (l2 + 63)) 64)), u2 (u1 J 87 (fun j => if (j : Int) < min (1563 : Int) (iDiv (w32 (l2 + 63)) 64) then 0#64 else J 87 j)) 87 (l3.toNat / 64) (((u1 J 87 (fun j => if (j : Int) < min (1563 : Int) (iDiv (w32 (l2 + 63)) 64) then 0#64 else J 87 j)) 87 (l3.toNat / 64)) ||| (lShl (1#64) ((l3.toNat % 64 : Nat) : Int))), PP (false, f2, f3)))))) ∧ (¬ (5 ≤ l5) → ((0 ≤ l5 ∧ l5 < (5 : Int)) ∧ ((0 ≤ l5 ∧ l5 < (5 : Int)) ∧ ((0 ≤ l5 ∧ l5 < (5 : Int)) ∧ (Tri G h 105 119 119 10 [some (vr 85), some (vr 90), some (vi (w32 (l2 * (w32 ((min (I 90 l5.toNat) (9 : Int)) + 1))))), some (vi (w32 (l3 + (w32 ((min (I 90 l5.toNat) (9 : Int)) * l2))))), some (vi (w32 (l4 + (min (I 90 l5.toNat) (9 : Int))))), some (vi (w32 (l5 + 1)))] [] (u2 (u2 I 88 l5.toNat l2) 89 l5.toNat (w32 ((min (I 90 l5.toNat) (9 : Int)) + 1)), J, PP (false, f2, f3)) Q)))))) : Tri G h 105 119 119 10 [some (vr 85), some (vr 90), some (vi l2), some (vi l3), some (vi l4), some (vi l5)] [] (I, J, PP (false, f2, f3)) Q := wp_at ck105 [(10, [true, true, true, true, true, true])] 400 (And.intro (fun q972 => And.intro (show (64 : Int) ≠ 0 by decide) (sx3 (by omega)  (sx106_87 (by omega) (H.1 q972).1 (sx177_87 (by omega) ((H.1 q972).2).1 (((H.1 q972).2).2))))) (fun q973 => And.intro (H.2 q973).1 (sx3 (by omega)  ((H.2 q973).2))))
theorem x105f_m {G : Ctx} {h : Nat} {Q : MP} {I : Nat → Nat → Int} {J : Nat → Nat → BitVec 64} {f2 f3 : Bool} (hh : 3 ≤ h) (H : ∀ h, 2 ≤ h → Tri G h 105 119 119 0 [some (vr 85), some (vr 90)] [] (I, J, PP (false, f2, f3)) Q) : TriM G h 105 119 119 [vr 85, vr 90] (I, J, PP (false, f2, f3)) Q := TriM_intro (h - 1) (by omega) (by decide) (Nat.le_of_ble_eq_true rfl) (Nat.le_refl _) (Nat.le_refl _) (H (h - 1) (by omega))
set_option maxRecDepth 100000 in
theorem x108f {G : Ctx} {h : Nat} {Q : MP} {I : Nat → Nat → Int} {J : Nat → Nat → BitVec 64} {f2 f3 : Bool} {x y z : Int} (hh : 0 ≤ h) (H : Tri G h 108 119 119 6 [some (vr 85), some (vi x), some (vr 25), some (vi y), some (vi z), some (vi 1), some (vi 0)] [] (I, J, PP (false, f2, f3)) Q) : Tri G h 108 119 119 0 [some (vr 85), some (vi x), some (vr 25), some (vi y), some (vi z)] [] (I, J, PP (false, f2, f3)) Q := wp_at ck108 [(6, [true, true, true, true, true, true, true])] 400 H
set_option maxRecDepth 100000 in
theorem x108f_6 {G : Ctx} {h : Nat} {Q : MP} {I : Nat → Nat → Int} {J : Nat → Nat → BitVec 64} {f2 f3 : Bool} {l1 l3 l4 l5 l6 : Int} (hh : 2 ≤ h) (H : ((5 ≤ l6) → (((l5 = 0) → (Q none (I, J, PP (false, f2, f3)))) ∧ (¬ (l5 = 0) → ((0 ≤ l1 ∧ l1 < 100032) ∧ (Q none (I, u2 J 86 (l1.toNat / 64) ((J 86 (l1.toNat / 64)) ||| (lShl (1#64) ((l1.toNat % 64 : Nat) : Int))), PP (false, f2, f3))))))) ∧ (¬ (5 ≤ l6) → (((0 ≤ l1 ∧ l1 < 200000) ∧ (0 ≤ l6 ∧ l6 < 5) ∧ (0 < I 88 l6.toNat ∧ I 88 l6.toNat < 200000) ∧ 0 < I 89 l6.toNat ∧ I 89 l6.toNat ≤ 10) ∧ ((((lfI I l1 l6) ≤ 0) → (Tri G h 108 119 119 6 [some (vr 85), some (vi l1), some (vr 25), some (vi l3), some (vi l4), some (vi l5), some (vi (w32 (l6 + 1)))] [] (I, J, PP (false, f2, f3)) Q)) ∧ (¬ ((lfI I l1 l6) ≤ 0) → (((0 ≤ l6 ∧ l6 < (5 : Int)) → (((0 ≤ l3 ∧ l3 < (4 : Int)) → ((0 ≤ (w32 ((w32 (l6 * 4)) + l3)) ∧ (w32 ((w32 (l6 * 4)) + l3)) < (20 : Int)) ∧ (((¬ (I 28 ((w32 ((w32 (l6 * 4)) + l3)).toNat)) = 0) → (Tri G h 108 119 119 6 [some (vr 85), some (vi l1), some (vr 25), some (vi l3), some (vi l4), some (vi l5), some (vi (w32 (l6 + 1)))] [] (I, J, PP (false, f2, f3)) Q)) ∧ (¬ (¬ (I 28 ((w32 ((w32 (l6 * 4)) + l3)).toNat)) = 0) → ((0 ≤ l6 ∧ l6 < (5 : Int)) ∧ ((0 ≤ (w32 (l1 - (w32 ((min (lfI I l1 l6) l4) * (I 88 l6.toNat))))) ∧ (w32 (l1 - (w32 ((min (lfI I l1 l6) l4) * (I 88 l6.toNat))))) < 100032) ∧ (Tri G h 108 119 119 6 [some (vr 85), some (vi l1), some (vr 25), some (vi l3), some (vi l4), some (vi 0), some (vi (w32 (l6 + 1)))] [] (I, u2 J 86 ((w32 (l1 - (w32 ((min (lfI I l1 l6) l4) * (I 88 l6.toNat))))).toNat / 64) ((J 86 ((w32 (l1 - (w32 ((min (lfI I l1 l6) l4) * (I 88 l6.toNat))))).toNat / 64)) ||| (lShl (1#64) (((w32 (l1 - (w32 ((min (lfI I l1 l6) l4) * (I 88 l6.toNat))))).toNat % 64 : Nat) : Int))), PP (false, f2, f3)) Q))))))) ∧ (¬ (0 ≤ l3 ∧ l3 < (4 : Int)) → (Tri G h 108 119 119 6 [some (vr 85), some (vi l1), some (vr 25), some (vi l3), some (vi l4), some (vi l5), some (vi (w32 (l6 + 1)))] [] (I, J, PP (false, f2, f3)) Q)))) ∧ (¬ (0 ≤ l6 ∧ l6 < (5 : Int)) → (Tri G h 108 119 119 6 [some (vr 85), some (vi l1), some (vr 25), some (vi l3), some (vi l4), some (vi l5), some (vi (w32 (l6 + 1)))] [] (I, J, PP (false, f2, f3)) Q)))))))) : Tri G h 108 119 119 6 [some (vr 85), some (vi l1), some (vr 25), some (vi l3), some (vi l4), some (vi l5), some (vi l6)] [] (I, J, PP (false, f2, f3)) Q := wp_at ck108 [(6, [true, true, true, true, true, true, true])] 400 (And.intro (fun q974 => And.intro (fun q976 => (H.1 q974).1 q976) (fun q977 => sx177_86 (by omega) ((H.1 q974).2 q977).1 (((H.1 q974).2 q977).2))) (fun q975 => sx109 (by omega) (H.2 q975).1 (And.intro (fun q978 => ((H.2 q975).2).1 q978) (fun q979 => x53_m (by omega) (fun h hh => x53 hh (And.intro (fun q980 => And.intro (fun q982 => And.intro (((((H.2 q975).2).2 q979).1 q980).1 q982).1 (And.intro (fun q984 => cI_r (And.intro (fun _ => ((((((H.2 q975).2).2 q979).1 q980).1 q982).2).1 q984) (fun z => absurd (show (0 : Int) = (0 : Int) by decide) z))) (fun q985 => cI_r (And.intro (fun z => absurd z (show ¬ ((1 : Int) = (0 : Int)) by decide)) (fun _ => sx3 (by omega)  (And.intro (((((((H.2 q975).2).2 q979).1 q980).1 q982).2).2 q985).1 (sx177_86 (by omega) ((((((((H.2 q975).2).2 q979).1 q980).1 q982).2).2 q985).2).1 (((((((((H.2 q975).2).2 q979).1 q980).1 q982).2).2 q985).2).2)))))))) (fun q983 => cI_r (And.intro (fun _ => ((((H.2 q975).2).2 q979).1 q980).2 q983) (fun z => absurd (show (0 : Int) = (0 : Int) by decide) z)))) (fun q981 => cI_r (And.intro (fun _ => (((H.2 q975).2).2 q979).2 q981) (fun z => absurd (show (0 : Int) = (0 : Int) by decide) z)))))))))
theorem x108f_m {G : Ctx} {h : Nat} {Q : MP} {I : Nat → Nat → Int} {J : Nat → Nat → BitVec 64} {f2 f3 : Bool} {x y z : Int} (hh : 3 ≤ h) (H : ∀ h, 2 ≤ h → Tri G h 108 119 119 0 [some (vr 85), some (vi x), some (vr 25), some (vi y), some (vi z)] [] (I, J, PP (false, f2, f3)) Q) : TriM G h 108 119 119 [vr 85, vi x, vr 25, vi y, vi z] (I, J, PP (false, f2, f3)) Q := TriM_intro (h - 1) (by omega) (by decide) (Nat.le_of_ble_eq_true rfl) (Nat.le_refl _) (Nat.le_refl _) (H (h - 1) (by omega))
set_option maxRecDepth 100000 in
theorem x107f {G : Ctx} {h : Nat} {Q : MP} {I : Nat → Nat → Int} {J : Nat → Nat → BitVec 64} {f2 f3 : Bool} {x y : Int} (hh : 1 ≤ h) (H : (0 ≤ I 85 4 ∧ I 85 4 ≤ 1563) ∧ (Tri G h 107 119 119 11 [some (vr 85), some (vr 25), some (vi x), some (vi y), some (vi 0)] [] (I, u1 J 86 (fun j => if (j : Int) < I 85 4 then 0#64 else J 86 j), PP (false, f2, f3)) Q)) : Tri G h 107 119 119 0 [some (vr 85), some (vr 25), some (vi x), some (vi y)] [] (I, J, PP (false, f2, f3)) Q := wp_at ck107 [(11, [true, true, true, true, true]), (32, [true, true, true, true, true, true, false, true])] 400 (sx106_86 (by omega) H.1 H.2)
set_option maxRecDepth 100000 in
theorem x107f_11 {G : Ctx} {h : Nat} {Q : MP} {I : Nat → Nat → Int} {J : Nat → Nat → BitVec 64} {f2 f3 : Bool} {l2 l3 l4 : Int} (hh : 0 ≤ h) (H : (((I 85 4) ≤ l4) → (Q none (I, J, u2 (u2 (PP (false, f2, f3)) 85 0 86) 85 1 87))) ∧ (¬ ((I 85 4) ≤ l4) → ((0 ≤ l4 ∧ l4 < (1563 : Int)) ∧ (Tri G h 107 119 119 32 [some (vr 85), some (vr 25), some (vi l2), some (vi l3), some (vi l4), some (vl (J 87 l4.toNat)), none, some (vi 0)] [] (I, J, PP (false, f2, f3)) Q)))) : Tri G h 107 119 119 11 [some (vr 85), some (vr 25), some (vi l2), some (vi l3), some (vi l4)] [] (I, J, PP (false, f2, f3)) Q := wp_at ck107 [(11, [true, true, true, true, true]), (32, [true, true, true, true, true, true, false, true])] 400 H
set_option maxRecDepth 100000 in
theorem x107f_32 {G : Ctx} {h : Nat} {Q : MP} {I : Nat → Nat → Int} {J : Nat → Nat → BitVec 64} {f2 f3 : Bool} {l2 l3 l4 l7 : Int} {l5 : BitVec 64} (hh : 4 ≤ h) (H : ((64 ≤ l7) → (Tri G h 107 119 119 11 [some (vr 85), some (vr 25), some (vi l2), some (vi l3), some (vi (w32 (l4 + 1)))] [] (I, J, PP (false, f2, f3)) Q)) ∧ (¬ (64 ≤ l7) → ((((lCmp l5 (0#64)) = 0) → (Tri G h 107 119 119 11 [some (vr 85), some (vr 25), some (vi l2), some (vi l3), some (vi (w32 (l4 + 1)))] [] (I, J, PP (false, f2, f3)) Q)) ∧ (¬ ((lCmp l5 (0#64)) = 0) → (TriM G h 19 119 119 [vl l5] (I, J, PP (false, f2, f3)) (cIN fun r1 I1 J1 b1 => (TriM G h 108 119 119 [vr 85, vi (w32 ((w32 (l4 * 64)) + r1)), vr 25, vi l2, vi l3] (I1, J1, PP b1) (cVN fun I2 J2 b2 => (Tri G h 107 119 119 32 [some (vr 85), some (vr 25), some (vi l2), some (vi l3), some (vi l4), some (vl (l5 &&& (l5 - (1#64)))), none, some (vi (w32 (l7 + 1)))] [] (I2, J2, PP b2) Q))))))))) : Tri G h 107 119 119 32 [some (vr 85), some (vr 25), some (vi l2), some (vi l3), some (vi l4), some (vl l5), none, some (vi l7)] [] (I, J, PP (false, f2, f3)) Q := wp_at ck107 [(11, [true, true, true, true, true]), (32, [true, true, true, true, true, true, false, true])] 400 (And.intro (fun q986 => H.1 q986) (fun q987 => And.intro (fun q988 => (H.2 q987).1 q988) (fun q989 => cIN_go ((H.2 q987).2 q989) (fun r1 I1 J1 b1 q990 => cVN_go q990 (fun I2 J2 b2 q991 => q991)))))
theorem x107f_m {G : Ctx} {h : Nat} {Q : MP} {I : Nat → Nat → Int} {J : Nat → Nat → BitVec 64} {f2 f3 : Bool} {x y : Int} (hh : 5 ≤ h) (H : ∀ h, 4 ≤ h → Tri G h 107 119 119 0 [some (vr 85), some (vr 25), some (vi x), some (vi y)] [] (I, J, PP (false, f2, f3)) Q) : TriM G h 107 119 119 [vr 85, vr 25, vi x, vi y] (I, J, PP (false, f2, f3)) Q := TriM_intro (h - 1) (by omega) (by decide) (Nat.le_of_ble_eq_true rfl) (Nat.le_refl _) (Nat.le_refl _) (H (h - 1) (by omega))
set_option maxRecDepth 100000 in
theorem x110f {G : Ctx} {h : Nat} {Q : MP} {I : Nat → Nat → Int} {J : Nat → Nat → BitVec 64} {f2 f3 : Bool} (hh : 0 ≤ h) (H : Tri G h 110 119 119 5 [some (vr 85), some (vi 45), some (vi 0)] [] (I, J, PP (false, f2, f3)) Q) : Tri G h 110 119 119 0 [some (vr 85)] [] (I, J, PP (false, f2, f3)) Q := wp_at ck110 [(5, [true, true, true]), (23, [true, true, true, true, false, true]), (53, [true, true, true, true, false, true, true, true, true])] 400 H
set_option maxRecDepth 100000 in
theorem x110f_5 {G : Ctx} {h : Nat} {Q : MP} {I : Nat → Nat → Int} {J : Nat → Nat → BitVec 64} {f2 f3 : Bool} {l1 l2 : Int} (hh : 0 ≤ h) (H : (((I 85 4) ≤ l2) → (Q (some (vi l1)) (I, J, PP (false, f2, f3)))) ∧ (¬ ((I 85 4) ≤ l2) → ((0 ≤ l2 ∧ l2 < (1563 : Int)) ∧ (Tri G h 110 119 119 23 [some (vr 85), some (vi l1), some (vi l2), some (vl (J 87 l2.toNat)), none, some (vi 0)] [] (I, J, PP (false, f2, f3)) Q)))) : Tri G h 110 119 119 5 [some (vr 85), some (vi l1), some (vi l2)] [] (I, J, PP (false, f2, f3)) Q := wp_at ck110 [(5, [true, true, true]), (23, [true, true, true, true, false, true]), (53, [true, true, true, true, false, true, true, true, true])] 400 H
set_option maxRecDepth 100000 in
theorem x110f_23 {G : Ctx} {h : Nat} {Q : MP} {I : Nat → Nat → Int} {J : Nat → Nat → BitVec 64} {f2 f3 : Bool} {l1 l2 l5 : Int} {l3 : BitVec 64} (hh : 2 ≤ h) (H : ((64 ≤ l5) → (Tri G h 110 119 119 5 [some (vr 85), some (vi l1), some (vi (w32 (l2 + 1)))] [] (I, J, PP (false, f2, f3)) Q)) ∧ (¬ (64 ≤ l5) → ((((lCmp l3 (0#64)) = 0) → (Tri G h 110 119 119 5 [some (vr 85), some (vi l1), some (vi (w32 (l2 + 1)))] [] (I, J, PP (false, f2, f3)) Q)) ∧ (¬ ((lCmp l3 (0#64)) = 0) → (TriM G h 19 119 119 [vl l3] (I, J, PP (false, f2, f3)) (cIN fun r1 I1 J1 b1 => (Tri G h 110 119 119 53 [some (vr 85), some (vi l1), some (vi l2), some (vl l3), none, some (vi l5), some (vi (w32 ((w32 (l2 * 64)) + r1))), some (vi 0), some (vi 0)] [] (I1, J1, PP b1) Q))))))) : Tri G h 110 119 119 23 [some (vr 85), some (vi l1), some (vi l2), some (vl l3), none, some (vi l5)] [] (I, J, PP (false, f2, f3)) Q := wp_at ck110 [(5, [true, true, true]), (23, [true, true, true, true, false, true]), (53, [true, true, true, true, false, true, true, true, true])] 400 (And.intro (fun q992 => H.1 q992) (fun q993 => And.intro (fun q994 => (H.2 q993).1 q994) (fun q995 => cIN_go ((H.2 q993).2 q995) (fun r1 I1 J1 b1 q996 => q996))))
set_option maxRecDepth 100000 in
theorem x110f_53 {G : Ctx} {h : Nat} {Q : MP} {I : Nat → Nat → Int} {J : Nat → Nat → BitVec 64} {f2 f3 : Bool} {l1 l2 l5 l6 l7 l8 : Int} {l3 : BitVec 64} (hh : 1 ≤ h) (H : ((5 ≤ l8) → (Tri G h 110 119 119 23 [some (vr 85), some (vi (min l1 l7)), some (vi l2), some (vl (l3 &&& (l3 - (1#64)))), none, some (vi (w32 (l5 + 1)))] [] (I, J, PP (false, f2, f3)) Q)) ∧ (¬ (5 ≤ l8) → (((0 ≤ l6 ∧ l6 < 200000) ∧ (0 ≤ l8 ∧ l8 < 5) ∧ (0 < I 88 l8.toNat ∧ I 88 l8.toNat < 200000) ∧ 0 < I 89 l8.toNat ∧ I 89 l8.toNat ≤ 10) ∧ (Tri G h 110 119 119 53 [some (vr 85), some (vi l1), some (vi l2), some (vl l3), none, some (vi l5), some (vi l6), some (vi (w32 (l7 + (lfI I l6 l8)))), some (vi (w32 (l8 + 1)))] [] (I, J, PP (false, f2, f3)) Q)))) : Tri G h 110 119 119 53 [some (vr 85), some (vi l1), some (vi l2), some (vl l3), none, some (vi l5), some (vi l6), some (vi l7), some (vi l8)] [] (I, J, PP (false, f2, f3)) Q := wp_at ck110 [(5, [true, true, true]), (23, [true, true, true, true, false, true]), (53, [true, true, true, true, false, true, true, true, true])] 400 (And.intro (fun q997 => sx3 (by omega)  (H.1 q997)) (fun q998 => sx109 (by omega) (H.2 q998).1 ((H.2 q998).2)))
theorem x110f_m {G : Ctx} {h : Nat} {Q : MP} {I : Nat → Nat → Int} {J : Nat → Nat → BitVec 64} {f2 f3 : Bool} (hh : 3 ≤ h) (H : ∀ h, 2 ≤ h → Tri G h 110 119 119 0 [some (vr 85)] [] (I, J, PP (false, f2, f3)) Q) : TriM G h 110 119 119 [vr 85] (I, J, PP (false, f2, f3)) Q := TriM_intro (h - 1) (by omega) (by decide) (Nat.le_of_ble_eq_true rfl) (Nat.le_refl _) (Nat.le_refl _) (H (h - 1) (by omega))
set_option maxRecDepth 100000 in
theorem x104f {G : Ctx} {h : Nat} {Q : MP} {I : Nat → Nat → Int} {J : Nat → Nat → BitVec 64} {f2 f3 : Bool} (hh : 3 ≤ h) (H : TriM G h 105 119 119 [vr 85, vr 90] (I, J, PP (false, f2, f3)) (cIN fun r1 I1 J1 b1 => (Tri G h 104 119 119 9 [some (vr 85), some (vr 25), none, some (vi r1), some (vi 0)] [] (I1, J1, PP b1) Q))) : Tri G h 104 119 119 0 [some (vr 85), some (vr 25), some (vr 90)] [] (I, J, PP (false, f2, f3)) Q := wp_at ck104 [(9, [true, true, false, true, true]), (21, [true, true, false, true, true, true])] 400 (cIN_go H (fun r1 I1 J1 b1 q999 => q999))
set_option maxRecDepth 100000 in
theorem x104f_9 {G : Ctx} {h : Nat} {Q : MP} {I : Nat → Nat → Int} {J : Nat → Nat → BitVec 64} {f2 f3 : Bool} {l3 l4 : Int} (hh : 3 ≤ h) (H : (((I 25 0) ≤ l4) → (TriM G h 110 119 119 [vr 85] (I, J, PP (false, f2, f3)) (cIN fun r1 I1 J1 b1 => (Q (some (vi (w32 (l3 - r1)))) (I1, J1, PP b1))))) ∧ (¬ ((I 25 0) ≤ l4) → (Tri G h 104 119 119 21 [some (vr 85), some (vr 25), none, some (vi l3), some (vi l4), some (vi 0)] [] (I, J, PP (false, f2, f3)) Q))) : Tri G h 104 119 119 9 [some (vr 85), some (vr 25), none, some (vi l3), some (vi l4)] [] (I, J, PP (false, f2, f3)) Q := wp_at ck104 [(9, [true, true, false, true, true]), (21, [true, true, false, true, true, true])] 400 (And.intro (fun q1000 => cIN_go (H.1 q1000) (fun r1 I1 J1 b1 q1002 => q1002)) (fun q1001 => H.2 q1001))
set_option maxRecDepth 100000 in
theorem x104f_21 {G : Ctx} {h : Nat} {Q : MP} {I : Nat → Nat → Int} {J : Nat → Nat → BitVec 64} {f2 f3 : Bool} {l3 l4 l5 : Int} (hh : 5 ≤ h) (H : (((I 25 1) ≤ l5) → (Tri G h 104 119 119 9 [some (vr 85), some (vr 25), none, some (vi l3), some (vi (w32 (l4 + 1)))] [] (I, J, PP (false, f2, f3)) Q)) ∧ (¬ ((I 25 1) ≤ l5) → ((0 ≤ (0 : Int) ∧ (0 : Int) < 100032) ∧ (((bitJ J 87 (0 : Int).toNat = true) → ((0 ≤ l5 ∧ l5 < (6 : Int)) ∧ ((((I 27 l5.toNat) ≤ 0) → (Tri G h 104 119 119 21 [some (vr 85), some (vr 25), none, some (vi l3), some (vi l4), some (vi (w32 (l5 + 1)))] [] (I, J, PP (false, f2, f3)) Q)) ∧ (¬ ((I 27 l5.toNat) ≤ 0) → (Tri G h 104 119 119 21 [some (vr 85), some (vr 25), none, some (vi l3), some (vi l4), some (vi (w32 (l5 + 1)))] [] (I, J, PP (false, f2, f3)) Q))))) ∧ (¬ (bitJ J 87 (0 : Int).toNat = true) → ((0 ≤ l5 ∧ l5 < (6 : Int)) ∧ ((((I 27 l5.toNat) ≤ 0) → (Tri G h 104 119 119 21 [some (vr 85), some (vr 25), none, some (vi l3), some (vi l4), some (vi (w32 (l5 + 1)))] [] (I, J, PP (false, f2, f3)) Q)) ∧ (¬ ((I 27 l5.toNat) ≤ 0) → ((0 ≤ l5 ∧ l5 < (6 : Int)) ∧ (TriM G h 107 119 119 [vr 85, vr 25, vi l4, vi (I 27 l5.toNat)] (I, J, PP (false, f2, f3)) (cVN fun I1 J1 b1 => (Tri G h 104 119 119 21 [some (vr 85), some (vr 25), none, some (vi l3), some (vi l4), some (vi (w32 (l5 + 1)))] [] (I1, J1, PP b1) Q)))))))))))) : Tri G h 104 119 119 21 [some (vr 85), some (vr 25), none, some (vi l3), some (vi l4), some (vi l5)] [] (I, J, PP (false, f2, f3)) Q := wp_at ck104 [(9, [true, true, false, true, true]), (21, [true, true, false, true, true, true])] 400 (And.intro (fun q1003 => H.1 q1003) (fun q1004 => sx176_87 (by omega) (H.2 q1004).1 (fun q1005 => And.intro (((H.2 q1004).2).1 q1005).1 (And.intro (fun q1007 => ((((H.2 q1004).2).1 q1005).2).1 q1007) (fun q1008 => And.intro (fun _ => ((((H.2 q1004).2).1 q1005).2).2 q1008) (fun z => absurd (show ¬ (1 : Int) = (0 : Int) by decide) z)))) (fun q1006 => And.intro (((H.2 q1004).2).2 q1006).1 (And.intro (fun q1009 => ((((H.2 q1004).2).2 q1006).2).1 q1009) (fun q1010 => And.intro (fun z => absurd z (show ¬ (¬ (0 : Int) = (0 : Int)) by decide)) (fun _ => And.intro (((((H.2 q1004).2).2 q1006).2).2 q1010).1 (cVN_go ((((((H.2 q1004).2).2 q1006).2).2 q1010).2) (fun I1 J1 b1 q1011 => q1011))))))))
theorem x104f_m {G : Ctx} {h : Nat} {Q : MP} {I : Nat → Nat → Int} {J : Nat → Nat → BitVec 64} {f2 f3 : Bool} (hh : 6 ≤ h) (H : ∀ h, 5 ≤ h → Tri G h 104 119 119 0 [some (vr 85), some (vr 25), some (vr 90)] [] (I, J, PP (false, f2, f3)) Q) : TriM G h 104 119 119 [vr 85, vr 25, vr 90] (I, J, PP (false, f2, f3)) Q := TriM_intro (h - 1) (by omega) (by decide) (Nat.le_of_ble_eq_true rfl) (Nat.le_refl _) (Nat.le_refl _) (H (h - 1) (by omega))
set_option maxRecDepth 100000 in
theorem x167 {G : Ctx} {h : Nat} {Q : MP} {I : Nat → Nat → Int} {J : Nat → Nat → BitVec 64} {b : B3} (hh : 6 ≤ h) (H : TriM G h 135 119 119 [vr 1, vr 90] (I, J, PP b) (cVN fun I1 J1 b1 => (TriM G h 104 119 119 [vr 85, vr 25, vr 90] (I1, J1, PP b1) (cIN fun r2 I2 J2 b2 => (Q (some (vi r2)) (I2, J2, PP b2)))))) : Tri G h 167 119 119 0 [some (vr 0)] [] (I, J, PP b) Q := wp_at ck167 [] 400 (cVN_go H (fun I1 J1 b1 q1012 => cIN_go q1012 (fun r2 I2 J2 b2 q1013 => q1013)))
theorem x167_m {G : Ctx} {h : Nat} {Q : MP} {I : Nat → Nat → Int} {J : Nat → Nat → BitVec 64} {b : B3} (hh : 7 ≤ h) (H : ∀ h, 6 ≤ h → Tri G h 167 119 119 0 [some (vr 0)] [] (I, J, PP b) Q) : TriM G h 167 119 119 [vr 0] (I, J, PP b) Q := TriM_intro (h - 1) (by omega) (by decide) (Nat.le_of_ble_eq_true rfl) (Nat.le_refl _) (Nat.le_refl _) (H (h - 1) (by omega))
set_option maxRecDepth 100000 in
theorem x263t {G : Ctx} {h : Nat} {Q : MP} {I : Nat → Nat → Int} {J : Nat → Nat → BitVec 64} {f1 f2 : Bool} {x y : Int} (hh : 0 ≤ h) (H : Tri G h 263 119 119 2 [some (vr 91), some (vi x), some (vi y), some (vi 0)] [] (I, J, PP (f1, f2, true)) Q) : Tri G h 263 119 119 0 [some (vr 91), some (vi x), some (vi y)] [] (I, J, PP (f1, f2, true)) Q := wp_at ck263 [(2, [true, true, true, true]), (31, [true, true, true, true, true]), (40, [true, true, true, true, true, true])] 400 H
set_option maxRecDepth 100000 in
theorem x263t_2 {G : Ctx} {h : Nat} {Q : MP} {I : Nat → Nat → Int} {J : Nat → Nat → BitVec 64} {f1 f2 : Bool} {l1 l2 l3 : Int} (hh : 0 ≤ h) (H : ((100000 ≤ l3) → (Tri G h 263 119 119 31 [some (vr 91), some (vi l1), some (vi l2), some (vi 1), some (vi 0)] [] (I, J, PP (f1, f2, true)) Q)) ∧ (¬ (100000 ≤ l3) → ((0 ≤ l3 ∧ l3 < (100000 : Int)) ∧ ((0 ≤ l3 ∧ l3 < (100000 : Int)) ∧ (((I 116 l3.toNat) = 0 ∨ (I 116 l3.toNat) = 1) ∧ (Tri G h 263 119 119 2 [some (vr 91), some (vi l1), some (vi l2), some (vi (w32 (l3 + 1)))] [] (u2 I 117 l3.toNat (I 116 l3.toNat), J, PP (f1, f2, true)) Q)))))) : Tri G h 263 119 119 2 [some (vr 91), some (vi l1), some (vi l2), some (vi l3)] [] (I, J, PP (f1, f2, true)) Q := wp_at ck263 [(2, [true, true, true, true]), (31, [true, true, true, true, true]), (40, [true, true, true, true, true, true])] 400 H
set_option maxRecDepth 100000 in
theorem x263t_31 {G : Ctx} {h : Nat} {Q : MP} {I : Nat → Nat → Int} {J : Nat → Nat → BitVec 64} {f1 f2 : Bool} {l1 l2 l3 l4 : Int} (hh : 0 ≤ h) (H : ((5 ≤ l4) → (Q none (I, J, u2 (u2 (PP (f1, f2, true)) 91 40 117) 91 41 116))) ∧ (¬ (5 ≤ l4) → (Tri G h 263 119 119 40 [some (vr 91), some (vi l1), some (vi l2), some (vi l3), some (vi l4), some (vi 0)] [] (I, J, PP (f1, f2, true)) Q))) : Tri G h 263 119 119 31 [some (vr 91), some (vi l1), some (vi l2), some (vi l3), some (vi l4)] [] (I, J, PP (f1, f2, true)) Q := wp_at ck263 [(2, [true, true, true, true]), (31, [true, true, true, true, true]), (40, [true, true, true, true, true, true])] 400 H
set_option maxRecDepth 100000 in
theorem x263t_40 {G : Ctx} {h : Nat} {Q : MP} {I : Nat → Nat → Int} {J : Nat → Nat → BitVec 64} {f1 f2 : Bool} {l1 l2 l3 l4 l5 : Int} (hh : 1 ≤ h) (H : ((100000 ≤ l5) → (Tri G h 263 119 119 31 [some (vr 91), some (vi l1), some (vi l2), some (vi (w32 (l3 * 10))), some (vi (w32 (l4 + 1)))] [] (I, J, PP (f1, f2, true)) Q)) ∧ (¬ (100000 ≤ l5) → ((0 ≤ (w32 (10 + l4)) ∧ (w32 (10 + l4)) < (5120 : Int)) ∧ ((((I 92 ((w32 (10 + l4)).toNat)) = (-1)) → (Tri G h 263 119 119 31 [some (vr 91), some (vi l1), some (vi l2), some (vi (w32 (l3 * 10))), some (vi (w32 (l4 + 1)))] [] (I, J, PP (f1, f2, true)) Q)) ∧ (¬ ((I 92 ((w32 (10 + l4)).toNat)) = (-1)) → ((0 ≤ (w32 ((w32 (21 + (w32 (4 * l4)))) + l2)) ∧ (w32 ((w32 (21 + (w32 (4 * l4)))) + l2)) < (5120 : Int)) ∧ (((¬ (I 92 ((w32 ((w32 (21 + (w32 (4 * l4)))) + l2)).toNat)) = 0) → (Tri G h 263 119 119 31 [some (vr 91), some (vi l1), some (vi l2), some (vi (w32 (l3 * 10))), some (vi (w32 (l4 + 1)))] [] (I, J, PP (f1, f2, true)) Q)) ∧ (¬ (¬ (I 92 ((w32 ((w32 (21 + (w32 (4 * l4)))) + l2)).toNat)) = 0) → ((0 ≤ l5 ∧ l5 < (100000 : Int)) ∧ (((¬ (I 116 l5.toNat) = 0) → (l3 ≠ 0 ∧ ((0 ≤ (w32 (15 + l1)) ∧ (w32 (15 + l1)) < (5120 : Int)) ∧ ((((I 92 ((w32 (15 + l1)).toNat)) ≤ (iRem (iDiv l5 l3) 10)) → ((0 ≤ (w32 (15 + l1)) ∧ (w32 (15 + l1)) < (5120 : Int)) ∧ ((0 ≤ (w32 (l5 - (w32 ((I 92 ((w32 (15 + l1)).toNat)) * l3)))) ∧ (w32 (l5 - (w32 ((I 92 ((w32 (15 + l1)).toNat)) * l3)))) < (100000 : Int)) ∧ (Tri G h 263 119 119 40 [some (vr 91), some (vi l1), some (vi l2), some (vi l3), some (vi l4), some (vi (w32 (l5 + 1)))] [] (u2 I 117 ((w32 (l5 - (w32 ((I 92 ((w32 (15 + l1)).toNat)) * l3)))).toNat) 1, J, PP (f1, f2, true)) Q)))) ∧ (¬ ((I 92 ((w32 (15 + l1)).toNat)) ≤ (iRem (iDiv l5 l3) 10)) → ((0 ≤ (w32 (l5 - (w32 ((iRem (iDiv l5 l3) 10) * l3)))) ∧ (w32 (l5 - (w32 ((iRem (iDiv l5 l3) 10) * l3)))) < (100000 : Int)) ∧ (Tri G h 263 119 119 40 [some (vr 91), some (vi l1), some (vi l2), some (vi l3), some (vi l4), some (vi (w32 (l5 + 1)))] [] (u2 I 117 ((w32 (l5 - (w32 ((iRem (iDiv l5 l3) 10) * l3)))).toNat) 1, J, PP (f1, f2, true)) Q))))))) ∧ (¬ (¬ (I 116 l5.toNat) = 0) → (Tri G h 263 119 119 40 [some (vr 91), some (vi l1), some (vi l2), some (vi l3), some (vi l4), some (vi (w32 (l5 + 1)))] [] (I, J, PP (f1, f2, true)) Q)))))))))))) : Tri G h 263 119 119 40 [some (vr 91), some (vi l1), some (vi l2), some (vi l3), some (vi l4), some (vi l5)] [] (I, J, PP (f1, f2, true)) Q := wp_at ck263 [(2, [true, true, true, true]), (31, [true, true, true, true, true]), (40, [true, true, true, true, true, true])] 400 (And.intro (fun q1014 => H.1 q1014) (fun q1015 => x261_m (by omega) (fun h hh => x261 hh (And.intro (H.2 q1015).1 (And.intro (fun q1016 => cI_r (And.intro (fun _ => ((H.2 q1015).2).1 q1016) (fun z => absurd (show (0 : Int) = (0 : Int) by decide) z))) (fun q1017 => And.intro (((H.2 q1015).2).2 q1017).1 (And.intro (fun q1018 => cI_r (And.intro (fun _ => ((((H.2 q1015).2).2 q1017).2).1 q1018) (fun z => absurd (show (0 : Int) = (0 : Int) by decide) z))) (fun q1019 => cI_r (And.intro (fun z => absurd z (show ¬ ((1 : Int) = (0 : Int)) by decide)) (fun _ => And.intro (((((H.2 q1015).2).2 q1017).2).2 q1019).1 (And.intro (fun q1020 => And.intro (((((((H.2 q1015).2).2 q1017).2).2 q1019).2).1 q1020).1 (And.intro (show (10 : Int) ≠ 0 by decide) (And.intro ((((((((H.2 q1015).2).2 q1017).2).2 q1019).2).1 q1020).2).1 (And.intro (fun q1022 => And.intro ((((((((((H.2 q1015).2).2 q1017).2).2 q1019).2).1 q1020).2).2).1 q1022).1 (And.intro (((((((((((H.2 q1015).2).2 q1017).2).2 q1019).2).1 q1020).2).2).1 q1022).2).1 (And.intro (show (1 : Int) = 0 ∨ (1 : Int) = 1 by decide) ((((((((((((H.2 q1015).2).2 q1017).2).2 q1019).2).1 q1020).2).2).1 q1022).2).2)))) (fun q1023 => And.intro ((((((((((H.2 q1015).2).2 q1017).2).2 q1019).2).1 q1020).2).2).2 q1023).1 (And.intro (show (1 : Int) = 0 ∨ (1 : Int) = 1 by decide) (((((((((((H.2 q1015).2).2 q1017).2).2 q1019).2).1 q1020).2).2).2 q1023).2))))))) (fun q1021 => ((((((H.2 q1015).2).2 q1017).2).2 q1019).2).2 q1021))))))))))))
theorem x263t_m {G : Ctx} {h : Nat} {Q : MP} {I : Nat → Nat → Int} {J : Nat → Nat → BitVec 64} {f1 f2 : Bool} {x y : Int} (hh : 2 ≤ h) (H : ∀ h, 1 ≤ h → Tri G h 263 119 119 0 [some (vr 91), some (vi x), some (vi y)] [] (I, J, PP (f1, f2, true)) Q) : TriM G h 263 119 119 [vr 91, vi x, vi y] (I, J, PP (f1, f2, true)) Q := TriM_intro (h - 1) (by omega) (by decide) (Nat.le_of_ble_eq_true rfl) (Nat.le_refl _) (Nat.le_refl _) (H (h - 1) (by omega))
set_option maxRecDepth 100000 in
theorem x263f {G : Ctx} {h : Nat} {Q : MP} {I : Nat → Nat → Int} {J : Nat → Nat → BitVec 64} {f1 f2 : Bool} {x y : Int} (hh : 0 ≤ h) (H : Tri G h 263 119 119 2 [some (vr 91), some (vi x), some (vi y), some (vi 0)] [] (I, J, PP (f1, f2, false)) Q) : Tri G h 263 119 119 0 [some (vr 91), some (vi x), some (vi y)] [] (I, J, PP (f1, f2, false)) Q := wp_at ck263 [(2, [true, true, true, true]), (31, [true, true, true, true, true]), (40, [true, true, true, true, true, true])] 400 H
set_option maxRecDepth 100000 in
theorem x263f_2 {G : Ctx} {h : Nat} {Q : MP} {I : Nat → Nat → Int} {J : Nat → Nat → BitVec 64} {f1 f2 : Bool} {l1 l2 l3 : Int} (hh : 0 ≤ h) (H : ((100000 ≤ l3) → (Tri G h 263 119 119 31 [some (vr 91), some (vi l1), some (vi l2), some (vi 1), some (vi 0)] [] (I, J, PP (f1, f2, false)) Q)) ∧ (¬ (100000 ≤ l3) → ((0 ≤ l3 ∧ l3 < (100000 : Int)) ∧ ((0 ≤ l3 ∧ l3 < (100000 : Int)) ∧ (((I 117 l3.toNat) = 0 ∨ (I 117 l3.toNat) = 1) ∧ (Tri G h 263 119 119 2 [some (vr 91), some (vi l1), some (vi l2), some (vi (w32 (l3 + 1)))] [] (u2 I 116 l3.toNat (I 117 l3.toNat), J, PP (f1, f2, false)) Q)))))) : Tri G h 263 119 119 2 [some (vr 91), some (vi l1), some (vi l2), some (vi l3)] [] (I, J, PP (f1, f2, false)) Q := wp_at ck263 [(2, [true, true, true, true]), (31, [true, true, true, true, true]), (40, [true, true, true, true, true, true])] 400 H
set_option maxRecDepth 100000 in
theorem x263f_31 {G : Ctx} {h : Nat} {Q : MP} {I : Nat → Nat → Int} {J : Nat → Nat → BitVec 64} {f1 f2 : Bool} {l1 l2 l3 l4 : Int} (hh : 0 ≤ h) (H : ((5 ≤ l4) → (Q none (I, J, u2 (u2 (PP (f1, f2, false)) 91 40 116) 91 41 117))) ∧ (¬ (5 ≤ l4) → (Tri G h 263 119 119 40 [some (vr 91), some (vi l1), some (vi l2), some (vi l3), some (vi l4), some (vi 0)] [] (I, J, PP (f1, f2, false)) Q))) : Tri G h 263 119 119 31 [some (vr 91), some (vi l1), some (vi l2), some (vi l3), some (vi l4)] [] (I, J, PP (f1, f2, false)) Q := wp_at ck263 [(2, [true, true, true, true]), (31, [true, true, true, true, true]), (40, [true, true, true, true, true, true])] 400 H
set_option maxRecDepth 100000 in
theorem x263f_40 {G : Ctx} {h : Nat} {Q : MP} {I : Nat → Nat → Int} {J : Nat → Nat → BitVec 64} {f1 f2 : Bool} {l1 l2 l3 l4 l5 : Int} (hh : 1 ≤ h) (H : ((100000 ≤ l5) → (Tri G h 263 119 119 31 [some (vr 91), some (vi l1), some (vi l2), some (vi (w32 (l3 * 10))), some (vi (w32 (l4 + 1)))] [] (I, J, PP (f1, f2, false)) Q)) ∧ (¬ (100000 ≤ l5) → ((0 ≤ (w32 (10 + l4)) ∧ (w32 (10 + l4)) < (5120 : Int)) ∧ ((((I 92 ((w32 (10 + l4)).toNat)) = (-1)) → (Tri G h 263 119 119 31 [some (vr 91), some (vi l1), some (vi l2), some (vi (w32 (l3 * 10))), some (vi (w32 (l4 + 1)))] [] (I, J, PP (f1, f2, false)) Q)) ∧ (¬ ((I 92 ((w32 (10 + l4)).toNat)) = (-1)) → ((0 ≤ (w32 ((w32 (21 + (w32 (4 * l4)))) + l2)) ∧ (w32 ((w32 (21 + (w32 (4 * l4)))) + l2)) < (5120 : Int)) ∧ (((¬ (I 92 ((w32 ((w32 (21 + (w32 (4 * l4)))) + l2)).toNat)) = 0) → (Tri G h 263 119 119 31 [some (vr 91), some (vi l1), some (vi l2), some (vi (w32 (l3 * 10))), some (vi (w32 (l4 + 1)))] [] (I, J, PP (f1, f2, false)) Q)) ∧ (¬ (¬ (I 92 ((w32 ((w32 (21 + (w32 (4 * l4)))) + l2)).toNat)) = 0) → ((0 ≤ l5 ∧ l5 < (100000 : Int)) ∧ (((¬ (I 117 l5.toNat) = 0) → (l3 ≠ 0 ∧ ((0 ≤ (w32 (15 + l1)) ∧ (w32 (15 + l1)) < (5120 : Int)) ∧ ((((I 92 ((w32 (15 + l1)).toNat)) ≤ (iRem (iDiv l5 l3) 10)) → ((0 ≤ (w32 (15 + l1)) ∧ (w32 (15 + l1)) < (5120 : Int)) ∧ ((0 ≤ (w32 (l5 - (w32 ((I 92 ((w32 (15 + l1)).toNat)) * l3)))) ∧ (w32 (l5 - (w32 ((I 92 ((w32 (15 + l1)).toNat)) * l3)))) < (100000 : Int)) ∧ (Tri G h 263 119 119 40 [some (vr 91), some (vi l1), some (vi l2), some (vi l3), some (vi l4), some (vi (w32 (l5 + 1)))] [] (u2 I 116 ((w32 (l5 - (w32 ((I 92 ((w32 (15 + l1)).toNat)) * l3)))).toNat) 1, J, PP (f1, f2, false)) Q)))) ∧ (¬ ((I 92 ((w32 (15 + l1)).toNat)) ≤ (iRem (iDiv l5 l3) 10)) → ((0 ≤ (w32 (l5 - (w32 ((iRem (iDiv l5 l3) 10) * l3)))) ∧ (w32 (l5 - (w32 ((iRem (iDiv l5 l3) 10) * l3)))) < (100000 : Int)) ∧ (Tri G h 263 119 119 40 [some (vr 91), some (vi l1), some (vi l2), some (vi l3), some (vi l4), some (vi (w32 (l5 + 1)))] [] (u2 I 116 ((w32 (l5 - (w32 ((iRem (iDiv l5 l3) 10) * l3)))).toNat) 1, J, PP (f1, f2, false)) Q))))))) ∧ (¬ (¬ (I 117 l5.toNat) = 0) → (Tri G h 263 119 119 40 [some (vr 91), some (vi l1), some (vi l2), some (vi l3), some (vi l4), some (vi (w32 (l5 + 1)))] [] (I, J, PP (f1, f2, false)) Q)))))))))))) : Tri G h 263 119 119 40 [some (vr 91), some (vi l1), some (vi l2), some (vi l3), some (vi l4), some (vi l5)] [] (I, J, PP (f1, f2, false)) Q := wp_at ck263 [(2, [true, true, true, true]), (31, [true, true, true, true, true]), (40, [true, true, true, true, true, true])] 400 (And.intro (fun q1024 => H.1 q1024) (fun q1025 => x261_m (by omega) (fun h hh => x261 hh (And.intro (H.2 q1025).1 (And.intro (fun q1026 => cI_r (And.intro (fun _ => ((H.2 q1025).2).1 q1026) (fun z => absurd (show (0 : Int) = (0 : Int) by decide) z))) (fun q1027 => And.intro (((H.2 q1025).2).2 q1027).1 (And.intro (fun q1028 => cI_r (And.intro (fun _ => ((((H.2 q1025).2).2 q1027).2).1 q1028) (fun z => absurd (show (0 : Int) = (0 : Int) by decide) z))) (fun q1029 => cI_r (And.intro (fun z => absurd z (show ¬ ((1 : Int) = (0 : Int)) by decide)) (fun _ => And.intro (((((H.2 q1025).2).2 q1027).2).2 q1029).1 (And.intro (fun q1030 => And.intro (((((((H.2 q1025).2).2 q1027).2).2 q1029).2).1 q1030).1 (And.intro (show (10 : Int) ≠ 0 by decide) (And.intro ((((((((H.2 q1025).2).2 q1027).2).2 q1029).2).1 q1030).2).1 (And.intro (fun q1032 => And.intro ((((((((((H.2 q1025).2).2 q1027).2).2 q1029).2).1 q1030).2).2).1 q1032).1 (And.intro (((((((((((H.2 q1025).2).2 q1027).2).2 q1029).2).1 q1030).2).2).1 q1032).2).1 (And.intro (show (1 : Int) = 0 ∨ (1 : Int) = 1 by decide) ((((((((((((H.2 q1025).2).2 q1027).2).2 q1029).2).1 q1030).2).2).1 q1032).2).2)))) (fun q1033 => And.intro ((((((((((H.2 q1025).2).2 q1027).2).2 q1029).2).1 q1030).2).2).2 q1033).1 (And.intro (show (1 : Int) = 0 ∨ (1 : Int) = 1 by decide) (((((((((((H.2 q1025).2).2 q1027).2).2 q1029).2).1 q1030).2).2).2 q1033).2))))))) (fun q1031 => ((((((H.2 q1025).2).2 q1027).2).2 q1029).2).2 q1031))))))))))))
theorem x263f_m {G : Ctx} {h : Nat} {Q : MP} {I : Nat → Nat → Int} {J : Nat → Nat → BitVec 64} {f1 f2 : Bool} {x y : Int} (hh : 2 ≤ h) (H : ∀ h, 1 ≤ h → Tri G h 263 119 119 0 [some (vr 91), some (vi x), some (vi y)] [] (I, J, PP (f1, f2, false)) Q) : TriM G h 263 119 119 [vr 91, vi x, vi y] (I, J, PP (f1, f2, false)) Q := TriM_intro (h - 1) (by omega) (by decide) (Nat.le_of_ble_eq_true rfl) (Nat.le_refl _) (Nat.le_refl _) (H (h - 1) (by omega))
set_option maxRecDepth 100000 in
theorem x264t {G : Ctx} {h : Nat} {Q : MP} {I : Nat → Nat → Int} {J : Nat → Nat → BitVec 64} {f1 f2 : Bool} (hh : 4 ≤ h) (H : TriM G h 260 119 119 [vr 91] (I, J, PP (f1, f2, true)) (cIN fun r1 I1 J1 b1 => (Tri G h 264 119 119 7 [some (vr 91), some (vi r1), some (vi 0)] [] (I1, J1, PP b1) Q))) : Tri G h 264 119 119 0 [some (vr 91)] [] (I, J, PP (f1, f2, true)) Q := wp_at ck264 [(7, [true, true, true]), (30, [true, true, true, true]), (61, [true, true, false, true]), (75, [true, true, false, true, true]), (111, [true, true, false, true, true])] 400 (cIN_go H (fun r1 I1 J1 b1 q1034 => q1034))
set_option maxRecDepth 100000 in
theorem x264t_7 {G : Ctx} {h : Nat} {Q : MP} {I : Nat → Nat → Int} {J : Nat → Nat → BitVec 64} {f1 f2 : Bool} {l1 l2 : Int} (hh : 0 ≤ h) (H : ((100000 ≤ l2) → (Tri G h 264 119 119 30 [some (vr 91), some (vi l1), some (vi 0), some (vi 4)] [] (I, J, PP (f1, f2, true)) Q)) ∧ (¬ (100000 ≤ l2) → ((0 ≤ l2 ∧ l2 < (100000 : Int)) ∧ (Tri G h 264 119 119 7 [some (vr 91), some (vi l1), some (vi (w32 (l2 + 1)))] [] (u2 I 116 l2.toNat 0, J, PP (f1, f2, true)) Q)))) : Tri G h 264 119 119 7 [some (vr 91), some (vi l1), some (vi l2)] [] (I, J, PP (f1, f2, true)) Q := wp_at ck264 [(7, [true, true, true]), (30, [true, true, true, true]), (61, [true, true, false, true]), (75, [true, true, false, true, true]), (111, [true, true, false, true, true])] 400 (And.intro (fun q1035 => H.1 q1035) (fun q1036 => And.intro (H.2 q1036).1 (And.intro (show (0 : Int) = 0 ∨ (0 : Int) = 1 by decide) ((H.2 q1036).2))))
set_option maxRecDepth 100000 in
theorem x264t_30 {G : Ctx} {h : Nat} {Q : MP} {I : Nat → Nat → Int} {J : Nat → Nat → BitVec 64} {f1 f2 : Bool} {l1 l2 l3 : Int} (hh : 0 ≤ h) (H : ((l3 < 0) → ((0 ≤ l2 ∧ l2 < (100000 : Int)) ∧ (Tri G h 264 119 119 61 [some (vr 91), some (vi l1), none, some (vi 0)] [] (u2 I 116 l2.toNat 1, J, PP (f1, f2, true)) Q))) ∧ (¬ (l3 < 0) → ((0 ≤ l3 ∧ l3 < (5 : Int)) ∧ (Tri G h 264 119 119 30 [some (vr 91), some (vi l1), some (vi (w32 ((w32 (10 * l2)) + (I 115 l3.toNat)))), some (vi (w32 (l3 + (-1))))] [] (I, J, PP (f1, f2, true)) Q)))) : Tri G h 264 119 119 30 [some (vr 91), some (vi l1), some (vi l2), some (vi l3)] [] (I, J, PP (f1, f2, true)) Q := wp_at ck264 [(7, [true, true, true]), (30, [true, true, true, true]), (61, [true, true, false, true]), (75, [true, true, false, true, true]), (111, [true, true, false, true, true])] 400 (And.intro (fun q1037 => And.intro (H.1 q1037).1 (And.intro (show (1 : Int) = 0 ∨ (1 : Int) = 1 by decide) ((H.1 q1037).2))) (fun q1038 => H.2 q1038))
set_option maxRecDepth 100000 in
theorem x264t_61 {G : Ctx} {h : Nat} {Q : MP} {I : Nat → Nat → Int} {J : Nat → Nat → BitVec 64} {f1 f2 : Bool} {l1 l3 : Int} (hh : 0 ≤ h) (H : (((I 92 8) ≤ l3) → (Tri G h 264 119 119 111 [some (vr 91), some (vi l1), none, some (vi 0), some (vi 0)] [] (I, J, PP (f1, f2, true)) Q)) ∧ (¬ ((I 92 8) ≤ l3) → (Tri G h 264 119 119 75 [some (vr 91), some (vi l1), none, some (vi l3), some (vi 0)] [] (I, J, PP (f1, f2, true)) Q))) : Tri G h 264 119 119 61 [some (vr 91), some (vi l1), none, some (vi l3)] [] (I, J, PP (f1, f2, true)) Q := wp_at ck264 [(7, [true, true, true]), (30, [true, true, true, true]), (61, [true, true, false, true]), (75, [true, true, false, true, true]), (111, [true, true, false, true, true])] 400 (And.intro (show (0 : Int) ≤ 8 ∧ (8 : Int) < ((5120 : Nat) : Int) by decide) H)
set_option maxRecDepth 100000 in
theorem x264t_75 {G : Ctx} {h : Nat} {Q : MP} {I : Nat → Nat → Int} {J : Nat → Nat → BitVec 64} {f1 f2 : Bool} {l1 l3 l4 : Int} (hh : 2 ≤ h) (H : (((I 92 9) ≤ l4) → (Tri G h 264 119 119 61 [some (vr 91), some (vi l1), none, some (vi (w32 (l3 + 1)))] [] (I, J, PP (f1, f2, true)) Q)) ∧ (¬ ((I 92 9) ≤ l4) → (TriM G h 263 119 119 [vr 91, vi l4, vi l3] (I, J, PP (f1, f2, true)) (cVN fun I1 J1 b1 => (Tri G h 264 119 119 75 [some (vr 91), some (vi l1), none, some (vi l3), some (vi (w32 (l4 + 1)))] [] (I1, J1, PP b1) Q))))) : Tri G h 264 119 119 75 [some (vr 91), some (vi l1), none, some (vi l3), some (vi l4)] [] (I, J, PP (f1, f2, true)) Q := wp_at ck264 [(7, [true, true, true]), (30, [true, true, true, true]), (61, [true, true, false, true]), (75, [true, true, false, true, true]), (111, [true, true, false, true, true])] 400 (And.intro (show (0 : Int) ≤ 9 ∧ (9 : Int) < ((5120 : Nat) : Int) by decide) (And.intro (fun q1039 => H.1 q1039) (fun q1040 => cVN_go (H.2 q1040) (fun I1 J1 b1 q1041 => q1041))))
set_option maxRecDepth 100000 in
theorem x264t_111 {G : Ctx} {h : Nat} {Q : MP} {I : Nat → Nat → Int} {J : Nat → Nat → BitVec 64} {f1 f2 : Bool} {l1 l3 l4 : Int} (hh : 0 ≤ h) (H : ((100000 ≤ l4) → (Q (some (vi l3)) (I, J, PP (f1, f2, true)))) ∧ (¬ (100000 ≤ l4) → ((0 ≤ l4 ∧ l4 < (100000 : Int)) ∧ (((¬ (I 116 l4.toNat) = 0) → ((((w32 (l1 - (w32 ((w32 ((w32 ((w32 ((iRem l4 10) + (iRem (iDiv l4 10) 10))) + (iRem (iDiv l4 100) 10))) + (iRem (iDiv l4 1000) 10))) + (iDiv l4 10000))))) ≤ l3) → (Tri G h 264 119 119 111 [some (vr 91), some (vi l1), none, some (vi l3), some (vi (w32 (l4 + 1)))] [] (I, J, PP (f1, f2, true)) Q)) ∧ (¬ ((w32 (l1 - (w32 ((w32 ((w32 ((w32 ((iRem l4 10) + (iRem (iDiv l4 10) 10))) + (iRem (iDiv l4 100) 10))) + (iRem (iDiv l4 1000) 10))) + (iDiv l4 10000))))) ≤ l3) → (Tri G h 264 119 119 111 [some (vr 91), some (vi l1), none, some (vi (w32 (l1 - (w32 ((w32 ((w32 ((w32 ((iRem l4 10) + (iRem (iDiv l4 10) 10))) + (iRem (iDiv l4 100) 10))) + (iRem (iDiv l4 1000) 10))) + (iDiv l4 10000)))))), some (vi (w32 (l4 + 1)))] [] (I, J, PP (f1, f2, true)) Q)))) ∧ (¬ (¬ (I 116 l4.toNat) = 0) → (Tri G h 264 119 119 111 [some (vr 91), some (vi l1), none, some (vi l3), some (vi (w32 (l4 + 1)))] [] (I, J, PP (f1, f2, true)) Q)))))) : Tri G h 264 119 119 111 [some (vr 91), some (vi l1), none, some (vi l3), some (vi l4)] [] (I, J, PP (f1, f2, true)) Q := wp_at ck264 [(7, [true, true, true]), (30, [true, true, true, true]), (61, [true, true, false, true]), (75, [true, true, false, true, true]), (111, [true, true, false, true, true])] 400 (And.intro (fun q1042 => H.1 q1042) (fun q1043 => And.intro (H.2 q1043).1 (And.intro (fun q1044 => And.intro (show (10 : Int) ≠ 0 by decide) (And.intro (show (10 : Int) ≠ 0 by decide) (And.intro (show (10 : Int) ≠ 0 by decide) (And.intro (show (100 : Int) ≠ 0 by decide) (And.intro (show (10 : Int) ≠ 0 by decide) (And.intro (show (1000 : Int) ≠ 0 by decide) (And.intro (show (10 : Int) ≠ 0 by decide) (And.intro (show (10000 : Int) ≠ 0 by decide) (((H.2 q1043).2).1 q1044))))))))) (fun q1045 => ((H.2 q1043).2).2 q1045))))
theorem x264t_m {G : Ctx} {h : Nat} {Q : MP} {I : Nat → Nat → Int} {J : Nat → Nat → BitVec 64} {f1 f2 : Bool} (hh : 5 ≤ h) (H : ∀ h, 4 ≤ h → Tri G h 264 119 119 0 [some (vr 91)] [] (I, J, PP (f1, f2, true)) Q) : TriM G h 264 119 119 [vr 91] (I, J, PP (f1, f2, true)) Q := TriM_intro (h - 1) (by omega) (by decide) (Nat.le_of_ble_eq_true rfl) (Nat.le_refl _) (Nat.le_refl _) (H (h - 1) (by omega))
set_option maxRecDepth 100000 in
theorem x264f {G : Ctx} {h : Nat} {Q : MP} {I : Nat → Nat → Int} {J : Nat → Nat → BitVec 64} {f1 f2 : Bool} (hh : 4 ≤ h) (H : TriM G h 260 119 119 [vr 91] (I, J, PP (f1, f2, false)) (cIN fun r1 I1 J1 b1 => (Tri G h 264 119 119 7 [some (vr 91), some (vi r1), some (vi 0)] [] (I1, J1, PP b1) Q))) : Tri G h 264 119 119 0 [some (vr 91)] [] (I, J, PP (f1, f2, false)) Q := wp_at ck264 [(7, [true, true, true]), (30, [true, true, true, true]), (61, [true, true, false, true]), (75, [true, true, false, true, true]), (111, [true, true, false, true, true])] 400 (cIN_go H (fun r1 I1 J1 b1 q1046 => q1046))
set_option maxRecDepth 100000 in
theorem x264f_7 {G : Ctx} {h : Nat} {Q : MP} {I : Nat → Nat → Int} {J : Nat → Nat → BitVec 64} {f1 f2 : Bool} {l1 l2 : Int} (hh : 0 ≤ h) (H : ((100000 ≤ l2) → (Tri G h 264 119 119 30 [some (vr 91), some (vi l1), some (vi 0), some (vi 4)] [] (I, J, PP (f1, f2, false)) Q)) ∧ (¬ (100000 ≤ l2) → ((0 ≤ l2 ∧ l2 < (100000 : Int)) ∧ (Tri G h 264 119 119 7 [some (vr 91), some (vi l1), some (vi (w32 (l2 + 1)))] [] (u2 I 117 l2.toNat 0, J, PP (f1, f2, false)) Q)))) : Tri G h 264 119 119 7 [some (vr 91), some (vi l1), some (vi l2)] [] (I, J, PP (f1, f2, false)) Q := wp_at ck264 [(7, [true, true, true]), (30, [true, true, true, true]), (61, [true, true, false, true]), (75, [true, true, false, true, true]), (111, [true, true, false, true, true])] 400 (And.intro (fun q1047 => H.1 q1047) (fun q1048 => And.intro (H.2 q1048).1 (And.intro (show (0 : Int) = 0 ∨ (0 : Int) = 1 by decide) ((H.2 q1048).2))))
set_option maxRecDepth 100000 in
theorem x264f_30 {G : Ctx} {h : Nat} {Q : MP} {I : Nat → Nat → Int} {J : Nat → Nat → BitVec 64} {f1 f2 : Bool} {l1 l2 l3 : Int} (hh : 0 ≤ h) (H : ((l3 < 0) → ((0 ≤ l2 ∧ l2 < (100000 : Int)) ∧ (Tri G h 264 119 119 61 [some (vr 91), some (vi l1), none, some (vi 0)] [] (u2 I 117 l2.toNat 1, J, PP (f1, f2, false)) Q))) ∧ (¬ (l3 < 0) → ((0 ≤ l3 ∧ l3 < (5 : Int)) ∧ (Tri G h 264 119 119 30 [some (vr 91), some (vi l1), some (vi (w32 ((w32 (10 * l2)) + (I 115 l3.toNat)))), some (vi (w32 (l3 + (-1))))] [] (I, J, PP (f1, f2, false)) Q)))) : Tri G h 264 119 119 30 [some (vr 91), some (vi l1), some (vi l2), some (vi l3)] [] (I, J, PP (f1, f2, false)) Q := wp_at ck264 [(7, [true, true, true]), (30, [true, true, true, true]), (61, [true, true, false, true]), (75, [true, true, false, true, true]), (111, [true, true, false, true, true])] 400 (And.intro (fun q1049 => And.intro (H.1 q1049).1 (And.intro (show (1 : Int) = 0 ∨ (1 : Int) = 1 by decide) ((H.1 q1049).2))) (fun q1050 => H.2 q1050))
set_option maxRecDepth 100000 in
theorem x264f_61 {G : Ctx} {h : Nat} {Q : MP} {I : Nat → Nat → Int} {J : Nat → Nat → BitVec 64} {f1 f2 : Bool} {l1 l3 : Int} (hh : 0 ≤ h) (H : (((I 92 8) ≤ l3) → (Tri G h 264 119 119 111 [some (vr 91), some (vi l1), none, some (vi 0), some (vi 0)] [] (I, J, PP (f1, f2, false)) Q)) ∧ (¬ ((I 92 8) ≤ l3) → (Tri G h 264 119 119 75 [some (vr 91), some (vi l1), none, some (vi l3), some (vi 0)] [] (I, J, PP (f1, f2, false)) Q))) : Tri G h 264 119 119 61 [some (vr 91), some (vi l1), none, some (vi l3)] [] (I, J, PP (f1, f2, false)) Q := wp_at ck264 [(7, [true, true, true]), (30, [true, true, true, true]), (61, [true, true, false, true]), (75, [true, true, false, true, true]), (111, [true, true, false, true, true])] 400 (And.intro (show (0 : Int) ≤ 8 ∧ (8 : Int) < ((5120 : Nat) : Int) by decide) H)
set_option maxRecDepth 100000 in
theorem x264f_75 {G : Ctx} {h : Nat} {Q : MP} {I : Nat → Nat → Int} {J : Nat → Nat → BitVec 64} {f1 f2 : Bool} {l1 l3 l4 : Int} (hh : 2 ≤ h) (H : (((I 92 9) ≤ l4) → (Tri G h 264 119 119 61 [some (vr 91), some (vi l1), none, some (vi (w32 (l3 + 1)))] [] (I, J, PP (f1, f2, false)) Q)) ∧ (¬ ((I 92 9) ≤ l4) → (TriM G h 263 119 119 [vr 91, vi l4, vi l3] (I, J, PP (f1, f2, false)) (cVN fun I1 J1 b1 => (Tri G h 264 119 119 75 [some (vr 91), some (vi l1), none, some (vi l3), some (vi (w32 (l4 + 1)))] [] (I1, J1, PP b1) Q))))) : Tri G h 264 119 119 75 [some (vr 91), some (vi l1), none, some (vi l3), some (vi l4)] [] (I, J, PP (f1, f2, false)) Q := wp_at ck264 [(7, [true, true, true]), (30, [true, true, true, true]), (61, [true, true, false, true]), (75, [true, true, false, true, true]), (111, [true, true, false, true, true])] 400 (And.intro (show (0 : Int) ≤ 9 ∧ (9 : Int) < ((5120 : Nat) : Int) by decide) (And.intro (fun q1051 => H.1 q1051) (fun q1052 => cVN_go (H.2 q1052) (fun I1 J1 b1 q1053 => q1053))))
set_option maxRecDepth 100000 in
theorem x264f_111 {G : Ctx} {h : Nat} {Q : MP} {I : Nat → Nat → Int} {J : Nat → Nat → BitVec 64} {f1 f2 : Bool} {l1 l3 l4 : Int} (hh : 0 ≤ h) (H : ((100000 ≤ l4) → (Q (some (vi l3)) (I, J, PP (f1, f2, false)))) ∧ (¬ (100000 ≤ l4) → ((0 ≤ l4 ∧ l4 < (100000 : Int)) ∧ (((¬ (I 117 l4.toNat) = 0) → ((((w32 (l1 - (w32 ((w32 ((w32 ((w32 ((iRem l4 10) + (iRem (iDiv l4 10) 10))) + (iRem (iDiv l4 100) 10))) + (iRem (iDiv l4 1000) 10))) + (iDiv l4 10000))))) ≤ l3) → (Tri G h 264 119 119 111 [some (vr 91), some (vi l1), none, some (vi l3), some (vi (w32 (l4 + 1)))] [] (I, J, PP (f1, f2, false)) Q)) ∧ (¬ ((w32 (l1 - (w32 ((w32 ((w32 ((w32 ((iRem l4 10) + (iRem (iDiv l4 10) 10))) + (iRem (iDiv l4 100) 10))) + (iRem (iDiv l4 1000) 10))) + (iDiv l4 10000))))) ≤ l3) → (Tri G h 264 119 119 111 [some (vr 91), some (vi l1), none, some (vi (w32 (l1 - (w32 ((w32 ((w32 ((w32 ((iRem l4 10) + (iRem (iDiv l4 10) 10))) + (iRem (iDiv l4 100) 10))) + (iRem (iDiv l4 1000) 10))) + (iDiv l4 10000)))))), some (vi (w32 (l4 + 1)))] [] (I, J, PP (f1, f2, false)) Q)))) ∧ (¬ (¬ (I 117 l4.toNat) = 0) → (Tri G h 264 119 119 111 [some (vr 91), some (vi l1), none, some (vi l3), some (vi (w32 (l4 + 1)))] [] (I, J, PP (f1, f2, false)) Q)))))) : Tri G h 264 119 119 111 [some (vr 91), some (vi l1), none, some (vi l3), some (vi l4)] [] (I, J, PP (f1, f2, false)) Q := wp_at ck264 [(7, [true, true, true]), (30, [true, true, true, true]), (61, [true, true, false, true]), (75, [true, true, false, true, true]), (111, [true, true, false, true, true])] 400 (And.intro (fun q1054 => H.1 q1054) (fun q1055 => And.intro (H.2 q1055).1 (And.intro (fun q1056 => And.intro (show (10 : Int) ≠ 0 by decide) (And.intro (show (10 : Int) ≠ 0 by decide) (And.intro (show (10 : Int) ≠ 0 by decide) (And.intro (show (100 : Int) ≠ 0 by decide) (And.intro (show (10 : Int) ≠ 0 by decide) (And.intro (show (1000 : Int) ≠ 0 by decide) (And.intro (show (10 : Int) ≠ 0 by decide) (And.intro (show (10000 : Int) ≠ 0 by decide) (((H.2 q1055).2).1 q1056))))))))) (fun q1057 => ((H.2 q1055).2).2 q1057))))
theorem x264f_m {G : Ctx} {h : Nat} {Q : MP} {I : Nat → Nat → Int} {J : Nat → Nat → BitVec 64} {f1 f2 : Bool} (hh : 5 ≤ h) (H : ∀ h, 4 ≤ h → Tri G h 264 119 119 0 [some (vr 91)] [] (I, J, PP (f1, f2, false)) Q) : TriM G h 264 119 119 [vr 91] (I, J, PP (f1, f2, false)) Q := TriM_intro (h - 1) (by omega) (by decide) (Nat.le_of_ble_eq_true rfl) (Nat.le_refl _) (Nat.le_refl _) (H (h - 1) (by omega))
/-! the search -/
abbrev blV (hl : List Nat) : List Nat := hl.map (· + 1)
def srI (I : MI) (hl : List Nat) : Prop := (hl.length = 5 ∧ ∀ v ∈ hl, v ≤ 9) ∧ (∀ s : Nat, s < 5 → I 88 s = prd ((blV hl).take s) ∧ I 89 s = (blV hl).getD s 1) ∧ I 85 4 = ((prd (blV hl) + 63) / 64 : Nat)
theorem blV_b {hl : List Nat} (h : hl.length = 5 ∧ ∀ v ∈ hl, v ≤ 9) : (blV hl).length = 5 ∧ (∀ b ∈ blV hl, 0 < b ∧ b ≤ 10) ∧ 0 < prd (blV hl) ∧ prd (blV hl) ≤ 100000 := by
  have h1 : (blV hl).length = 5 := by rw [List.length_map]; exact h.1
  have h2 : ∀ b ∈ blV hl, 0 < b ∧ b ≤ 10 := by
    intro b hb
    obtain ⟨v, hv, rfl⟩ := List.mem_map.1 hb
    have := h.2 v hv
    omega
  refine ⟨h1, h2, prd_pos fun b hb => (h2 b hb).1, ?_⟩
  have := prd_le (B := 10) fun b hb => (h2 b hb).2
  rw [h1] at this
  exact this
theorem pt_b {hl : List Nat} (h : hl.length = 5 ∧ ∀ v ∈ hl, v ≤ 9) (s : Nat) : 0 < prd ((blV hl).take s) ∧ prd ((blV hl).take s) ≤ 100000 := by
  have h2 := (blV_b h).2.1
  have h1 := (blV_b h).1
  have hm : ∀ b ∈ (blV hl).take s, 0 < b ∧ b ≤ 10 := fun b hb => h2 b (List.mem_of_mem_take hb)
  refine ⟨prd_pos fun b hb => (hm b hb).1, ?_⟩
  have := prd_le (B := 10) fun b hb => (hm b hb).2
  have hl2 : ((blV hl).take s).length ≤ 5 := by rw [List.length_take, h1]; omega
  have h5 : 10 ^ ((blV hl).take s).length ≤ 10 ^ 5 := Nat.pow_le_pow_right (by decide) hl2
  omega
theorem bg_b {hl : List Nat} (h : hl.length = 5 ∧ ∀ v ∈ hl, v ≤ 9) {s : Nat} (hs : s < 5) : (blV hl).getD s 1 = hl.getD s 0 + 1 ∧ hl.getD s 0 ≤ 9 := by
  have hsl : s < hl.length := by rw [h.1]; exact hs
  have e : (blV hl)[s]? = some (hl[s] + 1) := by
    rw [List.getElem?_map, List.getElem?_eq_getElem hsl]
    rfl
  have h1 : (blV hl).getD s 1 = hl[s] + 1 := by rw [List.getD_eq_getElem?_getD, e]; rfl
  have h2 : hl.getD s 0 = hl[s] := by rw [List.getD_eq_getElem?_getD, List.getElem?_eq_getElem hsl]; rfl
  rw [h1, h2]
  exact ⟨rfl, h.2 _ (List.getElem_mem hsl)⟩
theorem lf_dec {hl : List Nat} (h : srI I hl) {c s : Nat} (hs : s < 5) : lfI I c s = ((deC (blV hl) c).getD s 0 : Nat) := by
  obtain ⟨h1, h2, h3⟩ := h
  unfold lfI
  rw [toN, (h2 s hs).1, (h2 s hs).2, deC_at (by rw [(blV_b h1).1]; exact hs), ← Int.natCast_ediv, ← Int.natCast_emod]
theorem lf_g {hl : List Nat} (h : srI I hl) {c s : Nat} (hc : c < prd (blV hl)) (hs : s < 5) : (0 ≤ (c : Int) ∧ (c : Int) < 200000) ∧ (0 ≤ (s : Int) ∧ (s : Int) < 5) ∧ (0 < I 88 ((s : Int)).toNat ∧ I 88 ((s : Int)).toNat < 200000) ∧ 0 < I 89 ((s : Int)).toNat ∧ I 89 ((s : Int)).toNat ≤ 10 := by
  obtain ⟨h1, h2, h3⟩ := h
  have hb := blV_b h1
  have hp := pt_b h1 s
  have hg := bg_b h1 hs
  rw [toN, (h2 s hs).1, (h2 s hs).2]
  omega
/-- where one can be left after a go from c -/
def mvc (hl : List Nat) (op : Nat → Prop) (k c j : Nat) : Prop := (∃ s, s < 5 ∧ op s ∧ 0 < (deC (blV hl) c).getD s 0 ∧ j = enC (blV hl) (mvV (deC (blV hl) c) s k)) ∨ (j = c ∧ ∀ s, s < 5 → op s → (deC (blV hl) c).getD s 0 = 0)
def wuV (hl : List Nat) : Nat := (prd (blV hl) + 63) / 64
theorem dec_in {hl : List Nat} (h : hl.length = 5 ∧ ∀ v ∈ hl, v ≤ 9) (c : Nat) : inB (blV hl) (deC (blV hl) c) := deC_in c fun b hb => ((blV_b h).2.1 b hb).1
theorem mv_enc {hl : List Nat} (h : hl.length = 5 ∧ ∀ v ∈ hl, v ≤ 9) {c s k : Nat} (hc : c < prd (blV hl)) (hs : s < 5) : enC (blV hl) (mvV (deC (blV hl) c) s k) = c - min ((deC (blV hl) c).getD s 0) k * prd ((blV hl).take s) ∧ min ((deC (blV hl) c).getD s 0) k * prd ((blV hl).take s) ≤ c := by
  have e := enC_set (bs := blV hl) (vs := deC (blV hl) c) (s := s) (w := (deC (blV hl) c).getD s 0 - min ((deC (blV hl) c).getD s 0) k) (by rw [(blV_b h).1]; exact hs) (dec_in h c) (by omega)
  rw [enC_deC hc, show (deC (blV hl) c).getD s 0 - ((deC (blV hl) c).getD s 0 - min ((deC (blV hl) c).getD s 0) k) = min ((deC (blV hl) c).getD s 0) k by omega] at e
  unfold mvV
  omega
theorem mv_in {hl : List Nat} (h : hl.length = 5 ∧ ∀ v ∈ hl, v ≤ 9) {v : List Nat} {s k : Nat} (hv : inB (blV hl) v) : inB (blV hl) (mvV v s k) := inB_set hv (by omega)
def rdS (J : MJ) (R : Nat) (hl : List Nat) (S : VS) : Prop := (∀ c, c < 64 * wuV hl → (bitJ J R c = true ↔ c < prd (blV hl) ∧ S (deC (blV hl) c))) ∧ ∀ v, S v → inB (blV hl) v
theorem mvc_lt {hl : List Nat} (h : hl.length = 5 ∧ ∀ v ∈ hl, v ≤ 9) {op : Nat → Prop} {k c j : Nat} (hc : c < prd (blV hl)) (hm : mvc hl op k c j) : j < prd (blV hl) := by
  rcases hm with ⟨s, s1, -, -, rfl⟩ | ⟨rfl, -⟩
  · exact enC_lt (mv_in h (dec_in h c))
  · exact hc
/-- the bits of all goes are those of the step -/
theorem mvc_step {hl : List Nat} (h : hl.length = 5 ∧ ∀ v ∈ hl, v ≤ 9) {op : Nat → Prop} {k : Nat} {S : VS} (hS : ∀ v, S v → inB (blV hl) v) (j : Nat) : (∃ c, (c < prd (blV hl) ∧ S (deC (blV hl) c)) ∧ mvc hl op k c j) ↔ j < prd (blV hl) ∧ stK op k S (deC (blV hl) j) := by
  constructor
  · rintro ⟨c, ⟨c1, c2⟩, hm⟩
    refine ⟨mvc_lt h c1 hm, ?_⟩
    rcases hm with ⟨s, s1, s2, s3, rfl⟩ | ⟨rfl, s2⟩
    · rw [deC_enC (mv_in h (dec_in h c))]
      exact Or.inl ⟨_, s, c2, s1, s2, s3, rfl⟩
    · exact Or.inr ⟨c2, s2⟩
  · rintro ⟨j1, j2⟩
    rcases j2 with ⟨v, s, v1, v2, v3, v4, v5⟩ | ⟨v1, v2⟩
    · have hv := hS v v1
      refine ⟨enC (blV hl) v, ⟨enC_lt hv, by rw [deC_enC hv]; exact v1⟩, Or.inl ⟨s, v2, v3, by rw [deC_enC hv]; exact v4, ?_⟩⟩
      rw [deC_enC hv, ← v5, enC_deC j1]
    · exact ⟨j, ⟨j1, v1⟩, Or.inr ⟨rfl, v2⟩⟩
theorem stK_in {hl : List Nat} (h : hl.length = 5 ∧ ∀ v ∈ hl, v ≤ 9) {op : Nat → Prop} {k : Nat} {S : VS} (hS : ∀ v, S v → inB (blV hl) v) : ∀ v, stK op k S v → inB (blV hl) v := by
  intro w hw
  rcases hw with ⟨v, s, v1, v2, v3, v4, rfl⟩ | ⟨v1, v2⟩
  · exact mv_in h (hS v v1)
  · exact hS w v1
def opD (I : MI) (d : Nat) (s : Nat) : Prop := I 28 (s * 4 + d) = 0
theorem srI.k {S : List Nat} {I' : MI} {hl : List Nat} (h : srI I hl) (hf : frK S I I') (hS : ∀ k ∈ [85, 88, 89], k ∉ S) : srI I' hl := by
  unfold srI
  rw [hf 85 (hS 85 (by decide)), hf 88 (hS 88 (by decide)), hf 89 (hS 89 (by decide))]
  exact h
theorem lst64 (a : BitVec 64) : ∃ L : List Nat, bitsL a L ∧ L.Pairwise (· < ·) ∧ L.length ≤ 64 := by
  refine ⟨(List.range 64).filter (fun j => a.getLsbD j), fun j => ?_, List.Pairwise.filter _ List.pairwise_lt_range, ?_⟩
  · rw [List.mem_filter, List.mem_range]
    exact ⟨fun q => ⟨BitVec.lt_of_getLsbD q, q⟩, fun q => q.2⟩
  · have := List.length_filter_le (fun j => a.getLsbD j) (List.range 64)
    rw [List.length_range] at this
    exact this
theorem zero_dec {hl : List Nat} (h : hl.length = 5) : deC (blV hl) 0 = [0, 0, 0, 0, 0] := by
  match hl, h with
  | [a, b, c, d, e], _ => simp [deC]

theorem s108t_l {K : MI → MJ → B3 → Prop} {hl : List Nat} {c k d : Nat} {J0 : MJ} (hh : 2 ≤ h) (hs : srI I hl) (hc : c < prd (blV hl)) (hd : d < 4) (hk : 0 < k ∧ k ≤ 9) (g : ∀ J2, frJ [87] J0 J2 → (∀ j, j < 64 * wuV hl → (bitJ J2 87 j = true ↔ bitJ J0 87 j = true ∨ mvc hl (opD I d) k c j)) → K I J2 (true, f2, f3)) : ∀ (m s : Nat) (J' : MJ) (w : Int), s + m = 5 → frJ [87] J0 J' → (w = 0 ∨ w = 1) → (w = 1 ↔ ∀ t, t < s → opD I d t → (deC (blV hl) c).getD t 0 = 0) → (∀ j, j < 64 * wuV hl → (bitJ J' 87 j = true ↔ bitJ J0 87 j = true ∨ ∃ t, t < s ∧ opD I d t ∧ 0 < (deC (blV hl) c).getD t 0 ∧ j = enC (blV hl) (mvV (deC (blV hl) c) t k))) → Tri G h 108 119 119 6 [some (vr 85), some (vi c), some (vr 25), some (vi d), some (vi k), some (vi w), some (vi s)] [] (I, J', PP (true, f2, f3)) (cVN K) := by
  have hb := blV_b hs.1
  have hwu : wuV hl = (prd (blV hl) + 63) / 64 := rfl
  intro m
  induction m with
  | zero =>
    intro s J' w hs5 hf hw01 hw hbits
    obtain rfl : s = 5 := hs5
    refine x108t_6 hh ⟨fun _ => ⟨fun q => cVN_r (g J' hf fun j hj => ?_), fun q => ⟨by omega, cVN_r (g _ (hf.u (by decide)) fun j hj => ?_)⟩⟩, fun q => by omega⟩
    · rw [hbits j hj]
      unfold mvc
      constructor
      · rintro (q2 | ⟨t, q2⟩)
        · exact Or.inl q2
        · exact Or.inr (Or.inl ⟨t, q2⟩)
      · rintro (q2 | ⟨t, q2⟩ | ⟨q2, q3⟩)
        · exact Or.inl q2
        · exact Or.inr ⟨t, q2⟩
        · have := hw.2 q3
          omega
    · rw [toN, bitJ_set, Bool.or_eq_true, hbits j hj, decide_eq_true_eq]
      unfold mvc
      have hall := hw.1 (by omega)
      constructor
      · rintro ((q2 | ⟨t, q2⟩) | q2)
        · exact Or.inl q2
        · exact Or.inr (Or.inl ⟨t, q2⟩)
        · exact Or.inr (Or.inr ⟨q2, hall⟩)
      · rintro (q2 | ⟨t, q2⟩ | ⟨q2, q3⟩)
        · exact Or.inl (Or.inl q2)
        · exact Or.inl (Or.inr ⟨t, q2⟩)
        · exact Or.inr q2
  | succ m ih =>
    intro s J' w hs5 hf hw01 hw hbits
    have hs4 : s < 5 := by omega
    have hlf := lf_dec hs (c := c) hs4
    have hg := bg_b hs.1 hs4
    have hin := inB_at (dec_in hs.1 c) (s := s) (by rw [hb.1]; exact hs4)
    have hme := mv_enc hs.1 (k := k) hc hs4
    have hp := pt_b hs.1 s
    have no : ¬ (opD I d s ∧ 0 < (deC (blV hl) c).getD s 0) → Tri G h 108 119 119 6 [some (vr 85), some (vi c), some (vr 25), some (vi d), some (vi k), some (vi w), some (vi (w32 ((s : Int) + 1)))] [] (I, J', PP (true, f2, f3)) (cVN K) := by
      intro hno
      rw [w32_id (by omega) (by omega)]
      refine ih (s + 1) J' w (by omega) hf hw01 ⟨fun q t ht ho => ?_, fun q => hw.2 fun t ht ho => q t (by omega) ho⟩ (fun j hj => ?_)
      · by_cases hts : t = s
        · subst hts
          apply Classical.byContradiction
          intro hz
          exact hno ⟨ho, by omega⟩
        · exact hw.1 q t (by omega) ho
      · rw [hbits j hj]
        constructor
        · rintro (q2 | ⟨t, q2, q3⟩)
          · exact Or.inl q2
          · exact Or.inr ⟨t, by omega, q3⟩
        · rintro (q2 | ⟨t, q2, q3⟩)
          · exact Or.inl q2
          · by_cases hts : t = s
            · subst hts
              exact absurd ⟨q3.1, q3.2.1⟩ hno
            · exact Or.inr ⟨t, by omega, q3⟩
    refine x108t_6 hh ?_
    rw [hlf]
    refine ⟨fun q => by omega, fun _ => ⟨lf_g hs hc hs4, fun q => no fun z => by omega, fun q => ⟨fun _ => ⟨fun _ => ?_, fun q2 => by omega⟩, fun q2 => by omega⟩⟩⟩
    rw [w32_id (x := (s : Int) * 4) (by omega) (by omega), w32_id (x := (s : Int) * 4 + d) (by omega) (by omega), show ((s : Int) * 4 + (d : Int)).toNat = s * 4 + d by omega]
    refine ⟨by omega, fun q2 => no fun z => q2 z.1, fun q2 => ⟨by omega, ?_⟩⟩
    have ho : opD I d s := by unfold opD; omega
    obtain ⟨P, hP⟩ : ∃ P, prd ((blV hl).take s) = P := ⟨_, rfl⟩
    obtain ⟨D, hD⟩ : ∃ D, (deC (blV hl) c).getD s 0 = D := ⟨_, rfl⟩
    rw [toN, (hs.2.1 s hs4).1, hP, hD]
    rw [hP, hD] at hme
    rw [hP] at hp
    rw [hD] at hin
    have emin : min (D : Int) (k : Int) = ((min D k : Nat) : Int) := by omega
    have emul : ((min D k : Nat) : Int) * (P : Int) = ((min D k * P : Nat) : Int) := (Int.natCast_mul _ _).symm
    rw [emin, emul, w32_id (x := ((min D k * P : Nat) : Int)) (by omega) (by omega), w32_id (by omega) (by omega), show (c : Int) - ((min D k * P : Nat) : Int) = ((c - min D k * P : Nat) : Int) by omega, toN, ← hme.1, w32_id (by omega) (by omega)]
    refine ⟨by omega, ih (s + 1) _ 0 (by omega) (hf.u (by decide)) (Or.inl rfl) ⟨fun q3 => absurd q3 (by decide), fun q3 => ?_⟩ (fun j hj => ?_)⟩
    · have := q3 s (by omega) ho
      rw [hD] at this
      omega
    · rw [bitJ_set, Bool.or_eq_true, hbits j hj, decide_eq_true_eq]
      constructor
      · rintro ((q3 | ⟨t, q3, q4⟩) | q3)
        · exact Or.inl q3
        · exact Or.inr ⟨t, by omega, q4⟩
        · exact Or.inr ⟨s, by omega, ho, by rw [hD]; omega, q3⟩
      · rintro (q3 | ⟨t, q3, q4⟩)
        · exact Or.inl (Or.inl q3)
        · by_cases hts : t = s
          · subst hts
            exact Or.inr q4.2.2
          · exact Or.inl (Or.inr ⟨t, by omega, q4⟩)
theorem s108t {K : MI → MJ → B3 → Prop} {hl : List Nat} {c k d : Nat} (hh : 3 ≤ h) (hs : srI I hl) (hc : c < prd (blV hl)) (hd : d < 4) (hk : 0 < k ∧ k ≤ 9) (hx : x = c) (g : ∀ J2, frJ [87] J J2 → (∀ j, j < 64 * wuV hl → (bitJ J2 87 j = true ↔ bitJ J 87 j = true ∨ mvc hl (opD I d) k c j)) → K I J2 (true, f2, f3)) : TriM G h 108 119 119 [vr 85, vi x, vr 25, vi d, vi k] (I, J, PP (true, f2, f3)) (cVN K) := by
  subst hx
  refine x108t_m hh (fun h hh => x108t (by omega) (s108t_l (J0 := J) hh hs hc hd hk g 5 0 J 1 rfl frJ.r (Or.inr rfl) ⟨fun _ t ht => by omega, fun _ => rfl⟩ fun j hj => ?_))
  constructor
  · exact Or.inl
  · rintro (q | ⟨t, q, -⟩)
    · exact q
    · omega
theorem s107t_b {Q : MP} {hl : List Nat} {k d w : Nat} {J0 : MJ} {PD : Nat → Prop} (hh : 4 ≤ h) (hs : srI I hl) (hd : d < 4) (hk : 0 < k ∧ k ≤ 9) (hw : w < wuV hl) (g : ∀ J2, frJ [87] J0 J2 → ∀ P2 : Nat → Prop, (∀ j, j < 64 * wuV hl → (bitJ J2 87 j = true ↔ ∃ c, P2 c ∧ mvc hl (opD I d) k c j)) → (∀ c, P2 c ↔ PD c ∨ ∃ t, (J0 86 w).getLsbD t = true ∧ c = 64 * w + t) → Tri G h 107 119 119 11 [some (vr 85), some (vr 25), some (vi d), some (vi k), some (vi ((w : Int) + 1))] [] (I, J2, PP (true, f2, f3)) Q) (hlt : ∀ t, (J0 86 w).getLsbD t = true → 64 * w + t < prd (blV hl)) : ∀ (L : List Nat) (i : Nat) (bits : BitVec 64) (J' : MJ) (P2 : Nat → Prop), i + L.length ≤ 64 → bitsL bits L → L.Pairwise (· < ·) → frJ [87] J0 J' → (∀ t ∈ L, (J0 86 w).getLsbD t = true) → (∀ c, (P2 c ∨ ∃ t ∈ L, c = 64 * w + t) ↔ PD c ∨ ∃ t, (J0 86 w).getLsbD t = true ∧ c = 64 * w + t) → (∀ j, j < 64 * wuV hl → (bitJ J' 87 j = true ↔ ∃ c, P2 c ∧ mvc hl (opD I d) k c j)) → Tri G h 107 119 119 32 [some (vr 85), some (vr 25), some (vi d), some (vi k), some (vi w), some (vl bits), none, some (vi i)] [] (I, J', PP (true, f2, f3)) Q := by
  have hb := blV_b hs.1
  have hwu : wuV hl = (prd (blV hl) + 63) / 64 := rfl
  intro L
  induction L with
  | nil =>
    intro i bits J' P2 hi hbl hsr hf hL hP hbits
    have hz : bits = 0#64 := by
      apply BitVec.eq_of_getLsbD_eq
      intro j _
      rw [BitVec.getLsbD_zero]
      cases hc : bits.getLsbD j with
      | false => rfl
      | true => have := (hbl j).1 hc; simp at this
    have fin := g J' hf P2 hbits (fun c => by rw [← hP c]; simp)
    refine x107t_32 hh ?_
    rw [w32_id (by omega) (by omega)]
    exact ⟨fun _ => fin, fun _ => ⟨fun _ => fin, fun q => absurd (lCmp_0.2 hz) q⟩⟩
  | cons t L ih =>
    intro i bits J' P2 hi hbl hsr hf hL hP hbits
    have hi2 : i + (L.length + 1) ≤ 64 := hi
    have hlow := bitsL_low hbl hsr
    have hne : bits ≠ 0#64 := by
      intro hz
      have := hlow.2.1
      rw [hz] at this
      simp at this
    have hc := hlt t (hL t List.mem_cons_self)
    refine x107t_32 hh ⟨fun q => by omega, fun _ => ⟨fun q => absurd (lCmp_0.1 q) hne, fun _ => s19 (by omega) hne fun t2 ht2 => ?_⟩⟩
    have htt : t2 = t := by
      rcases Nat.lt_trichotomy t2 t with q | q | q
      · have := hlow.2.2 t2 q
        rw [ht2.2.1] at this
        exact absurd this (by decide)
      · exact q
      · have := ht2.2.2 t q
        rw [hlow.2.1] at this
        exact absurd this (by decide)
    subst htt
    rw [w32_id (x := (w : Int) * 64) (by omega) (by omega), w32_id (x := (w : Int) * 64 + t2) (by omega) (by omega)]
    refine s108t (c := 64 * w + t2) (by omega) hs hc hd hk (by omega) fun J2 hf2 hb2 => ?_
    rw [w32_id (by omega) (by omega)]
    refine ih (i + 1) _ J2 (fun c => P2 c ∨ c = 64 * w + t2) (by omega) (bitsL_cl hbl hsr) (List.pairwise_cons.1 hsr).2 (hf.t hf2) (fun t3 h3 => hL t3 (List.mem_cons_of_mem _ h3)) (fun c => ?_) (fun j hj => ?_)
    · rw [← hP c]
      constructor
      · rintro ((q | q) | ⟨t3, q, q2⟩)
        · exact Or.inl q
        · exact Or.inr ⟨t2, List.mem_cons_self, q⟩
        · exact Or.inr ⟨t3, List.mem_cons_of_mem _ q, q2⟩
      · rintro (q | ⟨t3, q, q2⟩)
        · exact Or.inl (Or.inl q)
        · rcases List.mem_cons.1 q with rfl | q
          · exact Or.inl (Or.inr q2)
          · exact Or.inr ⟨t3, q, q2⟩
    · rw [hb2 j hj, hbits j hj]
      constructor
      · rintro (⟨c, q, q2⟩ | q)
        · exact ⟨c, Or.inl q, q2⟩
        · exact ⟨_, Or.inr rfl, q⟩
      · rintro ⟨c, q | q, q2⟩
        · exact Or.inl ⟨c, q, q2⟩
        · subst q; exact Or.inr q2
theorem pps_t : u2 (u2 (PP (true, f2, f3)) 85 0 87) 85 1 86 = PP (false, f2, f3) := by
  funext k j
  by_cases hk : k = 85
  · subst hk
    by_cases h1 : j = 1
    · subst h1; rw [u2e]; rfl
    · rw [u2j h1]
      by_cases h0 : j = 0
      · subst h0; rw [u2e]; rfl
      · rw [u2j h0]
        unfold PP
        by_cases hj : j < 5
        · have all : ∀ j, j < 5 → j ≠ 0 → j ≠ 1 → ∀ f2 f3 : Bool, pswap (true, f2, f3) ((ppT.getD 85 []).getD j 1000) = pswap (false, f2, f3) ((ppT.getD 85 []).getD j 1000) := by decide +kernel
          exact all j hj h0 h1 f2 f3
        · have e : (ppT.getD 85 []).getD j 1000 = 1000 := by
            rw [List.getD_eq_getElem?_getD, List.getElem?_eq_none (by show 5 ≤ j; omega)]
            rfl
          rw [e]
          rfl
  · rw [u2_ne hk, u2_ne hk]
    unfold PP
    have key : ∀ v : Nat, v ≠ 900 → v ≠ 901 → pswap (true, f2, f3) v = pswap (false, f2, f3) v := by
      intro v h1 h2
      unfold pswap
      split
      · rfl
      · split
        · exact absurd rfl h1
        · exact absurd rfl h2
        · rfl
        · rfl
        · rfl
        · rfl
        · rfl
    have hv : (ppT.getD k []).getD j 1000 ≠ 900 ∧ (ppT.getD k []).getD j 1000 ≠ 901 := by
      by_cases hk2 : k < 119
      · have all : ∀ k, k < 119 → k ≠ 85 → ∀ v ∈ ppT.getD k [], v ≠ 900 ∧ v ≠ 901 := by decide +kernel
        rw [List.getD_eq_getElem?_getD (i := j)]
        cases hg : (ppT.getD k [])[j]? with
        | none => decide
        | some v => exact all k hk2 hk v (List.mem_of_getElem? hg)
      · have e : ppT.getD k [] = [] := by
          rw [List.getD_eq_getElem?_getD, List.getElem?_eq_none (by show 119 ≤ k; omega)]
          rfl
        rw [e]
        exact ⟨by simp, by simp⟩
    exact key _ hv.1 hv.2
theorem s107t_w {K : MI → MJ → B3 → Prop} {hl : List Nat} {k d : Nat} {J0 : MJ} {S : VS} (hh : 4 ≤ h) (hs : srI I hl) (hd : d < 4) (hk : 0 < k ∧ k ≤ 9) (hr : rdS J0 86 hl S) (g : ∀ J2, frJ [87] J0 J2 → rdS J2 87 hl (stK (opD I d) k S) → K I J2 (false, f2, f3)) : ∀ (m w : Nat) (J' : MJ) (PD : Nat → Prop), w + m = wuV hl → frJ [87] J0 J' → (∀ c, PD c ↔ c < 64 * w ∧ bitJ J0 86 c = true) → (∀ j, j < 64 * wuV hl → (bitJ J' 87 j = true ↔ ∃ c, PD c ∧ mvc hl (opD I d) k c j)) → Tri G h 107 119 119 11 [some (vr 85), some (vr 25), some (vi d), some (vi k), some (vi w)] [] (I, J', PP (true, f2, f3)) (cVN K) := by
  have hb := blV_b hs.1
  have hwu : wuV hl = (prd (blV hl) + 63) / 64 := rfl
  have h85 : I 85 4 = wuV hl := hs.2.2
  intro m
  induction m with
  | zero =>
    intro w J' PD hw hf hP hbits
    obtain rfl : w = wuV hl := hw
    refine x107t_11 (Nat.zero_le _) ⟨fun _ => ?_, fun q => by omega⟩
    rw [pps_t]
    refine cVN_r (g J' hf ⟨fun j hj => ?_, stK_in hs.1 hr.2⟩)
    rw [hbits j hj, ← mvc_step hs.1 hr.2 j]
    constructor
    · rintro ⟨c, c1, c2⟩
      have := (hP c).1 c1
      exact ⟨c, (hr.1 c this.1).1 this.2, c2⟩
    · rintro ⟨c, c1, c2⟩
      have hc64 : c < 64 * wuV hl := by have := c1.1; omega
      exact ⟨c, (hP c).2 ⟨hc64, (hr.1 c hc64).2 c1⟩, c2⟩
  | succ m ih =>
    intro w J' PD hw hf hP hbits
    refine x107t_11 (Nat.zero_le _) ⟨fun q => by omega, fun _ => ⟨by omega, ?_⟩⟩
    rw [toN, show J' 86 w = J0 86 w from by rw [hf 86 (by decide)]]
    obtain ⟨L, l1, l2, l3⟩ := lst64 (J0 86 w)
    have hbw : ∀ t, (J0 86 w).getLsbD t = true → bitJ J0 86 (64 * w + t) = true := by
      intro t ht
      have := BitVec.lt_of_getLsbD ht
      unfold bitJ
      rw [show (64 * w + t) / 64 = w by omega, show (64 * w + t) % 64 = t by omega]
      exact ht
    refine s107t_b (J0 := J0) (PD := PD) hh hs hd hk (by omega) (fun J2 hf2 P2 hb2 hP2 => ?_) (fun t ht => ?_) L 0 _ J' PD (by omega) l1 l2 hf (fun t ht => (l1 t).2 ht) (fun c => ?_) hbits
    · refine ih (w + 1) J2 P2 (by omega) hf2 (fun c => ?_) hb2
      rw [hP2 c, hP c]
      constructor
      · rintro (q | ⟨t, q, rfl⟩)
        · exact ⟨by omega, q.2⟩
        · have := BitVec.lt_of_getLsbD q
          exact ⟨by omega, hbw t q⟩
      · rintro ⟨q1, q2⟩
        by_cases hcw : c < 64 * w
        · exact Or.inl ⟨hcw, q2⟩
        · refine Or.inr ⟨c - 64 * w, ?_, by omega⟩
          unfold bitJ at q2
          rw [show c / 64 = w by omega, show c % 64 = c - 64 * w by omega] at q2
          exact q2
    · have := BitVec.lt_of_getLsbD ht
      exact ((hr.1 _ (by omega)).1 (hbw t ht)).1
    · constructor
      · rintro (q | ⟨t, q, q2⟩)
        · exact Or.inl q
        · exact Or.inr ⟨t, (l1 t).2 q, q2⟩
      · rintro (q | ⟨t, q, q2⟩)
        · exact Or.inl q
        · exact Or.inr ⟨t, (l1 t).1 q, q2⟩
theorem s107t {K : MI → MJ → B3 → Prop} {hl : List Nat} {k d : Nat} {S : VS} (hh : 5 ≤ h) (hs : srI I hl) (hd : d < 4) (hk : 0 < k ∧ k ≤ 9) (hr : rdS J 86 hl S) (hx : x = d) (hy : y = k) (g : ∀ J2, frJ [87] J J2 → rdS J2 87 hl (stK (opD I d) k S) → K I J2 (false, f2, f3)) : TriM G h 107 119 119 [vr 85, vr 25, vi x, vi y] (I, J, PP (true, f2, f3)) (cVN K) := by
  subst hx hy
  have hb := blV_b hs.1
  have hwu : wuV hl = (prd (blV hl) + 63) / 64 := rfl
  have h85 : I 85 4 = wuV hl := hs.2.2
  have hfN : frJ [87] J (u1 J 87 (fun j => if (j : Int) < I 85 4 then 0#64 else J 87 j)) := fun k hk => by rw [u1_ne (fun q => hk (by rw [q]; decide))]
  refine x107t_m hh (fun h hh => x107t (by omega) ⟨by omega, ?_⟩)
  refine s107t_w (J0 := J) hh hs hd hk hr g (wuV hl) 0 _ (fun _ => False) (Nat.zero_add _) hfN (fun c => ⟨fun q => q.elim, fun q => by omega⟩) (fun j hj => ?_)
  constructor
  · intro q
    unfold bitJ at q
    rw [u1e, if_pos (by omega)] at q
    simp at q
  · rintro ⟨c, q, -⟩
    exact q.elim
/-- the least that is left -/
def lsP (hl : List Nat) (PD : Nat → Prop) (l : Int) : Prop := 0 ≤ l ∧ l ≤ 45 ∧ (∀ c, PD c → l ≤ ((deC (blV hl) c).sum : Nat)) ∧ (l = 45 ∨ ∃ c, PD c ∧ l = ((deC (blV hl) c).sum : Nat))
theorem s110t_s {Q : MP} {hl : List Nat} {c w i : Nat} {l : Int} {bits : BitVec 64} (hh : 1 ≤ h) (hs : srI I hl) (hc : c < prd (blV hl)) (g : Tri G h 110 119 119 23 [some (vr 85), some (vi (min l ((deC (blV hl) c).sum : Nat))), some (vi w), some (vl (bits &&& (bits - (1#64)))), none, some (vi (w32 ((i : Int) + 1)))] [] (I, J, PP (true, f2, f3)) Q) : ∀ (m s : Nat), s + m = 5 → Tri G h 110 119 119 53 [some (vr 85), some (vi l), some (vi w), some (vl bits), none, some (vi i), some (vi c), some (vi (((deC (blV hl) c).take s).sum : Nat)), some (vi s)] [] (I, J, PP (true, f2, f3)) Q := by
  have hb := blV_b hs.1
  have hlen : (deC (blV hl) c).length = 5 := by rw [inB_len (dec_in hs.1 c)]; exact hb.1
  intro m
  induction m with
  | zero =>
    intro s hs5
    obtain rfl : s = 5 := hs5
    refine x110t_53 hh ⟨fun _ => ?_, fun q => by omega⟩
    rw [List.take_of_length_le (by omega)]
    exact g
  | succ m ih =>
    intro s hs5
    have hs4 : s < 5 := by omega
    have hg := bg_b hs.1 hs4
    have hin := inB_at (dec_in hs.1 c) (s := s) (by rw [hb.1]; exact hs4)
    have hsb : ∀ t, t ≤ 5 → ((deC (blV hl) c).take t).sum ≤ 9 * t := by
      intro t
      induction t with
      | zero => intro _; simp
      | succ t iht =>
        intro ht
        have h1 := iht (by omega)
        have hg2 := bg_b hs.1 (s := t) (by omega)
        have hin2 := inB_at (dec_in hs.1 c) (s := t) (by rw [hb.1]; omega)
        rw [List.take_succ_eq_append_getElem (by omega), List.sum_append]
        have : (deC (blV hl) c).getD t 0 = (deC (blV hl) c)[t] := by rw [List.getD_eq_getElem?_getD, List.getElem?_eq_getElem (by omega)]; rfl
        simp only [List.sum_cons, List.sum_nil]
        omega
    have h1 := hsb s (by omega)
    have h2 : ((deC (blV hl) c).take (s + 1)).sum = ((deC (blV hl) c).take s).sum + (deC (blV hl) c).getD s 0 := by
      rw [List.take_succ_eq_append_getElem (by omega), List.sum_append]
      have : (deC (blV hl) c).getD s 0 = (deC (blV hl) c)[s] := by rw [List.getD_eq_getElem?_getD, List.getElem?_eq_getElem (by omega)]; rfl
      simp only [List.sum_cons, List.sum_nil]
      omega
    refine x110t_53 hh ⟨fun q => by omega, fun _ => ⟨lf_g hs hc hs4, ?_⟩⟩
    rw [lf_dec hs hs4, w32_id (x := (s : Int) + 1) (by omega) (by omega), w32_id (by omega) (by omega), ← Int.natCast_add, ← h2]
    exact ih (s + 1) (by omega)
theorem s110t_b {Q : MP} {hl : List Nat} {w : Nat} {PD : Nat → Prop} (hh : 2 ≤ h) (hs : srI I hl) (hw : w < wuV hl) (g : ∀ (l : Int) (P2 : Nat → Prop), lsP hl P2 l → (∀ c, P2 c ↔ PD c ∨ ∃ t, (J 86 w).getLsbD t = true ∧ c = 64 * w + t) → Tri G h 110 119 119 5 [some (vr 85), some (vi l), some (vi ((w : Int) + 1))] [] (I, J, PP (true, f2, f3)) Q) (hlt : ∀ t, (J 86 w).getLsbD t = true → 64 * w + t < prd (blV hl)) : ∀ (L : List Nat) (i : Nat) (bits : BitVec 64) (l : Int) (P2 : Nat → Prop), i + L.length ≤ 64 → bitsL bits L → L.Pairwise (· < ·) → (∀ t ∈ L, (J 86 w).getLsbD t = true) → (∀ c, (P2 c ∨ ∃ t ∈ L, c = 64 * w + t) ↔ PD c ∨ ∃ t, (J 86 w).getLsbD t = true ∧ c = 64 * w + t) → lsP hl P2 l → Tri G h 110 119 119 23 [some (vr 85), some (vi l), some (vi w), some (vl bits), none, some (vi i)] [] (I, J, PP (true, f2, f3)) Q := by
  have hb := blV_b hs.1
  have hwu : wuV hl = (prd (blV hl) + 63) / 64 := rfl
  intro L
  induction L with
  | nil =>
    intro i bits l P2 hi hbl hsr hL hP hls
    have hz : bits = 0#64 := by
      apply BitVec.eq_of_getLsbD_eq
      intro j _
      rw [BitVec.getLsbD_zero]
      cases hc : bits.getLsbD j with
      | false => rfl
      | true => have := (hbl j).1 hc; simp at this
    have fin := g l P2 hls (fun c => by rw [← hP c]; simp)
    refine x110t_23 hh ?_
    rw [w32_id (by omega) (by omega)]
    exact ⟨fun _ => fin, fun _ => ⟨fun _ => fin, fun q => absurd (lCmp_0.2 hz) q⟩⟩
  | cons t L ih =>
    intro i bits l P2 hi hbl hsr hL hP hls
    have hi2 : i + (L.length + 1) ≤ 64 := hi
    have hlow := bitsL_low hbl hsr
    have hne : bits ≠ 0#64 := by
      intro hz
      have := hlow.2.1
      rw [hz] at this
      simp at this
    have hc := hlt t (hL t List.mem_cons_self)
    refine x110t_23 hh ⟨fun q => by omega, fun _ => ⟨fun q => absurd (lCmp_0.1 q) hne, fun _ => s19 (by omega) hne fun t2 ht2 => ?_⟩⟩
    have htt : t2 = t := by
      rcases Nat.lt_trichotomy t2 t with q | q | q
      · have := hlow.2.2 t2 q
        rw [ht2.2.1] at this
        exact absurd this (by decide)
      · exact q
      · have := ht2.2.2 t q
        rw [hlow.2.1] at this
        exact absurd this (by decide)
    subst htt
    rw [w32_id (x := (w : Int) * 64) (by omega) (by omega), w32_id (x := (w : Int) * 64 + t2) (by omega) (by omega), show (w : Int) * 64 + (t2 : Int) = ((64 * w + t2 : Nat) : Int) by omega]
    refine s110t_s (by omega) hs hc ?_ 5 0 rfl
    rw [w32_id (by omega) (by omega)]
    obtain ⟨p1, p2, p3, p4⟩ := hls
    refine ih (i + 1) _ _ (fun c => P2 c ∨ c = 64 * w + t2) (by omega) (bitsL_cl hbl hsr) (List.pairwise_cons.1 hsr).2 (fun t3 h3 => hL t3 (List.mem_cons_of_mem _ h3)) (fun c => ?_) ⟨by omega, by omega, fun c hc2 => ?_, ?_⟩
    · rw [← hP c]
      constructor
      · rintro ((q | q) | ⟨t3, q, q2⟩)
        · exact Or.inl q
        · exact Or.inr ⟨t2, List.mem_cons_self, q⟩
        · exact Or.inr ⟨t3, List.mem_cons_of_mem _ q, q2⟩
      · rintro (q | ⟨t3, q, q2⟩)
        · exact Or.inl (Or.inl q)
        · rcases List.mem_cons.1 q with rfl | q
          · exact Or.inl (Or.inr q2)
          · exact Or.inr ⟨t3, q, q2⟩
    · rcases hc2 with hc2 | rfl
      · have := p3 c hc2
        omega
      · omega
    · by_cases hmin : l ≤ ((deC (blV hl) (64 * w + t2)).sum : Nat)
      · rw [Int.min_eq_left hmin]
        rcases p4 with p4 | ⟨c, c1, c2⟩
        · exact Or.inl p4
        · exact Or.inr ⟨c, Or.inl c1, c2⟩
      · rw [Int.min_eq_right (by omega)]
        exact Or.inr ⟨_, Or.inr rfl, rfl⟩
theorem s110t_w {K : Int → MI → MJ → B3 → Prop} {hl : List Nat} {S : VS} (hh : 2 ≤ h) (hs : srI I hl) (hr : rdS J 86 hl S) (g : ∀ l, lsP hl (fun c => c < prd (blV hl) ∧ S (deC (blV hl) c)) l → K l I J (true, f2, f3)) : ∀ (m w : Nat) (l : Int) (PD : Nat → Prop), w + m = wuV hl → (∀ c, PD c ↔ c < 64 * w ∧ bitJ J 86 c = true) → lsP hl PD l → Tri G h 110 119 119 5 [some (vr 85), some (vi l), some (vi w)] [] (I, J, PP (true, f2, f3)) (cIN K) := by
  have hb := blV_b hs.1
  have hwu : wuV hl = (prd (blV hl) + 63) / 64 := rfl
  have h85 : I 85 4 = wuV hl := hs.2.2
  intro m
  induction m with
  | zero =>
    intro w l PD hw hP hls
    obtain rfl : w = wuV hl := hw
    refine x110t_5 (Nat.zero_le _) ⟨fun _ => cIN_r fun _ => g l ?_, fun q => by omega⟩
    have : PD = fun c => c < prd (blV hl) ∧ S (deC (blV hl) c) := by
      funext c
      apply propext
      rw [hP c]
      constructor
      · exact fun q => (hr.1 c q.1).1 q.2
      · intro q
        have hc64 : c < 64 * wuV hl := by have := q.1; omega
        exact ⟨hc64, (hr.1 c hc64).2 q⟩
    rw [← this]
    exact hls
  | succ m ih =>
    intro w l PD hw hP hls
    refine x110t_5 (Nat.zero_le _) ⟨fun q => by omega, fun _ => ⟨by omega, ?_⟩⟩
    rw [toN]
    obtain ⟨L, l1, l2, l3⟩ := lst64 (J 86 w)
    have hbw : ∀ t, (J 86 w).getLsbD t = true → bitJ J 86 (64 * w + t) = true := by
      intro t ht
      have := BitVec.lt_of_getLsbD ht
      unfold bitJ
      rw [show (64 * w + t) / 64 = w by omega, show (64 * w + t) % 64 = t by omega]
      exact ht
    refine s110t_b (PD := PD) hh hs (by omega) (fun l2 P2 hls2 hP2 => ?_) (fun t ht => ?_) L 0 _ l PD (by omega) l1 l2 (fun t ht => (l1 t).2 ht) (fun c => ?_) hls
    · refine ih (w + 1) l2 P2 (by omega) (fun c => ?_) hls2
      rw [hP2 c, hP c]
      constructor
      · rintro (q | ⟨t, q, rfl⟩)
        · exact ⟨by omega, q.2⟩
        · have := BitVec.lt_of_getLsbD q
          exact ⟨by omega, hbw t q⟩
      · rintro ⟨q1, q2⟩
        by_cases hcw : c < 64 * w
        · exact Or.inl ⟨hcw, q2⟩
        · refine Or.inr ⟨c - 64 * w, ?_, by omega⟩
          unfold bitJ at q2
          rw [show c / 64 = w by omega, show c % 64 = c - 64 * w by omega] at q2
          exact q2
    · have := BitVec.lt_of_getLsbD ht
      exact ((hr.1 _ (by omega)).1 (hbw t ht)).1
    · constructor
      · rintro (q | ⟨t, q, q2⟩)
        · exact Or.inl q
        · exact Or.inr ⟨t, (l1 t).2 q, q2⟩
      · rintro (q | ⟨t, q, q2⟩)
        · exact Or.inl q
        · exact Or.inr ⟨t, (l1 t).1 q, q2⟩
theorem s110t {K : Int → MI → MJ → B3 → Prop} {hl : List Nat} {S : VS} (hh : 3 ≤ h) (hs : srI I hl) (hr : rdS J 86 hl S) (hne : ∃ v, S v) (g : ∀ l : Nat, lstS S l → K l I J (true, f2, f3)) : TriM G h 110 119 119 [vr 85] (I, J, PP (true, f2, f3)) (cIN K) := by
  have hb := blV_b hs.1
  refine x110t_m hh (fun h hh => x110t (by omega) (s110t_w hh hs hr (fun l hl2 => ?_) (wuV hl) 0 45 (fun _ => False) (Nat.zero_add _) (fun c => ⟨fun q => q.elim, fun q => by omega⟩) ⟨by omega, by omega, fun c q => q.elim, Or.inl rfl⟩))
  obtain ⟨p1, p2, p3, p4⟩ := hl2
  have conv : ∀ v, S v → ∃ c, (c < prd (blV hl) ∧ S (deC (blV hl) c)) ∧ deC (blV hl) c = v := fun v hv => ⟨enC (blV hl) v, ⟨enC_lt (hr.2 v hv), by rw [deC_enC (hr.2 v hv)]; exact hv⟩, deC_enC (hr.2 v hv)⟩
  have low : ∀ v, S v → l ≤ (v.sum : Nat) := by
    intro v hv
    obtain ⟨c, c1, c2⟩ := conv v hv
    have := p3 c c1
    rw [c2] at this
    exact this
  have hsum : ∀ v, S v → v.sum ≤ 45 := by
    intro v hv
    have hi := hr.2 v hv
    have hlen : v.length = 5 := by rw [inB_len hi]; exact hb.1
    have hd : ∀ t, t < 5 → v.getD t 0 ≤ 9 := by
      intro t ht
      have h1 := inB_at hi (s := t) (by rw [hb.1]; exact ht)
      have h2 := bg_b hs.1 ht
      omega
    rw [sum5 hlen]
    have h0 := hd 0 (by omega)
    have h1 := hd 1 (by omega)
    have h2 := hd 2 (by omega)
    have h3 := hd 3 (by omega)
    have h4 := hd 4 (by omega)
    omega
  have hat : ∃ v, S v ∧ l = (v.sum : Nat) := by
    rcases p4 with p4 | ⟨c, c1, c2⟩
    · obtain ⟨v, hv⟩ := hne
      have h1 := low v hv
      have h2 := hsum v hv
      exact ⟨v, hv, by omega⟩
    · exact ⟨_, c1.2, c2⟩
  obtain ⟨v, v1, v2⟩ := hat
  have e : l = ((l.toNat : Nat) : Int) := by omega
  rw [e]
  exact g l.toNat ⟨⟨v, v1, by omega⟩, fun w hw => by have := low w hw; omega⟩

theorem s108f_l {K : MI → MJ → B3 → Prop} {hl : List Nat} {c k d : Nat} {J0 : MJ} (hh : 2 ≤ h) (hs : srI I hl) (hc : c < prd (blV hl)) (hd : d < 4) (hk : 0 < k ∧ k ≤ 9) (g : ∀ J2, frJ [86] J0 J2 → (∀ j, j < 64 * wuV hl → (bitJ J2 86 j = true ↔ bitJ J0 86 j = true ∨ mvc hl (opD I d) k c j)) → K I J2 (false, f2, f3)) : ∀ (m s : Nat) (J' : MJ) (w : Int), s + m = 5 → frJ [86] J0 J' → (w = 0 ∨ w = 1) → (w = 1 ↔ ∀ t, t < s → opD I d t → (deC (blV hl) c).getD t 0 = 0) → (∀ j, j < 64 * wuV hl → (bitJ J' 86 j = true ↔ bitJ J0 86 j = true ∨ ∃ t, t < s ∧ opD I d t ∧ 0 < (deC (blV hl) c).getD t 0 ∧ j = enC (blV hl) (mvV (deC (blV hl) c) t k))) → Tri G h 108 119 119 6 [some (vr 85), some (vi c), some (vr 25), some (vi d), some (vi k), some (vi w), some (vi s)] [] (I, J', PP (false, f2, f3)) (cVN K) := by
  have hb := blV_b hs.1
  have hwu : wuV hl = (prd (blV hl) + 63) / 64 := rfl
  intro m
  induction m with
  | zero =>
    intro s J' w hs5 hf hw01 hw hbits
    obtain rfl : s = 5 := hs5
    refine x108f_6 hh ⟨fun _ => ⟨fun q => cVN_r (g J' hf fun j hj => ?_), fun q => ⟨by omega, cVN_r (g _ (hf.u (by decide)) fun j hj => ?_)⟩⟩, fun q => by omega⟩
    · rw [hbits j hj]
      unfold mvc
      constructor
      · rintro (q2 | ⟨t, q2⟩)
        · exact Or.inl q2
        · exact Or.inr (Or.inl ⟨t, q2⟩)
      · rintro (q2 | ⟨t, q2⟩ | ⟨q2, q3⟩)
        · exact Or.inl q2
        · exact Or.inr ⟨t, q2⟩
        · have := hw.2 q3
          omega
    · rw [toN, bitJ_set, Bool.or_eq_true, hbits j hj, decide_eq_true_eq]
      unfold mvc
      have hall := hw.1 (by omega)
      constructor
      · rintro ((q2 | ⟨t, q2⟩) | q2)
        · exact Or.inl q2
        · exact Or.inr (Or.inl ⟨t, q2⟩)
        · exact Or.inr (Or.inr ⟨q2, hall⟩)
      · rintro (q2 | ⟨t, q2⟩ | ⟨q2, q3⟩)
        · exact Or.inl (Or.inl q2)
        · exact Or.inl (Or.inr ⟨t, q2⟩)
        · exact Or.inr q2
  | succ m ih =>
    intro s J' w hs5 hf hw01 hw hbits
    have hs4 : s < 5 := by omega
    have hlf := lf_dec hs (c := c) hs4
    have hg := bg_b hs.1 hs4
    have hin := inB_at (dec_in hs.1 c) (s := s) (by rw [hb.1]; exact hs4)
    have hme := mv_enc hs.1 (k := k) hc hs4
    have hp := pt_b hs.1 s
    have no : ¬ (opD I d s ∧ 0 < (deC (blV hl) c).getD s 0) → Tri G h 108 119 119 6 [some (vr 85), some (vi c), some (vr 25), some (vi d), some (vi k), some (vi w), some (vi (w32 ((s : Int) + 1)))] [] (I, J', PP (false, f2, f3)) (cVN K) := by
      intro hno
      rw [w32_id (by omega) (by omega)]
      refine ih (s + 1) J' w (by omega) hf hw01 ⟨fun q t ht ho => ?_, fun q => hw.2 fun t ht ho => q t (by omega) ho⟩ (fun j hj => ?_)
      · by_cases hts : t = s
        · subst hts
          apply Classical.byContradiction
          intro hz
          exact hno ⟨ho, by omega⟩
        · exact hw.1 q t (by omega) ho
      · rw [hbits j hj]
        constructor
        · rintro (q2 | ⟨t, q2, q3⟩)
          · exact Or.inl q2
          · exact Or.inr ⟨t, by omega, q3⟩
        · rintro (q2 | ⟨t, q2, q3⟩)
          · exact Or.inl q2
          · by_cases hts : t = s
            · subst hts
              exact absurd ⟨q3.1, q3.2.1⟩ hno
            · exact Or.inr ⟨t, by omega, q3⟩
    refine x108f_6 hh ?_
    rw [hlf]
    refine ⟨fun q => by omega, fun _ => ⟨lf_g hs hc hs4, fun q => no fun z => by omega, fun q => ⟨fun _ => ⟨fun _ => ?_, fun q2 => by omega⟩, fun q2 => by omega⟩⟩⟩
    rw [w32_id (x := (s : Int) * 4) (by omega) (by omega), w32_id (x := (s : Int) * 4 + d) (by omega) (by omega), show ((s : Int) * 4 + (d : Int)).toNat = s * 4 + d by omega]
    refine ⟨by omega, fun q2 => no fun z => q2 z.1, fun q2 => ⟨by omega, ?_⟩⟩
    have ho : opD I d s := by unfold opD; omega
    obtain ⟨P, hP⟩ : ∃ P, prd ((blV hl).take s) = P := ⟨_, rfl⟩
    obtain ⟨D, hD⟩ : ∃ D, (deC (blV hl) c).getD s 0 = D := ⟨_, rfl⟩
    rw [toN, (hs.2.1 s hs4).1, hP, hD]
    rw [hP, hD] at hme
    rw [hP] at hp
    rw [hD] at hin
    have emin : min (D : Int) (k : Int) = ((min D k : Nat) : Int) := by omega
    have emul : ((min D k : Nat) : Int) * (P : Int) = ((min D k * P : Nat) : Int) := (Int.natCast_mul _ _).symm
    rw [emin, emul, w32_id (x := ((min D k * P : Nat) : Int)) (by omega) (by omega), w32_id (by omega) (by omega), show (c : Int) - ((min D k * P : Nat) : Int) = ((c - min D k * P : Nat) : Int) by omega, toN, ← hme.1, w32_id (by omega) (by omega)]
    refine ⟨by omega, ih (s + 1) _ 0 (by omega) (hf.u (by decide)) (Or.inl rfl) ⟨fun q3 => absurd q3 (by decide), fun q3 => ?_⟩ (fun j hj => ?_)⟩
    · have := q3 s (by omega) ho
      rw [hD] at this
      omega
    · rw [bitJ_set, Bool.or_eq_true, hbits j hj, decide_eq_true_eq]
      constructor
      · rintro ((q3 | ⟨t, q3, q4⟩) | q3)
        · exact Or.inl q3
        · exact Or.inr ⟨t, by omega, q4⟩
        · exact Or.inr ⟨s, by omega, ho, by rw [hD]; omega, q3⟩
      · rintro (q3 | ⟨t, q3, q4⟩)
        · exact Or.inl (Or.inl q3)
        · by_cases hts : t = s
          · subst hts
            exact Or.inr q4.2.2
          · exact Or.inl (Or.inr ⟨t, by omega, q4⟩)
theorem s108f {K : MI → MJ → B3 → Prop} {hl : List Nat} {c k d : Nat} (hh : 3 ≤ h) (hs : srI I hl) (hc : c < prd (blV hl)) (hd : d < 4) (hk : 0 < k ∧ k ≤ 9) (hx : x = c) (g : ∀ J2, frJ [86] J J2 → (∀ j, j < 64 * wuV hl → (bitJ J2 86 j = true ↔ bitJ J 86 j = true ∨ mvc hl (opD I d) k c j)) → K I J2 (false, f2, f3)) : TriM G h 108 119 119 [vr 85, vi x, vr 25, vi d, vi k] (I, J, PP (false, f2, f3)) (cVN K) := by
  subst hx
  refine x108f_m hh (fun h hh => x108f (by omega) (s108f_l (J0 := J) hh hs hc hd hk g 5 0 J 1 rfl frJ.r (Or.inr rfl) ⟨fun _ t ht => by omega, fun _ => rfl⟩ fun j hj => ?_))
  constructor
  · exact Or.inl
  · rintro (q | ⟨t, q, -⟩)
    · exact q
    · omega
theorem s107f_b {Q : MP} {hl : List Nat} {k d w : Nat} {J0 : MJ} {PD : Nat → Prop} (hh : 4 ≤ h) (hs : srI I hl) (hd : d < 4) (hk : 0 < k ∧ k ≤ 9) (hw : w < wuV hl) (g : ∀ J2, frJ [86] J0 J2 → ∀ P2 : Nat → Prop, (∀ j, j < 64 * wuV hl → (bitJ J2 86 j = true ↔ ∃ c, P2 c ∧ mvc hl (opD I d) k c j)) → (∀ c, P2 c ↔ PD c ∨ ∃ t, (J0 87 w).getLsbD t = true ∧ c = 64 * w + t) → Tri G h 107 119 119 11 [some (vr 85), some (vr 25), some (vi d), some (vi k), some (vi ((w : Int) + 1))] [] (I, J2, PP (false, f2, f3)) Q) (hlt : ∀ t, (J0 87 w).getLsbD t = true → 64 * w + t < prd (blV hl)) : ∀ (L : List Nat) (i : Nat) (bits : BitVec 64) (J' : MJ) (P2 : Nat → Prop), i + L.length ≤ 64 → bitsL bits L → L.Pairwise (· < ·) → frJ [86] J0 J' → (∀ t ∈ L, (J0 87 w).getLsbD t = true) → (∀ c, (P2 c ∨ ∃ t ∈ L, c = 64 * w + t) ↔ PD c ∨ ∃ t, (J0 87 w).getLsbD t = true ∧ c = 64 * w + t) → (∀ j, j < 64 * wuV hl → (bitJ J' 86 j = true ↔ ∃ c, P2 c ∧ mvc hl (opD I d) k c j)) → Tri G h 107 119 119 32 [some (vr 85), some (vr 25), some (vi d), some (vi k), some (vi w), some (vl bits), none, some (vi i)] [] (I, J', PP (false, f2, f3)) Q := by
  have hb := blV_b hs.1
  have hwu : wuV hl = (prd (blV hl) + 63) / 64 := rfl
  intro L
  induction L with
  | nil =>
    intro i bits J' P2 hi hbl hsr hf hL hP hbits
    have hz : bits = 0#64 := by
      apply BitVec.eq_of_getLsbD_eq
      intro j _
      rw [BitVec.getLsbD_zero]
      cases hc : bits.getLsbD j with
      | false => rfl
      | true => have := (hbl j).1 hc; simp at this
    have fin := g J' hf P2 hbits (fun c => by rw [← hP c]; simp)
    refine x107f_32 hh ?_
    rw [w32_id (by omega) (by omega)]
    exact ⟨fun _ => fin, fun _ => ⟨fun _ => fin, fun q => absurd (lCmp_0.2 hz) q⟩⟩
  | cons t L ih =>
    intro i bits J' P2 hi hbl hsr hf hL hP hbits
    have hi2 : i + (L.length + 1) ≤ 64 := hi
    have hlow := bitsL_low hbl hsr
    have hne : bits ≠ 0#64 := by
      intro hz
      have := hlow.2.1
      rw [hz] at this
      simp at this
    have hc := hlt t (hL t List.mem_cons_self)
    refine x107f_32 hh ⟨fun q => by omega, fun _ => ⟨fun q => absurd (lCmp_0.1 q) hne, fun _ => s19 (by omega) hne fun t2 ht2 => ?_⟩⟩
    have htt : t2 = t := by
      rcases Nat.lt_trichotomy t2 t with q | q | q
      · have := hlow.2.2 t2 q
        rw [ht2.2.1] at this
        exact absurd this (by decide)
      · exact q
      · have := ht2.2.2 t q
        rw [hlow.2.1] at this
        exact absurd this (by decide)
    subst htt
    rw [w32_id (x := (w : Int) * 64) (by omega) (by omega), w32_id (x := (w : Int) * 64 + t2) (by omega) (by omega)]
    refine s108f (c := 64 * w + t2) (by omega) hs hc hd hk (by omega) fun J2 hf2 hb2 => ?_
    rw [w32_id (by omega) (by omega)]
    refine ih (i + 1) _ J2 (fun c => P2 c ∨ c = 64 * w + t2) (by omega) (bitsL_cl hbl hsr) (List.pairwise_cons.1 hsr).2 (hf.t hf2) (fun t3 h3 => hL t3 (List.mem_cons_of_mem _ h3)) (fun c => ?_) (fun j hj => ?_)
    · rw [← hP c]
      constructor
      · rintro ((q | q) | ⟨t3, q, q2⟩)
        · exact Or.inl q
        · exact Or.inr ⟨t2, List.mem_cons_self, q⟩
        · exact Or.inr ⟨t3, List.mem_cons_of_mem _ q, q2⟩
      · rintro (q | ⟨t3, q, q2⟩)
        · exact Or.inl (Or.inl q)
        · rcases List.mem_cons.1 q with rfl | q
          · exact Or.inl (Or.inr q2)
          · exact Or.inr ⟨t3, q, q2⟩
    · rw [hb2 j hj, hbits j hj]
      constructor
      · rintro (⟨c, q, q2⟩ | q)
        · exact ⟨c, Or.inl q, q2⟩
        · exact ⟨_, Or.inr rfl, q⟩
      · rintro ⟨c, q | q, q2⟩
        · exact Or.inl ⟨c, q, q2⟩
        · subst q; exact Or.inr q2
theorem pps_f : u2 (u2 (PP (false, f2, f3)) 85 0 86) 85 1 87 = PP (true, f2, f3) := by
  funext k j
  by_cases hk : k = 85
  · subst hk
    by_cases h1 : j = 1
    · subst h1; rw [u2e]; rfl
    · rw [u2j h1]
      by_cases h0 : j = 0
      · subst h0; rw [u2e]; rfl
      · rw [u2j h0]
        unfold PP
        by_cases hj : j < 5
        · have all : ∀ j, j < 5 → j ≠ 0 → j ≠ 1 → ∀ f2 f3 : Bool, pswap (false, f2, f3) ((ppT.getD 85 []).getD j 1000) = pswap (true, f2, f3) ((ppT.getD 85 []).getD j 1000) := by decide +kernel
          exact all j hj h0 h1 f2 f3
        · have e : (ppT.getD 85 []).getD j 1000 = 1000 := by
            rw [List.getD_eq_getElem?_getD, List.getElem?_eq_none (by show 5 ≤ j; omega)]
            rfl
          rw [e]
          rfl
  · rw [u2_ne hk, u2_ne hk]
    unfold PP
    have key : ∀ v : Nat, v ≠ 900 → v ≠ 901 → pswap (false, f2, f3) v = pswap (true, f2, f3) v := by
      intro v h1 h2
      unfold pswap
      split
      · rfl
      · split
        · exact absurd rfl h1
        · exact absurd rfl h2
        · rfl
        · rfl
        · rfl
        · rfl
        · rfl
    have hv : (ppT.getD k []).getD j 1000 ≠ 900 ∧ (ppT.getD k []).getD j 1000 ≠ 901 := by
      by_cases hk2 : k < 119
      · have all : ∀ k, k < 119 → k ≠ 85 → ∀ v ∈ ppT.getD k [], v ≠ 900 ∧ v ≠ 901 := by decide +kernel
        rw [List.getD_eq_getElem?_getD (i := j)]
        cases hg : (ppT.getD k [])[j]? with
        | none => decide
        | some v => exact all k hk2 hk v (List.mem_of_getElem? hg)
      · have e : ppT.getD k [] = [] := by
          rw [List.getD_eq_getElem?_getD, List.getElem?_eq_none (by show 119 ≤ k; omega)]
          rfl
        rw [e]
        exact ⟨by simp, by simp⟩
    exact key _ hv.1 hv.2
theorem s107f_w {K : MI → MJ → B3 → Prop} {hl : List Nat} {k d : Nat} {J0 : MJ} {S : VS} (hh : 4 ≤ h) (hs : srI I hl) (hd : d < 4) (hk : 0 < k ∧ k ≤ 9) (hr : rdS J0 87 hl S) (g : ∀ J2, frJ [86] J0 J2 → rdS J2 86 hl (stK (opD I d) k S) → K I J2 (true, f2, f3)) : ∀ (m w : Nat) (J' : MJ) (PD : Nat → Prop), w + m = wuV hl → frJ [86] J0 J' → (∀ c, PD c ↔ c < 64 * w ∧ bitJ J0 87 c = true) → (∀ j, j < 64 * wuV hl → (bitJ J' 86 j = true ↔ ∃ c, PD c ∧ mvc hl (opD I d) k c j)) → Tri G h 107 119 119 11 [some (vr 85), some (vr 25), some (vi d), some (vi k), some (vi w)] [] (I, J', PP (false, f2, f3)) (cVN K) := by
  have hb := blV_b hs.1
  have hwu : wuV hl = (prd (blV hl) + 63) / 64 := rfl
  have h85 : I 85 4 = wuV hl := hs.2.2
  intro m
  induction m with
  | zero =>
    intro w J' PD hw hf hP hbits
    obtain rfl : w = wuV hl := hw
    refine x107f_11 (Nat.zero_le _) ⟨fun _ => ?_, fun q => by omega⟩
    rw [pps_f]
    refine cVN_r (g J' hf ⟨fun j hj => ?_, stK_in hs.1 hr.2⟩)
    rw [hbits j hj, ← mvc_step hs.1 hr.2 j]
    constructor
    · rintro ⟨c, c1, c2⟩
      have := (hP c).1 c1
      exact ⟨c, (hr.1 c this.1).1 this.2, c2⟩
    · rintro ⟨c, c1, c2⟩
      have hc64 : c < 64 * wuV hl := by have := c1.1; omega
      exact ⟨c, (hP c).2 ⟨hc64, (hr.1 c hc64).2 c1⟩, c2⟩
  | succ m ih =>
    intro w J' PD hw hf hP hbits
    refine x107f_11 (Nat.zero_le _) ⟨fun q => by omega, fun _ => ⟨by omega, ?_⟩⟩
    rw [toN, show J' 87 w = J0 87 w from by rw [hf 87 (by decide)]]
    obtain ⟨L, l1, l2, l3⟩ := lst64 (J0 87 w)
    have hbw : ∀ t, (J0 87 w).getLsbD t = true → bitJ J0 87 (64 * w + t) = true := by
      intro t ht
      have := BitVec.lt_of_getLsbD ht
      unfold bitJ
      rw [show (64 * w + t) / 64 = w by omega, show (64 * w + t) % 64 = t by omega]
      exact ht
    refine s107f_b (J0 := J0) (PD := PD) hh hs hd hk (by omega) (fun J2 hf2 P2 hb2 hP2 => ?_) (fun t ht => ?_) L 0 _ J' PD (by omega) l1 l2 hf (fun t ht => (l1 t).2 ht) (fun c => ?_) hbits
    · refine ih (w + 1) J2 P2 (by omega) hf2 (fun c => ?_) hb2
      rw [hP2 c, hP c]
      constructor
      · rintro (q | ⟨t, q, rfl⟩)
        · exact ⟨by omega, q.2⟩
        · have := BitVec.lt_of_getLsbD q
          exact ⟨by omega, hbw t q⟩
      · rintro ⟨q1, q2⟩
        by_cases hcw : c < 64 * w
        · exact Or.inl ⟨hcw, q2⟩
        · refine Or.inr ⟨c - 64 * w, ?_, by omega⟩
          unfold bitJ at q2
          rw [show c / 64 = w by omega, show c % 64 = c - 64 * w by omega] at q2
          exact q2
    · have := BitVec.lt_of_getLsbD ht
      exact ((hr.1 _ (by omega)).1 (hbw t ht)).1
    · constructor
      · rintro (q | ⟨t, q, q2⟩)
        · exact Or.inl q
        · exact Or.inr ⟨t, (l1 t).2 q, q2⟩
      · rintro (q | ⟨t, q, q2⟩)
        · exact Or.inl q
        · exact Or.inr ⟨t, (l1 t).1 q, q2⟩
theorem s107f {K : MI → MJ → B3 → Prop} {hl : List Nat} {k d : Nat} {S : VS} (hh : 5 ≤ h) (hs : srI I hl) (hd : d < 4) (hk : 0 < k ∧ k ≤ 9) (hr : rdS J 87 hl S) (hx : x = d) (hy : y = k) (g : ∀ J2, frJ [86] J J2 → rdS J2 86 hl (stK (opD I d) k S) → K I J2 (true, f2, f3)) : TriM G h 107 119 119 [vr 85, vr 25, vi x, vi y] (I, J, PP (false, f2, f3)) (cVN K) := by
  subst hx hy
  have hb := blV_b hs.1
  have hwu : wuV hl = (prd (blV hl) + 63) / 64 := rfl
  have h85 : I 85 4 = wuV hl := hs.2.2
  have hfN : frJ [86] J (u1 J 86 (fun j => if (j : Int) < I 85 4 then 0#64 else J 86 j)) := fun k hk => by rw [u1_ne (fun q => hk (by rw [q]; decide))]
  refine x107f_m hh (fun h hh => x107f (by omega) ⟨by omega, ?_⟩)
  refine s107f_w (J0 := J) hh hs hd hk hr g (wuV hl) 0 _ (fun _ => False) (Nat.zero_add _) hfN (fun c => ⟨fun q => q.elim, fun q => by omega⟩) (fun j hj => ?_)
  constructor
  · intro q
    unfold bitJ at q
    rw [u1e, if_pos (by omega)] at q
    simp at q
  · rintro ⟨c, q, -⟩
    exact q.elim
theorem s110f_s {Q : MP} {hl : List Nat} {c w i : Nat} {l : Int} {bits : BitVec 64} (hh : 1 ≤ h) (hs : srI I hl) (hc : c < prd (blV hl)) (g : Tri G h 110 119 119 23 [some (vr 85), some (vi (min l ((deC (blV hl) c).sum : Nat))), some (vi w), some (vl (bits &&& (bits - (1#64)))), none, some (vi (w32 ((i : Int) + 1)))] [] (I, J, PP (false, f2, f3)) Q) : ∀ (m s : Nat), s + m = 5 → Tri G h 110 119 119 53 [some (vr 85), some (vi l), some (vi w), some (vl bits), none, some (vi i), some (vi c), some (vi (((deC (blV hl) c).take s).sum : Nat)), some (vi s)] [] (I, J, PP (false, f2, f3)) Q := by
  have hb := blV_b hs.1
  have hlen : (deC (blV hl) c).length = 5 := by rw [inB_len (dec_in hs.1 c)]; exact hb.1
  intro m
  induction m with
  | zero =>
    intro s hs5
    obtain rfl : s = 5 := hs5
    refine x110f_53 hh ⟨fun _ => ?_, fun q => by omega⟩
    rw [List.take_of_length_le (by omega)]
    exact g
  | succ m ih =>
    intro s hs5
    have hs4 : s < 5 := by omega
    have hg := bg_b hs.1 hs4
    have hin := inB_at (dec_in hs.1 c) (s := s) (by rw [hb.1]; exact hs4)
    have hsb : ∀ t, t ≤ 5 → ((deC (blV hl) c).take t).sum ≤ 9 * t := by
      intro t
      induction t with
      | zero => intro _; simp
      | succ t iht =>
        intro ht
        have h1 := iht (by omega)
        have hg2 := bg_b hs.1 (s := t) (by omega)
        have hin2 := inB_at (dec_in hs.1 c) (s := t) (by rw [hb.1]; omega)
        rw [List.take_succ_eq_append_getElem (by omega), List.sum_append]
        have : (deC (blV hl) c).getD t 0 = (deC (blV hl) c)[t] := by rw [List.getD_eq_getElem?_getD, List.getElem?_eq_getElem (by omega)]; rfl
        simp only [List.sum_cons, List.sum_nil]
        omega
    have h1 := hsb s (by omega)
    have h2 : ((deC (blV hl) c).take (s + 1)).sum = ((deC (blV hl) c).take s).sum + (deC (blV hl) c).getD s 0 := by
      rw [List.take_succ_eq_append_getElem (by omega), List.sum_append]
      have : (deC (blV hl) c).getD s 0 = (deC (blV hl) c)[s] := by rw [List.getD_eq_getElem?_getD, List.getElem?_eq_getElem (by omega)]; rfl
      simp only [List.sum_cons, List.sum_nil]
      omega
    refine x110f_53 hh ⟨fun q => by omega, fun _ => ⟨lf_g hs hc hs4, ?_⟩⟩
    rw [lf_dec hs hs4, w32_id (x := (s : Int) + 1) (by omega) (by omega), w32_id (by omega) (by omega), ← Int.natCast_add, ← h2]
    exact ih (s + 1) (by omega)
theorem s110f_b {Q : MP} {hl : List Nat} {w : Nat} {PD : Nat → Prop} (hh : 2 ≤ h) (hs : srI I hl) (hw : w < wuV hl) (g : ∀ (l : Int) (P2 : Nat → Prop), lsP hl P2 l → (∀ c, P2 c ↔ PD c ∨ ∃ t, (J 87 w).getLsbD t = true ∧ c = 64 * w + t) → Tri G h 110 119 119 5 [some (vr 85), some (vi l), some (vi ((w : Int) + 1))] [] (I, J, PP (false, f2, f3)) Q) (hlt : ∀ t, (J 87 w).getLsbD t = true → 64 * w + t < prd (blV hl)) : ∀ (L : List Nat) (i : Nat) (bits : BitVec 64) (l : Int) (P2 : Nat → Prop), i + L.length ≤ 64 → bitsL bits L → L.Pairwise (· < ·) → (∀ t ∈ L, (J 87 w).getLsbD t = true) → (∀ c, (P2 c ∨ ∃ t ∈ L, c = 64 * w + t) ↔ PD c ∨ ∃ t, (J 87 w).getLsbD t = true ∧ c = 64 * w + t) → lsP hl P2 l → Tri G h 110 119 119 23 [some (vr 85), some (vi l), some (vi w), some (vl bits), none, some (vi i)] [] (I, J, PP (false, f2, f3)) Q := by
  have hb := blV_b hs.1
  have hwu : wuV hl = (prd (blV hl) + 63) / 64 := rfl
  intro L
  induction L with
  | nil =>
    intro i bits l P2 hi hbl hsr hL hP hls
    have hz : bits = 0#64 := by
      apply BitVec.eq_of_getLsbD_eq
      intro j _
      rw [BitVec.getLsbD_zero]
      cases hc : bits.getLsbD j with
      | false => rfl
      | true => have := (hbl j).1 hc; simp at this
    have fin := g l P2 hls (fun c => by rw [← hP c]; simp)
    refine x110f_23 hh ?_
    rw [w32_id (by omega) (by omega)]
    exact ⟨fun _ => fin, fun _ => ⟨fun _ => fin, fun q => absurd (lCmp_0.2 hz) q⟩⟩
  | cons t L ih =>
    intro i bits l P2 hi hbl hsr hL hP hls
    have hi2 : i + (L.length + 1) ≤ 64 := hi
    have hlow := bitsL_low hbl hsr
    have hne : bits ≠ 0#64 := by
      intro hz
      have := hlow.2.1
      rw [hz] at this
      simp at this
    have hc := hlt t (hL t List.mem_cons_self)
    refine x110f_23 hh ⟨fun q => by omega, fun _ => ⟨fun q => absurd (lCmp_0.1 q) hne, fun _ => s19 (by omega) hne fun t2 ht2 => ?_⟩⟩
    have htt : t2 = t := by
      rcases Nat.lt_trichotomy t2 t with q | q | q
      · have := hlow.2.2 t2 q
        rw [ht2.2.1] at this
        exact absurd this (by decide)
      · exact q
      · have := ht2.2.2 t q
        rw [hlow.2.1] at this
        exact absurd this (by decide)
    subst htt
    rw [w32_id (x := (w : Int) * 64) (by omega) (by omega), w32_id (x := (w : Int) * 64 + t2) (by omega) (by omega), show (w : Int) * 64 + (t2 : Int) = ((64 * w + t2 : Nat) : Int) by omega]
    refine s110f_s (by omega) hs hc ?_ 5 0 rfl
    rw [w32_id (by omega) (by omega)]
    obtain ⟨p1, p2, p3, p4⟩ := hls
    refine ih (i + 1) _ _ (fun c => P2 c ∨ c = 64 * w + t2) (by omega) (bitsL_cl hbl hsr) (List.pairwise_cons.1 hsr).2 (fun t3 h3 => hL t3 (List.mem_cons_of_mem _ h3)) (fun c => ?_) ⟨by omega, by omega, fun c hc2 => ?_, ?_⟩
    · rw [← hP c]
      constructor
      · rintro ((q | q) | ⟨t3, q, q2⟩)
        · exact Or.inl q
        · exact Or.inr ⟨t2, List.mem_cons_self, q⟩
        · exact Or.inr ⟨t3, List.mem_cons_of_mem _ q, q2⟩
      · rintro (q | ⟨t3, q, q2⟩)
        · exact Or.inl (Or.inl q)
        · rcases List.mem_cons.1 q with rfl | q
          · exact Or.inl (Or.inr q2)
          · exact Or.inr ⟨t3, q, q2⟩
    · rcases hc2 with hc2 | rfl
      · have := p3 c hc2
        omega
      · omega
    · by_cases hmin : l ≤ ((deC (blV hl) (64 * w + t2)).sum : Nat)
      · rw [Int.min_eq_left hmin]
        rcases p4 with p4 | ⟨c, c1, c2⟩
        · exact Or.inl p4
        · exact Or.inr ⟨c, Or.inl c1, c2⟩
      · rw [Int.min_eq_right (by omega)]
        exact Or.inr ⟨_, Or.inr rfl, rfl⟩
theorem s110f_w {K : Int → MI → MJ → B3 → Prop} {hl : List Nat} {S : VS} (hh : 2 ≤ h) (hs : srI I hl) (hr : rdS J 87 hl S) (g : ∀ l, lsP hl (fun c => c < prd (blV hl) ∧ S (deC (blV hl) c)) l → K l I J (false, f2, f3)) : ∀ (m w : Nat) (l : Int) (PD : Nat → Prop), w + m = wuV hl → (∀ c, PD c ↔ c < 64 * w ∧ bitJ J 87 c = true) → lsP hl PD l → Tri G h 110 119 119 5 [some (vr 85), some (vi l), some (vi w)] [] (I, J, PP (false, f2, f3)) (cIN K) := by
  have hb := blV_b hs.1
  have hwu : wuV hl = (prd (blV hl) + 63) / 64 := rfl
  have h85 : I 85 4 = wuV hl := hs.2.2
  intro m
  induction m with
  | zero =>
    intro w l PD hw hP hls
    obtain rfl : w = wuV hl := hw
    refine x110f_5 (Nat.zero_le _) ⟨fun _ => cIN_r fun _ => g l ?_, fun q => by omega⟩
    have : PD = fun c => c < prd (blV hl) ∧ S (deC (blV hl) c) := by
      funext c
      apply propext
      rw [hP c]
      constructor
      · exact fun q => (hr.1 c q.1).1 q.2
      · intro q
        have hc64 : c < 64 * wuV hl := by have := q.1; omega
        exact ⟨hc64, (hr.1 c hc64).2 q⟩
    rw [← this]
    exact hls
  | succ m ih =>
    intro w l PD hw hP hls
    refine x110f_5 (Nat.zero_le _) ⟨fun q => by omega, fun _ => ⟨by omega, ?_⟩⟩
    rw [toN]
    obtain ⟨L, l1, l2, l3⟩ := lst64 (J 87 w)
    have hbw : ∀ t, (J 87 w).getLsbD t = true → bitJ J 87 (64 * w + t) = true := by
      intro t ht
      have := BitVec.lt_of_getLsbD ht
      unfold bitJ
      rw [show (64 * w + t) / 64 = w by omega, show (64 * w + t) % 64 = t by omega]
      exact ht
    refine s110f_b (PD := PD) hh hs (by omega) (fun l2 P2 hls2 hP2 => ?_) (fun t ht => ?_) L 0 _ l PD (by omega) l1 l2 (fun t ht => (l1 t).2 ht) (fun c => ?_) hls
    · refine ih (w + 1) l2 P2 (by omega) (fun c => ?_) hls2
      rw [hP2 c, hP c]
      constructor
      · rintro (q | ⟨t, q, rfl⟩)
        · exact ⟨by omega, q.2⟩
        · have := BitVec.lt_of_getLsbD q
          exact ⟨by omega, hbw t q⟩
      · rintro ⟨q1, q2⟩
        by_cases hcw : c < 64 * w
        · exact Or.inl ⟨hcw, q2⟩
        · refine Or.inr ⟨c - 64 * w, ?_, by omega⟩
          unfold bitJ at q2
          rw [show c / 64 = w by omega, show c % 64 = c - 64 * w by omega] at q2
          exact q2
    · have := BitVec.lt_of_getLsbD ht
      exact ((hr.1 _ (by omega)).1 (hbw t ht)).1
    · constructor
      · rintro (q | ⟨t, q, q2⟩)
        · exact Or.inl q
        · exact Or.inr ⟨t, (l1 t).2 q, q2⟩
      · rintro (q | ⟨t, q, q2⟩)
        · exact Or.inl q
        · exact Or.inr ⟨t, (l1 t).1 q, q2⟩
theorem s110f {K : Int → MI → MJ → B3 → Prop} {hl : List Nat} {S : VS} (hh : 3 ≤ h) (hs : srI I hl) (hr : rdS J 87 hl S) (hne : ∃ v, S v) (g : ∀ l : Nat, lstS S l → K l I J (false, f2, f3)) : TriM G h 110 119 119 [vr 85] (I, J, PP (false, f2, f3)) (cIN K) := by
  have hb := blV_b hs.1
  refine x110f_m hh (fun h hh => x110f (by omega) (s110f_w hh hs hr (fun l hl2 => ?_) (wuV hl) 0 45 (fun _ => False) (Nat.zero_add _) (fun c => ⟨fun q => q.elim, fun q => by omega⟩) ⟨by omega, by omega, fun c q => q.elim, Or.inl rfl⟩))
  obtain ⟨p1, p2, p3, p4⟩ := hl2
  have conv : ∀ v, S v → ∃ c, (c < prd (blV hl) ∧ S (deC (blV hl) c)) ∧ deC (blV hl) c = v := fun v hv => ⟨enC (blV hl) v, ⟨enC_lt (hr.2 v hv), by rw [deC_enC (hr.2 v hv)]; exact hv⟩, deC_enC (hr.2 v hv)⟩
  have low : ∀ v, S v → l ≤ (v.sum : Nat) := by
    intro v hv
    obtain ⟨c, c1, c2⟩ := conv v hv
    have := p3 c c1
    rw [c2] at this
    exact this
  have hsum : ∀ v, S v → v.sum ≤ 45 := by
    intro v hv
    have hi := hr.2 v hv
    have hlen : v.length = 5 := by rw [inB_len hi]; exact hb.1
    have hd : ∀ t, t < 5 → v.getD t 0 ≤ 9 := by
      intro t ht
      have h1 := inB_at hi (s := t) (by rw [hb.1]; exact ht)
      have h2 := bg_b hs.1 ht
      omega
    rw [sum5 hlen]
    have h0 := hd 0 (by omega)
    have h1 := hd 1 (by omega)
    have h2 := hd 2 (by omega)
    have h3 := hd 3 (by omega)
    have h4 := hd 4 (by omega)
    omega
  have hat : ∃ v, S v ∧ l = (v.sum : Nat) := by
    rcases p4 with p4 | ⟨c, c1, c2⟩
    · obtain ⟨v, hv⟩ := hne
      have h1 := low v hv
      have h2 := hsum v hv
      exact ⟨v, hv, by omega⟩
    · exact ⟨_, c1.2, c2⟩
  obtain ⟨v, v1, v2⟩ := hat
  have e : l = ((l.toNat : Nat) : Int) := by omega
  rw [e]
  exact g l.toNat ⟨⟨v, v1, by omega⟩, fun w hw => by have := low w hw; omega⟩

end BITROW
