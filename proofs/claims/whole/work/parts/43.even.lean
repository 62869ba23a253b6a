set_option maxRecDepth 100000 in
theorem x44 {G : Ctx} {h : Nat} {Q : MP} {I : Nat → Nat → Int} {J : Nat → Nat → BitVec 64} {b : B3} {x y : Int} (hh : 0 ≤ h) (H : Tri G h 44 119 119 2 [some (vr 82), none, some (vi y), some (vi x)] [] (I, J, PP b) Q) : Tri G h 44 119 119 0 [some (vr 82), some (vi x), some (vi y)] [] (I, J, PP b) Q := wp_at ck44 [(2, [true, false, true, true]), (10, [true, false, true, true, true]), (31, [true, false, true, true, true, true, false, true])] 400 H
set_option maxRecDepth 100000 in
theorem x44_2 {G : Ctx} {h : Nat} {Q : MP} {I : Nat → Nat → Int} {J : Nat → Nat → BitVec 64} {b : B3} {l2 l3 : Int} (hh : 0 ≤ h) (H : ((l3 < 1) → (Q none (I, J, PP b))) ∧ (¬ (l3 < 1) → (Tri G h 44 119 119 10 [some (vr 82), none, some (vi l2), some (vi l3), some (vi 1)] [] (I, J, PP b) Q))) : Tri G h 44 119 119 2 [some (vr 82), none, some (vi l2), some (vi l3)] [] (I, J, PP b) Q := wp_at ck44 [(2, [true, false, true, true]), (10, [true, false, true, true, true]), (31, [true, false, true, true, true, true, false, true])] 400 H
set_option maxRecDepth 100000 in
theorem x44_10 {G : Ctx} {h : Nat} {Q : MP} {I : Nat → Nat → Int} {J : Nat → Nat → BitVec 64} {b : B3} {l2 l3 l4 : Int} (hh : 1 ≤ h) (H : ((l3 < l4) → (Tri G h 44 119 119 2 [some (vr 82), none, some (vi l2), some (vi (w32 (l3 + (-1))))] [] (I, J, PP b) Q)) ∧ (¬ (l3 < l4) → (TriM G h 179 119 119 [vi l3, vi l4] (I, J, PP b) (cJN fun r1 I1 J1 b1 => (Tri G h 44 119 119 31 [some (vr 82), none, some (vi l2), some (vi l3), some (vi l4), some (vl r1), none, some (vi (w32 (l4 * l4)))] [] (I1, J1, PP b1) Q))))) : Tri G h 44 119 119 10 [some (vr 82), none, some (vi l2), some (vi l3), some (vi l4)] [] (I, J, PP b) Q := wp_at ck44 [(2, [true, false, true, true]), (10, [true, false, true, true, true]), (31, [true, false, true, true, true, true, false, true])] 400 (And.intro (fun q861 => H.1 q861) (fun q862 => cJN_go (H.2 q862) (fun r1 I1 J1 b1 q863 => q863)))
set_option maxRecDepth 100000 in
theorem x44_31 {G : Ctx} {h : Nat} {Q : MP} {I : Nat → Nat → Int} {J : Nat → Nat → BitVec 64} {b : B3} {l2 l3 l4 l7 : Int} {l5 : BitVec 64} (hh : 0 ≤ h) (H : ((l2 < l7) → (Tri G h 44 119 119 10 [some (vr 82), none, some (vi l2), some (vi l3), some (vi (w32 (l4 + 1)))] [] (I, J, PP b) Q)) ∧ (¬ (l2 < l7) → (((226 ≤ l7) → (Tri G h 44 119 119 10 [some (vr 82), none, some (vi l2), some (vi l3), some (vi (w32 (l4 + 1)))] [] (I, J, PP b) Q)) ∧ (¬ (226 ≤ l7) → ((0 ≤ (w32 ((w32 (l3 * 226)) + l7)) ∧ (w32 ((w32 (l3 * 226)) + l7)) < (3616 : Int)) ∧ ((0 ≤ (w32 ((w32 ((w32 ((w32 (l3 - l4)) * 226)) + l7)) - (w32 (l4 * l4)))) ∧ (w32 ((w32 ((w32 ((w32 (l3 - l4)) * 226)) + l7)) - (w32 (l4 * l4)))) < (3616 : Int)) ∧ ((0 ≤ (w32 ((w32 (l3 * 226)) + l7)) ∧ (w32 ((w32 (l3 * 226)) + l7)) < (3616 : Int)) ∧ (Tri G h 44 119 119 31 [some (vr 82), none, some (vi l2), some (vi l3), some (vi l4), some (vl l5), none, some (vi (w32 (l7 + 1)))] [] (I, u2 J 84 ((w32 ((w32 (l3 * 226)) + l7)).toNat) ((J 84 ((w32 ((w32 (l3 * 226)) + l7)).toNat)) + ((J 84 ((w32 ((w32 ((w32 ((w32 (l3 - l4)) * 226)) + l7)) - (w32 (l4 * l4)))).toNat)) * l5)), PP b) Q)))))))) : Tri G h 44 119 119 31 [some (vr 82), none, some (vi l2), some (vi l3), some (vi l4), some (vl l5), none, some (vi l7)] [] (I, J, PP b) Q := wp_at ck44 [(2, [true, false, true, true]), (10, [true, false, true, true, true]), (31, [true, false, true, true, true, true, false, true])] 400 H
theorem x44_m {G : Ctx} {h : Nat} {Q : MP} {I : Nat → Nat → Int} {J : Nat → Nat → BitVec 64} {b : B3} {x y : Int} (hh : 2 ≤ h) (H : ∀ h, 1 ≤ h → Tri G h 44 119 119 0 [some (vr 82), some (vi x), some (vi y)] [] (I, J, PP b) Q) : TriM G h 44 119 119 [vr 82, vi x, vi y] (I, J, PP b) Q := TriM_intro (h - 1) (by omega) (by decide) (Nat.le_of_ble_eq_true rfl) (Nat.le_refl _) (Nat.le_refl _) (H (h - 1) (by omega))
set_option maxRecDepth 100000 in
theorem x43 {G : Ctx} {h : Nat} {Q : MP} {I : Nat → Nat → Int} {J : Nat → Nat → BitVec 64} {b : B3} {x : Int} (hh : 4 ≤ h) (H : TriM G h 40 119 119 [vr 82, vi x] (I, J, PP b) (cIN fun r1 I1 J1 b1 => (TriM G h 41 119 119 [vr 82] (I1, J1, PP b1) (cIN fun r2 I2 J2 b2 => (Tri G h 43 119 119 29 [some (vr 82), none, some (vi r1), some (vi r2), some (vi 0)] [] (I2, u2 (u1 J2 84 (fun j => if j < 3616 then (0#64) else J2 84 j)) 84 0 (1#64), PP b2) Q))))) : Tri G h 43 119 119 0 [some (vr 82), some (vi x)] [] (I, J, PP b) Q := wp_at ck43 [(29, [true, false, true, true, true]), (54, [true, false, true, true, true, false, true])] 400 (cIN_go H (fun r1 I1 J1 b1 q864 => cIN_go q864 (fun r2 I2 J2 b2 q865 => sx1_r84 (by omega)  (And.intro (show (0 : Int) ≤ 0 ∧ (0 : Int) < ((3616 : Nat) : Int) by decide) q865))))
set_option maxRecDepth 100000 in
theorem x43_29 {G : Ctx} {h : Nat} {Q : MP} {I : Nat → Nat → Int} {J : Nat → Nat → BitVec 64} {b : B3} {l2 l3 l4 : Int} (hh : 2 ≤ h) (H : ((10 ≤ l4) → (Tri G h 43 119 119 54 [some (vr 82), none, some (vi l2), some (vi l3), some (vl (0#64)), none, some (vi 0)] [] (I, J, PP b) Q)) ∧ (¬ (10 ≤ l4) → (TriM G h 44 119 119 [vr 82, vi l2, vi l3] (I, J, PP b) (cVN fun I1 J1 b1 => (Tri G h 43 119 119 29 [some (vr 82), none, some (vi l2), some (vi l3), some (vi (w32 (l4 + 1)))] [] (I1, J1, PP b1) Q))))) : Tri G h 43 119 119 29 [some (vr 82), none, some (vi l2), some (vi l3), some (vi l4)] [] (I, J, PP b) Q := wp_at ck43 [(29, [true, false, true, true, true]), (54, [true, false, true, true, true, false, true])] 400 (And.intro (fun q866 => H.1 q866) (fun q867 => cVN_go (H.2 q867) (fun I1 J1 b1 q868 => q868)))
set_option maxRecDepth 100000 in
theorem x43_54 {G : Ctx} {h : Nat} {Q : MP} {I : Nat → Nat → Int} {J : Nat → Nat → BitVec 64} {b : B3} {l2 l3 l6 : Int} {l4 : BitVec 64} (hh : 0 ≤ h) (H : ((l3 < l6) → (Q (some (vl l4)) (I, J, PP b))) ∧ (¬ (l3 < l6) → (((226 ≤ l6) → (Q (some (vl l4)) (I, J, PP b))) ∧ (¬ (226 ≤ l6) → ((0 ≤ (w32 ((w32 (l2 * 226)) + l6)) ∧ (w32 ((w32 (l2 * 226)) + l6)) < (3616 : Int)) ∧ (Tri G h 43 119 119 54 [some (vr 82), none, some (vi l2), some (vi l3), some (vl (l4 + (J 84 ((w32 ((w32 (l2 * 226)) + l6)).toNat)))), none, some (vi (w32 (l6 + 1)))] [] (I, J, PP b) Q)))))) : Tri G h 43 119 119 54 [some (vr 82), none, some (vi l2), some (vi l3), some (vl l4), none, some (vi l6)] [] (I, J, PP b) Q := wp_at ck43 [(29, [true, false, true, true, true]), (54, [true, false, true, true, true, false, true])] 400 H
theorem x43_m {G : Ctx} {h : Nat} {Q : MP} {I : Nat → Nat → Int} {J : Nat → Nat → BitVec 64} {b : B3} {x : Int} (hh : 5 ≤ h) (H : ∀ h, 4 ≤ h → Tri G h 43 119 119 0 [some (vr 82), some (vi x)] [] (I, J, PP b) Q) : TriM G h 43 119 119 [vr 82, vi x] (I, J, PP b) Q := TriM_intro (h - 1) (by omega) (by decide) (Nat.le_of_ble_eq_true rfl) (Nat.le_refl _) (Nat.le_refl _) (H (h - 1) (by omega))
set_option maxRecDepth 100000 in
theorem x159 {G : Ctx} {h : Nat} {Q : MP} {I : Nat → Nat → Int} {J : Nat → Nat → BitVec 64} {b : B3} {x : Int} (hh : 5 ≤ h) (H : ((0 ≤ x ∧ x < (11 : Int)) → (TriM G h 43 119 119 [vr 82, vi x] (I, J, PP b) (cJN fun r1 I1 J1 b1 => (Q (some (vl r1)) (I1, J1, PP b1))))) ∧ (¬ (0 ≤ x ∧ x < (11 : Int)) → (Q (some (vl (BitVec.ofInt 64 (-1)))) (I, J, PP b)))) : Tri G h 159 119 119 0 [some (vr 0), some (vi x)] [] (I, J, PP b) Q := wp_at ck159 [] 400 (sx172 (by omega)  (fun q869 => And.intro (fun z => absurd z (show ¬ ((1 : Int) = (0 : Int)) by decide)) (fun _ => cJN_go (H.1 q869) (fun r1 I1 J1 b1 q871 => q871))) (fun q870 => And.intro (fun _ => H.2 q870) (fun z => absurd (show (0 : Int) = (0 : Int) by decide) z)))
theorem x159_m {G : Ctx} {h : Nat} {Q : MP} {I : Nat → Nat → Int} {J : Nat → Nat → BitVec 64} {b : B3} {x : Int} (hh : 6 ≤ h) (H : ∀ h, 5 ≤ h → Tri G h 159 119 119 0 [some (vr 0), some (vi x)] [] (I, J, PP b) Q) : TriM G h 159 119 119 [vr 0, vi x] (I, J, PP b) Q := TriM_intro (h - 1) (by omega) (by decide) (Nat.le_of_ble_eq_true rfl) (Nat.le_refl _) (Nat.le_refl _) (H (h - 1) (by omega))
set_option maxRecDepth 100000 in
theorem x250t {G : Ctx} {h : Nat} {Q : MP} {I : Nat → Nat → Int} {J : Nat → Nat → BitVec 64} {f1 f3 : Bool} {x : Int} (hh : 0 ≤ h) (H : Tri G h 250 119 119 2 [some (vr 91), some (vi x), some (vi 0)] [] (I, J, PP (f1, true, f3)) Q) : Tri G h 250 119 119 0 [some (vr 91), some (vi x)] [] (I, J, PP (f1, true, f3)) Q := wp_at ck250 [(2, [true, true, true]), (24, [true, true, true]), (31, [true, true, true, true]), (61, [true, true, true, true, true])] 400 H
set_option maxRecDepth 100000 in
theorem x250t_2 {G : Ctx} {h : Nat} {Q : MP} {I : Nat → Nat → Int} {J : Nat → Nat → BitVec 64} {f1 f3 : Bool} {l1 l2 : Int} (hh : 0 ≤ h) (H : ((3616 ≤ l2) → (Tri G h 250 119 119 24 [some (vr 91), some (vi l1), some (vi 0)] [] (I, J, PP (f1, true, f3)) Q)) ∧ (¬ (3616 ≤ l2) → ((0 ≤ l2 ∧ l2 < (3616 : Int)) ∧ (Tri G h 250 119 119 2 [some (vr 91), some (vi l1), some (vi (w32 (l2 + 1)))] [] (I, u2 J 113 l2.toNat (0#64), PP (f1, true, f3)) Q)))) : Tri G h 250 119 119 2 [some (vr 91), some (vi l1), some (vi l2)] [] (I, J, PP (f1, true, f3)) Q := wp_at ck250 [(2, [true, true, true]), (24, [true, true, true]), (31, [true, true, true, true]), (61, [true, true, true, true, true])] 400 H
set_option maxRecDepth 100000 in
theorem x250t_24 {G : Ctx} {h : Nat} {Q : MP} {I : Nat → Nat → Int} {J : Nat → Nat → BitVec 64} {f1 f3 : Bool} {l1 l2 : Int} (hh : 0 ≤ h) (H : ((l1 < l2) → (Q none (I, J, u2 (u2 (PP (f1, true, f3)) 91 36 113) 91 37 112))) ∧ (¬ (l1 < l2) → (Tri G h 250 119 119 31 [some (vr 91), some (vi l1), some (vi l2), some (vi 0)] [] (I, J, PP (f1, true, f3)) Q))) : Tri G h 250 119 119 24 [some (vr 91), some (vi l1), some (vi l2)] [] (I, J, PP (f1, true, f3)) Q := wp_at ck250 [(2, [true, true, true]), (24, [true, true, true]), (31, [true, true, true, true]), (61, [true, true, true, true, true])] 400 H
set_option maxRecDepth 100000 in
theorem x250t_31 {G : Ctx} {h : Nat} {Q : MP} {I : Nat → Nat → Int} {J : Nat → Nat → BitVec 64} {f1 f3 : Bool} {l1 l2 l3 : Int} (hh : 0 ≤ h) (H : ((226 ≤ l3) → (Tri G h 250 119 119 24 [some (vr 91), some (vi l1), some (vi (w32 (l2 + 1)))] [] (I, J, PP (f1, true, f3)) Q)) ∧ (¬ (226 ≤ l3) → ((0 ≤ (w32 ((w32 (226 * l2)) + l3)) ∧ (w32 ((w32 (226 * l2)) + l3)) < (3616 : Int)) ∧ (((¬ (lCmp (J 112 ((w32 ((w32 (226 * l2)) + l3)).toNat)) (0#64)) = 0) → (Tri G h 250 119 119 61 [some (vr 91), some (vi l1), some (vi l2), some (vi l3), some (vi 0)] [] (I, J, PP (f1, true, f3)) Q)) ∧ (¬ (¬ (lCmp (J 112 ((w32 ((w32 (226 * l2)) + l3)).toNat)) (0#64)) = 0) → (Tri G h 250 119 119 31 [some (vr 91), some (vi l1), some (vi l2), some (vi (w32 (l3 + 1)))] [] (I, J, PP (f1, true, f3)) Q)))))) : Tri G h 250 119 119 31 [some (vr 91), some (vi l1), some (vi l2), some (vi l3)] [] (I, J, PP (f1, true, f3)) Q := wp_at ck250 [(2, [true, true, true]), (24, [true, true, true]), (31, [true, true, true, true]), (61, [true, true, true, true, true])] 400 H
set_option maxRecDepth 100000 in
theorem x250t_61 {G : Ctx} {h : Nat} {Q : MP} {I : Nat → Nat → Int} {J : Nat → Nat → BitVec 64} {f1 f3 : Bool} {l1 l2 l3 l4 : Int} (hh : 2 ≤ h) (H : ((l1 < (w32 (l2 + l4))) → (Tri G h 250 119 119 31 [some (vr 91), some (vi l1), some (vi l2), some (vi (w32 (l3 + 1)))] [] (I, J, PP (f1, true, f3)) Q)) ∧ (¬ (l1 < (w32 (l2 + l4))) → (((226 ≤ (w32 (l3 + (w32 (l4 * l4))))) → (Tri G h 250 119 119 61 [some (vr 91), some (vi l1), some (vi l2), some (vi l3), some (vi (w32 (l4 + 1)))] [] (I, J, PP (f1, true, f3)) Q)) ∧ (¬ (226 ≤ (w32 (l3 + (w32 (l4 * l4))))) → ((0 ≤ (w32 ((w32 ((w32 (226 * (w32 (l2 + l4)))) + l3)) + (w32 (l4 * l4)))) ∧ (w32 ((w32 ((w32 (226 * (w32 (l2 + l4)))) + l3)) + (w32 (l4 * l4)))) < (3616 : Int)) ∧ ((0 ≤ (w32 ((w32 (226 * l2)) + l3)) ∧ (w32 ((w32 (226 * l2)) + l3)) < (3616 : Int)) ∧ ((((0 : Int) ≤ l4 ∧ l4 ≤ (w32 (l1 - l2))) → ((0 ≤ (w32 ((w32 (61 * (w32 (l1 - l2)))) + l4)) ∧ (w32 ((w32 (61 * (w32 (l1 - l2)))) + l4)) < (3721 : Int)) ∧ ((0 ≤ (w32 ((w32 ((w32 (226 * (w32 (l2 + l4)))) + l3)) + (w32 (l4 * l4)))) ∧ (w32 ((w32 ((w32 (226 * (w32 (l2 + l4)))) + l3)) + (w32 (l4 * l4)))) < (3616 : Int)) ∧ (Tri G h 250 119 119 61 [some (vr 91), some (vi l1), some (vi l2), some (vi l3), some (vi (w32 (l4 + 1)))] [] (I, u2 J 113 ((w32 ((w32 ((w32 (226 * (w32 (l2 + l4)))) + l3)) + (w32 (l4 * l4)))).toNat) ((J 113 ((w32 ((w32 ((w32 (226 * (w32 (l2 + l4)))) + l3)) + (w32 (l4 * l4)))).toNat)) + ((J 112 ((w32 ((w32 (226 * l2)) + l3)).toNat)) * (J 109 ((w32 ((w32 (61 * (w32 (l1 - l2)))) + l4)).toNat)))), PP (f1, true, f3)) Q)))) ∧ (¬ ((0 : Int) ≤ l4 ∧ l4 ≤ (w32 (l1 - l2))) → ((0 ≤ (w32 ((w32 ((w32 (226 * (w32 (l2 + l4)))) + l3)) + (w32 (l4 * l4)))) ∧ (w32 ((w32 ((w32 (226 * (w32 (l2 + l4)))) + l3)) + (w32 (l4 * l4)))) < (3616 : Int)) ∧ (Tri G h 250 119 119 61 [some (vr 91), some (vi l1), some (vi l2), some (vi l3), some (vi (w32 (l4 + 1)))] [] (I, u2 J 113 ((w32 ((w32 ((w32 (226 * (w32 (l2 + l4)))) + l3)) + (w32 (l4 * l4)))).toNat) ((J 113 ((w32 ((w32 ((w32 (226 * (w32 (l2 + l4)))) + l3)) + (w32 (l4 * l4)))).toNat)) + ((J 112 ((w32 ((w32 (226 * l2)) + l3)).toNat)) * (0#64))), PP (f1, true, f3)) Q)))))))))) : Tri G h 250 119 119 61 [some (vr 91), some (vi l1), some (vi l2), some (vi l3), some (vi l4)] [] (I, J, PP (f1, true, f3)) Q := wp_at ck250 [(2, [true, true, true]), (24, [true, true, true]), (31, [true, true, true, true]), (61, [true, true, true, true, true])] 400 (And.intro (fun q872 => H.1 q872) (fun q873 => And.intro (fun q874 => (H.2 q873).1 q874) (fun q875 => And.intro ((H.2 q873).2 q875).1 (And.intro (((H.2 q873).2 q875).2).1 (x241_m (by omega) (fun h hh => x241 hh (And.intro (fun q876 => And.intro (((((H.2 q873).2 q875).2).2).1 q876).1 (cJ_r ((((((H.2 q873).2 q875).2).2).1 q876).2))) (fun q877 => cJ_r (((((H.2 q873).2 q875).2).2).2 q877)))))))))
theorem x250t_m {G : Ctx} {h : Nat} {Q : MP} {I : Nat → Nat → Int} {J : Nat → Nat → BitVec 64} {f1 f3 : Bool} {x : Int} (hh : 3 ≤ h) (H : ∀ h, 2 ≤ h → Tri G h 250 119 119 0 [some (vr 91), some (vi x)] [] (I, J, PP (f1, true, f3)) Q) : TriM G h 250 119 119 [vr 91, vi x] (I, J, PP (f1, true, f3)) Q := TriM_intro (h - 1) (by omega) (by decide) (Nat.le_of_ble_eq_true rfl) (Nat.le_refl _) (Nat.le_refl _) (H (h - 1) (by omega))
set_option maxRecDepth 100000 in
theorem x250f {G : Ctx} {h : Nat} {Q : MP} {I : Nat → Nat → Int} {J : Nat → Nat → BitVec 64} {f1 f3 : Bool} {x : Int} (hh : 0 ≤ h) (H : Tri G h 250 119 119 2 [some (vr 91), some (vi x), some (vi 0)] [] (I, J, PP (f1, false, f3)) Q) : Tri G h 250 119 119 0 [some (vr 91), some (vi x)] [] (I, J, PP (f1, false, f3)) Q := wp_at ck250 [(2, [true, true, true]), (24, [true, true, true]), (31, [true, true, true, true]), (61, [true, true, true, true, true])] 400 H
set_option maxRecDepth 100000 in
theorem x250f_2 {G : Ctx} {h : Nat} {Q : MP} {I : Nat → Nat → Int} {J : Nat → Nat → BitVec 64} {f1 f3 : Bool} {l1 l2 : Int} (hh : 0 ≤ h) (H : ((3616 ≤ l2) → (Tri G h 250 119 119 24 [some (vr 91), some (vi l1), some (vi 0)] [] (I, J, PP (f1, false, f3)) Q)) ∧ (¬ (3616 ≤ l2) → ((0 ≤ l2 ∧ l2 < (3616 : Int)) ∧ (Tri G h 250 119 119 2 [some (vr 91), some (vi l1), some (vi (w32 (l2 + 1)))] [] (I, u2 J 112 l2.toNat (0#64), PP (f1, false, f3)) Q)))) : Tri G h 250 119 119 2 [some (vr 91), some (vi l1), some (vi l2)] [] (I, J, PP (f1, false, f3)) Q := wp_at ck250 [(2, [true, true, true]), (24, [true, true, true]), (31, [true, true, true, true]), (61, [true, true, true, true, true])] 400 H
set_option maxRecDepth 100000 in
theorem x250f_24 {G : Ctx} {h : Nat} {Q : MP} {I : Nat → Nat → Int} {J : Nat → Nat → BitVec 64} {f1 f3 : Bool} {l1 l2 : Int} (hh : 0 ≤ h) (H : ((l1 < l2) → (Q none (I, J, u2 (u2 (PP (f1, false, f3)) 91 36 112) 91 37 113))) ∧ (¬ (l1 < l2) → (Tri G h 250 119 119 31 [some (vr 91), some (vi l1), some (vi l2), some (vi 0)] [] (I, J, PP (f1, false, f3)) Q))) : Tri G h 250 119 119 24 [some (vr 91), some (vi l1), some (vi l2)] [] (I, J, PP (f1, false, f3)) Q := wp_at ck250 [(2, [true, true, true]), (24, [true, true, true]), (31, [true, true, true, true]), (61, [true, true, true, true, true])] 400 H
set_option maxRecDepth 100000 in
theorem x250f_31 {G : Ctx} {h : Nat} {Q : MP} {I : Nat → Nat → Int} {J : Nat → Nat → BitVec 64} {f1 f3 : Bool} {l1 l2 l3 : Int} (hh : 0 ≤ h) (H : ((226 ≤ l3) → (Tri G h 250 119 119 24 [some (vr 91), some (vi l1), some (vi (w32 (l2 + 1)))] [] (I, J, PP (f1, false, f3)) Q)) ∧ (¬ (226 ≤ l3) → ((0 ≤ (w32 ((w32 (226 * l2)) + l3)) ∧ (w32 ((w32 (226 * l2)) + l3)) < (3616 : Int)) ∧ (((¬ (lCmp (J 113 ((w32 ((w32 (226 * l2)) + l3)).toNat)) (0#64)) = 0) → (Tri G h 250 119 119 61 [some (vr 91), some (vi l1), some (vi l2), some (vi l3), some (vi 0)] [] (I, J, PP (f1, false, f3)) Q)) ∧ (¬ (¬ (lCmp (J 113 ((w32 ((w32 (226 * l2)) + l3)).toNat)) (0#64)) = 0) → (Tri G h 250 119 119 31 [some (vr 91), some (vi l1), some (vi l2), some (vi (w32 (l3 + 1)))] [] (I, J, PP (f1, false, f3)) Q)))))) : Tri G h 250 119 119 31 [some (vr 91), some (vi l1), some (vi l2), some (vi l3)] [] (I, J, PP (f1, false, f3)) Q := wp_at ck250 [(2, [true, true, true]), (24, [true, true, true]), (31, [true, true, true, true]), (61, [true, true, true, true, true])] 400 H
set_option maxRecDepth 100000 in
theorem x250f_61 {G : Ctx} {h : Nat} {Q : MP} {I : Nat → Nat → Int} {J : Nat → Nat → BitVec 64} {f1 f3 : Bool} {l1 l2 l3 l4 : Int} (hh : 2 ≤ h) (H : ((l1 < (w32 (l2 + l4))) → (Tri G h 250 119 119 31 [some (vr 91), some (vi l1), some (vi l2), some (vi (w32 (l3 + 1)))] [] (I, J, PP (f1, false, f3)) Q)) ∧ (¬ (l1 < (w32 (l2 + l4))) → (((226 ≤ (w32 (l3 + (w32 (l4 * l4))))) → (Tri G h 250 119 119 61 [some (vr 91), some (vi l1), some (vi l2), some (vi l3), some (vi (w32 (l4 + 1)))] [] (I, J, PP (f1, false, f3)) Q)) ∧ (¬ (226 ≤ (w32 (l3 + (w32 (l4 * l4))))) → ((0 ≤ (w32 ((w32 ((w32 (226 * (w32 (l2 + l4)))) + l3)) + (w32 (l4 * l4)))) ∧ (w32 ((w32 ((w32 (226 * (w32 (l2 + l4)))) + l3)) + (w32 (l4 * l4)))) < (3616 : Int)) ∧ ((0 ≤ (w32 ((w32 (226 * l2)) + l3)) ∧ (w32 ((w32 (226 * l2)) + l3)) < (3616 : Int)) ∧ ((((0 : Int) ≤ l4 ∧ l4 ≤ (w32 (l1 - l2))) → ((0 ≤ (w32 ((w32 (61 * (w32 (l1 - l2)))) + l4)) ∧ (w32 ((w32 (61 * (w32 (l1 - l2)))) + l4)) < (3721 : Int)) ∧ ((0 ≤ (w32 ((w32 ((w32 (226 * (w32 (l2 + l4)))) + l3)) + (w32 (l4 * l4)))) ∧ (w32 ((w32 ((w32 (226 * (w32 (l2 + l4)))) + l3)) + (w32 (l4 * l4)))) < (3616 : Int)) ∧ (Tri G h 250 119 119 61 [some (vr 91), some (vi l1), some (vi l2), some (vi l3), some (vi (w32 (l4 + 1)))] [] (I, u2 J 112 ((w32 ((w32 ((w32 (226 * (w32 (l2 + l4)))) + l3)) + (w32 (l4 * l4)))).toNat) ((J 112 ((w32 ((w32 ((w32 (226 * (w32 (l2 + l4)))) + l3)) + (w32 (l4 * l4)))).toNat)) + ((J 113 ((w32 ((w32 (226 * l2)) + l3)).toNat)) * (J 109 ((w32 ((w32 (61 * (w32 (l1 - l2)))) + l4)).toNat)))), PP (f1, false, f3)) Q)))) ∧ (¬ ((0 : Int) ≤ l4 ∧ l4 ≤ (w32 (l1 - l2))) → ((0 ≤ (w32 ((w32 ((w32 (226 * (w32 (l2 + l4)))) + l3)) + (w32 (l4 * l4)))) ∧ (w32 ((w32 ((w32 (226 * (w32 (l2 + l4)))) + l3)) + (w32 (l4 * l4)))) < (3616 : Int)) ∧ (Tri G h 250 119 119 61 [some (vr 91), some (vi l1), some (vi l2), some (vi l3), some (vi (w32 (l4 + 1)))] [] (I, u2 J 112 ((w32 ((w32 ((w32 (226 * (w32 (l2 + l4)))) + l3)) + (w32 (l4 * l4)))).toNat) ((J 112 ((w32 ((w32 ((w32 (226 * (w32 (l2 + l4)))) + l3)) + (w32 (l4 * l4)))).toNat)) + ((J 113 ((w32 ((w32 (226 * l2)) + l3)).toNat)) * (0#64))), PP (f1, false, f3)) Q)))))))))) : Tri G h 250 119 119 61 [some (vr 91), some (vi l1), some (vi l2), some (vi l3), some (vi l4)] [] (I, J, PP (f1, false, f3)) Q := wp_at ck250 [(2, [true, true, true]), (24, [true, true, true]), (31, [true, true, true, true]), (61, [true, true, true, true, true])] 400 (And.intro (fun q878 => H.1 q878) (fun q879 => And.intro (fun q880 => (H.2 q879).1 q880) (fun q881 => And.intro ((H.2 q879).2 q881).1 (And.intro (((H.2 q879).2 q881).2).1 (x241_m (by omega) (fun h hh => x241 hh (And.intro (fun q882 => And.intro (((((H.2 q879).2 q881).2).2).1 q882).1 (cJ_r ((((((H.2 q879).2 q881).2).2).1 q882).2))) (fun q883 => cJ_r (((((H.2 q879).2 q881).2).2).2 q883)))))))))
theorem x250f_m {G : Ctx} {h : Nat} {Q : MP} {I : Nat → Nat → Int} {J : Nat → Nat → BitVec 64} {f1 f3 : Bool} {x : Int} (hh : 3 ≤ h) (H : ∀ h, 2 ≤ h → Tri G h 250 119 119 0 [some (vr 91), some (vi x)] [] (I, J, PP (f1, false, f3)) Q) : TriM G h 250 119 119 [vr 91, vi x] (I, J, PP (f1, false, f3)) Q := TriM_intro (h - 1) (by omega) (by decide) (Nat.le_of_ble_eq_true rfl) (Nat.le_refl _) (Nat.le_refl _) (H (h - 1) (by omega))
set_option maxRecDepth 100000 in
theorem x251t {G : Ctx} {h : Nat} {Q : MP} {I : Nat → Nat → Int} {J : Nat → Nat → BitVec 64} {f1 f3 : Bool} {x : Int} (hh : 3 ≤ h) (H : ((0 ≤ x ∧ x < 11) → (TriM G h 240 119 119 [vr 91] (I, J, PP (f1, true, f3)) (cVN fun I1 J1 b1 => (TriM G h 247 119 119 [vr 91, vi x] (I1, J1, PP b1) (cIN fun r2 I2 J2 b2 => (Tri G h 251 119 119 29 [some (vr 91), none, some (vi r2), some (vi (I2 91 35)), some (vi 0)] [] (I2, J2, PP b2) Q)))))) ∧ (¬ (0 ≤ x ∧ x < 11) → (Q (some (vl (BitVec.ofInt 64 (-1)))) (I, J, PP (f1, true, f3))))) : Tri G h 251 119 119 0 [some (vr 91), some (vi x)] [] (I, J, PP (f1, true, f3)) Q := wp_at ck251 [(29, [true, false, true, true, true]), (61, [true, false, true, true, true]), (85, [true, false, true, true, true, false, true])] 400 (sx248 (by omega)  (fun q884 => And.intro (fun _ => cVN_go (H.1 q884) (fun I1 J1 b1 q886 => cIN_go q886 (fun r2 I2 J2 b2 q887 => q887))) (fun z => absurd (show ¬ (1 : Int) = (0 : Int) by decide) z)) (fun q885 => And.intro (fun z => absurd z (show ¬ (¬ (0 : Int) = (0 : Int)) by decide)) (fun _ => H.2 q885)))
set_option maxRecDepth 100000 in
theorem x251t_29 {G : Ctx} {h : Nat} {Q : MP} {I : Nat → Nat → Int} {J : Nat → Nat → BitVec 64} {f1 f3 : Bool} {l2 l3 l4 : Int} (hh : 0 ≤ h) (H : ((3616 ≤ l4) → (Tri G h 251 119 119 61 [some (vr 91), none, some (vi l2), some (vi l3), some (vi 0)] [] (I, u2 J 112 0 (1#64), PP (f1, true, f3)) Q)) ∧ (¬ (3616 ≤ l4) → ((0 ≤ l4 ∧ l4 < (3616 : Int)) ∧ (Tri G h 251 119 119 29 [some (vr 91), none, some (vi l2), some (vi l3), some (vi (w32 (l4 + 1)))] [] (I, u2 J 112 l4.toNat (0#64), PP (f1, true, f3)) Q)))) : Tri G h 251 119 119 29 [some (vr 91), none, some (vi l2), some (vi l3), some (vi l4)] [] (I, J, PP (f1, true, f3)) Q := wp_at ck251 [(29, [true, false, true, true, true]), (61, [true, false, true, true, true]), (85, [true, false, true, true, true, false, true])] 400 (And.intro (fun q888 => And.intro (show (0 : Int) ≤ 0 ∧ (0 : Int) < ((3616 : Nat) : Int) by decide) (H.1 q888)) (fun q889 => H.2 q889))
set_option maxRecDepth 100000 in
theorem x251t_61 {G : Ctx} {h : Nat} {Q : MP} {I : Nat → Nat → Int} {J : Nat → Nat → BitVec 64} {f1 f3 : Bool} {l2 l3 l4 : Int} (hh : 3 ≤ h) (H : ((10 ≤ l4) → (Tri G h 251 119 119 85 [some (vr 91), none, some (vi l2), some (vi l3), some (vl (0#64)), none, some (vi 0)] [] (I, J, PP (f1, true, f3)) Q)) ∧ (¬ (10 ≤ l4) → (TriM G h 250 119 119 [vr 91, vi l3] (I, J, PP (f1, true, f3)) (cVN fun I1 J1 b1 => (Tri G h 251 119 119 61 [some (vr 91), none, some (vi l2), some (vi l3), some (vi (w32 (l4 + 1)))] [] (I1, J1, PP b1) Q))))) : Tri G h 251 119 119 61 [some (vr 91), none, some (vi l2), some (vi l3), some (vi l4)] [] (I, J, PP (f1, true, f3)) Q := wp_at ck251 [(29, [true, false, true, true, true]), (61, [true, false, true, true, true]), (85, [true, false, true, true, true, false, true])] 400 (And.intro (fun q890 => H.1 q890) (fun q891 => cVN_go (H.2 q891) (fun I1 J1 b1 q892 => q892)))
set_option maxRecDepth 100000 in
theorem x251t_85 {G : Ctx} {h : Nat} {Q : MP} {I : Nat → Nat → Int} {J : Nat → Nat → BitVec 64} {f1 f3 : Bool} {l2 l3 l6 : Int} {l4 : BitVec 64} (hh : 0 ≤ h) (H : ((l2 < l6) → (Q (some (vl l4)) (I, J, PP (f1, true, f3)))) ∧ (¬ (l2 < l6) → ((0 ≤ (w32 ((w32 (226 * l3)) + l6)) ∧ (w32 ((w32 (226 * l3)) + l6)) < (3616 : Int)) ∧ (Tri G h 251 119 119 85 [some (vr 91), none, some (vi l2), some (vi l3), some (vl (l4 + (J 112 ((w32 ((w32 (226 * l3)) + l6)).toNat)))), none, some (vi (w32 (l6 + 1)))] [] (I, J, PP (f1, true, f3)) Q)))) : Tri G h 251 119 119 85 [some (vr 91), none, some (vi l2), some (vi l3), some (vl l4), none, some (vi l6)] [] (I, J, PP (f1, true, f3)) Q := wp_at ck251 [(29, [true, false, true, true, true]), (61, [true, false, true, true, true]), (85, [true, false, true, true, true, false, true])] 400 H
theorem x251t_m {G : Ctx} {h : Nat} {Q : MP} {I : Nat → Nat → Int} {J : Nat → Nat → BitVec 64} {f1 f3 : Bool} {x : Int} (hh : 4 ≤ h) (H : ∀ h, 3 ≤ h → Tri G h 251 119 119 0 [some (vr 91), some (vi x)] [] (I, J, PP (f1, true, f3)) Q) : TriM G h 251 119 119 [vr 91, vi x] (I, J, PP (f1, true, f3)) Q := TriM_intro (h - 1) (by omega) (by decide) (Nat.le_of_ble_eq_true rfl) (Nat.le_refl _) (Nat.le_refl _) (H (h - 1) (by omega))
set_option maxRecDepth 100000 in
theorem x251f {G : Ctx} {h : Nat} {Q : MP} {I : Nat → Nat → Int} {J : Nat → Nat → BitVec 64} {f1 f3 : Bool} {x : Int} (hh : 3 ≤ h) (H : ((0 ≤ x ∧ x < 11) → (TriM G h 240 119 119 [vr 91] (I, J, PP (f1, false, f3)) (cVN fun I1 J1 b1 => (TriM G h 247 119 119 [vr 91, vi x] (I1, J1, PP b1) (cIN fun r2 I2 J2 b2 => (Tri G h 251 119 119 29 [some (vr 91), none, some (vi r2), some (vi (I2 91 35)), some (vi 0)] [] (I2, J2, PP b2) Q)))))) ∧ (¬ (0 ≤ x ∧ x < 11) → (Q (some (vl (BitVec.ofInt 64 (-1)))) (I, J, PP (f1, false, f3))))) : Tri G h 251 119 119 0 [some (vr 91), some (vi x)] [] (I, J, PP (f1, false, f3)) Q := wp_at ck251 [(29, [true, false, true, true, true]), (61, [true, false, true, true, true]), (85, [true, false, true, true, true, false, true])] 400 (sx248 (by omega)  (fun q893 => And.intro (fun _ => cVN_go (H.1 q893) (fun I1 J1 b1 q895 => cIN_go q895 (fun r2 I2 J2 b2 q896 => q896))) (fun z => absurd (show ¬ (1 : Int) = (0 : Int) by decide) z)) (fun q894 => And.intro (fun z => absurd z (show ¬ (¬ (0 : Int) = (0 : Int)) by decide)) (fun _ => H.2 q894)))
set_option maxRecDepth 100000 in
theorem x251f_29 {G : Ctx} {h : Nat} {Q : MP} {I : Nat → Nat → Int} {J : Nat → Nat → BitVec 64} {f1 f3 : Bool} {l2 l3 l4 : Int} (hh : 0 ≤ h) (H : ((3616 ≤ l4) → (Tri G h 251 119 119 61 [some (vr 91), none, some (vi l2), some (vi l3), some (vi 0)] [] (I, u2 J 113 0 (1#64), PP (f1, false, f3)) Q)) ∧ (¬ (3616 ≤ l4) → ((0 ≤ l4 ∧ l4 < (3616 : Int)) ∧ (Tri G h 251 119 119 29 [some (vr 91), none, some (vi l2), some (vi l3), some (vi (w32 (l4 + 1)))] [] (I, u2 J 113 l4.toNat (0#64), PP (f1, false, f3)) Q)))) : Tri G h 251 119 119 29 [some (vr 91), none, some (vi l2), some (vi l3), some (vi l4)] [] (I, J, PP (f1, false, f3)) Q := wp_at ck251 [(29, [true, false, true, true, true]), (61, [true, false, true, true, true]), (85, [true, false, true, true, true, false, true])] 400 (And.intro (fun q897 => And.intro (show (0 : Int) ≤ 0 ∧ (0 : Int) < ((3616 : Nat) : Int) by decide) (H.1 q897)) (fun q898 => H.2 q898))
set_option maxRecDepth 100000 in
theorem x251f_61 {G : Ctx} {h : Nat} {Q : MP} {I : Nat → Nat → Int} {J : Nat → Nat → BitVec 64} {f1 f3 : Bool} {l2 l3 l4 : Int} (hh : 3 ≤ h) (H : ((10 ≤ l4) → (Tri G h 251 119 119 85 [some (vr 91), none, some (vi l2), some (vi l3), some (vl (0#64)), none, some (vi 0)] [] (I, J, PP (f1, false, f3)) Q)) ∧ (¬ (10 ≤ l4) → (TriM G h 250 119 119 [vr 91, vi l3] (I, J, PP (f1, false, f3)) (cVN fun I1 J1 b1 => (Tri G h 251 119 119 61 [some (vr 91), none, some (vi l2), some (vi l3), some (vi (w32 (l4 + 1)))] [] (I1, J1, PP b1) Q))))) : Tri G h 251 119 119 61 [some (vr 91), none, some (vi l2), some (vi l3), some (vi l4)] [] (I, J, PP (f1, false, f3)) Q := wp_at ck251 [(29, [true, false, true, true, true]), (61, [true, false, true, true, true]), (85, [true, false, true, true, true, false, true])] 400 (And.intro (fun q899 => H.1 q899) (fun q900 => cVN_go (H.2 q900) (fun I1 J1 b1 q901 => q901)))
set_option maxRecDepth 100000 in
theorem x251f_85 {G : Ctx} {h : Nat} {Q : MP} {I : Nat → Nat → Int} {J : Nat → Nat → BitVec 64} {f1 f3 : Bool} {l2 l3 l6 : Int} {l4 : BitVec 64} (hh : 0 ≤ h) (H : ((l2 < l6) → (Q (some (vl l4)) (I, J, PP (f1, false, f3)))) ∧ (¬ (l2 < l6) → ((0 ≤ (w32 ((w32 (226 * l3)) + l6)) ∧ (w32 ((w32 (226 * l3)) + l6)) < (3616 : Int)) ∧ (Tri G h 251 119 119 85 [some (vr 91), none, some (vi l2), some (vi l3), some (vl (l4 + (J 113 ((w32 ((w32 (226 * l3)) + l6)).toNat)))), none, some (vi (w32 (l6 + 1)))] [] (I, J, PP (f1, false, f3)) Q)))) : Tri G h 251 119 119 85 [some (vr 91), none, some (vi l2), some (vi l3), some (vl l4), none, some (vi l6)] [] (I, J, PP (f1, false, f3)) Q := wp_at ck251 [(29, [true, false, true, true, true]), (61, [true, false, true, true, true]), (85, [true, false, true, true, true, false, true])] 400 H
theorem x251f_m {G : Ctx} {h : Nat} {Q : MP} {I : Nat → Nat → Int} {J : Nat → Nat → BitVec 64} {f1 f3 : Bool} {x : Int} (hh : 4 ≤ h) (H : ∀ h, 3 ≤ h → Tri G h 251 119 119 0 [some (vr 91), some (vi x)] [] (I, J, PP (f1, false, f3)) Q) : TriM G h 251 119 119 [vr 91, vi x] (I, J, PP (f1, false, f3)) Q := TriM_intro (h - 1) (by omega) (by decide) (Nat.le_of_ble_eq_true rfl) (Nat.le_refl _) (Nat.le_refl _) (H (h - 1) (by omega))
/-! ways of evenness -/
def fac : Nat → Nat
  | 0 => 1
  | n + 1 => (n + 1) * fac n
theorem fac_pos : ∀ n, 0 < fac n
  | 0 => by decide
  | n + 1 => Nat.mul_pos (by omega) (fac_pos n)
theorem binom_fac : ∀ n k, k ≤ n → binom n k * (fac k * fac (n - k)) = fac n
  | n, 0, _ => by
    rw [binom_0, Nat.sub_zero]
    show 1 * (1 * fac n) = fac n
    rw [Nat.one_mul, Nat.one_mul]
  | 0, k + 1, h => by omega
  | n + 1, k + 1, h => by
    have ih := binom_fac n k (by omega)
    have ha := binom_abs n k
    rw [show n + 1 - (k + 1) = n - k by omega]
    show binom (n + 1) (k + 1) * ((k + 1) * fac k * fac (n - k)) = (n + 1) * fac n
    rw [← ih, Nat.mul_assoc, ← Nat.mul_assoc (binom (n + 1) (k + 1)), Nat.mul_comm (binom (n + 1) (k + 1)) (k + 1), ha, Nat.mul_assoc]
theorem binom_tri {m t q : Nat} (h : t + q ≤ m) : binom m t * binom (m - t) q = binom m (t + q) * binom (t + q) q := by
  have h1 := binom_fac m t (by omega)
  have h2 := binom_fac (m - t) q (by omega)
  have h3 := binom_fac m (t + q) h
  have h4 := binom_fac (t + q) q (by omega)
  rw [show m - t - q = m - (t + q) by omega] at h2
  rw [show t + q - q = t by omega] at h4
  have hp : 0 < fac t * (fac q * fac (m - (t + q))) := Nat.mul_pos (fac_pos _) (Nat.mul_pos (fac_pos _) (fac_pos _))
  apply Nat.eq_of_mul_eq_mul_right hp
  have e1 : binom m t * binom (m - t) q * (fac t * (fac q * fac (m - (t + q)))) = fac m := by
    rw [← h1, ← h2]
    simp only [Nat.mul_assoc, Nat.mul_comm, Nat.mul_left_comm]
  have e2 : binom m (t + q) * binom (t + q) q * (fac t * (fac q * fac (m - (t + q)))) = fac m := by
    rw [← h3, ← h4]
    simp only [Nat.mul_assoc, Nat.mul_comm, Nat.mul_left_comm]
  rw [e1, e2]
/-- rows of so many digits out of d, with squares s -/
def evT (W : Nat → Nat → Nat) (r s k : Nat) : Nat := if k * k ≤ s then W (r - k) (s - k * k) * binom r k else 0
def evW : Nat → Nat → Nat → Nat
  | 0, r, s => if r = 0 ∧ s = 0 then 1 else 0
  | d + 1, r, s => fb_sm (evT (evW d) r s) (r + 1)
/-- the reference's: so many places of m are filled -/
def evU (m : Nat) (W : Nat → Nat → Nat) (r s t : Nat) : Nat := if t ≤ r ∧ (r - t) * (r - t) ≤ s then W t (s - (r - t) * (r - t)) * binom (m - t) (r - t) else 0
def evR (m : Nat) : Nat → Nat → Nat → Nat
  | 0, r, s => if r = 0 ∧ s = 0 then 1 else 0
  | d + 1, r, s => fb_sm (evU m (evR m d) r s) (m + 1)
theorem sm_rev {f : Nat → Nat} : ∀ n, fb_sm f (n + 1) = fb_sm (fun k => f (n - k)) (n + 1)
  | 0 => rfl
  | n + 1 => by
    have e : fb_sm f (n + 1 + 1) = fb_sm f (n + 1) + f (n + 1) := rfl
    have h := fb_sm_split (fun k => f (n + 1 - k)) 1 (n + 1)
    rw [Nat.add_comm 1 (n + 1)] at h
    rw [e, h, sm_rev n]
    have e2 : fb_sm (fun k => f (n + 1 - (1 + k))) (n + 1) = fb_sm (fun k => f (n - k)) (n + 1) := fb_sm_cong (fun k hk => by rw [show n + 1 - (1 + k) = n - k by omega])
    rw [e2]
    show fb_sm (fun k => f (n - k)) (n + 1) + f (n + 1) = (0 + f (n + 1 - 0)) + fb_sm (fun k => f (n - k)) (n + 1)
    rw [Nat.sub_zero]
    omega
theorem evR_W {m : Nat} : ∀ d r s, r ≤ m → evR m d r s = binom m r * evW d r s
  | 0, r, s, h => by
    simp only [evR, evW]
    by_cases hz : r = 0 ∧ s = 0
    · rw [if_pos hz, hz.1, binom_0]
    · rw [if_neg hz, Nat.mul_zero]
  | d + 1, r, s, h => by
    have ih := evR_W (m := m) d
    show fb_sm (evU m (evR m d) r s) (m + 1) = binom m r * fb_sm (evT (evW d) r s) (r + 1)
    have e1 : fb_sm (evU m (evR m d) r s) (m + 1) = fb_sm (evU m (evR m d) r s) (r + 1) := by
      rw [show m + 1 = (r + 1) + (m - r) by omega, fb_sm_split]
      have : fb_sm (fun k => evU m (evR m d) r s (r + 1 + k)) (m - r) = fb_sm (fun _ => 0) (m - r) := fb_sm_cong (fun k hk => by unfold evU; rw [if_neg (by omega)])
      rw [this, fb_sm_const]
      omega
    rw [e1, sm_rev r]
    have e2 : ∀ k, k < r + 1 → evU m (evR m d) r s (r - k) = binom m r * evT (evW d) r s k := by
      intro k hk
      unfold evU evT
      rw [show r - (r - k) = k by omega]
      by_cases hc : k * k ≤ s
      · rw [if_pos ⟨by omega, hc⟩, if_pos hc, ih (r - k) (s - k * k) (by omega)]
        have ht := binom_tri (m := m) (t := r - k) (q := k) (by omega)
        rw [show r - k + k = r by omega] at ht
        rw [Nat.mul_assoc, Nat.mul_comm (evW d (r - k) (s - k * k)) (binom (m - (r - k)) k), ← Nat.mul_assoc, ht, Nat.mul_assoc, Nat.mul_comm (binom r k)]
      · rw [if_neg (fun q => hc q.2), if_neg hc, Nat.mul_zero]
    rw [fb_sm_cong (n := r + 1) e2]
    have e3 : ∀ n, fb_sm (fun k => binom m r * evT (evW d) r s k) n = binom m r * fb_sm (evT (evW d) r s) n := by
      intro n
      induction n with
      | zero => rfl
      | succ n ih2 => rw [fb_sm_succ, fb_sm_succ, ih2, Nat.mul_add]
    exact e3 _
abbrev bN (k : Nat) : BitVec 64 := BitVec.ofNat 64 k
section EVEN
variable {G : Ctx} {h n : Nat} {I : MI} {J : MJ} {b : B3} {x y z u v e : Int} {a : BitVec 64} {f1 f2 f3 : Bool}
/-- the class's row of ways: for squares up to M -/
def ewJ (J : MJ) (N M : Nat) (f : Nat → Nat → Nat) : Prop := ∀ r s : Nat, r ≤ N → s ≤ M → J 84 (r * 226 + s) = bN (f r s)
theorem s44_s {Q : MP} {N M r k d : Nat} {J0 : MJ} (hN : N ≤ 15) (hM : M ≤ 225) (hr : 1 ≤ r ∧ r ≤ N) (hk : 1 ≤ k ∧ k ≤ r) (g : ∀ J2, frJ [84] J0 J2 → ewJ J2 N M (fun p s => if r < p then evW (d + 1) p s else if p = r then fb_sm (evT (evW d) p s) (k + 1) else evW d p s) → Tri G h 44 119 119 10 [some (vr 82), none, some (vi M), some (vi r), some (vi ((k : Int) + 1))] [] (I, J2, PP b) Q) : ∀ (m s : Nat) (J' : MJ), s + m = M + 1 ∨ (m = 0 ∧ M < s) → k * k ≤ s → s ≤ 226 → frJ [84] J0 J' → ewJ J' N M (fun p t => if r < p then evW (d + 1) p t else if p = r then (if t < s then fb_sm (evT (evW d) p t) (k + 1) else fb_sm (evT (evW d) p t) k) else evW d p t) → Tri G h 44 119 119 31 [some (vr 82), none, some (vi M), some (vi r), some (vi k), some (vl (bN (binom r k))), none, some (vi s)] [] (I, J', PP b) Q := by
  have hkk : k * k ≤ 225 := by
    have : k * k ≤ 15 * 15 := Nat.mul_le_mul (by omega) (by omega)
    omega
  intro m
  induction m with
  | zero =>
    intro s J' hs hs2 hs3 hf hw
    refine x44_31 (Nat.zero_le _) ?_
    rw [w32_id (x := (k : Int) + 1) (by omega) (by omega)]
    refine ⟨fun _ => g J' hf fun p t hp ht => ?_, fun q => by omega⟩
    rw [hw p t hp ht]
    dsimp only
    rw [if_pos (show t < s by omega)]
  | succ m ih =>
    intro s J' hs hs2 hs3 hf hw
    have e4 : w32 ((k : Int) * k) = ((k * k : Nat) : Int) := by rw [w32_id (by rw [← Int.natCast_mul]; omega) (by rw [← Int.natCast_mul]; omega), Int.natCast_mul]
    refine x44_31 (Nat.zero_le _) ?_
    rw [e4, w32_id (x := (k : Int) + 1) (by omega) (by omega), w32_id (x := (r : Int) * 226) (by omega) (by omega), w32_id (x := (r : Int) * 226 + s) (by omega) (by omega), w32_id (x := (r : Int) - k) (by omega) (by omega), w32_id (x := ((r : Int) - k) * 226) (by omega) (by omega), w32_id (x := ((r : Int) - k) * 226 + s) (by omega) (by omega), w32_id (x := ((r : Int) - k) * 226 + s - ((k * k : Nat) : Int)) (by omega) (by omega), w32_id (x := (s : Int) + 1) (by omega) (by omega)]
    refine ⟨fun q => by omega, fun _ => ⟨fun q => by omega, fun _ => ⟨by omega, by omega, by omega, ?_⟩⟩⟩
    rw [show ((r : Int) * 226 + (s : Int)).toNat = r * 226 + s by omega, show (((r : Int) - (k : Int)) * 226 + (s : Int) - ((k * k : Nat) : Int)).toNat = (r - k) * 226 + (s - k * k) by omega]
    have h1 := hw r s hr.2 (by omega)
    have h2 := hw (r - k) (s - k * k) (by omega) (by omega)
    dsimp only at h2
    simp only [Nat.lt_irrefl, if_false, if_true] at h1
    rw [if_neg (by omega), if_neg (by omega)] at h2
    rw [h1, h2]
    refine ih (s + 1) _ (by omega) (by omega) (by omega) (hf.u (by decide)) (fun p t hp ht => ?_)
    by_cases hc : p = r ∧ t = s
    · obtain ⟨rfl, rfl⟩ := hc
      rw [u2e]
      simp only [Nat.lt_irrefl, if_false, if_true, Nat.lt_succ_self]
      rw [fb_sm_succ]
      show bN (fb_sm (evT (evW d) p t) k) + bN (evW d (p - k) (t - k * k)) * bN (binom p k) = _
      rw [← BitVec.ofNat_mul, ← BitVec.ofNat_add]
      unfold evT
      rw [if_pos hs2]
    · rw [u2j (by omega), hw p t hp ht]
      dsimp only
      by_cases hp2 : p = r
      · have ht2 : t ≠ s := fun q => hc ⟨hp2, q⟩
        subst hp2
        simp only [Nat.lt_irrefl, if_false, if_true]
        by_cases ht3 : t < s
        · rw [if_pos ht3, if_pos (by omega)]
        · rw [if_neg ht3, if_neg (by omega)]
      · rw [if_neg hp2, if_neg hp2]
theorem s44_k {Q : MP} {N M r d : Nat} {J0 : MJ} (hh : 1 ≤ h) (hN : N ≤ 15) (hM : M ≤ 225) (hr : 1 ≤ r ∧ r ≤ N) (g : ∀ J2, frJ [84] J0 J2 → ewJ J2 N M (fun p s => if r ≤ p then evW (d + 1) p s else evW d p s) → Tri G h 44 119 119 2 [some (vr 82), none, some (vi M), some (vi ((r : Int) + (-1)))] [] (I, J2, PP b) Q) : ∀ (m k : Nat) (J' : MJ), k + m = r + 1 → 1 ≤ k → frJ [84] J0 J' → ewJ J' N M (fun p s => if r < p then evW (d + 1) p s else if p = r then fb_sm (evT (evW d) p s) k else evW d p s) → Tri G h 44 119 119 10 [some (vr 82), none, some (vi M), some (vi r), some (vi k)] [] (I, J', PP b) Q := by
  intro m
  induction m with
  | zero =>
    intro k J' hk h1 hf hw
    refine x44_10 hh ?_
    rw [w32_id (x := (r : Int) + (-1)) (by omega) (by omega)]
    refine ⟨fun _ => g J' hf fun p s hp hs => ?_, fun q => by omega⟩
    rw [hw p s hp hs]
    dsimp only
    by_cases c1 : r < p
    · rw [if_pos c1, if_pos (by omega)]
    · rw [if_neg c1]
      by_cases c2 : p = r
      · rw [if_pos c2, if_pos (by omega), show k = r + 1 by omega, c2]
        rfl
      · rw [if_neg c2, if_neg (by omega)]
  | succ m ih =>
    intro k J' hk h1 hf hw
    have hkk : k * k ≤ 225 := by
      have : k * k ≤ 15 * 15 := Nat.mul_le_mul (by omega) (by omega)
      omega
    refine x44_10 hh ⟨fun q => by omega, fun _ => s179 (by omega) (by omega) ?_⟩
    have e1 : chB r k = bN (binom r k) := by
      unfold chB
      rw [if_pos (by omega), toN, toN]
    have e4 : w32 ((k : Int) * k) = ((k * k : Nat) : Int) := by rw [w32_id (by rw [← Int.natCast_mul]; omega) (by rw [← Int.natCast_mul]; omega), Int.natCast_mul]
    rw [e1, e4]
    refine s44_s (J0 := J0) (d := d) hN hM hr ⟨h1, by omega⟩ (fun J2 hf2 hw2 => ih (k + 1) J2 (by omega) (by omega) hf2 hw2) (M + 1 - k * k) (k * k) J' (by omega) (Nat.le_refl _) (by omega) hf (fun p t hp ht => ?_)
    rw [hw p t hp ht]
    dsimp only
    by_cases c1 : r < p
    · rw [if_pos c1, if_pos c1]
    · rw [if_neg c1, if_neg c1]
      by_cases c2 : p = r
      · rw [if_pos c2, if_pos c2]
        by_cases c3 : t < k * k
        · rw [if_pos c3, fb_sm_succ]
          have : evT (evW d) p t k = 0 := by
            unfold evT
            rw [if_neg (by omega)]
          rw [this, Nat.add_zero]
        · rw [if_neg c3]
      · rw [if_neg c2, if_neg c2]
theorem s44_r {K : MI → MJ → B3 → Prop} {N M d : Nat} {J0 : MJ} (hh : 1 ≤ h) (hN : N ≤ 15) (hM : M ≤ 225) (g : ∀ J2, frJ [84] J0 J2 → ewJ J2 N M (evW (d + 1)) → K I J2 b) : ∀ (r : Nat) (J' : MJ), r ≤ N → frJ [84] J0 J' → ewJ J' N M (fun p s => if r < p then evW (d + 1) p s else evW d p s) → Tri G h 44 119 119 2 [some (vr 82), none, some (vi M), some (vi r)] [] (I, J', PP b) (cVN K) := by
  intro r
  induction r with
  | zero =>
    intro J' hr hf hw
    refine x44_2 (Nat.zero_le _) ⟨fun _ => cVN_r (g J' hf fun p s hp hs => ?_), fun q => by omega⟩
    rw [hw p s hp hs]
    dsimp only
    by_cases c1 : 0 < p
    · rw [if_pos c1]
    · rw [if_neg c1, show p = 0 by omega]
      show bN (evW d 0 s) = bN (0 + evT (evW d) 0 s 0)
      unfold evT
      rw [if_pos (by omega), binom_0, Nat.mul_one, Nat.zero_add]
      rfl
  | succ r ih =>
    intro J' hr hf hw
    refine x44_2 (Nat.zero_le _) ⟨fun q => by omega, fun _ => s44_k (J0 := J0) (d := d) hh hN hM ⟨by omega, hr⟩ (fun J2 hf2 hw2 => ?_) (r + 1) 1 J' (by omega) (by omega) hf (fun p s hp hs => ?_)⟩
    · rw [show ((r + 1 : Nat) : Int) + (-1) = r by omega]
      refine ih J2 (by omega) hf2 (fun p s hp hs => ?_)
      rw [hw2 p s hp hs]
      dsimp only
      by_cases c1 : r < p
      · rw [if_pos c1, if_pos (by omega)]
      · rw [if_neg c1, if_neg (by omega)]
    · rw [hw p s hp hs]
      dsimp only
      by_cases c1 : r + 1 < p
      · rw [if_pos c1, if_pos c1]
      · rw [if_neg c1, if_neg c1]
        by_cases c2 : p = r + 1
        · rw [if_pos c2]
          show _ = bN (0 + evT (evW d) p s 0)
          unfold evT
          rw [if_pos (by omega), binom_0, Nat.mul_one, Nat.zero_add]
          rfl
        · rw [if_neg c2]
theorem s44 {K : MI → MJ → B3 → Prop} {N M d : Nat} (hh : 2 ≤ h) (hN : N ≤ 15) (hM : M ≤ 225) (hw : ewJ J N M (evW d)) (g : ∀ J2, frJ [84] J J2 → ewJ J2 N M (evW (d + 1)) → K I J2 b) : TriM G h 44 119 119 [vr 82, vi N, vi M] (I, J, PP b) (cVN K) := by
  refine x44_m hh (fun h hh => x44 (Nat.zero_le _) (s44_r hh hN hM g N J (Nat.le_refl _) frJ.r fun p s hp hs => ?_))
  rw [hw p s hp hs]
  dsimp only
  rw [if_neg (by omega)]
def evS (d N : Nat) : Nat → BitVec 64
  | 0 => 0#64
  | s + 1 => evS d N s + bN (evW d N s)
theorem s43_s {K : BitVec 64 → MI → MJ → B3 → Prop} {N M : Nat} (hN : N ≤ 15) (hM : M ≤ 225) (hw : ewJ J N M (evW 10)) (g : K (evS 10 N (M + 1)) I J b) : ∀ (m s : Nat), s + m = M + 1 → Tri G h 43 119 119 54 [some (vr 82), none, some (vi N), some (vi M), some (vl (evS 10 N s)), none, some (vi s)] [] (I, J, PP b) (cJN K) := by
  intro m
  induction m with
  | zero =>
    intro s hs
    obtain rfl : s = M + 1 := hs
    exact x43_54 (Nat.zero_le _) ⟨fun _ => cJN_r g, fun q => by omega⟩
  | succ m ih =>
    intro s hs
    refine x43_54 (Nat.zero_le _) ?_
    rw [w32_id (x := (N : Int) * 226) (by omega) (by omega), w32_id (x := (N : Int) * 226 + s) (by omega) (by omega), w32_id (x := (s : Int) + 1) (by omega) (by omega), show ((N : Int) * 226 + (s : Int)).toNat = N * 226 + s by omega, hw N s (Nat.le_refl _) (by omega)]
    exact ⟨fun q => by omega, fun _ => ⟨fun q => by omega, fun _ => ⟨by omega, ih (s + 1) (by omega)⟩⟩⟩
theorem s43_d {K : BitVec 64 → MI → MJ → B3 → Prop} {N M : Nat} {J0 : MJ} (hh : 2 ≤ h) (hN : N ≤ 15) (hM : M ≤ 225) (g : ∀ J2, frJ [84] J0 J2 → K (evS 10 N (M + 1)) I J2 b) : ∀ (m d : Nat) (J' : MJ), d + m = 10 → frJ [84] J0 J' → ewJ J' N M (evW d) → Tri G h 43 119 119 29 [some (vr 82), none, some (vi N), some (vi M), some (vi d)] [] (I, J', PP b) (cJN K) := by
  intro m
  induction m with
  | zero =>
    intro d J' hd hf hw
    obtain rfl : d = 10 := hd
    exact x43_29 hh ⟨fun _ => s43_s hN hM hw (g J' hf) (M + 1) 0 (Nat.zero_add _), fun q => by omega⟩
  | succ m ih =>
    intro d J' hd hf hw
    refine x43_29 hh ⟨fun q => by omega, fun _ => s44 (by omega) hN hM hw fun J2 hf2 hw2 => ?_⟩
    rw [w32_id (by omega) (by omega)]
    exact ih (d + 1) J2 (by omega) (hf.t hf2) hw2
theorem s43 {K : BitVec 64 → MI → MJ → B3 → Prop} (hh : 5 ≤ h) (hB : rBook 0 92 I) (g : ∀ I2 J2, frK [83] I I2 → frJ [84] J J2 → K (evS 10 (evD I x).2.toNat ((evN I x).toNat + 1)) I2 J2 b) : TriM G h 43 119 119 [vr 82, vi x] (I, J, PP b) (cJN K) := by
  have h1 := evD_ok hB x
  have h2 := evN_b hB x
  refine x43_m hh (fun h hh => x43 hh (s40 (by omega) hB fun I2 hf hr => s41 (by omega) (ev_rows hB hr) ?_))
  obtain ⟨N, hN⟩ : ∃ N : Nat, (evD I x).2 = N := ⟨(evD I x).2.toNat, by have := h1.2.2.1; omega⟩
  obtain ⟨M, hM⟩ : ∃ M : Nat, evN I x = M := ⟨(evN I x).toNat, by omega⟩
  have hM2 : fb_si (fun d => (evD I x).1 d * (evD I x).1 d) 10 = M := hM
  have hN2 : N ≤ 15 := by have := h1.2.2.2; omega
  have g2 := g I2
  rw [hN, hM, toN, toN] at g2
  rw [hN, hM2]
  refine s43_d (J0 := J) (by omega) hN2 (by omega) (fun J2 hf2 => g2 J2 hf hf2) 10 0 _ rfl ?_ (fun r s hr hs => ?_)
  · refine frJ.u ?_ (by decide)
    intro k hk
    rw [u1_ne (fun q => hk (by rw [q]; decide))]
  · by_cases hz : r = 0 ∧ s = 0
    · obtain ⟨rfl, rfl⟩ := hz
      exact u2e
    · rw [u2j (by omega), u1e, if_pos (by omega)]
      show _ = bN (if r = 0 ∧ s = 0 then 1 else 0)
      rw [if_neg hz]

/-- the reference's rows -/
theorem pp_t : u2 (u2 (PP (f1, true, f3)) 91 36 113) 91 37 112 = PP (f1, false, f3) := by
  funext k j
  by_cases hk : k = 91
  · subst hk
    by_cases h37 : j = 37
    · subst h37; rw [u2e]; rfl
    · rw [u2j h37]
      by_cases h36 : j = 36
      · subst h36; rw [u2e]; rfl
      · rw [u2j h36]
        unfold PP
        have key : ∀ j, j ≠ 36 → j ≠ 37 → pswap (f1, true, f3) ((ppT.getD 91 []).getD j 1000) = pswap (f1, false, f3) ((ppT.getD 91 []).getD j 1000) := by
          intro j a1 a2
          by_cases hj : j < 43
          · have all : ∀ j, j < 43 → j ≠ 36 → j ≠ 37 → ∀ f1 f3 : Bool, pswap (f1, true, f3) ((ppT.getD 91 []).getD j 1000) = pswap (f1, false, f3) ((ppT.getD 91 []).getD j 1000) := by decide +kernel
            exact all j hj a1 a2 f1 f3
          · have e : (ppT.getD 91 []).getD j 1000 = 1000 := by
              rw [List.getD_eq_getElem?_getD, List.getElem?_eq_none (by show 43 ≤ j; omega)]
              rfl
            rw [e]
            rfl
        exact key j h36 h37
  · rw [u2_ne hk, u2_ne hk]
    funext
    unfold PP
    have key : ∀ v : Nat, v ≠ 902 → v ≠ 903 → pswap (f1, true, f3) v = pswap (f1, false, f3) v := by
      intro v h1 h2
      unfold pswap
      split
      · rfl
      · split
        · rfl
        · rfl
        · exact absurd rfl h1
        · exact absurd rfl h2
        · rfl
        · rfl
        · rfl
    have hv : (ppT.getD k []).getD j 1000 ≠ 902 ∧ (ppT.getD k []).getD j 1000 ≠ 903 := by
      by_cases hk2 : k < 119
      · have all : ∀ k, k < 119 → k ≠ 91 → ∀ v ∈ ppT.getD k [], v ≠ 902 ∧ v ≠ 903 := by decide +kernel
        rw [List.getD_eq_getElem?_getD (i := j)]
        cases hg : (ppT.getD k [])[j]? with
        | none => decide
        | some v => exact all k hk2 hk v (List.mem_of_getElem? hg)
      · have e : ppT.getD k [] = [] := by
          rw [List.getD_eq_getElem?_getD, List.getElem?_eq_none (by show 119 ≤ k; omega)]
          rfl
        rw [e]
        exact ⟨by simp, by simp⟩
    exact key _ hv.1 hv.2
def erJt (J : MJ) (m : Nat) (f : Nat → Nat → Nat) : Prop := ∀ r s : Nat, r ≤ m → s < 226 → J 112 (226 * r + s) = bN (f r s)
/-- while digits are laid: what has come to (r, s) -/
def eacct (m d t e q r s : Nat) : Nat := fb_sm (evU m (evR m d) r s) t + (if t ≤ r ∧ (r - t) * (r - t) ≤ s ∧ (s - (r - t) * (r - t) < e ∨ (s - (r - t) * (r - t) = e ∧ r - t < q)) then evU m (evR m d) r s t else 0)
theorem s250t_n {Q : MP} {m d t e : Nat} {J0 : MJ} (hm : m ≤ 15) (ht : t ≤ m) (he : e < 226) (hc : chT J0) (hw : erJt J0 m (evR m d)) (hh : 2 ≤ h) (g : ∀ J2, frJ [113] J0 J2 → (∀ r s : Nat, r ≤ m → s < 226 → J2 113 (226 * r + s) = bN (eacct m d t (e + 1) 0 r s)) → Tri G h 250 119 119 31 [some (vr 91), some (vi m), some (vi t), some (vi ((e : Int) + 1))] [] (I, J2, PP (f1, true, f3)) Q) : ∀ (c q : Nat) (J' : MJ), q + c = m - t + 1 → frJ [113] J0 J' → (∀ r s : Nat, r ≤ m → s < 226 → J' 113 (226 * r + s) = bN (eacct m d t e q r s)) → Tri G h 250 119 119 61 [some (vr 91), some (vi m), some (vi t), some (vi e), some (vi q)] [] (I, J', PP (f1, true, f3)) Q := by
  intro c
  induction c with
  | zero =>
    intro q J' hq hf hr
    refine x250t_61 hh ?_
    rw [w32_id (x := (t : Int) + q) (by omega) (by omega), w32_id (x := (e : Int) + 1) (by omega) (by omega)]
    refine ⟨fun _ => g J' hf fun r s h1 h2 => ?_, fun z => by omega⟩
    rw [hr r s h1 h2]
    unfold eacct
    refine congrArg bN (congrArg (fun w => fb_sm (evU m (evR m d) r s) t + w) ?_)
    by_cases hx : t ≤ r ∧ (r - t) * (r - t) ≤ s
    · by_cases hy : s - (r - t) * (r - t) < e + 1
      · rw [if_pos ⟨hx.1, hx.2, by omega⟩, if_pos ⟨hx.1, hx.2, Or.inl hy⟩]
      · rw [if_neg (fun z => by have := z.2.2; omega), if_neg (fun z => by have := z.2.2; omega)]
    · rw [if_neg (fun z => hx ⟨z.1, z.2.1⟩), if_neg (fun z => hx ⟨z.1, z.2.1⟩)]
  | succ c ih =>
    intro q J' hq hf hr
    have hqq : q * q ≤ 225 := by
      have : q * q ≤ 15 * 15 := Nat.mul_le_mul (by omega) (by omega)
      omega
    have e4 : w32 ((q : Int) * q) = ((q * q : Nat) : Int) := by rw [w32_id (by rw [← Int.natCast_mul]; omega) (by rw [← Int.natCast_mul]; omega), Int.natCast_mul]
    have hch : chT J' := fun n k h1 h2 => by rw [hf 109 (by decide)]; exact hc n k h1 h2
    refine x250t_61 hh ?_
    rw [e4, w32_id (x := (t : Int) + q) (by omega) (by omega), w32_id (x := (e : Int) + 1) (by omega) (by omega), w32_id (x := (e : Int) + ((q * q : Nat) : Int)) (by omega) (by omega), w32_id (x := (q : Int) + 1) (by omega) (by omega), w32_id (x := 226 * ((t : Int) + q)) (by omega) (by omega), w32_id (x := 226 * ((t : Int) + q) + e) (by omega) (by omega), w32_id (x := 226 * ((t : Int) + q) + e + ((q * q : Nat) : Int)) (by omega) (by omega), w32_id (x := 226 * (t : Int)) (by omega) (by omega), w32_id (x := 226 * (t : Int) + e) (by omega) (by omega), w32_id (x := (m : Int) - t) (by omega) (by omega), w32_id (x := 61 * ((m : Int) - t)) (by omega) (by omega), w32_id (x := 61 * ((m : Int) - t) + q) (by omega) (by omega)]
    refine ⟨fun z => by omega, fun _ => ⟨fun z => ?_, fun z => ⟨by omega, by omega, fun _ => ⟨by omega, by omega, ?_⟩, fun z2 => by omega⟩⟩⟩
    · refine ih (q + 1) J' (by omega) hf (fun r s h1 h2 => ?_)
      rw [hr r s h1 h2]
      unfold eacct
      refine congrArg bN (congrArg (fun w => fb_sm (evU m (evR m d) r s) t + w) ?_)
      by_cases hx : t ≤ r ∧ (r - t) * (r - t) ≤ s
      · by_cases hy : s - (r - t) * (r - t) < e ∨ (s - (r - t) * (r - t) = e ∧ r - t < q)
        · rw [if_pos ⟨hx.1, hx.2, hy⟩, if_pos ⟨hx.1, hx.2, by omega⟩]
        · by_cases hz : s - (r - t) * (r - t) = e ∧ r - t = q
          · exfalso
            have h9 := hz.2
            have h8 := hz.1
            rw [h9] at h8 hx
            omega
          · rw [if_neg (fun z => hy z.2.2), if_neg (fun z => by have := z.2.2; omega)]
      · rw [if_neg (fun z => hx ⟨z.1, z.2.1⟩), if_neg (fun z => hx ⟨z.1, z.2.1⟩)]
    · rw [chT_at hch (p := (m : Int) - t) (q := q) (by omega) (by omega)]
      have ech : chB ((m : Int) - t) q = bN (binom (m - t) q) := by
        unfold chB
        rw [if_pos (by omega), toN, show ((m : Int) - (t : Int)).toNat = m - t by omega]
      rw [ech, show (226 * ((t : Int) + (q : Int)) + (e : Int) + ((q * q : Nat) : Int)).toNat = 226 * (t + q) + (e + q * q) by omega, show (226 * (t : Int) + (e : Int)).toNat = 226 * t + e by omega, hr (t + q) (e + q * q) (by omega) (by omega), show J' 112 = J0 112 from hf 112 (by decide), hw t e ht he]
      refine ih (q + 1) _ (by omega) (hf.u (by decide)) (fun r s h1 h2 => ?_)
      by_cases hx : r = t + q ∧ s = e + q * q
      · obtain ⟨rfl, rfl⟩ := hx
        rw [u2e]
        have et : t + q - t = q := by omega
        have es : e + q * q - q * q = e := by omega
        unfold eacct
        rw [et, es, if_neg (fun z => by have := z.2.2; omega), if_pos ⟨by omega, by omega, Or.inr ⟨rfl, Nat.lt_succ_self _⟩⟩, Nat.add_zero, ← BitVec.ofNat_mul, ← BitVec.ofNat_add]
        refine congrArg bN (congrArg (fun w => fb_sm (evU m (evR m d) (t + q) (e + q * q)) t + w) ?_)
        unfold evU
        rw [et, es, if_pos ⟨by omega, by omega⟩]
      · rw [u2j (by omega), hr r s h1 h2]
        unfold eacct
        refine congrArg bN (congrArg (fun w => fb_sm (evU m (evR m d) r s) t + w) ?_)
        by_cases hx2 : t ≤ r ∧ (r - t) * (r - t) ≤ s
        · by_cases hy : s - (r - t) * (r - t) < e ∨ (s - (r - t) * (r - t) = e ∧ r - t < q)
          · rw [if_pos ⟨hx2.1, hx2.2, hy⟩, if_pos ⟨hx2.1, hx2.2, by omega⟩]
          · by_cases hz : s - (r - t) * (r - t) = e ∧ r - t = q
            · exfalso
              have h9 := hz.2
              have h8 := hz.1
              rw [h9] at h8 hx2
              exact hx ⟨by omega, by omega⟩
            · rw [if_neg (fun z => hy z.2.2), if_neg (fun z => by have := z.2.2; omega)]
        · rw [if_neg (fun z => hx2 ⟨z.1, z.2.1⟩), if_neg (fun z => hx2 ⟨z.1, z.2.1⟩)]
theorem s250t_e {Q : MP} {m d t : Nat} {J0 : MJ} (hm : m ≤ 15) (ht : t ≤ m) (hc : chT J0) (hw : erJt J0 m (evR m d)) (hh : 2 ≤ h) (g : ∀ J2, frJ [113] J0 J2 → (∀ r s : Nat, r ≤ m → s < 226 → J2 113 (226 * r + s) = bN (fb_sm (evU m (evR m d) r s) (t + 1))) → Tri G h 250 119 119 24 [some (vr 91), some (vi m), some (vi ((t : Int) + 1))] [] (I, J2, PP (f1, true, f3)) Q) : ∀ (c e : Nat) (J' : MJ), e + c = 226 → frJ [113] J0 J' → (∀ r s : Nat, r ≤ m → s < 226 → J' 113 (226 * r + s) = bN (eacct m d t e 0 r s)) → Tri G h 250 119 119 31 [some (vr 91), some (vi m), some (vi t), some (vi e)] [] (I, J', PP (f1, true, f3)) Q := by
  intro c
  induction c with
  | zero =>
    intro e J' he hf hr
    refine x250t_31 (Nat.zero_le _) ?_
    rw [w32_id (x := (t : Int) + 1) (by omega) (by omega)]
    refine ⟨fun _ => g J' hf fun r s h1 h2 => ?_, fun z => by omega⟩
    rw [hr r s h1 h2]
    unfold eacct
    rw [fb_sm_succ]
    refine congrArg bN (congrArg (fun w => fb_sm (evU m (evR m d) r s) t + w) ?_)
    by_cases hx : t ≤ r ∧ (r - t) * (r - t) ≤ s
    · rw [if_pos ⟨hx.1, hx.2, by omega⟩]
    · rw [if_neg (fun z => hx ⟨z.1, z.2.1⟩)]
      unfold evU
      rw [if_neg hx]
  | succ c ih =>
    intro e J' he hf hr
    refine x250t_31 (Nat.zero_le _) ?_
    rw [w32_id (x := 226 * (t : Int)) (by omega) (by omega), w32_id (x := 226 * (t : Int) + e) (by omega) (by omega), w32_id (x := (e : Int) + 1) (by omega) (by omega), show (226 * (t : Int) + (e : Int)).toNat = 226 * t + e by omega, show J' 112 = J0 112 from hf 112 (by decide), hw t e ht (by omega)]
    refine ⟨fun z => by omega, fun _ => ⟨by omega, fun z => s250t_n (J0 := J0) hm ht (by omega) hc hw hh (fun J2 hf2 hr2 => ih (e + 1) J2 (by omega) hf2 hr2) (m - t + 1) 0 J' (by omega) hf hr, fun z => ?_⟩⟩
    have hz : bN (evR m d t e) = 0#64 := lCmp_0.1 (by omega)
    refine ih (e + 1) J' (by omega) hf (fun r s h1 h2 => ?_)
    rw [hr r s h1 h2]
    unfold eacct
    by_cases hx : t ≤ r ∧ (r - t) * (r - t) ≤ s
    · by_cases hy : s - (r - t) * (r - t) < e
      · rw [if_pos ⟨hx.1, hx.2, Or.inl hy⟩, if_pos ⟨hx.1, hx.2, by omega⟩]
      · by_cases hy2 : s - (r - t) * (r - t) = e
        · rw [if_neg (fun z => by have := z.2.2; omega), if_pos ⟨hx.1, hx.2, by omega⟩, Nat.add_zero]
          have : bN (evU m (evR m d) r s t) = 0#64 := by
            unfold evU
            rw [if_pos hx, hy2, show bN (evR m d t e * binom (m - t) (r - t)) = bN (evR m d t e) * bN (binom (m - t) (r - t)) from BitVec.ofNat_mul .., hz, BitVec.zero_mul]
          show bN _ = bN _
          rw [show bN (fb_sm (evU m (evR m d) r s) t + evU m (evR m d) r s t) = bN (fb_sm (evU m (evR m d) r s) t) + bN (evU m (evR m d) r s t) from BitVec.ofNat_add .., this, BitVec.add_zero]
        · rw [if_neg (fun z => by have := z.2.2; omega), if_neg (fun z => by have := z.2.2; omega)]
    · rw [if_neg (fun z => hx ⟨z.1, z.2.1⟩), if_neg (fun z => hx ⟨z.1, z.2.1⟩)]
theorem s250t_t {K : MI → MJ → B3 → Prop} {m d : Nat} {J0 : MJ} (hm : m ≤ 15) (hc : chT J0) (hw : erJt J0 m (evR m d)) (hh : 2 ≤ h) (g : ∀ J2, frJ [113] J0 J2 → (∀ r s : Nat, r ≤ m → s < 226 → J2 113 (226 * r + s) = bN (evR m (d + 1) r s)) → K I J2 (f1, false, f3)) : ∀ (c t : Nat) (J' : MJ), t + c = m + 1 → frJ [113] J0 J' → (∀ r s : Nat, r ≤ m → s < 226 → J' 113 (226 * r + s) = bN (fb_sm (evU m (evR m d) r s) t)) → Tri G h 250 119 119 24 [some (vr 91), some (vi m), some (vi t)] [] (I, J', PP (f1, true, f3)) (cVN K) := by
  intro c
  induction c with
  | zero =>
    intro t J' ht hf hr
    obtain rfl : t = m + 1 := ht
    refine x250t_24 (Nat.zero_le _) ⟨fun _ => ?_, fun z => by omega⟩
    rw [pp_t]
    exact cVN_r (g J' hf hr)
  | succ c ih =>
    intro t J' ht hf hr
    refine x250t_24 (Nat.zero_le _) ⟨fun z => by omega, fun _ => s250t_e (J0 := J0) hm (by omega) hc hw hh (fun J2 hf2 hr2 => ih (t + 1) J2 (by omega) hf2 hr2) 226 0 J' rfl hf (fun r s h1 h2 => ?_)⟩
    rw [hr r s h1 h2]
    unfold eacct
    rw [if_neg (fun z => by have := z.2.2; omega), Nat.add_zero]
theorem s250t_z {Q : MP} {m : Nat} {J0 : MJ} (g : ∀ J2, frJ [113] J0 J2 → (∀ j : Nat, j < 3616 → J2 113 j = 0#64) → Tri G h 250 119 119 24 [some (vr 91), some (vi m), some (vi 0)] [] (I, J2, PP (f1, true, f3)) Q) : ∀ (c i : Nat) (J' : MJ), i + c = 3616 → frJ [113] J0 J' → (∀ j : Nat, j < i → J' 113 j = 0#64) → Tri G h 250 119 119 2 [some (vr 91), some (vi m), some (vi i)] [] (I, J', PP (f1, true, f3)) Q := by
  intro c
  induction c with
  | zero =>
    intro i J' hi hf hr
    exact x250t_2 (Nat.zero_le _) ⟨fun _ => g J' hf fun j hj => hr j (by omega), fun z => by omega⟩
  | succ c ih =>
    intro i J' hi hf hr
    refine x250t_2 (Nat.zero_le _) ⟨fun z => by omega, fun _ => ⟨by omega, ?_⟩⟩
    rw [w32_id (by omega) (by omega), toN]
    refine ih (i + 1) _ (by omega) (hf.u (by decide)) (fun j hj => ?_)
    by_cases h1 : j = i
    · subst h1; exact u2e
    · rw [u2j h1]; exact hr j (by omega)
theorem s250t {K : MI → MJ → B3 → Prop} {m d : Nat} (hm : m ≤ 15) (hc : chT J) (hw : erJt J m (evR m d)) (hh : 3 ≤ h) (g : ∀ J2, frJ [113] J J2 → (∀ r s : Nat, r ≤ m → s < 226 → J2 113 (226 * r + s) = bN (evR m (d + 1) r s)) → K I J2 (f1, false, f3)) : TriM G h 250 119 119 [vr 91, vi m] (I, J, PP (f1, true, f3)) (cVN K) := by
  refine x250t_m hh (fun h hh => x250t (by omega) (s250t_z (J0 := J) (fun J2 hf hz => ?_) 3616 0 J rfl frJ.r (fun j hj => by omega)))
  refine s250t_t (J0 := J) hm hc hw hh g (m + 1) 0 J2 (by omega) hf (fun r s h1 h2 => ?_)
  rw [hz _ (by omega)]
  rfl
theorem s251t_s {K : BitVec 64 → MI → MJ → B3 → Prop} {m M : Nat} (hm : m ≤ 15) (hM : M ≤ 225) (hw : erJt J m (evR m 10)) (g : K (evS 10 m (M + 1)) I J (f1, true, f3)) : ∀ (c s : Nat), s + c = M + 1 → Tri G h 251 119 119 85 [some (vr 91), none, some (vi M), some (vi m), some (vl (evS 10 m s)), none, some (vi s)] [] (I, J, PP (f1, true, f3)) (cJN K) := by
  intro c
  induction c with
  | zero =>
    intro s hs
    obtain rfl : s = M + 1 := hs
    exact x251t_85 (Nat.zero_le _) ⟨fun _ => cJN_r g, fun z => by omega⟩
  | succ c ih =>
    intro s hs
    have e : evR m 10 m s = evW 10 m s := by
      have hb : binom m m = 1 := by
        have h1 := binom_fac m m (Nat.le_refl _)
        rw [Nat.sub_self] at h1
        have h2 := fac_pos m
        have h3 : binom m m * fac m = 1 * fac m := by
          rw [Nat.one_mul]
          have : fac m * fac 0 = fac m := Nat.mul_one _
          rw [this] at h1
          exact h1
        exact Nat.eq_of_mul_eq_mul_right h2 h3
      rw [evR_W 10 m s (Nat.le_refl _), hb, Nat.one_mul]
    refine x251t_85 (Nat.zero_le _) ?_
    rw [w32_id (x := 226 * (m : Int)) (by omega) (by omega), w32_id (x := 226 * (m : Int) + s) (by omega) (by omega), w32_id (x := (s : Int) + 1) (by omega) (by omega), show (226 * (m : Int) + (s : Int)).toNat = 226 * m + s by omega, hw m s (Nat.le_refl _) (by omega), e]
    exact ⟨fun z => by omega, fun _ => ⟨by omega, ih (s + 1) (by omega)⟩⟩
theorem s251t_z {Q : MP} {m M : Nat} {J0 : MJ} (g : ∀ J2, frJ [112] J0 J2 → (∀ j : Nat, j < 3616 → J2 112 j = 0#64) → Tri G h 251 119 119 61 [some (vr 91), none, some (vi M), some (vi m), some (vi 0)] [] (I, u2 J2 112 0 (1#64), PP (f1, true, f3)) Q) : ∀ (c i : Nat) (J' : MJ), i + c = 3616 → frJ [112] J0 J' → (∀ j : Nat, j < i → J' 112 j = 0#64) → Tri G h 251 119 119 29 [some (vr 91), none, some (vi M), some (vi m), some (vi i)] [] (I, J', PP (f1, true, f3)) Q := by
  intro c
  induction c with
  | zero =>
    intro i J' hi hf hr
    exact x251t_29 (Nat.zero_le _) ⟨fun _ => g J' hf fun j hj => hr j (by omega), fun z => by omega⟩
  | succ c ih =>
    intro i J' hi hf hr
    refine x251t_29 (Nat.zero_le _) ⟨fun z => by omega, fun _ => ⟨by omega, ?_⟩⟩
    rw [w32_id (by omega) (by omega), toN]
    refine ih (i + 1) _ (by omega) (hf.u (by decide)) (fun j hj => ?_)
    by_cases h1 : j = i
    · subst h1; exact u2e
    · rw [u2j h1]; exact hr j (by omega)

/-- the reference's rows -/
theorem pp_f : u2 (u2 (PP (f1, false, f3)) 91 36 112) 91 37 113 = PP (f1, true, f3) := by
  funext k j
  by_cases hk : k = 91
  · subst hk
    by_cases h37 : j = 37
    · subst h37; rw [u2e]; rfl
    · rw [u2j h37]
      by_cases h36 : j = 36
      · subst h36; rw [u2e]; rfl
      · rw [u2j h36]
        unfold PP
        have key : ∀ j, j ≠ 36 → j ≠ 37 → pswap (f1, false, f3) ((ppT.getD 91 []).getD j 1000) = pswap (f1, true, f3) ((ppT.getD 91 []).getD j 1000) := by
          intro j a1 a2
          by_cases hj : j < 43
          · have all : ∀ j, j < 43 → j ≠ 36 → j ≠ 37 → ∀ f1 f3 : Bool, pswap (f1, false, f3) ((ppT.getD 91 []).getD j 1000) = pswap (f1, true, f3) ((ppT.getD 91 []).getD j 1000) := by decide +kernel
            exact all j hj a1 a2 f1 f3
          · have e : (ppT.getD 91 []).getD j 1000 = 1000 := by
              rw [List.getD_eq_getElem?_getD, List.getElem?_eq_none (by show 43 ≤ j; omega)]
              rfl
            rw [e]
            rfl
        exact key j h36 h37
  · rw [u2_ne hk, u2_ne hk]
    funext
    unfold PP
    have key : ∀ v : Nat, v ≠ 902 → v ≠ 903 → pswap (f1, false, f3) v = pswap (f1, true, f3) v := by
      intro v h1 h2
      unfold pswap
      split
      · rfl
      · split
        · rfl
        · rfl
        · exact absurd rfl h1
        · exact absurd rfl h2
        · rfl
        · rfl
        · rfl
    have hv : (ppT.getD k []).getD j 1000 ≠ 902 ∧ (ppT.getD k []).getD j 1000 ≠ 903 := by
      by_cases hk2 : k < 119
      · have all : ∀ k, k < 119 → k ≠ 91 → ∀ v ∈ ppT.getD k [], v ≠ 902 ∧ v ≠ 903 := by decide +kernel
        rw [List.getD_eq_getElem?_getD (i := j)]
        cases hg : (ppT.getD k [])[j]? with
        | none => decide
        | some v => exact all k hk2 hk v (List.mem_of_getElem? hg)
      · have e : ppT.getD k [] = [] := by
          rw [List.getD_eq_getElem?_getD, List.getElem?_eq_none (by show 119 ≤ k; omega)]
          rfl
        rw [e]
        exact ⟨by simp, by simp⟩
    exact key _ hv.1 hv.2
def erJf (J : MJ) (m : Nat) (f : Nat → Nat → Nat) : Prop := ∀ r s : Nat, r ≤ m → s < 226 → J 113 (226 * r + s) = bN (f r s)
/-- while digits are laid: what has come to (r, s) -/
def eaccf (m d t e q r s : Nat) : Nat := fb_sm (evU m (evR m d) r s) t + (if t ≤ r ∧ (r - t) * (r - t) ≤ s ∧ (s - (r - t) * (r - t) < e ∨ (s - (r - t) * (r - t) = e ∧ r - t < q)) then evU m (evR m d) r s t else 0)
theorem s250f_n {Q : MP} {m d t e : Nat} {J0 : MJ} (hm : m ≤ 15) (ht : t ≤ m) (he : e < 226) (hc : chT J0) (hw : erJf J0 m (evR m d)) (hh : 2 ≤ h) (g : ∀ J2, frJ [112] J0 J2 → (∀ r s : Nat, r ≤ m → s < 226 → J2 112 (226 * r + s) = bN (eaccf m d t (e + 1) 0 r s)) → Tri G h 250 119 119 31 [some (vr 91), some (vi m), some (vi t), some (vi ((e : Int) + 1))] [] (I, J2, PP (f1, false, f3)) Q) : ∀ (c q : Nat) (J' : MJ), q + c = m - t + 1 → frJ [112] J0 J' → (∀ r s : Nat, r ≤ m → s < 226 → J' 112 (226 * r + s) = bN (eaccf m d t e q r s)) → Tri G h 250 119 119 61 [some (vr 91), some (vi m), some (vi t), some (vi e), some (vi q)] [] (I, J', PP (f1, false, f3)) Q := by
  intro c
  induction c with
  | zero =>
    intro q J' hq hf hr
    refine x250f_61 hh ?_
    rw [w32_id (x := (t : Int) + q) (by omega) (by omega), w32_id (x := (e : Int) + 1) (by omega) (by omega)]
    refine ⟨fun _ => g J' hf fun r s h1 h2 => ?_, fun z => by omega⟩
    rw [hr r s h1 h2]
    unfold eaccf
    refine congrArg bN (congrArg (fun w => fb_sm (evU m (evR m d) r s) t + w) ?_)
    by_cases hx : t ≤ r ∧ (r - t) * (r - t) ≤ s
    · by_cases hy : s - (r - t) * (r - t) < e + 1
      · rw [if_pos ⟨hx.1, hx.2, by omega⟩, if_pos ⟨hx.1, hx.2, Or.inl hy⟩]
      · rw [if_neg (fun z => by have := z.2.2; omega), if_neg (fun z => by have := z.2.2; omega)]
    · rw [if_neg (fun z => hx ⟨z.1, z.2.1⟩), if_neg (fun z => hx ⟨z.1, z.2.1⟩)]
  | succ c ih =>
    intro q J' hq hf hr
    have hqq : q * q ≤ 225 := by
      have : q * q ≤ 15 * 15 := Nat.mul_le_mul (by omega) (by omega)
      omega
    have e4 : w32 ((q : Int) * q) = ((q * q : Nat) : Int) := by rw [w32_id (by rw [← Int.natCast_mul]; omega) (by rw [← Int.natCast_mul]; omega), Int.natCast_mul]
    have hch : chT J' := fun n k h1 h2 => by rw [hf 109 (by decide)]; exact hc n k h1 h2
    refine x250f_61 hh ?_
    rw [e4, w32_id (x := (t : Int) + q) (by omega) (by omega), w32_id (x := (e : Int) + 1) (by omega) (by omega), w32_id (x := (e : Int) + ((q * q : Nat) : Int)) (by omega) (by omega), w32_id (x := (q : Int) + 1) (by omega) (by omega), w32_id (x := 226 * ((t : Int) + q)) (by omega) (by omega), w32_id (x := 226 * ((t : Int) + q) + e) (by omega) (by omega), w32_id (x := 226 * ((t : Int) + q) + e + ((q * q : Nat) : Int)) (by omega) (by omega), w32_id (x := 226 * (t : Int)) (by omega) (by omega), w32_id (x := 226 * (t : Int) + e) (by omega) (by omega), w32_id (x := (m : Int) - t) (by omega) (by omega), w32_id (x := 61 * ((m : Int) - t)) (by omega) (by omega), w32_id (x := 61 * ((m : Int) - t) + q) (by omega) (by omega)]
    refine ⟨fun z => by omega, fun _ => ⟨fun z => ?_, fun z => ⟨by omega, by omega, fun _ => ⟨by omega, by omega, ?_⟩, fun z2 => by omega⟩⟩⟩
    · refine ih (q + 1) J' (by omega) hf (fun r s h1 h2 => ?_)
      rw [hr r s h1 h2]
      unfold eaccf
      refine congrArg bN (congrArg (fun w => fb_sm (evU m (evR m d) r s) t + w) ?_)
      by_cases hx : t ≤ r ∧ (r - t) * (r - t) ≤ s
      · by_cases hy : s - (r - t) * (r - t) < e ∨ (s - (r - t) * (r - t) = e ∧ r - t < q)
        · rw [if_pos ⟨hx.1, hx.2, hy⟩, if_pos ⟨hx.1, hx.2, by omega⟩]
        · by_cases hz : s - (r - t) * (r - t) = e ∧ r - t = q
          · exfalso
            have h9 := hz.2
            have h8 := hz.1
            rw [h9] at h8 hx
            omega
          · rw [if_neg (fun z => hy z.2.2), if_neg (fun z => by have := z.2.2; omega)]
      · rw [if_neg (fun z => hx ⟨z.1, z.2.1⟩), if_neg (fun z => hx ⟨z.1, z.2.1⟩)]
    · rw [chT_at hch (p := (m : Int) - t) (q := q) (by omega) (by omega)]
      have ech : chB ((m : Int) - t) q = bN (binom (m - t) q) := by
        unfold chB
        rw [if_pos (by omega), toN, show ((m : Int) - (t : Int)).toNat = m - t by omega]
      rw [ech, show (226 * ((t : Int) + (q : Int)) + (e : Int) + ((q * q : Nat) : Int)).toNat = 226 * (t + q) + (e + q * q) by omega, show (226 * (t : Int) + (e : Int)).toNat = 226 * t + e by omega, hr (t + q) (e + q * q) (by omega) (by omega), show J' 113 = J0 113 from hf 113 (by decide), hw t e ht he]
      refine ih (q + 1) _ (by omega) (hf.u (by decide)) (fun r s h1 h2 => ?_)
      by_cases hx : r = t + q ∧ s = e + q * q
      · obtain ⟨rfl, rfl⟩ := hx
        rw [u2e]
        have et : t + q - t = q := by omega
        have es : e + q * q - q * q = e := by omega
        unfold eaccf
        rw [et, es, if_neg (fun z => by have := z.2.2; omega), if_pos ⟨by omega, by omega, Or.inr ⟨rfl, Nat.lt_succ_self _⟩⟩, Nat.add_zero, ← BitVec.ofNat_mul, ← BitVec.ofNat_add]
        refine congrArg bN (congrArg (fun w => fb_sm (evU m (evR m d) (t + q) (e + q * q)) t + w) ?_)
        unfold evU
        rw [et, es, if_pos ⟨by omega, by omega⟩]
      · rw [u2j (by omega), hr r s h1 h2]
        unfold eaccf
        refine congrArg bN (congrArg (fun w => fb_sm (evU m (evR m d) r s) t + w) ?_)
        by_cases hx2 : t ≤ r ∧ (r - t) * (r - t) ≤ s
        · by_cases hy : s - (r - t) * (r - t) < e ∨ (s - (r - t) * (r - t) = e ∧ r - t < q)
          · rw [if_pos ⟨hx2.1, hx2.2, hy⟩, if_pos ⟨hx2.1, hx2.2, by omega⟩]
          · by_cases hz : s - (r - t) * (r - t) = e ∧ r - t = q
            · exfalso
              have h9 := hz.2
              have h8 := hz.1
              rw [h9] at h8 hx2
              exact hx ⟨by omega, by omega⟩
            · rw [if_neg (fun z => hy z.2.2), if_neg (fun z => by have := z.2.2; omega)]
        · rw [if_neg (fun z => hx2 ⟨z.1, z.2.1⟩), if_neg (fun z => hx2 ⟨z.1, z.2.1⟩)]
theorem s250f_e {Q : MP} {m d t : Nat} {J0 : MJ} (hm : m ≤ 15) (ht : t ≤ m) (hc : chT J0) (hw : erJf J0 m (evR m d)) (hh : 2 ≤ h) (g : ∀ J2, frJ [112] J0 J2 → (∀ r s : Nat, r ≤ m → s < 226 → J2 112 (226 * r + s) = bN (fb_sm (evU m (evR m d) r s) (t + 1))) → Tri G h 250 119 119 24 [some (vr 91), some (vi m), some (vi ((t : Int) + 1))] [] (I, J2, PP (f1, false, f3)) Q) : ∀ (c e : Nat) (J' : MJ), e + c = 226 → frJ [112] J0 J' → (∀ r s : Nat, r ≤ m → s < 226 → J' 112 (226 * r + s) = bN (eaccf m d t e 0 r s)) → Tri G h 250 119 119 31 [some (vr 91), some (vi m), some (vi t), some (vi e)] [] (I, J', PP (f1, false, f3)) Q := by
  intro c
  induction c with
  | zero =>
    intro e J' he hf hr
    refine x250f_31 (Nat.zero_le _) ?_
    rw [w32_id (x := (t : Int) + 1) (by omega) (by omega)]
    refine ⟨fun _ => g J' hf fun r s h1 h2 => ?_, fun z => by omega⟩
    rw [hr r s h1 h2]
    unfold eaccf
    rw [fb_sm_succ]
    refine congrArg bN (congrArg (fun w => fb_sm (evU m (evR m d) r s) t + w) ?_)
    by_cases hx : t ≤ r ∧ (r - t) * (r - t) ≤ s
    · rw [if_pos ⟨hx.1, hx.2, by omega⟩]
    · rw [if_neg (fun z => hx ⟨z.1, z.2.1⟩)]
      unfold evU
      rw [if_neg hx]
  | succ c ih =>
    intro e J' he hf hr
    refine x250f_31 (Nat.zero_le _) ?_
    rw [w32_id (x := 226 * (t : Int)) (by omega) (by omega), w32_id (x := 226 * (t : Int) + e) (by omega) (by omega), w32_id (x := (e : Int) + 1) (by omega) (by omega), show (226 * (t : Int) + (e : Int)).toNat = 226 * t + e by omega, show J' 113 = J0 113 from hf 113 (by decide), hw t e ht (by omega)]
    refine ⟨fun z => by omega, fun _ => ⟨by omega, fun z => s250f_n (J0 := J0) hm ht (by omega) hc hw hh (fun J2 hf2 hr2 => ih (e + 1) J2 (by omega) hf2 hr2) (m - t + 1) 0 J' (by omega) hf hr, fun z => ?_⟩⟩
    have hz : bN (evR m d t e) = 0#64 := lCmp_0.1 (by omega)
    refine ih (e + 1) J' (by omega) hf (fun r s h1 h2 => ?_)
    rw [hr r s h1 h2]
    unfold eaccf
    by_cases hx : t ≤ r ∧ (r - t) * (r - t) ≤ s
    · by_cases hy : s - (r - t) * (r - t) < e
      · rw [if_pos ⟨hx.1, hx.2, Or.inl hy⟩, if_pos ⟨hx.1, hx.2, by omega⟩]
      · by_cases hy2 : s - (r - t) * (r - t) = e
        · rw [if_neg (fun z => by have := z.2.2; omega), if_pos ⟨hx.1, hx.2, by omega⟩, Nat.add_zero]
          have : bN (evU m (evR m d) r s t) = 0#64 := by
            unfold evU
            rw [if_pos hx, hy2, show bN (evR m d t e * binom (m - t) (r - t)) = bN (evR m d t e) * bN (binom (m - t) (r - t)) from BitVec.ofNat_mul .., hz, BitVec.zero_mul]
          show bN _ = bN _
          rw [show bN (fb_sm (evU m (evR m d) r s) t + evU m (evR m d) r s t) = bN (fb_sm (evU m (evR m d) r s) t) + bN (evU m (evR m d) r s t) from BitVec.ofNat_add .., this, BitVec.add_zero]
        · rw [if_neg (fun z => by have := z.2.2; omega), if_neg (fun z => by have := z.2.2; omega)]
    · rw [if_neg (fun z => hx ⟨z.1, z.2.1⟩), if_neg (fun z => hx ⟨z.1, z.2.1⟩)]
theorem s250f_t {K : MI → MJ → B3 → Prop} {m d : Nat} {J0 : MJ} (hm : m ≤ 15) (hc : chT J0) (hw : erJf J0 m (evR m d)) (hh : 2 ≤ h) (g : ∀ J2, frJ [112] J0 J2 → (∀ r s : Nat, r ≤ m → s < 226 → J2 112 (226 * r + s) = bN (evR m (d + 1) r s)) → K I J2 (f1, true, f3)) : ∀ (c t : Nat) (J' : MJ), t + c = m + 1 → frJ [112] J0 J' → (∀ r s : Nat, r ≤ m → s < 226 → J' 112 (226 * r + s) = bN (fb_sm (evU m (evR m d) r s) t)) → Tri G h 250 119 119 24 [some (vr 91), some (vi m), some (vi t)] [] (I, J', PP (f1, false, f3)) (cVN K) := by
  intro c
  induction c with
  | zero =>
    intro t J' ht hf hr
    obtain rfl : t = m + 1 := ht
    refine x250f_24 (Nat.zero_le _) ⟨fun _ => ?_, fun z => by omega⟩
    rw [pp_f]
    exact cVN_r (g J' hf hr)
  | succ c ih =>
    intro t J' ht hf hr
    refine x250f_24 (Nat.zero_le _) ⟨fun z => by omega, fun _ => s250f_e (J0 := J0) hm (by omega) hc hw hh (fun J2 hf2 hr2 => ih (t + 1) J2 (by omega) hf2 hr2) 226 0 J' rfl hf (fun r s h1 h2 => ?_)⟩
    rw [hr r s h1 h2]
    unfold eaccf
    rw [if_neg (fun z => by have := z.2.2; omega), Nat.add_zero]
theorem s250f_z {Q : MP} {m : Nat} {J0 : MJ} (g : ∀ J2, frJ [112] J0 J2 → (∀ j : Nat, j < 3616 → J2 112 j = 0#64) → Tri G h 250 119 119 24 [some (vr 91), some (vi m), some (vi 0)] [] (I, J2, PP (f1, false, f3)) Q) : ∀ (c i : Nat) (J' : MJ), i + c = 3616 → frJ [112] J0 J' → (∀ j : Nat, j < i → J' 112 j = 0#64) → Tri G h 250 119 119 2 [some (vr 91), some (vi m), some (vi i)] [] (I, J', PP (f1, false, f3)) Q := by
  intro c
  induction c with
  | zero =>
    intro i J' hi hf hr
    exact x250f_2 (Nat.zero_le _) ⟨fun _ => g J' hf fun j hj => hr j (by omega), fun z => by omega⟩
  | succ c ih =>
    intro i J' hi hf hr
    refine x250f_2 (Nat.zero_le _) ⟨fun z => by omega, fun _ => ⟨by omega, ?_⟩⟩
    rw [w32_id (by omega) (by omega), toN]
    refine ih (i + 1) _ (by omega) (hf.u (by decide)) (fun j hj => ?_)
    by_cases h1 : j = i
    · subst h1; exact u2e
    · rw [u2j h1]; exact hr j (by omega)
theorem s250f {K : MI → MJ → B3 → Prop} {m d : Nat} (hm : m ≤ 15) (hc : chT J) (hw : erJf J m (evR m d)) (hh : 3 ≤ h) (g : ∀ J2, frJ [112] J J2 → (∀ r s : Nat, r ≤ m → s < 226 → J2 112 (226 * r + s) = bN (evR m (d + 1) r s)) → K I J2 (f1, true, f3)) : TriM G h 250 119 119 [vr 91, vi m] (I, J, PP (f1, false, f3)) (cVN K) := by
  refine x250f_m hh (fun h hh => x250f (by omega) (s250f_z (J0 := J) (fun J2 hf hz => ?_) 3616 0 J rfl frJ.r (fun j hj => by omega)))
  refine s250f_t (J0 := J) hm hc hw hh g (m + 1) 0 J2 (by omega) hf (fun r s h1 h2 => ?_)
  rw [hz _ (by omega)]
  rfl
theorem s251f_s {K : BitVec 64 → MI → MJ → B3 → Prop} {m M : Nat} (hm : m ≤ 15) (hM : M ≤ 225) (hw : erJf J m (evR m 10)) (g : K (evS 10 m (M + 1)) I J (f1, false, f3)) : ∀ (c s : Nat), s + c = M + 1 → Tri G h 251 119 119 85 [some (vr 91), none, some (vi M), some (vi m), some (vl (evS 10 m s)), none, some (vi s)] [] (I, J, PP (f1, false, f3)) (cJN K) := by
  intro c
  induction c with
  | zero =>
    intro s hs
    obtain rfl : s = M + 1 := hs
    exact x251f_85 (Nat.zero_le _) ⟨fun _ => cJN_r g, fun z => by omega⟩
  | succ c ih =>
    intro s hs
    have e : evR m 10 m s = evW 10 m s := by
      have hb : binom m m = 1 := by
        have h1 := binom_fac m m (Nat.le_refl _)
        rw [Nat.sub_self] at h1
        have h2 := fac_pos m
        have h3 : binom m m * fac m = 1 * fac m := by
          rw [Nat.one_mul]
          have : fac m * fac 0 = fac m := Nat.mul_one _
          rw [this] at h1
          exact h1
        exact Nat.eq_of_mul_eq_mul_right h2 h3
      rw [evR_W 10 m s (Nat.le_refl _), hb, Nat.one_mul]
    refine x251f_85 (Nat.zero_le _) ?_
    rw [w32_id (x := 226 * (m : Int)) (by omega) (by omega), w32_id (x := 226 * (m : Int) + s) (by omega) (by omega), w32_id (x := (s : Int) + 1) (by omega) (by omega), show (226 * (m : Int) + (s : Int)).toNat = 226 * m + s by omega, hw m s (Nat.le_refl _) (by omega), e]
    exact ⟨fun z => by omega, fun _ => ⟨by omega, ih (s + 1) (by omega)⟩⟩
theorem s251f_z {Q : MP} {m M : Nat} {J0 : MJ} (g : ∀ J2, frJ [113] J0 J2 → (∀ j : Nat, j < 3616 → J2 113 j = 0#64) → Tri G h 251 119 119 61 [some (vr 91), none, some (vi M), some (vi m), some (vi 0)] [] (I, u2 J2 113 0 (1#64), PP (f1, false, f3)) Q) : ∀ (c i : Nat) (J' : MJ), i + c = 3616 → frJ [113] J0 J' → (∀ j : Nat, j < i → J' 113 j = 0#64) → Tri G h 251 119 119 29 [some (vr 91), none, some (vi M), some (vi m), some (vi i)] [] (I, J', PP (f1, false, f3)) Q := by
  intro c
  induction c with
  | zero =>
    intro i J' hi hf hr
    exact x251f_29 (Nat.zero_le _) ⟨fun _ => g J' hf fun j hj => hr j (by omega), fun z => by omega⟩
  | succ c ih =>
    intro i J' hi hf hr
    refine x251f_29 (Nat.zero_le _) ⟨fun z => by omega, fun _ => ⟨by omega, ?_⟩⟩
    rw [w32_id (by omega) (by omega), toN]
    refine ih (i + 1) _ (by omega) (hf.u (by decide)) (fun j hj => ?_)
    by_cases h1 : j = i
    · subst h1; exact u2e
    · rw [u2j h1]; exact hr j (by omega)

/-- both ways round -/
theorem s251_d {K : BitVec 64 → MI → MJ → B3 → Prop} {m M : Nat} {J0 : MJ} (hh : 3 ≤ h) (hm : m ≤ 15) (hM : M ≤ 225) (hc : chT J0) (g : ∀ J2 f, frJ [112, 113] J0 J2 → K (evS 10 m (M + 1)) I J2 (f1, f, f3)) : ∀ (c d : Nat) (J' : MJ) (f : Bool), d + c = 10 → frJ [112, 113] J0 J' → (f = true → erJt J' m (evR m d)) → (f = false → erJf J' m (evR m d)) → Tri G h 251 119 119 61 [some (vr 91), none, some (vi M), some (vi m), some (vi d)] [] (I, J', PP (f1, f, f3)) (cJN K) := by
  intro c
  induction c with
  | zero =>
    intro d J' f hd hf ht hf2
    obtain rfl : d = 10 := hd
    cases f with
    | true => exact x251t_61 hh ⟨fun _ => s251t_s hm hM (ht rfl) (g J' true hf) (M + 1) 0 (Nat.zero_add _), fun z => by omega⟩
    | false => exact x251f_61 hh ⟨fun _ => s251f_s hm hM (hf2 rfl) (g J' false hf) (M + 1) 0 (Nat.zero_add _), fun z => by omega⟩
  | succ c ih =>
    intro d J' f hd hf ht hf2
    have hch : chT J' := fun n k h1 h2 => by rw [hf 109 (by decide)]; exact hc n k h1 h2
    cases f with
    | true =>
      refine x251t_61 hh ⟨fun z => by omega, fun _ => s250t (d := d) hm hch (ht rfl) (by omega) fun J2 hf3 hr => ?_⟩
      rw [w32_id (by omega) (by omega)]
      exact ih (d + 1) J2 false (by omega) (hf.t (hf3.mo (by decide))) (fun q => absurd q (by decide)) (fun _ r s h1 h2 => hr r s h1 h2)
    | false =>
      refine x251f_61 hh ⟨fun z => by omega, fun _ => s250f (d := d) hm hch (hf2 rfl) (by omega) fun J2 hf3 hr => ?_⟩
      rw [w32_id (by omega) (by omega)]
      exact ih (d + 1) J2 true (by omega) (hf.t (hf3.mo (by decide))) (fun _ r s h1 h2 => hr r s h1 h2) (fun q => absurd q (by decide))
theorem s251 {K : BitVec 64 → MI → MJ → B3 → Prop} (hh : 4 ≤ h) (hx : 0 ≤ x ∧ x < 11) (hB : rBook 0 92 I) (hc : choI J) (g : ∀ I2 J2 J3 b2, fr91 I I2 → frJ [109] J J2 → chT J2 → frJ [112, 113] J2 J3 → K (evS 10 (evD I x).2.toNat ((evN I x).toNat + 1)) I2 J3 b2) : TriM G h 251 119 119 [vr 91, vi x] (I, J, PP b) (cJN K) := by
  have h1 := evD_ok hB x
  have h2 := evN_b hB x
  obtain ⟨N, hN⟩ : ∃ N : Nat, (evD I x).2 = N := ⟨(evD I x).2.toNat, by have := h1.2.2.1; omega⟩
  obtain ⟨M, hM⟩ : ∃ M : Nat, evN I x = M := ⟨(evN I x).toNat, by omega⟩
  have hN2 : N ≤ 15 := by have := h1.2.2.2; omega
  rw [hN, hM, toN, toN] at g
  obtain ⟨f1, f, f3⟩ := b
  have w0 : ∀ (J2 : MJ) (k : Nat), (∀ j : Nat, j < 3616 → J2 k j = 0#64) → ∀ r s : Nat, r ≤ N → s < 226 → u2 J2 k 0 (1#64) k (226 * r + s) = bN (evR N 0 r s) := by
    intro J2 k hz r s hr hs
    by_cases hc2 : r = 0 ∧ s = 0
    · obtain ⟨rfl, rfl⟩ := hc2
      exact u2e
    · rw [u2j (by omega), hz _ (by omega)]
      show _ = bN (if r = 0 ∧ s = 0 then 1 else 0)
      rw [if_neg hc2]
  cases f with
  | true =>
    refine x251t_m hh (fun h hh => x251t hh ⟨fun _ => s240 (by omega) hc fun J2 hf2 ht2 => s247 (by omega) hB fun I2 hfi h35 => ?_, fun q => absurd hx q⟩)
    rw [h35, hN, hM]
    refine s251t_z (J0 := J2) (fun J3 hf3 hz => ?_) 3616 0 J2 rfl frJ.r (fun j hj => by omega)
    exact s251_d (J0 := J2) hh hN2 (by omega) ht2 (fun J4 f hf4 => g I2 J2 J4 _ hfi hf2 ht2 hf4) 10 0 _ true rfl ((hf3.mo (by decide)).u (by decide)) (fun _ => w0 J3 112 hz) (fun q => absurd q (by decide))
  | false =>
    refine x251f_m hh (fun h hh => x251f hh ⟨fun _ => s240 (by omega) hc fun J2 hf2 ht2 => s247 (by omega) hB fun I2 hfi h35 => ?_, fun q => absurd hx q⟩)
    rw [h35, hN, hM]
    refine s251f_z (J0 := J2) (fun J3 hf3 hz => ?_) 3616 0 J2 rfl frJ.r (fun j hj => by omega)
    exact s251_d (J0 := J2) hh hN2 (by omega) ht2 (fun J4 f hf4 => g I2 J2 J4 _ hfi hf2 ht2 hf4) 10 0 _ false rfl ((hf3.mo (by decide)).u (by decide)) (fun q => absurd q (by decide)) (fun _ => w0 J3 113 hz)
theorem pub_even (hI : INV n I J) (hn : n < 64) (hh : 40 ≤ h) : PairJ G h 159 251 [vi x] (n + 1) I J b := by
  have hI2 := hI.suc hn
  obtain ⟨hB, hc⟩ : rBook 0 92 I ∧ choI J := by
    obtain ⟨p0, p1, p2, ⟨a1, a2, a3, a4, a5⟩, -, -, -, -, -, -, hc, -⟩ := hI
    exact ⟨a2, hc⟩
  refine x159_m (by omega) (fun h2 hh2 => x159 hh2 ⟨fun q => s43 (by omega) hB fun I2 J2 hf hf2 => cJN_r ?_, fun q => cJN_r ?_⟩)
  · have ek : ∀ I2, frK [83] I I2 → evD I2 x = evD I x := by
      intro I2 hf2
      have e : ∀ m e s, tlF I2 x m e s = tlF I x m e s := by
        intro m
        induction m with
        | zero => intro e s; rfl
        | succ m ih =>
          intro e s
          simp only [tlF]
          rw [byE_k hf2 (by decide)]
          have e5 : fact I2 e 5 = fact I e 5 := by unfold fact; rw [hf2 8 (by decide)]
          rw [e5]
          exact ih _ _
      unfold evD
      rw [e, hf2 7 (by decide)]
    have hc2 : choI J2 := by unfold choI; rw [hf2 109 (by decide)]; exact hc
    refine s251 (by omega) q (hB.k hf (by decide)) hc2 fun I3 J3 J4 b4 hf3 hj3 ht3 hj4 => ⟨?_, ?_⟩
    · have e1 := ek I2 hf
      unfold evN
      rw [e1]
    · have i1 := hI2.sc (J' := J2) (hf.mo (by decide)) (fun k hk => hf2 k (by revert hk; simp; omega))
      have i2 := (i1.ch hj3 ht3).f91 hf3
      exact i2.sc frK.r (fun k hk => hj4 k (by revert hk; simp; omega))
  · obtain ⟨f1, f, f3⟩ := b
    cases f with
    | true => exact x251t_m (by omega) fun h3 hh3 => x251t (by omega) ⟨fun z => absurd z q, fun _ => cJN_r ⟨rfl, hI2⟩⟩
    | false => exact x251f_m (by omega) fun h3 hh3 => x251f (by omega) ⟨fun z => absurd z q, fun _ => cJN_r ⟨rfl, hI2⟩⟩
end EVEN
