set_option maxRecDepth 100000 in
theorem x218 {G : Ctx} {h : Nat} {Q : MP} {I : Nat → Nat → Int} {J : Nat → Nat → BitVec 64} {b : B3} {x : Int} (hh : 10 ≤ h) (H : (((0 : Int) ≤ x ∧ x ≤ (2 : Int)) → (TriM G h 206 119 119 [vr 91] (u2 (u2 (u2 (u2 (u2 I 91 16 0) 91 8 x) 91 12 0) 91 9 0) 91 10 0, J, PP b) (cVN fun I1 J1 b1 => (Tri G h 218 119 119 57 [some (vr 91), some (vi x), some (vi 1)] [] (I1, J1, PP b1) Q)))) ∧ (¬ ((0 : Int) ≤ x ∧ x ≤ (2 : Int)) → (Q (some (vi (-1))) (u2 (u2 (u2 (u2 I 91 16 0) 91 11 0) 91 18 0) 91 20 (-1), J, PP b)))) : Tri G h 218 119 119 0 [some (vr 91), some (vi x)] [] (I, J, PP b) Q := wp_at ck218 [(57, [true, true, true]), (145, [true, true, false, true]), (234, [true, true, false, true])] 400 (sx181 (by omega)  (fun q2256 => And.intro (fun _ => cVN_go (H.1 q2256) (fun I1 J1 b1 q2258 => q2258)) (fun z => absurd (show ¬ (1 : Int) = (0 : Int) by decide) z)) (fun q2257 => And.intro (fun z => absurd z (show ¬ (¬ (0 : Int) = (0 : Int)) by decide)) (fun _ => H.2 q2257)))
set_option maxRecDepth 100000 in
theorem x218_57 {G : Ctx} {h : Nat} {Q : MP} {I : Nat → Nat → Int} {J : Nat → Nat → BitVec 64} {b : B3} {l1 l2 : Int} (hh : 1 ≤ h) (H : ((l2 = 0) → (((l2 = 0) → (((¬ l2 = 0) → ((0 ≤ (w32 (2500 + l1)) ∧ (w32 (2500 + l1)) < (5120 : Int)) ∧ (Tri G h 218 119 119 145 [some (vr 91), some (vi l1), none, some (vi 0)] [] (u2 (u2 (u2 (u2 I 91 11 0) 91 18 (I 91 16)) 91 20 (I 91 17)) 92 ((w32 (2500 + l1)).toNat) (I 91 9), J, PP b) Q))) ∧ (¬ (¬ l2 = 0) → (Q (some (vi (-1))) (u2 (u2 (u2 I 91 11 0) 91 18 (I 91 16)) 91 20 (I 91 17), J, PP b))))) ∧ (¬ (l2 = 0) → (((¬ l2 = 0) → ((0 ≤ (w32 (2500 + l1)) ∧ (w32 (2500 + l1)) < (5120 : Int)) ∧ (Tri G h 218 119 119 145 [some (vr 91), some (vi l1), none, some (vi 0)] [] (u2 (u2 (u2 (u2 I 91 11 0) 91 18 (I 91 16)) 91 20 (-1)) 92 ((w32 (2500 + l1)).toNat) (I 91 9), J, PP b) Q))) ∧ (¬ (¬ l2 = 0) → (Q (some (vi (-1))) (u2 (u2 (u2 I 91 11 0) 91 18 (I 91 16)) 91 20 (-1), J, PP b))))))) ∧ (¬ (l2 = 0) → ((((I 91 13) = 0) → (((l2 = 0) → (((¬ l2 = 0) → ((0 ≤ (w32 (2500 + l1)) ∧ (w32 (2500 + l1)) < (5120 : Int)) ∧ (Tri G h 218 119 119 145 [some (vr 91), some (vi l1), none, some (vi 0)] [] (u2 (u2 (u2 (u2 I 91 11 0) 91 18 (I 91 16)) 91 20 (I 91 17)) 92 ((w32 (2500 + l1)).toNat) (I 91 9), J, PP b) Q))) ∧ (¬ (¬ l2 = 0) → (Q (some (vi (-1))) (u2 (u2 (u2 I 91 11 0) 91 18 (I 91 16)) 91 20 (I 91 17), J, PP b))))) ∧ (¬ (l2 = 0) → (((¬ l2 = 0) → ((0 ≤ (w32 (2500 + l1)) ∧ (w32 (2500 + l1)) < (5120 : Int)) ∧ (Tri G h 218 119 119 145 [some (vr 91), some (vi l1), none, some (vi 0)] [] (u2 (u2 (u2 (u2 I 91 11 0) 91 18 (I 91 16)) 91 20 (-1)) 92 ((w32 (2500 + l1)).toNat) (I 91 9), J, PP b) Q))) ∧ (¬ (¬ l2 = 0) → (Q (some (vi (-1))) (u2 (u2 (u2 I 91 11 0) 91 18 (I 91 16)) 91 20 (-1), J, PP b))))))) ∧ (¬ ((I 91 13) = 0) → (TriM G h 217 119 119 [vr 91] (I, J, PP b) (cIN fun r1 I1 J1 b1 => (((r1 = 0) → (Tri G h 218 119 119 57 [some (vr 91), some (vi l1), some (vi r1)] [] (u2 I1 91 9 (w32 ((I1 91 9) + 0)), J1, PP b1) Q)) ∧ (¬ (r1 = 0) → (Tri G h 218 119 119 57 [some (vr 91), some (vi l1), some (vi r1)] [] (u2 I1 91 9 (w32 ((I1 91 9) + 1)), J1, PP b1) Q))))))))) : Tri G h 218 119 119 57 [some (vr 91), some (vi l1), some (vi l2)] [] (I, J, PP b) Q := wp_at ck218 [(57, [true, true, true]), (145, [true, true, false, true]), (234, [true, true, false, true])] 400 (And.intro (fun q2259 => H.1 q2259) (fun q2260 => And.intro (fun q2261 => (H.2 q2260).1 q2261) (fun q2262 => cIN_go ((H.2 q2260).2 q2262) (fun r1 I1 J1 b1 q2263 => q2263))))
set_option maxRecDepth 100000 in
theorem x218_145 {G : Ctx} {h : Nat} {Q : MP} {I : Nat → Nat → Int} {J : Nat → Nat → BitVec 64} {b : B3} {l1 l3 : Int} (hh : 0 ≤ h) (H : (((I 91 9) ≤ l3) → (Tri G h 218 119 119 234 [some (vr 91), some (vi l1), none, some (vi 0)] [] (I, J, PP b) Q)) ∧ (¬ ((I 91 9) ≤ l3) → ((0 ≤ (w32 (3 * l3)) ∧ (w32 (3 * l3)) < (48 : Int)) ∧ ((0 ≤ (w32 ((w32 (2610 + (w32 (16 * l1)))) + l3)) ∧ (w32 ((w32 (2610 + (w32 (16 * l1)))) + l3)) < (5120 : Int)) ∧ ((0 ≤ (w32 ((w32 (3 * l3)) + 1)) ∧ (w32 ((w32 (3 * l3)) + 1)) < (48 : Int)) ∧ ((0 ≤ (w32 ((w32 (2510 + (w32 (16 * l1)))) + l3)) ∧ (w32 ((w32 (2510 + (w32 (16 * l1)))) + l3)) < (5120 : Int)) ∧ ((0 ≤ (w32 ((w32 (3 * l3)) + 2)) ∧ (w32 ((w32 (3 * l3)) + 2)) < (48 : Int)) ∧ ((0 ≤ (w32 ((w32 (2560 + (w32 (16 * l1)))) + l3)) ∧ (w32 ((w32 (2560 + (w32 (16 * l1)))) + l3)) < (5120 : Int)) ∧ (Tri G h 218 119 119 145 [some (vr 91), some (vi l1), none, some (vi (w32 (l3 + 1)))] [] (u2 (u2 (u2 I 92 ((w32 ((w32 (2610 + (w32 (16 * l1)))) + l3)).toNat) (I 94 ((w32 (3 * l3)).toNat))) 92 ((w32 ((w32 (2510 + (w32 (16 * l1)))) + l3)).toNat) (I 94 ((w32 ((w32 (3 * l3)) + 1)).toNat))) 92 ((w32 ((w32 (2560 + (w32 (16 * l1)))) + l3)).toNat) (I 94 ((w32 ((w32 (3 * l3)) + 2)).toNat)), J, PP b) Q))))))))) : Tri G h 218 119 119 145 [some (vr 91), some (vi l1), none, some (vi l3)] [] (I, J, PP b) Q := wp_at ck218 [(57, [true, true, true]), (145, [true, true, false, true]), (234, [true, true, false, true])] 400 H
set_option maxRecDepth 100000 in
theorem x218_234 {G : Ctx} {h : Nat} {Q : MP} {I : Nat → Nat → Int} {J : Nat → Nat → BitVec 64} {b : B3} {l1 l3 : Int} (hh : 0 ≤ h) (H : (((w32 (2 * (I 91 10))) ≤ l3) → (Q (some (vi (I 91 9))) (I, J, PP b))) ∧ (¬ ((w32 (2 * (I 91 10))) ≤ l3) → ((0 ≤ l3 ∧ l3 < (820 : Int)) ∧ ((0 ≤ (w32 ((w32 (2660 + (w32 (820 * l1)))) + l3)) ∧ (w32 ((w32 (2660 + (w32 (820 * l1)))) + l3)) < (5120 : Int)) ∧ (Tri G h 218 119 119 234 [some (vr 91), some (vi l1), none, some (vi (w32 (l3 + 1)))] [] (u2 I 92 ((w32 ((w32 (2660 + (w32 (820 * l1)))) + l3)).toNat) (I 95 l3.toNat), J, PP b) Q))))) : Tri G h 218 119 119 234 [some (vr 91), some (vi l1), none, some (vi l3)] [] (I, J, PP b) Q := wp_at ck218 [(57, [true, true, true]), (145, [true, true, false, true]), (234, [true, true, false, true])] 400 H
theorem x218_m {G : Ctx} {h : Nat} {Q : MP} {I : Nat → Nat → Int} {J : Nat → Nat → BitVec 64} {b : B3} {x : Int} (hh : 11 ≤ h) (H : ∀ h, 10 ≤ h → Tri G h 218 119 119 0 [some (vr 91), some (vi x)] [] (I, J, PP b) Q) : TriM G h 218 119 119 [vr 91, vi x] (I, J, PP b) Q := TriM_intro (h - 1) (by omega) (by decide) (Nat.le_of_ble_eq_true rfl) (Nat.le_refl _) (Nat.le_refl _) (H (h - 1) (by omega))
set_option maxRecDepth 100000 in
theorem x113_13 {G : Ctx} {h : Nat} {Q : MP} {I : Nat → Nat → Int} {J : Nat → Nat → BitVec 64} {b : B3} (hh : 1 ≤ h) (H : Q none (u1 (u2 (u2 I 13 0 (I 62 2)) 13 2 (I 62 3)) 14 (fun j => if 0 ≤ j ∧ j < 0 + 400 then I 63 (0 + (j - 0)) else I 14 j), J, PP b)) : Tri G h 113 119 119 0 [some (vr 13), some (vr 62)] [] (I, J, PP b) Q := wp_at ck113 [] 400 (And.intro (by omega) (And.intro (show (0 : Int) ≤ 0 ∧ (0 : Int) ≤ 0 ∧ (0 : Int) ≤ 400 ∧ (0 : Int) + 400 ≤ ((400 : Nat) : Int) ∧ (0 : Int) + 400 ≤ ((400 : Nat) : Int) by decide) H))
theorem x113_13_m {G : Ctx} {h : Nat} {Q : MP} {I : Nat → Nat → Int} {J : Nat → Nat → BitVec 64} {b : B3} (hh : 2 ≤ h) (H : ∀ h, 1 ≤ h → Tri G h 113 119 119 0 [some (vr 13), some (vr 62)] [] (I, J, PP b) Q) : TriM G h 113 119 119 [vr 13, vr 62] (I, J, PP b) Q := TriM_intro (h - 1) (by omega) (by decide) (Nat.le_of_ble_eq_true rfl) (Nat.le_refl _) (Nat.le_refl _) (H (h - 1) (by omega))
set_option maxRecDepth 100000 in
theorem x113_16 {G : Ctx} {h : Nat} {Q : MP} {I : Nat → Nat → Int} {J : Nat → Nat → BitVec 64} {b : B3} (hh : 1 ≤ h) (H : Q none (u1 (u2 (u2 I 16 0 (I 62 2)) 16 2 (I 62 3)) 17 (fun j => if 0 ≤ j ∧ j < 0 + 400 then I 63 (0 + (j - 0)) else I 17 j), J, PP b)) : Tri G h 113 119 119 0 [some (vr 16), some (vr 62)] [] (I, J, PP b) Q := wp_at ck113 [] 400 (And.intro (by omega) (And.intro (show (0 : Int) ≤ 0 ∧ (0 : Int) ≤ 0 ∧ (0 : Int) ≤ 400 ∧ (0 : Int) + 400 ≤ ((400 : Nat) : Int) ∧ (0 : Int) + 400 ≤ ((400 : Nat) : Int) by decide) H))
theorem x113_16_m {G : Ctx} {h : Nat} {Q : MP} {I : Nat → Nat → Int} {J : Nat → Nat → BitVec 64} {b : B3} (hh : 2 ≤ h) (H : ∀ h, 1 ≤ h → Tri G h 113 119 119 0 [some (vr 16), some (vr 62)] [] (I, J, PP b) Q) : TriM G h 113 119 119 [vr 16, vr 62] (I, J, PP b) Q := TriM_intro (h - 1) (by omega) (by decide) (Nat.le_of_ble_eq_true rfl) (Nat.le_refl _) (Nat.le_refl _) (H (h - 1) (by omega))
set_option maxRecDepth 100000 in
theorem x113_19 {G : Ctx} {h : Nat} {Q : MP} {I : Nat → Nat → Int} {J : Nat → Nat → BitVec 64} {b : B3} (hh : 1 ≤ h) (H : Q none (u1 (u2 (u2 I 19 0 (I 62 2)) 19 2 (I 62 3)) 20 (fun j => if 0 ≤ j ∧ j < 0 + 400 then I 63 (0 + (j - 0)) else I 20 j), J, PP b)) : Tri G h 113 119 119 0 [some (vr 19), some (vr 62)] [] (I, J, PP b) Q := wp_at ck113 [] 400 (And.intro (by omega) (And.intro (show (0 : Int) ≤ 0 ∧ (0 : Int) ≤ 0 ∧ (0 : Int) ≤ 400 ∧ (0 : Int) + 400 ≤ ((400 : Nat) : Int) ∧ (0 : Int) + 400 ≤ ((400 : Nat) : Int) by decide) H))
theorem x113_19_m {G : Ctx} {h : Nat} {Q : MP} {I : Nat → Nat → Int} {J : Nat → Nat → BitVec 64} {b : B3} (hh : 2 ≤ h) (H : ∀ h, 1 ≤ h → Tri G h 113 119 119 0 [some (vr 19), some (vr 62)] [] (I, J, PP b) Q) : TriM G h 113 119 119 [vr 19, vr 62] (I, J, PP b) Q := TriM_intro (h - 1) (by omega) (by decide) (Nat.le_of_ble_eq_true rfl) (Nat.le_refl _) (Nat.le_refl _) (H (h - 1) (by omega))
set_option maxRecDepth 100000 in
theorem x145_0 {G : Ctx} {h : Nat} {Q : MP} {I : Nat → Nat → Int} {J : Nat → Nat → BitVec 64} {b : B3} (hh : 41 ≤ h) (H : ((0 ≤ (0 : Int) ∧ (0 : Int) < (3 : Int)) → (TriM G h 63 119 119 [vr 62, vr 61, vi (I 0 4), vi 0] (u2 (u2 (u2 I 0 4 0) 0 5 0) 0 6 (-1), J, PP b) (cVN fun I1 J1 b1 => (TriM G h 68 119 119 [vr 62] (I1, J1, PP b1) (cVN fun I2 J2 b2 => ((((I2 62 0) = 0) → (Q (some (vi (I2 62 2))) (u2 (u1 (u2 (u2 (u2 (u2 I2 0 5 (I2 62 0)) 0 6 (I2 62 1)) 13 0 (I2 62 2)) 13 2 (I2 62 3)) 14 (fun j => if 0 ≤ j ∧ j < 0 + 400 then I2 63 (0 + (j - 0)) else I2 14 j)) 72 3 1, u1 (u1 J2 70 (fun j => if j < 224 then (0#64) else J2 70 j)) 71 (fun j => if j < 224 then (0#64) else J2 71 j), PP b2))) ∧ (¬ ((I2 62 0) = 0) → (Q (some (vi (-1))) (u2 (u2 I2 0 5 (I2 62 0)) 0 6 (I2 62 1), J2, PP b2))))))))) ∧ (¬ (0 ≤ (0 : Int) ∧ (0 : Int) < (3 : Int)) → (Q (some (vi (-1))) (u2 (u2 (u2 I 0 4 0) 0 5 0) 0 6 (-1), J, PP b)))) : Tri G h 145 119 119 0 [some (vr 0), some (vi 0)] [] (I, J, PP b) Q := wp_at ck145 [] 400 (sx172 (by omega)  (fun q2264 => And.intro (fun _ => And.intro (fun _ => cVN_go (H.1 q2264) (fun I1 J1 b1 q2266 => cVN_go q2266 (fun I2 J2 b2 q2267 => And.intro (fun q2268 => st130_0 (by omega) (x113_13_m (by omega) (fun h hh => x113_13 hh (cV_r (x57_m (by omega) (fun h hh => x57 hh (cV_r (x80_m (by omega) (fun h hh => x80 hh (cV_r (q2267.1 q2268))))))))))) (fun q2269 => q2267.2 q2269)))) (fun z => absurd (show ¬ (0 : Int) = (2 : Int) by decide) z)) (fun z => absurd (show ¬ (1 : Int) = (0 : Int) by decide) z)) (fun q2265 => And.intro (fun z => absurd z (show ¬ (¬ (0 : Int) = (0 : Int)) by decide)) (fun _ => H.2 q2265)))
theorem x145_0_m {G : Ctx} {h : Nat} {Q : MP} {I : Nat → Nat → Int} {J : Nat → Nat → BitVec 64} {b : B3} (hh : 42 ≤ h) (H : ∀ h, 41 ≤ h → Tri G h 145 119 119 0 [some (vr 0), some (vi 0)] [] (I, J, PP b) Q) : TriM G h 145 119 119 [vr 0, vi 0] (I, J, PP b) Q := TriM_intro (h - 1) (by omega) (by decide) (Nat.le_of_ble_eq_true rfl) (Nat.le_refl _) (Nat.le_refl _) (H (h - 1) (by omega))
set_option maxRecDepth 100000 in
theorem x145_1 {G : Ctx} {h : Nat} {Q : MP} {I : Nat → Nat → Int} {J : Nat → Nat → BitVec 64} {b : B3} (hh : 41 ≤ h) (H : ((0 ≤ (1 : Int) ∧ (1 : Int) < (3 : Int)) → (TriM G h 63 119 119 [vr 62, vr 61, vi (I 0 4), vi 0] (u2 (u2 (u2 I 0 4 0) 0 5 0) 0 6 (-1), J, PP b) (cVN fun I1 J1 b1 => (TriM G h 68 119 119 [vr 62] (I1, J1, PP b1) (cVN fun I2 J2 b2 => ((((I2 62 0) = 0) → (Q (some (vi (I2 62 2))) (u2 (u1 (u2 (u2 (u2 (u2 I2 0 5 (I2 62 0)) 0 6 (I2 62 1)) 16 0 (I2 62 2)) 16 2 (I2 62 3)) 17 (fun j => if 0 ≤ j ∧ j < 0 + 400 then I2 63 (0 + (j - 0)) else I2 17 j)) 72 3 1, u1 (u1 J2 70 (fun j => if j < 224 then (0#64) else J2 70 j)) 71 (fun j => if j < 224 then (0#64) else J2 71 j), PP b2))) ∧ (¬ ((I2 62 0) = 0) → (Q (some (vi (-1))) (u2 (u2 I2 0 5 (I2 62 0)) 0 6 (I2 62 1), J2, PP b2))))))))) ∧ (¬ (0 ≤ (1 : Int) ∧ (1 : Int) < (3 : Int)) → (Q (some (vi (-1))) (u2 (u2 (u2 I 0 4 0) 0 5 0) 0 6 (-1), J, PP b)))) : Tri G h 145 119 119 0 [some (vr 0), some (vi 1)] [] (I, J, PP b) Q := wp_at ck145 [] 400 (sx172 (by omega)  (fun q2270 => And.intro (fun _ => And.intro (fun _ => cVN_go (H.1 q2270) (fun I1 J1 b1 q2272 => cVN_go q2272 (fun I2 J2 b2 q2273 => And.intro (fun q2274 => st130_1 (by omega) (x113_16_m (by omega) (fun h hh => x113_16 hh (cV_r (x57_m (by omega) (fun h hh => x57 hh (cV_r (x80_m (by omega) (fun h hh => x80 hh (cV_r (q2273.1 q2274))))))))))) (fun q2275 => q2273.2 q2275)))) (fun z => absurd (show ¬ (1 : Int) = (2 : Int) by decide) z)) (fun z => absurd (show ¬ (1 : Int) = (0 : Int) by decide) z)) (fun q2271 => And.intro (fun z => absurd z (show ¬ (¬ (0 : Int) = (0 : Int)) by decide)) (fun _ => H.2 q2271)))
theorem x145_1_m {G : Ctx} {h : Nat} {Q : MP} {I : Nat → Nat → Int} {J : Nat → Nat → BitVec 64} {b : B3} (hh : 42 ≤ h) (H : ∀ h, 41 ≤ h → Tri G h 145 119 119 0 [some (vr 0), some (vi 1)] [] (I, J, PP b) Q) : TriM G h 145 119 119 [vr 0, vi 1] (I, J, PP b) Q := TriM_intro (h - 1) (by omega) (by decide) (Nat.le_of_ble_eq_true rfl) (Nat.le_refl _) (Nat.le_refl _) (H (h - 1) (by omega))
set_option maxRecDepth 100000 in
theorem x145_2 {G : Ctx} {h : Nat} {Q : MP} {I : Nat → Nat → Int} {J : Nat → Nat → BitVec 64} {b : B3} (hh : 41 ≤ h) (H : ((0 ≤ (2 : Int) ∧ (2 : Int) < (3 : Int)) → (TriM G h 63 119 119 [vr 62, vr 61, vi (I 0 4), vi 1] (u2 (u2 (u2 I 0 4 0) 0 5 0) 0 6 (-1), J, PP b) (cVN fun I1 J1 b1 => (TriM G h 68 119 119 [vr 62] (I1, J1, PP b1) (cVN fun I2 J2 b2 => ((((I2 62 0) = 0) → (Q (some (vi (I2 62 2))) (u2 (u1 (u2 (u2 (u2 (u2 I2 0 5 (I2 62 0)) 0 6 (I2 62 1)) 19 0 (I2 62 2)) 19 2 (I2 62 3)) 20 (fun j => if 0 ≤ j ∧ j < 0 + 400 then I2 63 (0 + (j - 0)) else I2 20 j)) 72 3 1, u1 (u1 J2 70 (fun j => if j < 224 then (0#64) else J2 70 j)) 71 (fun j => if j < 224 then (0#64) else J2 71 j), PP b2))) ∧ (¬ ((I2 62 0) = 0) → (Q (some (vi (-1))) (u2 (u2 I2 0 5 (I2 62 0)) 0 6 (I2 62 1), J2, PP b2))))))))) ∧ (¬ (0 ≤ (2 : Int) ∧ (2 : Int) < (3 : Int)) → (Q (some (vi (-1))) (u2 (u2 (u2 I 0 4 0) 0 5 0) 0 6 (-1), J, PP b)))) : Tri G h 145 119 119 0 [some (vr 0), some (vi 2)] [] (I, J, PP b) Q := wp_at ck145 [] 400 (sx172 (by omega)  (fun q2276 => And.intro (fun _ => And.intro (fun z => absurd z (show ¬ (¬ (2 : Int) = (2 : Int)) by decide)) (fun _ => cVN_go (H.1 q2276) (fun I1 J1 b1 q2278 => cVN_go q2278 (fun I2 J2 b2 q2279 => And.intro (fun q2280 => st130_2 (by omega) (x113_19_m (by omega) (fun h hh => x113_19 hh (cV_r (x57_m (by omega) (fun h hh => x57 hh (cV_r (x80_m (by omega) (fun h hh => x80 hh (cV_r (q2279.1 q2280))))))))))) (fun q2281 => q2279.2 q2281))))) (fun z => absurd (show ¬ (1 : Int) = (0 : Int) by decide) z)) (fun q2277 => And.intro (fun z => absurd z (show ¬ (¬ (0 : Int) = (0 : Int)) by decide)) (fun _ => H.2 q2277)))
theorem x145_2_m {G : Ctx} {h : Nat} {Q : MP} {I : Nat → Nat → Int} {J : Nat → Nat → BitVec 64} {b : B3} (hh : 42 ≤ h) (H : ∀ h, 41 ≤ h → Tri G h 145 119 119 0 [some (vr 0), some (vi 2)] [] (I, J, PP b) Q) : TriM G h 145 119 119 [vr 0, vi 2] (I, J, PP b) Q := TriM_intro (h - 1) (by omega) (by decide) (Nat.le_of_ble_eq_true rfl) (Nat.le_refl _) (Nat.le_refl _) (H (h - 1) (by omega))
set_option maxRecDepth 100000 in
theorem x145_n {G : Ctx} {h : Nat} {Q : MP} {I : Nat → Nat → Int} {J : Nat → Nat → BitVec 64} {b : B3} {x : Int} (hh : 1 ≤ h) (H : ((0 ≤ x ∧ x < (3 : Int)) → (Tri G h 145 119 119 30 [some (vr 0), some (vi x), some (vi (I 0 4))] [] (u2 (u2 (u2 I 0 4 0) 0 5 0) 0 6 (-1), J, PP b) Q)) ∧ (¬ (0 ≤ x ∧ x < (3 : Int)) → (Q (some (vi (-1))) (u2 (u2 (u2 I 0 4 0) 0 5 0) 0 6 (-1), J, PP b)))) : Tri G h 145 119 119 0 [some (vr 0), some (vi x)] [] (I, J, PP b) Q := wp_at ck145 [(30, [true, true, true])] 400 (sx172 (by omega)  (fun q2282 => And.intro (fun _ => H.1 q2282) (fun z => absurd (show ¬ (1 : Int) = (0 : Int) by decide) z)) (fun q2283 => And.intro (fun z => absurd z (show ¬ (¬ (0 : Int) = (0 : Int)) by decide)) (fun _ => H.2 q2283)))
theorem x145_n_m {G : Ctx} {h : Nat} {Q : MP} {I : Nat → Nat → Int} {J : Nat → Nat → BitVec 64} {b : B3} {x : Int} (hh : 2 ≤ h) (H : ∀ h, 1 ≤ h → Tri G h 145 119 119 0 [some (vr 0), some (vi x)] [] (I, J, PP b) Q) : TriM G h 145 119 119 [vr 0, vi x] (I, J, PP b) Q := TriM_intro (h - 1) (by omega) (by decide) (Nat.le_of_ble_eq_true rfl) (Nat.le_refl _) (Nat.le_refl _) (H (h - 1) (by omega))
/-! a line of the reference -/
def LM (I I2 : MI) (L st : Nat) (v : Int) (s : List Stp1) : Prop := frK [91, 94, 95] I I2 ∧ I2 91 10 = ((st + s.length : Nat) : Int) ∧ hasSt (I2 95) (2 * st) s ∧ (∀ j, j < 2 * st → I2 95 j = I 95 j) ∧ (∀ j, j ∉ [10, 12, 13, 14, 15, 19] → I2 91 j = I 91 j) ∧ (I2 94 (3 * L) = v ∧ I2 94 (3 * L + 1) = (st : Int) ∧ I2 94 (3 * L + 2) = ((st + s.length : Nat) : Int)) ∧ ∀ j, j < 3 * L → I2 94 j = I 94 j
def FL (I I2 : MI) (e : Int × Nat) : Prop := frK [91, 94, 95] I I2 ∧ I2 91 16 = e.1 ∧ I2 91 17 = (e.2 : Int) ∧ ∀ j, j ∉ [10, 12, 13, 14, 15, 16, 17, 19] → I2 91 j = I 91 j
theorem FM.l {I I2 : MI} {e : Int × Nat} (h : FM I I2 e) : FL I I2 e := ⟨h.1.mo (by decide), h.2⟩
/-- what changed before doesn't matter for a fault -/
theorem FL.t {I I1 I2 : MI} {e : Int × Nat} (hf : frK [91, 94, 95] I I1) (h1 : ∀ j, j ∉ [10, 12, 13, 14, 15, 16, 17, 19] → I1 91 j = I 91 j) (h : FL I1 I2 e) : FL I I2 e := ⟨hf.t h.1, h.2.1, h.2.2.1, fun j hj => by rw [h.2.2.2 j hj, h1 j hj]⟩
theorem MX.y {f : Nat → Int} {n : Nat} {home : Bool} {I I2 : MI} (h : MX f n home I) (hf : frK [91, 94, 95] I I2) (h8 : I2 91 8 = I 91 8) (h11 : I2 91 11 = I 91 11) : MX f n home I2 := by
  obtain ⟨a1, a2, a3, a4, a5, a6⟩ := h
  exact ⟨by rw [hf 96 (by decide)]; exact a1, by rw [h11]; exact a2, a3, a4, by rw [h8]; exact a5, by rw [h8]; exact a6⟩
section TEXT
variable {G : Ctx} {h : Nat} {I : MI} {J : MJ} {b : B3} {f : Nat → Int} {n : Nat} {home : Bool} {ts : List Tok} {st : Nat}
theorem s217 {K : Int → MI → MJ → B3 → Prop} {L : Nat} (hh : 48 ≤ h) (hM : MX f n home I) (hR : RS f n home I ts) (hV : VT home ts) (h10 : I 91 10 = (st : Int)) (hB : st + ts.length ≤ 401) (h9 : I 91 9 = (L : Int)) (hL : L ≤ 16) (h21 : (hdT ts).1 ≠ 21) (kF : ∀ e I2, (if (hdT ts).1 < 2 then (if L = 16 then Sum.inl (3, (hdT ts).2.1) else lnP home ts) else Sum.inl (1, (hdT ts).2.1)) = Sum.inl e → FL I I2 e → K 0 I2 J b) (kS : ∀ s r I2, (hdT ts).1 < 2 → L < 16 → lnP home ts = Sum.inr (s, r) → LM I I2 L st (bgK home (hdT ts).1) s → RS f n home I2 r → VT home r → s.length + 3 + r.length ≤ ts.length → K 1 I2 J b) : TriM G h 217 119 119 [vr 91] (I, J, PP b) (cIN K) := by
  have ho := hV.c.2.1
  have hln := hV.ln
  obtain ⟨hc, hvt⟩ := hV.tk h21
  have body : ∀ h, 47 ≤ h → (hdT ts).1 < 2 → L < 16 → w32 (I 91 13 - 20) = bgK home (hdT ts).1 → ((0 ≤ (w32 (3 * (I 91 9))) ∧ (w32 (3 * (I 91 9))) < (48 : Int)) ∧ (TriM G h 206 119 119 [vr 91] (u2 (u2 I 94 ((w32 (3 * (I 91 9))).toNat) (w32 ((I 91 13) - 20))) 91 19 0, J, PP b) (cVN fun I1 J1 b1 => ((0 ≤ (w32 ((w32 (3 * (I1 91 9))) + 1)) ∧ (w32 ((w32 (3 * (I1 91 9))) + 1)) < (48 : Int)) ∧ (TriM G h 208 119 119 [vr 91, vi 3] (u2 I1 94 ((w32 ((w32 (3 * (I1 91 9))) + 1)).toNat) (I1 91 10), J1, PP b1) (cIN fun r2 I2 J2 b2 => (((r2 = 0) → (cIN K (some (vi 0)) (I2, J2, PP b2))) ∧ (¬ (r2 = 0) → (TriM G h 214 119 119 [vr 91] (I2, J2, PP b2) (cIN fun r3 I3 J3 b3 => (((¬ r3 = 0) → ((0 ≤ (w32 ((w32 (3 * (I3 91 9))) + 2)) ∧ (w32 ((w32 (3 * (I3 91 9))) + 2)) < (48 : Int)) ∧ (TriM G h 208 119 119 [vr 91, vi 159] (u2 I3 94 ((w32 ((w32 (3 * (I3 91 9))) + 2)).toNat) (I3 91 10), J3, PP b3) (cIN fun r4 I4 J4 b4 => ((r4 = 0 ∨ r4 = 1) ∧ cIN K (some (vi r4)) (I4, J4, PP b4)))))) ∧ (¬ (¬ r3 = 0) → (cIN K (some (vi 0)) (I3, J3, PP b3)))))))))))))) := by
    intro h hh hk hL2 hv
    rw [hv, h9, w32_id (x := 3 * (L : Int)) (by omega) (by omega), show (3 * (L : Int)).toNat = 3 * L by omega]
    have kF2 : ∀ e I2, lnP home ts = Sum.inl e → FL I I2 e → K 0 I2 J b := fun e I2 he hF => kF e I2 (by rw [if_pos hk, if_neg (by omega)]; exact he) hF
    have hfa : frK [91, 94, 95] I (u2 (u2 I 94 (3 * L) (bgK home (hdT ts).1)) 91 19 0) := (frK.r.u (by decide)).u (by decide)
    have a91 : ∀ j, j ≠ 19 → (u2 (u2 I 94 (3 * L) (bgK home (hdT ts).1)) 91 19 0) 91 j = I 91 j := fun j hj => by rw [u2j hj, u2_ne (by decide)]
    refine ⟨by omega, nxW (by omega) (hM.y hfa (a91 8 (by decide)) (a91 11 (by decide))) (hR.k (fun j j1 j2 => a91 j (by omega))) h21 fun I1 hn1 hr1 => ?_⟩
    have ho1 := hvt.c.2.1
    have hln1 := hvt.ln
    have b91 : ∀ j, j ∉ [12, 13, 14, 15, 19] → I1 91 j = I 91 j := fun j hj => by rw [hn1.2 j (fun z => hj (by revert z; simp; omega)), a91 j (fun z => hj (by rw [z]; decide))]
    rw [b91 9 (by decide), b91 10 (by decide), h9, h10, w32_id (x := 3 * (L : Int)) (by omega) (by omega), w32_id (x := 3 * (L : Int) + 1) (by omega) (by omega), show (3 * (L : Int) + 1).toNat = 3 * L + 1 by omega]
    have hfb : frK [91, 94, 95] I (u2 I1 94 (3 * L + 1) (st : Int)) := (hfa.t (hn1.1.mo (by decide))).u (by decide)
    have c91 : ∀ j, (u2 I1 94 (3 * L + 1) (st : Int)) 91 j = I1 91 j := fun j => by rw [u2_ne (by decide)]
    have hrb : RS f n home (u2 I1 94 (3 * L + 1) (st : Int)) ts.tail := hr1.k (fun j _ _ => c91 j)
    refine ⟨by omega, TriM_intro (h - 1) (by omega) (by decide) (Nat.le_of_ble_eq_true rfl) (Nat.le_refl _) (Nat.le_refl _) (x208 (by omega) ?_)⟩
    rw [hrb.1, tm_3 ho1.1]
    have el : lnP home ts = (if (hdT ts.tail).1 = 2 then bnd (anyP (onP home 8) ts.tail.tail) (fun s r => if (hdT r).1 = 59 then Sum.inr (s, r.tail) else badP 1 r) else badP 1 ts.tail) := rfl
    refine ⟨fun k2 => ?_, fun k2 => cIN_r fun _ => ⟨fun _ => cIN_r fun _ => kF2 _ _ (by rw [el, if_neg k2]; rfl) (FL.t hfb (fun j hj => by rw [c91, b91 j (fun z => hj (by revert z; simp; omega))]) (FM.bad hrb).l), fun z => absurd rfl z⟩⟩
    rw [if_pos k2] at el
    obtain ⟨hc2, hvt2⟩ := hvt.tk (by omega)
    refine nxW (by omega) (hM.y hfb (by rw [c91, b91 8 (by decide)]) (by rw [c91, b91 11 (by decide)])) hrb (by omega) fun I2 hn2 hr2 => cIN_r fun _ => ⟨fun z => absurd z (by decide), fun _ => ?_⟩
    have hfc : frK [91, 94, 95] I I2 := hfb.t (hn2.1.mo (by decide))
    have d91 : ∀ j, j ∉ [12, 13, 14, 15, 19] → I2 91 j = I 91 j := fun j hj => by rw [hn2.2 j (fun z => hj (by revert z; simp; omega)), c91, b91 j hj]
    have e19 : I2 91 19 = 8 - ((8 : Nat) : Int) := by
      rw [hn2.2 19 (by decide), c91, hn1.2 19 (by decide), u2e]
      rfl
    have hM2 := hM.y hfc (d91 8 (by decide)) (d91 11 (by decide))
    refine s214 (d := 8) (by omega) (s215 (by omega) (s216 8 (h - 1 - 1) (by omega) (by omega))) _ _ _ ts.tail.tail st _ hM2 hr2 hvt2 (by rw [d91 10 (by decide)]; exact h10) (by omega) e19 (fun e I3 he hF => ⟨fun z => absurd rfl z, fun _ => cIN_r fun _ => kF2 e I3 (by rw [el]; exact bnd_l he) (FL.t hfc (fun j hj => d91 j (fun z => hj (by revert z; simp; omega))) hF.l)⟩) (fun s r I3 he hx hr3 hv3 hl3 => ⟨fun _ => ?_, fun z => absurd (by decide) z⟩)
    have ho3 := hv3.c.2.1
    have hln3 := hv3.ln
    have f91 : ∀ j, j ∉ [10, 12, 13, 14, 15, 19] → I3 91 j = I 91 j := fun j hj => by rw [hx.2.2.2.2 j (fun z => hj (by revert z; simp; omega)), d91 j (fun z => hj (by revert z; simp; omega))]
    rw [f91 9 (by decide), hx.2.1, h9, w32_id (x := 3 * (L : Int)) (by omega) (by omega), w32_id (x := 3 * (L : Int) + 2) (by omega) (by omega), show (3 * (L : Int) + 2).toNat = 3 * L + 2 by omega]
    have hfd : frK [91, 94, 95] I (u2 I3 94 (3 * L + 2) ((st + s.length : Nat) : Int)) := (hfc.t (hx.1.mo (by decide))).u (by decide)
    have g91 : ∀ j, (u2 I3 94 (3 * L + 2) ((st + s.length : Nat) : Int)) 91 j = I3 91 j := fun j => by rw [u2_ne (by decide)]
    have hrd : RS f n home (u2 I3 94 (3 * L + 2) ((st + s.length : Nat) : Int)) r := hr3.k (fun j _ _ => g91 j)
    refine ⟨by omega, TriM_intro (h - 1) (by omega) (by decide) (Nat.le_of_ble_eq_true rfl) (Nat.le_refl _) (Nat.le_refl _) (x208 (by omega) ?_)⟩
    rw [hrd.1, tm_159 ho3.1]
    refine ⟨fun k4 => nxW (by omega) (hM.y hfd (by rw [g91, f91 8 (by decide)]) (by rw [g91, f91 11 (by decide)])) hrd (by omega) fun I4 hn4 hr4 => cIN_r fun _ => ⟨Or.inr rfl, cIN_r fun _ => kS s r.tail I4 hk hL2 (by rw [el, bnd_r he, if_pos k4]) ⟨hfd.t (hn4.1.mo (by decide)), ?_, ?_, fun j hj => ?_, fun j hj => ?_, ⟨?_, ?_, ?_⟩, fun j hj => ?_⟩ hr4 (hv3.tk (by omega)).2 (by omega)⟩, fun k4 => cIN_r fun _ => ⟨Or.inl rfl, cIN_r fun _ => kF2 _ _ (by rw [el, bnd_r he, if_neg k4]; rfl) (FL.t hfd (fun j hj => by rw [g91, f91 j (fun z => hj (by revert z; simp; omega))]) (FM.bad hrd).l)⟩⟩
    · rw [hn4.2 10 (by decide), g91]
      exact hx.2.1
    · rw [hn4.1 95 (by decide), u2_ne (by decide)]
      exact hx.2.2.1
    · rw [hn4.1 95 (by decide), u2_ne (by decide), hx.2.2.2.1 j hj, hn2.1 95 (by decide), u2_ne (by decide), hn1.1 95 (by decide), u2_ne (by decide), u2_ne (by decide)]
    · rw [hn4.2 j (fun z => hj (by revert z; simp; omega)), g91, f91 j hj]
    · rw [hn4.1 94 (by decide), u2j (by omega), hx.1 94 (by decide), hn2.1 94 (by decide), u2j (by omega), hn1.1 94 (by decide), u2_ne (by decide), u2e]
    · rw [hn4.1 94 (by decide), u2j (by omega), hx.1 94 (by decide), hn2.1 94 (by decide), u2e]
    · rw [hn4.1 94 (by decide), u2e]
    · rw [hn4.1 94 (by decide), u2j (by omega), hx.1 94 (by decide), hn2.1 94 (by decide), u2j (by omega), hn1.1 94 (by decide), u2_ne (by decide), u2j (by omega)]
  have tl := tm_ln ho.1
  refine TriM_intro (h - 1) (by omega) (by decide) (Nat.le_of_ble_eq_true rfl) (Nat.le_refl _) (Nat.le_refl _) (x217 (by omega) ?_)
  rw [show w32 (20 + 1) = 21 by decide +kernel, show w32 (20 + 2) = 22 by decide +kernel, show w32 (20 + 0) = 20 by decide +kernel]
  have bad1 : ¬ (hdT ts).1 < 2 → K 0 (u2 (u2 I 91 16 1) 91 17 (I 91 14)) J b := fun q => kF _ _ (by rw [if_neg q]) (FM.bad hR).l
  have bad3 : (hdT ts).1 < 2 → ¬ ¬ I 91 9 = 16 → K 0 (u2 (u2 I 91 16 3) 91 17 (I 91 14)) J b := fun q q2 => kF _ _ (by rw [if_pos q, if_pos (by omega)]) (FM.bad hR).l
  cases home with
  | true =>
    have t1 := tl.2 rfl
    refine ⟨fun _ => ⟨fun q1 => ⟨fun q2 => ?_, fun q2 => cIN_r fun _ => bad3 ?_ q2⟩, fun q1 => cIN_r fun _ => bad1 ?_⟩, fun q => absurd (hM.2.2.2.2.1 rfl) q⟩
    · rw [hR.1] at q1
      have hk := t1.1.1 q1
      refine body (h - 1) (by omega) hk (by omega) ?_
      rw [hR.1, (t1.2 hk).1, w32_id (by omega) (by omega)]
      unfold bgK
      rw [if_pos rfl]
      omega
    · rw [hR.1] at q1
      exact t1.1.1 q1
    · rw [hR.1] at q1
      exact fun z => q1 (t1.1.2 z)
  | false =>
    have t1 := tl.1 rfl
    refine ⟨fun q => absurd q (by have := hM.2.2.2.2.2 rfl; omega), fun _ => ⟨fun q1 => ⟨fun q2 => ?_, fun q2 => cIN_r fun _ => bad3 ?_ q2⟩, fun q1 => cIN_r fun _ => bad1 ?_⟩⟩
    · have q3 : I 91 13 = 20 := by omega
      have q4 := q3
      rw [hR.1] at q4
      have hk := t1.1.1 q4
      refine body (h - 1) (by omega) hk (by omega) ?_
      rw [q3]
      rfl
    · have q3 : I 91 13 = 20 := by omega
      rw [hR.1] at q3
      exact t1.1.1 q3
    · intro z
      have q3 := t1.1.2 z
      rw [← hR.1] at q3
      omega
/-! all lines of the reference -/
def RL (I : MI) (i st : Nat) (p : List Lin) : Prop := ∀ (l : Nat) (q : Lin), p[l]? = some q → I 94 (3 * (i + l)) = q.1 ∧ I 94 (3 * (i + l) + 1) = ((st + (stepsOf (p.take l)).length : Nat) : Int) ∧ I 94 (3 * (i + l) + 2) = ((st + (stepsOf (p.take (l + 1))).length : Nat) : Int)
theorem s218_p {Q : MP} {k : Nat} (hh : 48 ≤ h) : ∀ (m i st : Nat) (ts : List Tok) (I' : MI), m + i = 16 → MX f n home I' → RS f n home I' ts → VT home ts → I' 91 9 = (i : Int) → I' 91 10 = (st : Int) → st + ts.length ≤ 401 → I' 91 16 = 0 → (∀ e I2, txP home m ts = Sum.inl e → frK [91, 94, 95] I' I2 → I2 91 16 = e.1 → I2 91 17 = (e.2 : Int) → I2 91 2 = I' 91 2 → Q (some (vi (-1))) (u2 (u2 (u2 I2 91 11 0) 91 18 (I2 91 16)) 91 20 (I2 91 17), J, PP b)) → (∀ p I2, txP home m ts = Sum.inr p → frK [91, 94, 95] I' I2 → I2 91 16 = 0 → I2 91 2 = I' 91 2 → I2 91 9 = ((i + p.length : Nat) : Int) → I2 91 10 = ((st + (stepsOf p).length : Nat) : Int) → RL I2 i st p → (∀ j, j < 3 * i → I2 94 j = I' 94 j) → hasSt (I2 95) (2 * st) (stepsOf p) → (∀ j, j < 2 * st → I2 95 j = I' 95 j) → (0 ≤ (w32 (2500 + (k : Int))) ∧ (w32 (2500 + (k : Int))) < (5120 : Int)) ∧ Tri G h 218 119 119 145 [some (vr 91), some (vi (k : Int)), none, some (vi 0)] [] (u2 (u2 (u2 (u2 I2 91 11 0) 91 18 (I2 91 16)) 91 20 (-1)) 92 ((w32 (2500 + (k : Int))).toNat) (I2 91 9), J, PP b) Q) → Tri G h 218 119 119 57 [some (vr 91), some (vi (k : Int)), some (vi 1)] [] (I', J, PP b) Q := by
  intro m
  induction m with
  | zero =>
    intro i st ts I' hm hM hR hV h9 h10 hB h16 kF kS
    have ho := hV.c.2.1
    have ep : txP home 0 ts = (if (hdT ts).1 = 21 then Sum.inr [] else if (hdT ts).1 < 2 then Sum.inl (3, (hdT ts).2.1) else Sum.inl (1, (hdT ts).2.1)) := rfl
    rw [ep] at kF kS
    refine x218_57 (by omega) ⟨fun q => absurd q (by decide), fun _ => ⟨fun q => ⟨fun q => absurd q (by decide), fun _ => ⟨fun _ => ?_, fun q => absurd (by decide) q⟩⟩, fun q => ?_⟩⟩
    · rw [hR.1, tm_0 ho.1] at q
      exact kS [] I' (by rw [if_pos q]) frK.r h16 rfl (by rw [h9]; rfl) (by rw [h10]; rfl) (fun l q hq => by simp at hq) (fun _ _ => rfl) (fun l q hq => by simp [stepsOf] at hq) (fun _ _ => rfl)
    · rw [hR.1, tm_0 ho.1] at q
      rw [if_neg q] at kF
      refine s217 (L := i) (by omega) hM hR hV h10 hB h9 (by omega) q (fun e I2 he hF => ⟨fun _ => ?_, fun z => absurd rfl z⟩) (fun s r I2 _ hlt => by omega)
      have he2 : (if (hdT ts).1 < 2 then Sum.inl (3, (hdT ts).2.1) else Sum.inl (1, (hdT ts).2.1) : Sum (Int × Nat) (List Lin)) = Sum.inl e := by
        by_cases z : (hdT ts).1 < 2
        · rw [if_pos z, if_pos (by omega)] at he
          rw [if_pos z]
          exact congrArg Sum.inl (Sum.inl.inj he)
        · rw [if_neg z] at he
          rw [if_neg z]
          exact congrArg Sum.inl (Sum.inl.inj he)
      have := kF e (u2 I2 91 9 (w32 (I2 91 9 + 0))) he2 (hF.1.u (by decide)) (by rw [u2j (by decide)]; exact hF.2.1) (by rw [u2j (by decide)]; exact hF.2.2.1) (by rw [u2j (by decide), hF.2.2.2 2 (by decide)])
      exact x218_57 (by omega) ⟨fun _ => ⟨fun _ => ⟨fun z => absurd rfl z, fun _ => this⟩, fun z => absurd rfl z⟩, fun z => absurd rfl z⟩
  | succ m ih =>
    intro i st ts I' hm hM hR hV h9 h10 hB h16 kF kS
    have ho := hV.c.2.1
    have ep : txP home (m + 1) ts = (if (hdT ts).1 = 21 then Sum.inr [] else if (hdT ts).1 < 2 then (match lnP home ts with
    | Sum.inl e => Sum.inl e
    | Sum.inr q => (match txP home m q.2 with
      | Sum.inl e => Sum.inl e
      | Sum.inr p => Sum.inr ((bgK home (hdT ts).1, q.1) :: p))) else Sum.inl (1, (hdT ts).2.1)) := rfl
    rw [ep] at kF kS
    refine x218_57 (by omega) ⟨fun q => absurd q (by decide), fun _ => ⟨fun q => ⟨fun q => absurd q (by decide), fun _ => ⟨fun _ => ?_, fun q => absurd (by decide) q⟩⟩, fun q => ?_⟩⟩
    · rw [hR.1, tm_0 ho.1] at q
      exact kS [] I' (by rw [if_pos q]) frK.r h16 rfl (by rw [h9]; rfl) (by rw [h10]; rfl) (fun l q hq => by simp at hq) (fun _ _ => rfl) (fun l q hq => by simp [stepsOf] at hq) (fun _ _ => rfl)
    · rw [hR.1, tm_0 ho.1] at q
      rw [if_neg q] at kF kS
      refine s217 (L := i) (by omega) hM hR hV h10 hB h9 (by omega) q (fun e I2 he hF => ⟨fun _ => ?_, fun z => absurd rfl z⟩) (fun s r I2 hk hlt he hLM hr2 hv2 hl2 => ⟨fun z => absurd z (by decide), fun _ => ?_⟩)
      · have he2 : (if (hdT ts).1 < 2 then (match lnP home ts with
          | Sum.inl e => Sum.inl e
          | Sum.inr q => (match txP home m q.2 with
            | Sum.inl e => Sum.inl e
            | Sum.inr p => Sum.inr ((bgK home (hdT ts).1, q.1) :: p))) else Sum.inl (1, (hdT ts).2.1) : Sum (Int × Nat) (List Lin)) = Sum.inl e := by
          by_cases z : (hdT ts).1 < 2
          · rw [if_pos z, if_neg (by omega)] at he
            rw [if_pos z, he]
          · rw [if_neg z] at he
            rw [if_neg z]
            exact congrArg Sum.inl (Sum.inl.inj he)
        have := kF e (u2 I2 91 9 (w32 (I2 91 9 + 0))) he2 (hF.1.u (by decide)) (by rw [u2j (by decide)]; exact hF.2.1) (by rw [u2j (by decide)]; exact hF.2.2.1) (by rw [u2j (by decide), hF.2.2.2 2 (by decide)])
        exact x218_57 (by omega) ⟨fun _ => ⟨fun _ => ⟨fun z => absurd rfl z, fun _ => this⟩, fun z => absurd rfl z⟩, fun z => absurd rfl z⟩
      · rw [if_pos hk, he] at kF kS
        dsimp only at kF kS
        obtain ⟨l1, l2, l3, l4, l5, ⟨l6, l7, l8⟩, l9⟩ := hLM
        have e9 : I2 91 9 = (i : Int) := by rw [l5 9 (by decide)]; exact h9
        have hf3 : frK [91, 94, 95] I' (u2 I2 91 9 (w32 (I2 91 9 + 1))) := l1.u (by decide)
        have g91 : ∀ j, j ≠ 9 → (u2 I2 91 9 (w32 (I2 91 9 + 1))) 91 j = I2 91 j := fun j hj => u2j hj
        refine ih (i + 1) (st + s.length) r _ (by omega) (hM.y hf3 (by rw [g91 8 (by decide), l5 8 (by decide)]) (by rw [g91 11 (by decide), l5 11 (by decide)])) (hr2.k (fun j _ _ => g91 j (by omega))) hv2 ?_ ?_ (by omega) ?_ (fun e I3 he3 hf h1 h2 h3 => kF e I3 ?_ (hf3.t hf) h1 h2 ?_) (fun p I3 he3 hf h1 h2 h3 h4 h5 h6 h7 h8 => kS ((bgK home (hdT ts).1, s) :: p) I3 ?_ (hf3.t hf) h1 ?_ ?_ ?_ (fun l q hq => ?_) (fun j hj => ?_) (fun l q hq => ?_) (fun j hj => ?_))
        · rw [u2e, e9, w32_id (by omega) (by omega)]
          rfl
        · rw [g91 10 (by decide)]
          exact l2
        · rw [g91 16 (by decide), l5 16 (by decide)]
          exact h16
        · rw [he3]
        · rw [h3, g91 2 (by decide), l5 2 (by decide)]
        · rw [he3]
        · rw [h2, g91 2 (by decide), l5 2 (by decide)]
        · rw [h3, List.length_cons]
          omega
        · rw [h4]
          show _ = ((st + (s ++ stepsOf p).length : Nat) : Int)
          rw [List.length_append]
          omega
        · cases l with
          | zero =>
            simp only [List.getElem?_cons_zero, Option.some.injEq] at hq
            have e94 : ∀ j, j < 3 * (i + 1) → I3 94 j = I2 94 j := fun j hj => by rw [h6 j hj, u2_ne (by decide)]
            rw [Nat.add_zero, e94 _ (by omega), e94 _ (by omega), e94 _ (by omega), ← hq]
            refine ⟨l6, ?_, ?_⟩
            · rw [l7]
              rfl
            · rw [l8]
              show _ = ((st + (s ++ stepsOf (p.take 0)).length : Nat) : Int)
              rw [List.take_zero, List.length_append]
              rfl
          | succ l =>
            simp only [List.getElem?_cons_succ] at hq
            have := h5 l q hq
            rw [show i + 1 + l = i + (l + 1) by omega] at this
            refine ⟨this.1, ?_, ?_⟩
            · rw [this.2.1, List.take_succ_cons]
              show _ = ((st + (s ++ stepsOf (p.take l)).length : Nat) : Int)
              rw [List.length_append]
              omega
            · rw [this.2.2, List.take_succ_cons]
              show _ = ((st + (s ++ stepsOf (p.take (l + 1))).length : Nat) : Int)
              rw [List.length_append]
              omega
        · rw [h6 j (by omega), u2_ne (by decide), l9 j hj]
        · have hq2 : (s ++ stepsOf p)[l]? = some q := hq
          by_cases hl : l < s.length
          · rw [List.getElem?_append_left hl] at hq2
            have := l3 l q hq2
            rw [h8 _ (by omega), h8 _ (by omega), u2_ne (by decide)]
            exact this
          · rw [List.getElem?_append_right (by omega)] at hq2
            have := h7 (l - s.length) q hq2
            rw [show 2 * (st + s.length) + 2 * (l - s.length) = 2 * st + 2 * l by omega] at this
            exact this
        · rw [h8 j (by omega), u2_ne (by decide), l4 j hj]
/-- where the reference keeps text k -/
def wK (k j : Nat) : Prop := j = 2500 + k ∨ (2610 + 16 * k ≤ j ∧ j < 2610 + 16 * k + 16) ∨ (2510 + 16 * k ≤ j ∧ j < 2510 + 16 * k + 16) ∨ (2560 + 16 * k ≤ j ∧ j < 2560 + 16 * k + 16) ∨ (2660 + 820 * k ≤ j ∧ j < 2660 + 820 * k + 820)
def WT (I I2 : MI) (k : Nat) (p : List Lin) : Prop := I2 92 (2500 + k) = (p.length : Int) ∧ (∀ (i : Nat) (q : Lin), p[i]? = some q → I2 92 (2610 + 16 * k + i) = q.1 ∧ I2 92 (2510 + 16 * k + i) = ((stepsOf (p.take i)).length : Int) ∧ I2 92 (2560 + 16 * k + i) = ((stepsOf (p.take (i + 1))).length : Int)) ∧ hasSt (I2 92) (2660 + 820 * k) (stepsOf p) ∧ ∀ j, ¬ wK k j → I2 92 j = I 92 j
theorem wI {c k i m : Nat} (hk : k < 3) (hc : c ≤ 2700) (hi : i < 820) (hm : m = 16 ∨ m = 820) (hb : c + m * k + i < 5120) : w32 (w32 ((c : Int) + w32 ((m : Int) * (k : Int))) + (i : Int)) = ((c + m * k + i : Nat) : Int) := by
  have h1 : (m : Int) * (k : Int) = ((m * k : Nat) : Int) := (Int.natCast_mul m k).symm
  have h2 : m * k ≤ 1640 := by
    rcases hm with rfl | rfl <;> omega
  rw [h1, w32_id (x := ((m * k : Nat) : Int)) (by omega) (by omega), w32_id (x := (c : Int) + ((m * k : Nat) : Int)) (by omega) (by omega), w32_id (by omega) (by omega)]
  omega
theorem s218_s {Q : MP} {k S : Nat} {I0 : MI} (hk : k < 3) (hS : S ≤ 400) (h10 : I 91 10 = (S : Int)) : ∀ (m i : Nat) (I' : MI), i + m = 2 * S → frK [92] I I' → (∀ j, ¬ (2660 + 820 * k ≤ j ∧ j < 2660 + 820 * k + 820) → I' 92 j = I 92 j) → (∀ j, j < i → I' 92 (2660 + 820 * k + j) = I 95 j) → (∀ I2, frK [92] I I2 → (∀ j, ¬ (2660 + 820 * k ≤ j ∧ j < 2660 + 820 * k + 820) → I2 92 j = I 92 j) → (∀ j, j < 2 * S → I2 92 (2660 + 820 * k + j) = I 95 j) → Q (some (vi (I 91 9))) (I2, J, PP b)) → Tri G h 218 119 119 234 [some (vr 91), some (vi (k : Int)), none, some (vi (i : Int))] [] (I', J, PP b) Q := by
  intro m
  induction m with
  | zero =>
    intro i I' hi hf ho hr kk
    refine x218_234 (Nat.zero_le _) ?_
    rw [hf 91 (by decide), h10, w32_id (x := 2 * (S : Int)) (by omega) (by omega)]
    exact ⟨fun _ => kk I' hf ho (fun j hj => hr j (by omega)), fun q => by omega⟩
  | succ m ih =>
    intro i I' hi hf ho hr kk
    have hw := wI (c := 2660) (k := k) (i := i) (m := 820) hk (by omega) (by omega) (Or.inr rfl) (by omega)
    have hw2 : w32 (w32 (2660 + w32 (820 * (k : Int))) + (i : Int)) = ((2660 + 820 * k + i : Nat) : Int) := hw
    refine x218_234 (Nat.zero_le _) ?_
    rw [hw2, hf 91 (by decide), h10]
    clear hw hw2
    rw [w32_id (x := 2 * (S : Int)) (by omega) (by omega), w32_id (x := (i : Int) + 1) (by omega) (by omega), toN, toN, hf 95 (by decide)]
    refine ⟨fun q => by omega, fun _ => ⟨by omega, by omega, ih (i + 1) _ (by omega) (hf.u (by decide)) (fun j hj => ?_) (fun j hj => ?_) kk⟩⟩
    · rw [u2j (fun z => hj (by omega))]
      exact ho j hj
    · rw [u2_at]
      by_cases e : j = i
      · rw [if_pos (by omega), e]
      · rw [if_neg (by omega)]
        exact hr j (by omega)
theorem s218_t {Q : MP} {k : Nat} {p : List Lin} (hk : k < 3) (hp : p.length ≤ 16) (hS : (stepsOf p).length ≤ 400) (h9 : I 91 9 = (p.length : Int)) (h10 : I 91 10 = ((stepsOf p).length : Int)) (hRL : RL I 0 0 p) (hSt : hasSt (I 95) 0 (stepsOf p)) (kk : ∀ I2, frK [92] I I2 → (∀ (i : Nat) (q : Lin), p[i]? = some q → I2 92 (2610 + 16 * k + i) = q.1 ∧ I2 92 (2510 + 16 * k + i) = ((stepsOf (p.take i)).length : Int) ∧ I2 92 (2560 + 16 * k + i) = ((stepsOf (p.take (i + 1))).length : Int)) → hasSt (I2 92) (2660 + 820 * k) (stepsOf p) → (∀ j, j = 2500 + k ∨ ¬ wK k j → I2 92 j = I 92 j) → Q (some (vi (p.length : Int))) (I2, J, PP b)) : ∀ (m i : Nat) (I' : MI), i + m = p.length → frK [92] I I' → (∀ j, j = 2500 + k ∨ ¬ wK k j → I' 92 j = I 92 j) → (∀ (l : Nat) (q : Lin), l < i → p[l]? = some q → I' 92 (2610 + 16 * k + l) = q.1 ∧ I' 92 (2510 + 16 * k + l) = ((stepsOf (p.take l)).length : Int) ∧ I' 92 (2560 + 16 * k + l) = ((stepsOf (p.take (l + 1))).length : Int)) → Tri G h 218 119 119 145 [some (vr 91), some (vi (k : Int)), none, some (vi (i : Int))] [] (I', J, PP b) Q := by
  intro m
  induction m with
  | zero =>
    intro i I' hi hf ho hr
    refine x218_145 (Nat.zero_le _) ?_
    rw [hf 91 (by decide), h9]
    refine ⟨fun _ => s218_s (I := I') (I0 := I) (S := (stepsOf p).length) hk hS (by rw [hf 91 (by decide)]; exact h10) (2 * (stepsOf p).length) 0 I' (by omega) frK.r (fun _ _ => rfl) (fun j hj => by omega) (fun I2 hf2 ho2 hs2 => ?_), fun q => by omega⟩
    rw [hf 91 (by decide), h9]
    refine kk I2 (hf.t hf2) (fun l q hq => ?_) (fun l q hq => ?_) (fun j hj => ?_)
    · have hl : l < p.length := by
        rw [List.getElem?_eq_some_iff] at hq
        exact hq.1
      rw [ho2 _ (by omega), ho2 _ (by omega), ho2 _ (by omega)]
      exact hr l q (by omega) hq
    · have hl : l < (stepsOf p).length := by
        rw [List.getElem?_eq_some_iff] at hq
        exact hq.1
      have := hSt l q hq
      rw [Nat.zero_add] at this
      rw [hs2 (2 * l) (by omega), Nat.add_assoc, hs2 (2 * l + 1) (by omega), hf 95 (by decide)]
      exact this
    · rw [ho2 j (fun z => ?_)]
      · exact ho j hj
      · rcases hj with hj | hj
        · omega
        · exact hj (Or.inr (Or.inr (Or.inr (Or.inr z))))
  | succ m ih =>
    intro i I' hi hf ho hr
    obtain ⟨q, hq⟩ : ∃ q, p[i]? = some q := ⟨p[i], List.getElem?_eq_getElem (by omega)⟩
    obtain ⟨r1, r2, r3⟩ := hRL i q hq
    rw [Nat.zero_add] at r1 r2 r3
    have hi8 : i < 820 := by omega
    have b1 : 2610 + 16 * k + i < 5120 := by omega
    have b2 : 2510 + 16 * k + i < 5120 := by omega
    have b3 : 2560 + 16 * k + i < 5120 := by omega
    have w1 : w32 (w32 (2610 + w32 (16 * (k : Int))) + (i : Int)) = ((2610 + 16 * k + i : Nat) : Int) := wI (c := 2610) (k := k) (i := i) (m := 16) hk (by decide) hi8 (Or.inl rfl) b1
    have w2 : w32 (w32 (2510 + w32 (16 * (k : Int))) + (i : Int)) = ((2510 + 16 * k + i : Nat) : Int) := wI (c := 2510) (k := k) (i := i) (m := 16) hk (by decide) hi8 (Or.inl rfl) b2
    have w3 : w32 (w32 (2560 + w32 (16 * (k : Int))) + (i : Int)) = ((2560 + 16 * k + i : Nat) : Int) := wI (c := 2560) (k := k) (i := i) (m := 16) hk (by decide) hi8 (Or.inl rfl) b3
    refine x218_145 (Nat.zero_le _) ?_
    rw [w1, w2, w3, hf 91 (by decide), h9]
    clear w1 w2 w3
    rw [w32_id (x := 3 * (i : Int)) (by omega) (by omega), w32_id (x := 3 * (i : Int) + 1) (by omega) (by omega), w32_id (x := 3 * (i : Int) + 2) (by omega) (by omega), w32_id (x := (i : Int) + 1) (by omega) (by omega), show (3 * (i : Int)).toNat = 3 * i by omega, show (3 * (i : Int) + 1).toNat = 3 * i + 1 by omega, show (3 * (i : Int) + 2).toNat = 3 * i + 2 by omega, toN, toN, toN, hf 94 (by decide), r1, r2, r3]
    refine ⟨fun q => by omega, fun _ => ⟨by omega, by omega, by omega, by omega, by omega, by omega, ih (i + 1) _ (by omega) (((hf.u (by decide)).u (by decide)).u (by decide)) (fun j hj => ?_) (fun l q' hl hq' => ?_)⟩⟩
    · have n1 : j ≠ 2560 + 16 * k + i := fun z => by
        rcases hj with hj | hj
        · omega
        · exact hj (Or.inr (Or.inr (Or.inr (Or.inl (by omega)))))
      have n2 : j ≠ 2510 + 16 * k + i := fun z => by
        rcases hj with hj | hj
        · omega
        · exact hj (Or.inr (Or.inr (Or.inl (by omega))))
      have n3 : j ≠ 2610 + 16 * k + i := fun z => by
        rcases hj with hj | hj
        · omega
        · exact hj (Or.inr (Or.inl (by omega)))
      rw [u2j n1, u2j n2, u2j n3]
      exact ho j hj
    · by_cases e : l = i
      · subst e
        rw [hq] at hq'
        rw [← Option.some.inj hq', u2j (by omega), u2j (by omega), u2e, u2j (by omega), u2e, u2e]
        exact ⟨rfl, by rw [Nat.zero_add], by rw [Nat.zero_add]⟩
      · rw [u2j (by omega), u2j (by omega), u2j (by omega), u2j (by omega), u2j (by omega), u2j (by omega), u2j (by omega), u2j (by omega), u2j (by omega)]
        exact hr l q' (by omega) hq'
theorem s218 {K : Int → MI → MJ → B3 → Prop} {k : Nat} (hh : 50 ≤ h) (hk : k < 3) (hhm : home = true ↔ k = 2) (h96 : I 96 = f) (h11 : I 91 11 = (n : Int)) (hn : n ≤ 400) (hb : ∀ i, i < n → 0 ≤ f i ∧ f i < 256) (kF : ∀ e I2, txP home 16 (TK f n home 0) = Sum.inl e → frK [91, 94, 95] I I2 → I2 91 11 = 0 → I2 91 18 = e.1 → I2 91 20 = (e.2 : Int) → I2 91 2 = I 91 2 → K (-1) I2 J b) (kS : ∀ p I2, txP home 16 (TK f n home 0) = Sum.inr p → frK [91, 92, 94, 95] I I2 → I2 91 11 = 0 → I2 91 18 = 0 → I2 91 20 = -1 → I2 91 2 = I 91 2 → WT I I2 k p → K (p.length : Int) I2 J b) : TriM G h 218 119 119 [vr 91, vi (k : Int)] (I, J, PP b) (cIN K) := by
  refine TriM_intro (h - 1) (by omega) (by decide) (Nat.le_of_ble_eq_true rfl) (Nat.le_refl _) (Nat.le_refl _) (x218 (by omega) ⟨fun _ => ?_, fun q => absurd (by omega) q⟩)
  have hf0 : frK [91, 94, 95] I (u2 (u2 (u2 (u2 (u2 I 91 16 0) 91 8 (k : Int)) 91 12 0) 91 9 0) 91 10 0) := ((((frK.r.u (by decide)).u (by decide)).u (by decide)).u (by decide)).u (by decide)
  have a : ∀ j, j ∉ [8, 9, 10, 12, 16] → (u2 (u2 (u2 (u2 (u2 I 91 16 0) 91 8 (k : Int)) 91 12 0) 91 9 0) 91 10 0) 91 j = I 91 j := fun j hj => by
    rw [u2j (fun z => hj (by rw [z]; decide)), u2j (fun z => hj (by rw [z]; decide)), u2j (fun z => hj (by rw [z]; decide)), u2j (fun z => hj (by rw [z]; decide)), u2j (fun z => hj (by rw [z]; decide))]
  have a8 : (u2 (u2 (u2 (u2 (u2 I 91 16 0) 91 8 (k : Int)) 91 12 0) 91 9 0) 91 10 0) 91 8 = (k : Int) := by
    rw [u2j (by decide), u2j (by decide), u2j (by decide), u2e]
  have a16 : (u2 (u2 (u2 (u2 (u2 I 91 16 0) 91 8 (k : Int)) 91 12 0) 91 9 0) 91 10 0) 91 16 = 0 := by
    rw [u2j (by decide), u2j (by decide), u2j (by decide), u2j (by decide), u2e]
  have a12 : (u2 (u2 (u2 (u2 (u2 I 91 16 0) 91 8 (k : Int)) 91 12 0) 91 9 0) 91 10 0) 91 12 = ((0 : Nat) : Int) := by
    rw [u2j (by decide), u2j (by decide), u2e]
    rfl
  have a9 : (u2 (u2 (u2 (u2 (u2 I 91 16 0) 91 8 (k : Int)) 91 12 0) 91 9 0) 91 10 0) 91 9 = ((0 : Nat) : Int) := by
    rw [u2j (by decide), u2e]
    rfl
  have a10 : (u2 (u2 (u2 (u2 (u2 I 91 16 0) 91 8 (k : Int)) 91 12 0) 91 9 0) 91 10 0) 91 10 = ((0 : Nat) : Int) := by
    rw [u2e]
    rfl
  generalize (u2 (u2 (u2 (u2 (u2 I 91 16 0) 91 8 (k : Int)) 91 12 0) 91 9 0) 91 10 0) = I0 at hf0 a a8 a16 a12 a9 a10
  have hM0 : MX f n home I0 := ⟨by rw [hf0 96 (by decide)]; exact h96, by rw [a 11 (by decide)]; exact h11, hn, hb, fun z => by have := hhm.1 z; omega, fun z => by
    have : k ≠ 2 := fun y => by rw [hhm.2 y] at z; exact absurd z (by decide)
    omega⟩
  have hvT := TK_v (f := f) (n := n) (home := home) (n - 0) 0 (Nat.le_refl _)
  have hlT := TK_len (f := f) (n := n) (home := home) (n - 0) 0 (Nat.le_refl _)
  refine s206 (by omega) hM0 (Nat.zero_le _) a12 fun I1 hn1 hr1 => ?_
  refine s218_p (k := k) (by omega) 16 0 0 (TK f n home 0) I1 (by omega) (hM0.n hn1) hr1 hvT (by rw [hn1.2 9 (by decide)]; exact a9) (by rw [hn1.2 10 (by decide)]; exact a10) (by omega) (by rw [hn1.2 16 (by decide)]; exact a16) (fun e I2 he hf h1 h2 h3 => cIN_r fun _ => kF e _ he ((((hf0.t (hn1.1.mo (by decide))).t hf).u (by decide)).u (by decide) |>.u (by decide)) ?_ ?_ ?_ ?_) (fun p I2 he hf h1 h2 h3 h4 h5 h6 h7 h8 => ?_)
  · rw [u2j (by decide), u2j (by decide), u2e]
  · rw [u2j (by decide), u2e]
    exact h1
  · rw [u2e]
    exact h2
  · rw [u2j (by decide), u2j (by decide), u2j (by decide), h3, hn1.2 2 (by decide), a 2 (by decide)]
  · obtain ⟨g1, g2, g3, g4⟩ := txP_g 16 _ hvT p he
    rw [Nat.zero_add] at h3 h4
    have ew : w32 (2500 + (k : Int)) = ((2500 + k : Nat) : Int) := by
      rw [w32_id (by omega) (by omega)]
      omega
    rw [ew, toN, h1, h3]
    clear ew
    have hfB : frK [91, 92, 94, 95] I I2 := (hf0.mo (by decide)).t ((hn1.1.mo (by decide)).t (hf.mo (by decide)))
    have hfC : frK [91, 92, 94, 95] I (u2 (u2 (u2 (u2 I2 91 11 0) 91 18 0) 91 20 (-1)) 92 (2500 + k) (p.length : Int)) := (((hfB.u (by decide)).u (by decide)).u (by decide)).u (by decide)
    have c91 : ∀ j, j ∉ [11, 18, 20] → (u2 (u2 (u2 (u2 I2 91 11 0) 91 18 0) 91 20 (-1)) 92 (2500 + k) (p.length : Int)) 91 j = I2 91 j := fun j hj => by
      rw [u2_ne (by decide), u2j (fun z => hj (by rw [z]; decide)), u2j (fun z => hj (by rw [z]; decide)), u2j (fun z => hj (by rw [z]; decide))]
    have c92 : ∀ j, j ≠ 2500 + k → (u2 (u2 (u2 (u2 I2 91 11 0) 91 18 0) 91 20 (-1)) 92 (2500 + k) (p.length : Int)) 92 j = I 92 j := fun j hj => by
      rw [u2j hj, u2_ne (by decide), u2_ne (by decide), u2_ne (by decide), hf 92 (by decide), hn1.1 92 (by decide), hf0 92 (by decide)]
    refine ⟨by omega, s218_t (k := k) (p := p) hk g1 (by omega) (by rw [c91 9 (by decide)]; exact h3) (by rw [c91 10 (by decide)]; exact h4) ?_ ?_ (fun I5 hf5 t1 t2 t3 => cIN_r fun _ => kS p I5 he (hfC.t (hf5.mo (by decide))) ?_ ?_ ?_ ?_ ⟨?_, t1, t2, fun j hj => ?_⟩) p.length 0 _ (by omega) frK.r (fun _ _ => rfl) (fun l q hl => by omega)⟩
    · intro l q hq
      rw [u2_ne (by decide), u2_ne (by decide), u2_ne (by decide), u2_ne (by decide)]
      exact h5 l q hq
    · rw [u2_ne (by decide), u2_ne (by decide), u2_ne (by decide), u2_ne (by decide)]
      exact h7
    · rw [hf5 91 (by decide), u2_ne (by decide), u2j (by decide), u2j (by decide), u2e]
    · rw [hf5 91 (by decide), u2_ne (by decide), u2j (by decide), u2e]
    · rw [hf5 91 (by decide), u2_ne (by decide), u2e]
    · rw [hf5 91 (by decide), c91 2 (by decide), h2, hn1.2 2 (by decide), a 2 (by decide)]
    · rw [t3 _ (Or.inl rfl), u2e]
    · rw [t3 j (Or.inr hj), c92 j (fun z => hj (Or.inl z))]
theorem rTxt.w {t k k' : Nat} {I I' : MI} {hm : Bool} {p : List Lin} (h : rTxt t 92 k I hm p) (hk : k < 3) (hk' : k' < 3) (hne : k ≠ k') (ht : I' t = I t) (ht1 : I' (t + 1) = I (t + 1)) (hw : ∀ j, ¬ wK k' j → I' 92 j = I 92 j) : rTxt t 92 k I' hm p := by
  obtain ⟨a1, a2, a3, a4, a5, a6, a7, a8⟩ := h
  have nk : ∀ j, wK k j → I' 92 j = I 92 j := by
    intro j hj
    refine hw j (fun z => ?_)
    unfold wK at hj z
    have : (k = 0 ∨ k = 1 ∨ k = 2) ∧ (k' = 0 ∨ k' = 1 ∨ k' = 2) := by omega
    obtain ⟨h1, h2⟩ := this
    rcases h1 with rfl | rfl | rfl <;> rcases h2 with rfl | rfl | rfl <;> omega
  unfold rTxt
  rw [ht, ht1, nk _ (Or.inl rfl)]
  refine ⟨a1, a2, a3, a4, fun i q hq => ?_, fun i q hq => ?_, a7, a8⟩
  · have hi : i < p.length := by
      rw [List.getElem?_eq_some_iff] at hq
      exact hq.1
    rw [nk _ (Or.inr (Or.inl (by omega))), nk _ (Or.inr (Or.inr (Or.inl (by omega)))), nk _ (Or.inr (Or.inr (Or.inr (Or.inl (by omega)))))]
    exact a5 i q hq
  · have hi : i < (stepsOf p).length := by
      rw [List.getElem?_eq_some_iff] at hq
      exact hq.1
    rw [nk _ (Or.inr (Or.inr (Or.inr (Or.inr (by omega))))), nk _ (Or.inr (Or.inr (Or.inr (Or.inr (by omega)))))]
    exact a6 i q hq
theorem pub_text_n {x : Int} {m : Nat} (hI : INV m I J) (hm : m < 64) (hh : 200 ≤ h) (hx : ¬ (0 ≤ x ∧ x < 3)) : PairI G h 145 218 [vi x] (m + 1) I J b := by
  have hI2 := hI.suc hm
  refine TriM_intro (h - 1) (by omega) (by decide) (Nat.le_of_ble_eq_true rfl) (Nat.le_refl _) (Nat.le_refl _) (x145_n (by omega) ⟨fun q => absurd q hx, fun _ => cIN_r fun _ => TriM_intro (h - 1) (by omega) (by decide) (Nat.le_of_ble_eq_true rfl) (Nat.le_refl _) (Nat.le_refl _) (x218 (by omega) ⟨fun q => absurd (by omega) hx, fun _ => cIN_r fun _ => ⟨rfl, ?_⟩⟩)⟩)
  refine hI2.tp (((((((frK.r.u (by decide)).u (by decide)).u (by decide)).u (by decide)).u (by decide)).u (by decide)).u (by decide)) ?_ ?_ ?_ ?_ ?_ ?_ (fun _ _ => rfl)
  · simp (disch := decide) only [u2_ne, u2j, u2e]
  · simp (disch := decide) only [u2_ne, u2j, u2e]
  · simp (disch := decide) only [u2_ne, u2j, u2e]
  · simp (disch := decide) only [u2_ne, u2j, u2e]
  · simp (disch := decide) only [u2_ne, u2j, u2e]
  · simp (disch := decide) only [u2_ne, u2j, u2e]
theorem pub_text_0 {m : Nat} (hI : INV m I J) (hm : m < 64) (hh : 200 ≤ h) : PairI G h 145 218 [vi 0] (m + 1) I J b := by
  have hI2 := hI.suc hm
  obtain ⟨htp, h92⟩ : rTape I ∧ I 91 2 = I 0 2 := by
    obtain ⟨p0, p1, p2, -, -, -, -, htp, -, ⟨k1, k2, k3⟩, -⟩ := hI
    exact ⟨htp, k2⟩
  obtain ⟨⟨l0, l1, l2⟩, htx⟩ := htp
  obtain ⟨n, hn⟩ : ∃ n : Nat, I 0 4 = n := ⟨(I 0 4).toNat, by omega⟩
  have hTP : TP (I 96) n I := ⟨by omega, fun i hi => by
    have := htx i (by omega) (by omega)
    rw [toN] at this
    exact ⟨⟨this.1, this.2.1⟩, this.2.2⟩⟩
  have hvT := TK_v (f := I 96) (n := n) (home := false) (n - 0) 0 (Nat.le_refl _)
  have hlT := TK_len (f := I 96) (n := n) (home := false) (n - 0) 0 (Nat.le_refl _)
  have hpos : 0 < (TK (I 96) n false 0).length := by rw [hvT.ln]; omega
  have hvA : ∀ (ts : List Tok), VT false ts → ∀ a, a < ts.length → VT false (ts.drop a) := by
    intro ts
    induction ts with
    | nil => intro hv; exact absurd hv id
    | cons t r ih =>
      intro hv a ha
      cases a with
      | zero => exact hv
      | succ a =>
        rw [List.drop_succ_cons]
        refine ih (hv.2.2 (fun z => ?_)) a (by rw [List.length_cons] at ha; omega)
        rw [hv.2.1 z] at ha
        simp at ha
  refine TriM_intro (h - 1) (by omega) (by decide) (Nat.le_of_ble_eq_true rfl) (Nat.le_refl _) (Nat.le_refl _) (x145_0 (by omega) ⟨fun _ => ?_, fun q => absurd (by decide) q⟩)
  have hf0 : frK [0] I (u2 (u2 (u2 I 0 4 0) 0 5 0) 0 6 (-1)) := ((frK.r.u (by decide)).u (by decide)).u (by decide)
  have b4 : (u2 (u2 (u2 I 0 4 0) 0 5 0) 0 6 (-1)) 0 4 = 0 := by rw [u2j (by decide), u2j (by decide), u2e]
  have b2 : (u2 (u2 (u2 I 0 4 0) 0 5 0) 0 6 (-1)) 0 2 = I 0 2 := by rw [u2j (by decide), u2j (by decide), u2j (by decide)]
  rw [hn]
  generalize (u2 (u2 (u2 I 0 4 0) 0 5 0) 0 6 (-1)) = I0 at hf0 b4 b2
  refine s63_1 (f := I 96) (n := n) (by omega) (hTP.k hf0 (by decide)) fun I1 hf1 h62 hrow => ?_
  have hX1 : TX false (TK (I 96) n false 0) I1 := ⟨hrow, by omega, hvA _ hvT⟩
  have hf01 : frK [0, 62, 64, 65, 66] I I1 := (hf0.mo (by decide)).t (hf1.mo (by decide))
  refine s68 (by omega) hX1 hpos (fun e I2 he hF => ⟨fun q => absurd q hF.n, fun _ => cIN_r fun _ => ?_⟩) (fun p I2 he hf2 g0 g1 g2 g3 g4 => ⟨fun _ => cIN_r fun _ => ?_, fun q => absurd g0 q⟩)
  · have hfa : frK [0, 62, 63, 64, 65, 66] I (u2 (u2 I2 0 5 (I2 62 0)) 0 6 (I2 62 1)) := (((hf01.mo (by decide)).t (hF.1.mo (by decide))).u (by decide)).u (by decide)
    refine s218 (f := I 96) (n := n) (home := false) (k := 0) (by omega) (by decide) (by decide) (hfa 96 (by decide)) (by rw [hfa 91 (by decide)]; omega) hTP.1 (fun i hi => (hTP.2 i hi).1) (fun e2 I3 he2 hf3 j1 j2 j3 j4 => ⟨rfl, ?_⟩) (fun p I3 he2 => ?_)
    · rw [he] at he2
      have ee := Sum.inl.inj he2
      refine hI2.tp ((hfa.mo (by decide)).t (hf3.mo (by decide))) ?_ j1 ?_ ?_ ?_ ?_ (fun _ _ => rfl)
      · rw [hf3 0 (by decide), u2j (by decide), u2j (by decide), hF.1 0 (by decide), hf1 0 (by decide)]
        exact b4
      · rw [hf3 0 (by decide), u2j (by decide), u2j (by decide), hF.1 0 (by decide), hf1 0 (by decide)]
        exact b2
      · rw [j4, hfa 91 (by decide)]
      · rw [j2, hf3 0 (by decide), u2j (by decide), u2e, hF.2.1, ee]
      · rw [j3, hf3 0 (by decide), u2e, hF.2.2.1, ee]
    · rw [he] at he2
      exact nlr he2
  · have hfa : ∀ kk, kk ∉ [0, 62, 63, 64, 65, 66, 72, 13, 14] → (u2 (u1 (u2 (u2 (u2 (u2 I2 0 5 (I2 62 0)) 0 6 (I2 62 1)) 13 0 (I2 62 2)) 13 2 (I2 62 3)) 14 (fun j => if 0 ≤ j ∧ j < 0 + 400 then I2 63 (0 + (j - 0)) else I2 14 j)) 72 3 1) kk = I kk := (((((((hf01.mo (by decide)).t (hf2.mo (by decide)) : frK [0, 62, 63, 64, 65, 66, 72, 13, 14] I I2).u (by decide)).u (by decide)).u (by decide)).u (by decide)).u1 (by decide)).u (by decide)
    have z0 : ∀ j, j ≠ 5 → j ≠ 6 → (u2 (u1 (u2 (u2 (u2 (u2 I2 0 5 (I2 62 0)) 0 6 (I2 62 1)) 13 0 (I2 62 2)) 13 2 (I2 62 3)) 14 (fun j => if 0 ≤ j ∧ j < 0 + 400 then I2 63 (0 + (j - 0)) else I2 14 j)) 72 3 1) 0 j = I0 0 j := fun j h5 h6 => by
      rw [u2_ne (by decide), u1_ne (by decide), u2_ne (by decide), u2_ne (by decide), u2j h6, u2j h5, hf2 0 (by decide), hf1 0 (by decide)]
    have z5 : (u2 (u1 (u2 (u2 (u2 (u2 I2 0 5 (I2 62 0)) 0 6 (I2 62 1)) 13 0 (I2 62 2)) 13 2 (I2 62 3)) 14 (fun j => if 0 ≤ j ∧ j < 0 + 400 then I2 63 (0 + (j - 0)) else I2 14 j)) 72 3 1) 0 5 = 0 := by
      rw [u2_ne (by decide), u1_ne (by decide), u2_ne (by decide), u2_ne (by decide), u2j (by decide), u2e]
      exact g0
    have z6 : (u2 (u1 (u2 (u2 (u2 (u2 I2 0 5 (I2 62 0)) 0 6 (I2 62 1)) 13 0 (I2 62 2)) 13 2 (I2 62 3)) 14 (fun j => if 0 ≤ j ∧ j < 0 + 400 then I2 63 (0 + (j - 0)) else I2 14 j)) 72 3 1) 0 6 = -1 := by
      rw [u2_ne (by decide), u1_ne (by decide), u2_ne (by decide), u2_ne (by decide), u2e]
      exact g1
    have zt : (u2 (u1 (u2 (u2 (u2 (u2 I2 0 5 (I2 62 0)) 0 6 (I2 62 1)) 13 0 (I2 62 2)) 13 2 (I2 62 3)) 14 (fun j => if 0 ≤ j ∧ j < 0 + 400 then I2 63 (0 + (j - 0)) else I2 14 j)) 72 3 1) 13 0 = (p.length : Int) := by
      rw [u2_ne (by decide), u1_ne (by decide), u2j (by decide), u2e]
      exact g2
    have zt2 : (u2 (u1 (u2 (u2 (u2 (u2 I2 0 5 (I2 62 0)) 0 6 (I2 62 1)) 13 0 (I2 62 2)) 13 2 (I2 62 3)) 14 (fun j => if 0 ≤ j ∧ j < 0 + 400 then I2 63 (0 + (j - 0)) else I2 14 j)) 72 3 1) 13 2 = ((encP p).length : Int) := by
      rw [u2_ne (by decide), u1_ne (by decide), u2e]
      exact g3
    have zw : ∀ j, j < 400 → (u2 (u1 (u2 (u2 (u2 (u2 I2 0 5 (I2 62 0)) 0 6 (I2 62 1)) 13 0 (I2 62 2)) 13 2 (I2 62 3)) 14 (fun j => if 0 ≤ j ∧ j < 0 + 400 then I2 63 (0 + (j - 0)) else I2 14 j)) 72 3 1) 14 j = I2 63 j := fun j hj => by
      rw [u2_ne (by decide), u1_at, if_pos (by omega), show 0 + (j - 0) = j by omega]
    have z72 : (u2 (u1 (u2 (u2 (u2 (u2 I2 0 5 (I2 62 0)) 0 6 (I2 62 1)) 13 0 (I2 62 2)) 13 2 (I2 62 3)) 14 (fun j => if 0 ≤ j ∧ j < 0 + 400 then I2 63 (0 + (j - 0)) else I2 14 j)) 72 3 1) 72 3 = 1 := u2e
    generalize (u2 (u1 (u2 (u2 (u2 (u2 I2 0 5 (I2 62 0)) 0 6 (I2 62 1)) 13 0 (I2 62 2)) 13 2 (I2 62 3)) 14 (fun j => if 0 ≤ j ∧ j < 0 + 400 then I2 63 (0 + (j - 0)) else I2 14 j)) 72 3 1) = I3 at hfa z0 z5 z6 zt zt2 zw z72
    rw [g2]
    refine s218 (f := I 96) (n := n) (home := false) (k := 0) (by omega) (by decide) (by decide) (hfa 96 (by decide)) (by rw [hfa 91 (by decide)]; omega) hTP.1 (fun i hi => (hTP.2 i hi).1) (fun e2 I4 he2 => ?_) (fun p' I4 he2 hf4 j1 j2 j3 j4 hW => ?_)
    · rw [he] at he2
      exact nlr he2.symm
    · rw [he] at he2
      have ep := Sum.inr.inj he2
      subst ep
      obtain ⟨y1, y2, y3, y4⟩ := txP_g 16 _ hvT p he
      have ff : ∀ kk, kk ∉ [0, 62, 63, 64, 65, 66, 72, 91, 92, 94, 95, 13, 14] → I4 kk = I kk := fun kk hkk => by
        rw [hf4 kk (fun z => hkk (by revert z; simp; omega)), hfa kk (fun z => hkk (by revert z; simp; omega))]
      have hw : ∀ j, ¬ wK 0 j → I4 92 j = I 92 j := fun j hj => by rw [hW.2.2.2 j hj, hfa 92 (by decide)]
      have hW2 : WT I I4 0 p := ⟨hW.1, hW.2.1, hW.2.2.1, hw⟩
      clear hW
      have hW := hW2
      obtain ⟨p0, p1, p2, ⟨a1, a2, a3, a4, a5⟩, ⟨t0, t1, t2⟩, hl, hp, -, -, ⟨k1, k2, k3⟩, hc, hcc⟩ := hI2
      have hw25 : ∀ j, j < 2500 → I4 92 j = I 92 j := fun j hj => hw j (fun z => by unfold wK at z; omega)
      have e7 := ff 7 (by decide)
      have e2 := ff 2 (by decide)
      have q0 : I4 0 2 = I 0 2 := by rw [hf4 0 (by decide), z0 2 (by decide) (by decide)]; exact b2
      refine ⟨rfl, p, p1, p2, ⟨a1.fr e2 (ff 3 (by decide)) (ff 4 (by decide)) (ff 5 (by decide)) (ff 6 (by decide)) (fun j hj => hw25 j (by omega)), a2.fr (by simp only [Nat.reduceAdd]; rw [e2]; exact Int.le_refl _) e7 (ff 8 (by decide)) (ff 9 (by decide)) (ff 10 (by decide)) (ff 11 (by decide)) (ff 12 (by decide)) (fun j hj => hw25 j (by omega)), a3.fr (by simp only [Nat.reduceAdd]; rw [e2]; exact Int.le_refl _) (ff 22 (by decide)) (ff 23 (by decide)) (ff 24 (by decide)) (fun j hj => hw25 j (by omega)), a4.fr (ff 25 (by decide)) (ff 26 (by decide)) (ff 27 (by decide)) (ff 28 (by decide)) (ff 29 (by decide)) (fun j hj => hw25 j (by omega)), by rw [hw25 0 (by omega), ff 1 (by decide)]; exact a5⟩, ⟨?_, t1.w (by decide) (by decide) (by decide) (ff 16 (by decide)) (ff 17 (by decide)) hW.2.2.2, t2.w (by decide) (by decide) (by decide) (ff 19 (by decide)) (ff 20 (by decide)) hW.2.2.2⟩, likI.st (fun j hj => ?_) (fun j hj => ?_), perI.st (by rw [hf4 72 (by decide)]; exact z72), ?_, ⟨?_, ?_⟩, ⟨by rw [q0]; exact k1, by rw [j4, hfa 91 (by decide), q0]; exact k2, fun z => ?_⟩, ?_, ?_⟩
      · refine ⟨⟨by rw [hf4 13 (by decide)]; exact zt, by omega⟩, ⟨by rw [hf4 13 (by decide)]; exact zt2, by omega⟩, fun i x hx => ?_, hW.1, hW.2.1, hW.2.2.1, by omega, y4⟩
        have hi : i < (encP p).length := by
          rw [List.getElem?_eq_some_iff] at hx
          exact hx.1
        rw [hf4 14 (by decide), zw _ (by omega)]
        exact g4 i x hx
      · rw [u1_ne (by decide), u1_at, if_pos hj]
      · rw [u1_at, if_pos hj]
      · have q4 : I4 0 4 = 0 := by rw [hf4 0 (by decide), z0 4 (by decide) (by decide)]; exact b4
        exact ⟨⟨by omega, by omega, by omega⟩, fun i i1 i2 => by omega⟩
      · rw [j2, hf4 0 (by decide), z5]
      · rw [j3, hf4 0 (by decide), z6]
      · refine (k3 (by rw [← q0]; exact z)).fr (fun kk hkk => ff kk ?_) (ff 93 (by decide))
        have : ∀ kk, kk < 60 → 31 ≤ kk → kk ∉ [0, 62, 63, 64, 65, 66, 72, 91, 92, 94, 95, 13, 14] := by decide
        exact this kk hkk.2 hkk.1
      · unfold choI
        rw [u1_ne (by decide), u1_ne (by decide)]
        exact hc
      · rw [e7, q0, ff 37 (by decide)]
        exact hcc
theorem pub_text_1 {m : Nat} (hI : INV m I J) (hm : m < 64) (hh : 200 ≤ h) : PairI G h 145 218 [vi 1] (m + 1) I J b := by
  have hI2 := hI.suc hm
  obtain ⟨htp, h92⟩ : rTape I ∧ I 91 2 = I 0 2 := by
    obtain ⟨p0, p1, p2, -, -, -, -, htp, -, ⟨k1, k2, k3⟩, -⟩ := hI
    exact ⟨htp, k2⟩
  obtain ⟨⟨l0, l1, l2⟩, htx⟩ := htp
  obtain ⟨n, hn⟩ : ∃ n : Nat, I 0 4 = n := ⟨(I 0 4).toNat, by omega⟩
  have hTP : TP (I 96) n I := ⟨by omega, fun i hi => by
    have := htx i (by omega) (by omega)
    rw [toN] at this
    exact ⟨⟨this.1, this.2.1⟩, this.2.2⟩⟩
  have hvT := TK_v (f := I 96) (n := n) (home := false) (n - 0) 0 (Nat.le_refl _)
  have hlT := TK_len (f := I 96) (n := n) (home := false) (n - 0) 0 (Nat.le_refl _)
  have hpos : 0 < (TK (I 96) n false 0).length := by rw [hvT.ln]; omega
  have hvA : ∀ (ts : List Tok), VT false ts → ∀ a, a < ts.length → VT false (ts.drop a) := by
    intro ts
    induction ts with
    | nil => intro hv; exact absurd hv id
    | cons t r ih =>
      intro hv a ha
      cases a with
      | zero => exact hv
      | succ a =>
        rw [List.drop_succ_cons]
        refine ih (hv.2.2 (fun z => ?_)) a (by rw [List.length_cons] at ha; omega)
        rw [hv.2.1 z] at ha
        simp at ha
  refine TriM_intro (h - 1) (by omega) (by decide) (Nat.le_of_ble_eq_true rfl) (Nat.le_refl _) (Nat.le_refl _) (x145_1 (by omega) ⟨fun _ => ?_, fun q => absurd (by decide) q⟩)
  have hf0 : frK [0] I (u2 (u2 (u2 I 0 4 0) 0 5 0) 0 6 (-1)) := ((frK.r.u (by decide)).u (by decide)).u (by decide)
  have b4 : (u2 (u2 (u2 I 0 4 0) 0 5 0) 0 6 (-1)) 0 4 = 0 := by rw [u2j (by decide), u2j (by decide), u2e]
  have b2 : (u2 (u2 (u2 I 0 4 0) 0 5 0) 0 6 (-1)) 0 2 = I 0 2 := by rw [u2j (by decide), u2j (by decide), u2j (by decide)]
  rw [hn]
  generalize (u2 (u2 (u2 I 0 4 0) 0 5 0) 0 6 (-1)) = I0 at hf0 b4 b2
  refine s63_1 (f := I 96) (n := n) (by omega) (hTP.k hf0 (by decide)) fun I1 hf1 h62 hrow => ?_
  have hX1 : TX false (TK (I 96) n false 0) I1 := ⟨hrow, by omega, hvA _ hvT⟩
  have hf01 : frK [0, 62, 64, 65, 66] I I1 := (hf0.mo (by decide)).t (hf1.mo (by decide))
  refine s68 (by omega) hX1 hpos (fun e I2 he hF => ⟨fun q => absurd q hF.n, fun _ => cIN_r fun _ => ?_⟩) (fun p I2 he hf2 g0 g1 g2 g3 g4 => ⟨fun _ => cIN_r fun _ => ?_, fun q => absurd g0 q⟩)
  · have hfa : frK [0, 62, 63, 64, 65, 66] I (u2 (u2 I2 0 5 (I2 62 0)) 0 6 (I2 62 1)) := (((hf01.mo (by decide)).t (hF.1.mo (by decide))).u (by decide)).u (by decide)
    refine s218 (f := I 96) (n := n) (home := false) (k := 1) (by omega) (by decide) (by decide) (hfa 96 (by decide)) (by rw [hfa 91 (by decide)]; omega) hTP.1 (fun i hi => (hTP.2 i hi).1) (fun e2 I3 he2 hf3 j1 j2 j3 j4 => ⟨rfl, ?_⟩) (fun p I3 he2 => ?_)
    · rw [he] at he2
      have ee := Sum.inl.inj he2
      refine hI2.tp ((hfa.mo (by decide)).t (hf3.mo (by decide))) ?_ j1 ?_ ?_ ?_ ?_ (fun _ _ => rfl)
      · rw [hf3 0 (by decide), u2j (by decide), u2j (by decide), hF.1 0 (by decide), hf1 0 (by decide)]
        exact b4
      · rw [hf3 0 (by decide), u2j (by decide), u2j (by decide), hF.1 0 (by decide), hf1 0 (by decide)]
        exact b2
      · rw [j4, hfa 91 (by decide)]
      · rw [j2, hf3 0 (by decide), u2j (by decide), u2e, hF.2.1, ee]
      · rw [j3, hf3 0 (by decide), u2e, hF.2.2.1, ee]
    · rw [he] at he2
      exact nlr he2
  · have hfa : ∀ kk, kk ∉ [0, 62, 63, 64, 65, 66, 72, 16, 17] → (u2 (u1 (u2 (u2 (u2 (u2 I2 0 5 (I2 62 0)) 0 6 (I2 62 1)) 16 0 (I2 62 2)) 16 2 (I2 62 3)) 17 (fun j => if 0 ≤ j ∧ j < 0 + 400 then I2 63 (0 + (j - 0)) else I2 17 j)) 72 3 1) kk = I kk := (((((((hf01.mo (by decide)).t (hf2.mo (by decide)) : frK [0, 62, 63, 64, 65, 66, 72, 16, 17] I I2).u (by decide)).u (by decide)).u (by decide)).u (by decide)).u1 (by decide)).u (by decide)
    have z0 : ∀ j, j ≠ 5 → j ≠ 6 → (u2 (u1 (u2 (u2 (u2 (u2 I2 0 5 (I2 62 0)) 0 6 (I2 62 1)) 16 0 (I2 62 2)) 16 2 (I2 62 3)) 17 (fun j => if 0 ≤ j ∧ j < 0 + 400 then I2 63 (0 + (j - 0)) else I2 17 j)) 72 3 1) 0 j = I0 0 j := fun j h5 h6 => by
      rw [u2_ne (by decide), u1_ne (by decide), u2_ne (by decide), u2_ne (by decide), u2j h6, u2j h5, hf2 0 (by decide), hf1 0 (by decide)]
    have z5 : (u2 (u1 (u2 (u2 (u2 (u2 I2 0 5 (I2 62 0)) 0 6 (I2 62 1)) 16 0 (I2 62 2)) 16 2 (I2 62 3)) 17 (fun j => if 0 ≤ j ∧ j < 0 + 400 then I2 63 (0 + (j - 0)) else I2 17 j)) 72 3 1) 0 5 = 0 := by
      rw [u2_ne (by decide), u1_ne (by decide), u2_ne (by decide), u2_ne (by decide), u2j (by decide), u2e]
      exact g0
    have z6 : (u2 (u1 (u2 (u2 (u2 (u2 I2 0 5 (I2 62 0)) 0 6 (I2 62 1)) 16 0 (I2 62 2)) 16 2 (I2 62 3)) 17 (fun j => if 0 ≤ j ∧ j < 0 + 400 then I2 63 (0 + (j - 0)) else I2 17 j)) 72 3 1) 0 6 = -1 := by
      rw [u2_ne (by decide), u1_ne (by decide), u2_ne (by decide), u2_ne (by decide), u2e]
      exact g1
    have zt : (u2 (u1 (u2 (u2 (u2 (u2 I2 0 5 (I2 62 0)) 0 6 (I2 62 1)) 16 0 (I2 62 2)) 16 2 (I2 62 3)) 17 (fun j => if 0 ≤ j ∧ j < 0 + 400 then I2 63 (0 + (j - 0)) else I2 17 j)) 72 3 1) 16 0 = (p.length : Int) := by
      rw [u2_ne (by decide), u1_ne (by decide), u2j (by decide), u2e]
      exact g2
    have zt2 : (u2 (u1 (u2 (u2 (u2 (u2 I2 0 5 (I2 62 0)) 0 6 (I2 62 1)) 16 0 (I2 62 2)) 16 2 (I2 62 3)) 17 (fun j => if 0 ≤ j ∧ j < 0 + 400 then I2 63 (0 + (j - 0)) else I2 17 j)) 72 3 1) 16 2 = ((encP p).length : Int) := by
      rw [u2_ne (by decide), u1_ne (by decide), u2e]
      exact g3
    have zw : ∀ j, j < 400 → (u2 (u1 (u2 (u2 (u2 (u2 I2 0 5 (I2 62 0)) 0 6 (I2 62 1)) 16 0 (I2 62 2)) 16 2 (I2 62 3)) 17 (fun j => if 0 ≤ j ∧ j < 0 + 400 then I2 63 (0 + (j - 0)) else I2 17 j)) 72 3 1) 17 j = I2 63 j := fun j hj => by
      rw [u2_ne (by decide), u1_at, if_pos (by omega), show 0 + (j - 0) = j by omega]
    have z72 : (u2 (u1 (u2 (u2 (u2 (u2 I2 0 5 (I2 62 0)) 0 6 (I2 62 1)) 16 0 (I2 62 2)) 16 2 (I2 62 3)) 17 (fun j => if 0 ≤ j ∧ j < 0 + 400 then I2 63 (0 + (j - 0)) else I2 17 j)) 72 3 1) 72 3 = 1 := u2e
    generalize (u2 (u1 (u2 (u2 (u2 (u2 I2 0 5 (I2 62 0)) 0 6 (I2 62 1)) 16 0 (I2 62 2)) 16 2 (I2 62 3)) 17 (fun j => if 0 ≤ j ∧ j < 0 + 400 then I2 63 (0 + (j - 0)) else I2 17 j)) 72 3 1) = I3 at hfa z0 z5 z6 zt zt2 zw z72
    rw [g2]
    refine s218 (f := I 96) (n := n) (home := false) (k := 1) (by omega) (by decide) (by decide) (hfa 96 (by decide)) (by rw [hfa 91 (by decide)]; omega) hTP.1 (fun i hi => (hTP.2 i hi).1) (fun e2 I4 he2 => ?_) (fun p' I4 he2 hf4 j1 j2 j3 j4 hW => ?_)
    · rw [he] at he2
      exact nlr he2.symm
    · rw [he] at he2
      have ep := Sum.inr.inj he2
      subst ep
      obtain ⟨y1, y2, y3, y4⟩ := txP_g 16 _ hvT p he
      have ff : ∀ kk, kk ∉ [0, 62, 63, 64, 65, 66, 72, 91, 92, 94, 95, 16, 17] → I4 kk = I kk := fun kk hkk => by
        rw [hf4 kk (fun z => hkk (by revert z; simp; omega)), hfa kk (fun z => hkk (by revert z; simp; omega))]
      have hw : ∀ j, ¬ wK 1 j → I4 92 j = I 92 j := fun j hj => by rw [hW.2.2.2 j hj, hfa 92 (by decide)]
      have hW2 : WT I I4 1 p := ⟨hW.1, hW.2.1, hW.2.2.1, hw⟩
      clear hW
      have hW := hW2
      obtain ⟨p0, p1, p2, ⟨a1, a2, a3, a4, a5⟩, ⟨t0, t1, t2⟩, hl, hp, -, -, ⟨k1, k2, k3⟩, hc, hcc⟩ := hI2
      have hw25 : ∀ j, j < 2500 → I4 92 j = I 92 j := fun j hj => hw j (fun z => by unfold wK at z; omega)
      have e7 := ff 7 (by decide)
      have e2 := ff 2 (by decide)
      have q0 : I4 0 2 = I 0 2 := by rw [hf4 0 (by decide), z0 2 (by decide) (by decide)]; exact b2
      refine ⟨rfl, p0, p, p2, ⟨a1.fr e2 (ff 3 (by decide)) (ff 4 (by decide)) (ff 5 (by decide)) (ff 6 (by decide)) (fun j hj => hw25 j (by omega)), a2.fr (by simp only [Nat.reduceAdd]; rw [e2]; exact Int.le_refl _) e7 (ff 8 (by decide)) (ff 9 (by decide)) (ff 10 (by decide)) (ff 11 (by decide)) (ff 12 (by decide)) (fun j hj => hw25 j (by omega)), a3.fr (by simp only [Nat.reduceAdd]; rw [e2]; exact Int.le_refl _) (ff 22 (by decide)) (ff 23 (by decide)) (ff 24 (by decide)) (fun j hj => hw25 j (by omega)), a4.fr (ff 25 (by decide)) (ff 26 (by decide)) (ff 27 (by decide)) (ff 28 (by decide)) (ff 29 (by decide)) (fun j hj => hw25 j (by omega)), by rw [hw25 0 (by omega), ff 1 (by decide)]; exact a5⟩, ⟨t0.w (by decide) (by decide) (by decide) (ff 13 (by decide)) (ff 14 (by decide)) hW.2.2.2, ?_, t2.w (by decide) (by decide) (by decide) (ff 19 (by decide)) (ff 20 (by decide)) hW.2.2.2⟩, likI.st (fun j hj => ?_) (fun j hj => ?_), perI.st (by rw [hf4 72 (by decide)]; exact z72), ?_, ⟨?_, ?_⟩, ⟨by rw [q0]; exact k1, by rw [j4, hfa 91 (by decide), q0]; exact k2, fun z => ?_⟩, ?_, ?_⟩
      · refine ⟨⟨by rw [hf4 16 (by decide)]; exact zt, by omega⟩, ⟨by rw [hf4 16 (by decide)]; exact zt2, by omega⟩, fun i x hx => ?_, hW.1, hW.2.1, hW.2.2.1, by omega, y4⟩
        have hi : i < (encP p).length := by
          rw [List.getElem?_eq_some_iff] at hx
          exact hx.1
        rw [hf4 17 (by decide), zw _ (by omega)]
        exact g4 i x hx
      · rw [u1_ne (by decide), u1_at, if_pos hj]
      · rw [u1_at, if_pos hj]
      · have q4 : I4 0 4 = 0 := by rw [hf4 0 (by decide), z0 4 (by decide) (by decide)]; exact b4
        exact ⟨⟨by omega, by omega, by omega⟩, fun i i1 i2 => by omega⟩
      · rw [j2, hf4 0 (by decide), z5]
      · rw [j3, hf4 0 (by decide), z6]
      · refine (k3 (by rw [← q0]; exact z)).fr (fun kk hkk => ff kk ?_) (ff 93 (by decide))
        have : ∀ kk, kk < 60 → 31 ≤ kk → kk ∉ [0, 62, 63, 64, 65, 66, 72, 91, 92, 94, 95, 16, 17] := by decide
        exact this kk hkk.2 hkk.1
      · unfold choI
        rw [u1_ne (by decide), u1_ne (by decide)]
        exact hc
      · rw [e7, q0, ff 37 (by decide)]
        exact hcc
theorem pub_text_2 {m : Nat} (hI : INV m I J) (hm : m < 64) (hh : 200 ≤ h) : PairI G h 145 218 [vi 2] (m + 1) I J b := by
  have hI2 := hI.suc hm
  obtain ⟨htp, h92⟩ : rTape I ∧ I 91 2 = I 0 2 := by
    obtain ⟨p0, p1, p2, -, -, -, -, htp, -, ⟨k1, k2, k3⟩, -⟩ := hI
    exact ⟨htp, k2⟩
  obtain ⟨⟨l0, l1, l2⟩, htx⟩ := htp
  obtain ⟨n, hn⟩ : ∃ n : Nat, I 0 4 = n := ⟨(I 0 4).toNat, by omega⟩
  have hTP : TP (I 96) n I := ⟨by omega, fun i hi => by
    have := htx i (by omega) (by omega)
    rw [toN] at this
    exact ⟨⟨this.1, this.2.1⟩, this.2.2⟩⟩
  have hvT := TK_v (f := I 96) (n := n) (home := true) (n - 0) 0 (Nat.le_refl _)
  have hlT := TK_len (f := I 96) (n := n) (home := true) (n - 0) 0 (Nat.le_refl _)
  have hpos : 0 < (TK (I 96) n true 0).length := by rw [hvT.ln]; omega
  have hvA : ∀ (ts : List Tok), VT true ts → ∀ a, a < ts.length → VT true (ts.drop a) := by
    intro ts
    induction ts with
    | nil => intro hv; exact absurd hv id
    | cons t r ih =>
      intro hv a ha
      cases a with
      | zero => exact hv
      | succ a =>
        rw [List.drop_succ_cons]
        refine ih (hv.2.2 (fun z => ?_)) a (by rw [List.length_cons] at ha; omega)
        rw [hv.2.1 z] at ha
        simp at ha
  refine TriM_intro (h - 1) (by omega) (by decide) (Nat.le_of_ble_eq_true rfl) (Nat.le_refl _) (Nat.le_refl _) (x145_2 (by omega) ⟨fun _ => ?_, fun q => absurd (by decide) q⟩)
  have hf0 : frK [0] I (u2 (u2 (u2 I 0 4 0) 0 5 0) 0 6 (-1)) := ((frK.r.u (by decide)).u (by decide)).u (by decide)
  have b4 : (u2 (u2 (u2 I 0 4 0) 0 5 0) 0 6 (-1)) 0 4 = 0 := by rw [u2j (by decide), u2j (by decide), u2e]
  have b2 : (u2 (u2 (u2 I 0 4 0) 0 5 0) 0 6 (-1)) 0 2 = I 0 2 := by rw [u2j (by decide), u2j (by decide), u2j (by decide)]
  rw [hn]
  generalize (u2 (u2 (u2 I 0 4 0) 0 5 0) 0 6 (-1)) = I0 at hf0 b4 b2
  refine s63_0 (f := I 96) (n := n) (by omega) (hTP.k hf0 (by decide)) fun I1 hf1 h62 hrow => ?_
  have hX1 : TX true (TK (I 96) n true 0) I1 := ⟨hrow, by omega, hvA _ hvT⟩
  have hf01 : frK [0, 62, 64, 65, 66] I I1 := (hf0.mo (by decide)).t (hf1.mo (by decide))
  refine s68 (by omega) hX1 hpos (fun e I2 he hF => ⟨fun q => absurd q hF.n, fun _ => cIN_r fun _ => ?_⟩) (fun p I2 he hf2 g0 g1 g2 g3 g4 => ⟨fun _ => cIN_r fun _ => ?_, fun q => absurd g0 q⟩)
  · have hfa : frK [0, 62, 63, 64, 65, 66] I (u2 (u2 I2 0 5 (I2 62 0)) 0 6 (I2 62 1)) := (((hf01.mo (by decide)).t (hF.1.mo (by decide))).u (by decide)).u (by decide)
    refine s218 (f := I 96) (n := n) (home := true) (k := 2) (by omega) (by decide) (by decide) (hfa 96 (by decide)) (by rw [hfa 91 (by decide)]; omega) hTP.1 (fun i hi => (hTP.2 i hi).1) (fun e2 I3 he2 hf3 j1 j2 j3 j4 => ⟨rfl, ?_⟩) (fun p I3 he2 => ?_)
    · rw [he] at he2
      have ee := Sum.inl.inj he2
      refine hI2.tp ((hfa.mo (by decide)).t (hf3.mo (by decide))) ?_ j1 ?_ ?_ ?_ ?_ (fun _ _ => rfl)
      · rw [hf3 0 (by decide), u2j (by decide), u2j (by decide), hF.1 0 (by decide), hf1 0 (by decide)]
        exact b4
      · rw [hf3 0 (by decide), u2j (by decide), u2j (by decide), hF.1 0 (by decide), hf1 0 (by decide)]
        exact b2
      · rw [j4, hfa 91 (by decide)]
      · rw [j2, hf3 0 (by decide), u2j (by decide), u2e, hF.2.1, ee]
      · rw [j3, hf3 0 (by decide), u2e, hF.2.2.1, ee]
    · rw [he] at he2
      exact nlr he2
  · have hfa : ∀ kk, kk ∉ [0, 62, 63, 64, 65, 66, 72, 19, 20] → (u2 (u1 (u2 (u2 (u2 (u2 I2 0 5 (I2 62 0)) 0 6 (I2 62 1)) 19 0 (I2 62 2)) 19 2 (I2 62 3)) 20 (fun j => if 0 ≤ j ∧ j < 0 + 400 then I2 63 (0 + (j - 0)) else I2 20 j)) 72 3 1) kk = I kk := (((((((hf01.mo (by decide)).t (hf2.mo (by decide)) : frK [0, 62, 63, 64, 65, 66, 72, 19, 20] I I2).u (by decide)).u (by decide)).u (by decide)).u (by decide)).u1 (by decide)).u (by decide)
    have z0 : ∀ j, j ≠ 5 → j ≠ 6 → (u2 (u1 (u2 (u2 (u2 (u2 I2 0 5 (I2 62 0)) 0 6 (I2 62 1)) 19 0 (I2 62 2)) 19 2 (I2 62 3)) 20 (fun j => if 0 ≤ j ∧ j < 0 + 400 then I2 63 (0 + (j - 0)) else I2 20 j)) 72 3 1) 0 j = I0 0 j := fun j h5 h6 => by
      rw [u2_ne (by decide), u1_ne (by decide), u2_ne (by decide), u2_ne (by decide), u2j h6, u2j h5, hf2 0 (by decide), hf1 0 (by decide)]
    have z5 : (u2 (u1 (u2 (u2 (u2 (u2 I2 0 5 (I2 62 0)) 0 6 (I2 62 1)) 19 0 (I2 62 2)) 19 2 (I2 62 3)) 20 (fun j => if 0 ≤ j ∧ j < 0 + 400 then I2 63 (0 + (j - 0)) else I2 20 j)) 72 3 1) 0 5 = 0 := by
      rw [u2_ne (by decide), u1_ne (by decide), u2_ne (by decide), u2_ne (by decide), u2j (by decide), u2e]
      exact g0
    have z6 : (u2 (u1 (u2 (u2 (u2 (u2 I2 0 5 (I2 62 0)) 0 6 (I2 62 1)) 19 0 (I2 62 2)) 19 2 (I2 62 3)) 20 (fun j => if 0 ≤ j ∧ j < 0 + 400 then I2 63 (0 + (j - 0)) else I2 20 j)) 72 3 1) 0 6 = -1 := by
      rw [u2_ne (by decide), u1_ne (by decide), u2_ne (by decide), u2_ne (by decide), u2e]
      exact g1
    have zt : (u2 (u1 (u2 (u2 (u2 (u2 I2 0 5 (I2 62 0)) 0 6 (I2 62 1)) 19 0 (I2 62 2)) 19 2 (I2 62 3)) 20 (fun j => if 0 ≤ j ∧ j < 0 + 400 then I2 63 (0 + (j - 0)) else I2 20 j)) 72 3 1) 19 0 = (p.length : Int) := by
      rw [u2_ne (by decide), u1_ne (by decide), u2j (by decide), u2e]
      exact g2
    have zt2 : (u2 (u1 (u2 (u2 (u2 (u2 I2 0 5 (I2 62 0)) 0 6 (I2 62 1)) 19 0 (I2 62 2)) 19 2 (I2 62 3)) 20 (fun j => if 0 ≤ j ∧ j < 0 + 400 then I2 63 (0 + (j - 0)) else I2 20 j)) 72 3 1) 19 2 = ((encP p).length : Int) := by
      rw [u2_ne (by decide), u1_ne (by decide), u2e]
      exact g3
    have zw : ∀ j, j < 400 → (u2 (u1 (u2 (u2 (u2 (u2 I2 0 5 (I2 62 0)) 0 6 (I2 62 1)) 19 0 (I2 62 2)) 19 2 (I2 62 3)) 20 (fun j => if 0 ≤ j ∧ j < 0 + 400 then I2 63 (0 + (j - 0)) else I2 20 j)) 72 3 1) 20 j = I2 63 j := fun j hj => by
      rw [u2_ne (by decide), u1_at, if_pos (by omega), show 0 + (j - 0) = j by omega]
    have z72 : (u2 (u1 (u2 (u2 (u2 (u2 I2 0 5 (I2 62 0)) 0 6 (I2 62 1)) 19 0 (I2 62 2)) 19 2 (I2 62 3)) 20 (fun j => if 0 ≤ j ∧ j < 0 + 400 then I2 63 (0 + (j - 0)) else I2 20 j)) 72 3 1) 72 3 = 1 := u2e
    generalize (u2 (u1 (u2 (u2 (u2 (u2 I2 0 5 (I2 62 0)) 0 6 (I2 62 1)) 19 0 (I2 62 2)) 19 2 (I2 62 3)) 20 (fun j => if 0 ≤ j ∧ j < 0 + 400 then I2 63 (0 + (j - 0)) else I2 20 j)) 72 3 1) = I3 at hfa z0 z5 z6 zt zt2 zw z72
    rw [g2]
    refine s218 (f := I 96) (n := n) (home := true) (k := 2) (by omega) (by decide) (by decide) (hfa 96 (by decide)) (by rw [hfa 91 (by decide)]; omega) hTP.1 (fun i hi => (hTP.2 i hi).1) (fun e2 I4 he2 => ?_) (fun p' I4 he2 hf4 j1 j2 j3 j4 hW => ?_)
    · rw [he] at he2
      exact nlr he2.symm
    · rw [he] at he2
      have ep := Sum.inr.inj he2
      subst ep
      obtain ⟨y1, y2, y3, y4⟩ := txP_g 16 _ hvT p he
      have ff : ∀ kk, kk ∉ [0, 62, 63, 64, 65, 66, 72, 91, 92, 94, 95, 19, 20] → I4 kk = I kk := fun kk hkk => by
        rw [hf4 kk (fun z => hkk (by revert z; simp; omega)), hfa kk (fun z => hkk (by revert z; simp; omega))]
      have hw : ∀ j, ¬ wK 2 j → I4 92 j = I 92 j := fun j hj => by rw [hW.2.2.2 j hj, hfa 92 (by decide)]
      have hW2 : WT I I4 2 p := ⟨hW.1, hW.2.1, hW.2.2.1, hw⟩
      clear hW
      have hW := hW2
      obtain ⟨p0, p1, p2, ⟨a1, a2, a3, a4, a5⟩, ⟨t0, t1, t2⟩, hl, hp, -, -, ⟨k1, k2, k3⟩, hc, hcc⟩ := hI2
      have hw25 : ∀ j, j < 2500 → I4 92 j = I 92 j := fun j hj => hw j (fun z => by unfold wK at z; omega)
      have e7 := ff 7 (by decide)
      have e2 := ff 2 (by decide)
      have q0 : I4 0 2 = I 0 2 := by rw [hf4 0 (by decide), z0 2 (by decide) (by decide)]; exact b2
      refine ⟨rfl, p0, p1, p, ⟨a1.fr e2 (ff 3 (by decide)) (ff 4 (by decide)) (ff 5 (by decide)) (ff 6 (by decide)) (fun j hj => hw25 j (by omega)), a2.fr (by simp only [Nat.reduceAdd]; rw [e2]; exact Int.le_refl _) e7 (ff 8 (by decide)) (ff 9 (by decide)) (ff 10 (by decide)) (ff 11 (by decide)) (ff 12 (by decide)) (fun j hj => hw25 j (by omega)), a3.fr (by simp only [Nat.reduceAdd]; rw [e2]; exact Int.le_refl _) (ff 22 (by decide)) (ff 23 (by decide)) (ff 24 (by decide)) (fun j hj => hw25 j (by omega)), a4.fr (ff 25 (by decide)) (ff 26 (by decide)) (ff 27 (by decide)) (ff 28 (by decide)) (ff 29 (by decide)) (fun j hj => hw25 j (by omega)), by rw [hw25 0 (by omega), ff 1 (by decide)]; exact a5⟩, ⟨t0.w (by decide) (by decide) (by decide) (ff 13 (by decide)) (ff 14 (by decide)) hW.2.2.2, t1.w (by decide) (by decide) (by decide) (ff 16 (by decide)) (ff 17 (by decide)) hW.2.2.2, ?_⟩, likI.st (fun j hj => ?_) (fun j hj => ?_), perI.st (by rw [hf4 72 (by decide)]; exact z72), ?_, ⟨?_, ?_⟩, ⟨by rw [q0]; exact k1, by rw [j4, hfa 91 (by decide), q0]; exact k2, fun z => ?_⟩, ?_, ?_⟩
      · refine ⟨⟨by rw [hf4 19 (by decide)]; exact zt, by omega⟩, ⟨by rw [hf4 19 (by decide)]; exact zt2, by omega⟩, fun i x hx => ?_, hW.1, hW.2.1, hW.2.2.1, by omega, y4⟩
        have hi : i < (encP p).length := by
          rw [List.getElem?_eq_some_iff] at hx
          exact hx.1
        rw [hf4 20 (by decide), zw _ (by omega)]
        exact g4 i x hx
      · rw [u1_ne (by decide), u1_at, if_pos hj]
      · rw [u1_at, if_pos hj]
      · have q4 : I4 0 4 = 0 := by rw [hf4 0 (by decide), z0 4 (by decide) (by decide)]; exact b4
        exact ⟨⟨by omega, by omega, by omega⟩, fun i i1 i2 => by omega⟩
      · rw [j2, hf4 0 (by decide), z5]
      · rw [j3, hf4 0 (by decide), z6]
      · refine (k3 (by rw [← q0]; exact z)).fr (fun kk hkk => ff kk ?_) (ff 93 (by decide))
        have : ∀ kk, kk < 60 → 31 ≤ kk → kk ∉ [0, 62, 63, 64, 65, 66, 72, 91, 92, 94, 95, 19, 20] := by decide
        exact this kk hkk.2 hkk.1
      · unfold choI
        rw [u1_ne (by decide), u1_ne (by decide)]
        exact hc
      · rw [e7, q0, ff 37 (by decide)]
        exact hcc
theorem pub_text {x : Int} {m : Nat} (hI : INV m I J) (hm : m < 64) (hh : 200 ≤ h) : PairI G h 145 218 [vi x] (m + 1) I J b := by
  by_cases hx : 0 ≤ x ∧ x < 3
  · have : x = 0 ∨ x = 1 ∨ x = 2 := by omega
    rcases this with rfl | rfl | rfl
    · exact pub_text_0 hI hm hh
    · exact pub_text_1 hI hm hh
    · exact pub_text_2 hI hm hh
  · exact pub_text_n hI hm hh hx
end TEXT
