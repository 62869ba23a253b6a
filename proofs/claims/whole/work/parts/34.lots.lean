set_option maxRecDepth 100000 in
theorem x178 {G : Ctx} {h : Nat} {Q : MP} {I : Nat → Nat → Int} {J : Nat → Nat → BitVec 64} {b : B3} {x : Int} {a : BitVec 64} (hh : 0 ≤ h) (H : Tri G h 178 119 119 5 [none, none, some (vi x), some (vl a), none, some (vi 0)] [] (I, J, PP b) Q) : Tri G h 178 119 119 0 [some (vl a), none, some (vi x)] [] (I, J, PP b) Q := wp_at ck178 [(5, [false, false, true, true, false, true])] 400 H
set_option maxRecDepth 100000 in
theorem x178_5 {G : Ctx} {h : Nat} {Q : MP} {I : Nat → Nat → Int} {J : Nat → Nat → BitVec 64} {b : B3} {l2 l5 : Int} {l3 : BitVec 64} (hh : 0 ≤ h) (H : ((l2 ≤ l5) → (Q (some (vl (l3 &&& (-l3)))) (I, J, PP b))) ∧ (¬ (l2 ≤ l5) → ((((lCmp l3 (0#64)) = 0) → (Q (some (vl (l3 &&& (-l3)))) (I, J, PP b))) ∧ (¬ ((lCmp l3 (0#64)) = 0) → (Tri G h 178 119 119 5 [none, none, some (vi l2), some (vl (l3 &&& (l3 - (1#64)))), none, some (vi (w32 (l5 + 1)))] [] (I, J, PP b) Q))))) : Tri G h 178 119 119 5 [none, none, some (vi l2), some (vl l3), none, some (vi l5)] [] (I, J, PP b) Q := wp_at ck178 [(5, [false, false, true, true, false, true])] 400 H
theorem x178_m {G : Ctx} {h : Nat} {Q : MP} {I : Nat → Nat → Int} {J : Nat → Nat → BitVec 64} {b : B3} {x : Int} {a : BitVec 64} (hh : 1 ≤ h) (H : ∀ h, 0 ≤ h → Tri G h 178 119 119 0 [some (vl a), none, some (vi x)] [] (I, J, PP b) Q) : TriM G h 178 119 119 [vl a, vi x] (I, J, PP b) Q := TriM_intro (h - 1) (by omega) (by decide) (Nat.le_of_ble_eq_true rfl) (Nat.le_refl _) (Nat.le_refl _) (H (h - 1) (by omega))
set_option maxRecDepth 100000 in
theorem x168 {G : Ctx} {h : Nat} {Q : MP} {I : Nat → Nat → Int} {J : Nat → Nat → BitVec 64} {b : B3} {x : Int} (hh : 3 ≤ h) (H : TriM G h 133 119 119 [vr 1] (I, J, PP b) (cJN fun r1 I1 J1 b1 => (TriM G h 17 119 119 [vl r1] (I1, J1, PP b1) (cIN fun r2 I2 J2 b2 => (((x < 0) → (Q (some (vl (BitVec.ofInt 64 (-1)))) (I2, J2, PP b2))) ∧ (¬ (x < 0) → (((x ≤ r2) → (Tri G h 168 119 119 34 [some (vr 0), some (vi x), some (vl r1), none, some (vi r2), some (vl (0#64)), none, some (vi 0)] [] (I2, J2, PP b2) Q)) ∧ (¬ (x ≤ r2) → (Q (some (vl (BitVec.ofInt 64 (-1)))) (I2, J2, PP b2)))))))))) : Tri G h 168 119 119 0 [some (vr 0), some (vi x)] [] (I, J, PP b) Q := wp_at ck168 [(34, [true, true, true, false, true, true, false, true])] 400 (cJN_go H (fun r1 I1 J1 b1 q476 => cIN_go q476 (fun r2 I2 J2 b2 q477 => q477)))
set_option maxRecDepth 100000 in
theorem x168_34 {G : Ctx} {h : Nat} {Q : MP} {I : Nat → Nat → Int} {J : Nat → Nat → BitVec 64} {b : B3} {l1 l4 l7 : Int} {l2 l5 : BitVec 64} (hh : 1 ≤ h) (H : ((l1 ≤ l7) → (Q (some (vl l5)) (I, J, PP b))) ∧ (¬ (l1 ≤ l7) → ((((w32 (l4 - l7)) ≤ 0) → (TriM G h 178 119 119 [vl l2, vi 0] (u2 I 1 0 (w32 ((w32 (1664525 * (I 1 0))) + 1013904223)), J, PP b) (cJN fun r1 I1 J1 b1 => (Tri G h 168 119 119 34 [some (vr 0), some (vi l1), some (vl (l2 &&& (r1 ^^^ (BitVec.ofInt 64 (-1))))), none, some (vi l4), some (vl (l5 ||| r1)), none, some (vi (w32 (l7 + 1)))] [] (I1, J1, PP b1) Q)))) ∧ (¬ ((w32 (l4 - l7)) ≤ 0) → ((w32 (l4 - l7)) ≠ 0 ∧ (TriM G h 178 119 119 [vl l2, vi (iRem (iUsh (w32 ((w32 (1664525 * (I 1 0))) + 1013904223)) 8) (w32 (l4 - l7)))] (u2 I 1 0 (w32 ((w32 (1664525 * (I 1 0))) + 1013904223)), J, PP b) (cJN fun r2 I2 J2 b2 => (Tri G h 168 119 119 34 [some (vr 0), some (vi l1), some (vl (l2 &&& (r2 ^^^ (BitVec.ofInt 64 (-1))))), none, some (vi l4), some (vl (l5 ||| r2)), none, some (vi (w32 (l7 + 1)))] [] (I2, J2, PP b2) Q)))))))) : Tri G h 168 119 119 34 [some (vr 0), some (vi l1), some (vl l2), none, some (vi l4), some (vl l5), none, some (vi l7)] [] (I, J, PP b) Q := wp_at ck168 [(34, [true, true, true, false, true, true, false, true])] 400 (And.intro (fun q478 => H.1 q478) (fun q479 => x131_m (by omega) (fun h hh => x131 hh (And.intro (fun q480 => cI_r (cJN_go ((H.2 q479).1 q480) (fun r1 I1 J1 b1 q482 => q482))) (fun q481 => And.intro ((H.2 q479).2 q481).1 (cI_r (cJN_go (((H.2 q479).2 q481).2) (fun r2 I2 J2 b2 q483 => q483))))))))
theorem x168_m {G : Ctx} {h : Nat} {Q : MP} {I : Nat → Nat → Int} {J : Nat → Nat → BitVec 64} {b : B3} {x : Int} (hh : 4 ≤ h) (H : ∀ h, 3 ≤ h → Tri G h 168 119 119 0 [some (vr 0), some (vi x)] [] (I, J, PP b) Q) : TriM G h 168 119 119 [vr 0, vi x] (I, J, PP b) Q := TriM_intro (h - 1) (by omega) (by decide) (Nat.le_of_ble_eq_true rfl) (Nat.le_refl _) (Nat.le_refl _) (H (h - 1) (by omega))
set_option maxRecDepth 100000 in
theorem x265 {G : Ctx} {h : Nat} {Q : MP} {I : Nat → Nat → Int} {J : Nat → Nat → BitVec 64} {b : B3} {x : Int} (hh : 3 ≤ h) (H : TriM G h 256 119 119 [vr 91, vi (-1)] (I, J, PP b) (cIN fun r1 I1 J1 b1 => ((((0 : Int) ≤ x ∧ x ≤ r1) → (Tri G h 265 119 119 24 [some (vr 91), some (vi x), none, some (vi 0), some (vi 0)] [] (I1, J1, PP b1) Q)) ∧ (¬ ((0 : Int) ≤ x ∧ x ≤ r1) → (Q (some (vl (BitVec.ofInt 64 (-1)))) (I1, J1, PP b1)))))) : Tri G h 265 119 119 0 [some (vr 91), some (vi x)] [] (I, J, PP b) Q := wp_at ck265 [(24, [true, true, false, true, true]), (71, [true, true, false, true, true, false, true]), (105, [true, true, false, true, true, false, true, false, true])] 400 (cIN_go H (fun r1 I1 J1 b1 q484 => sx181 (by omega)  (fun q485 => And.intro (fun _ => q484.1 q485) (fun z => absurd (show ¬ (1 : Int) = (0 : Int) by decide) z)) (fun q486 => And.intro (fun z => absurd z (show ¬ (¬ (0 : Int) = (0 : Int)) by decide)) (fun _ => q484.2 q486))))
set_option maxRecDepth 100000 in
theorem x265_24 {G : Ctx} {h : Nat} {Q : MP} {I : Nat → Nat → Int} {J : Nat → Nat → BitVec 64} {b : B3} {l1 l3 l4 : Int} (hh : 0 ≤ h) (H : (((I 92 3) ≤ l4) → (Tri G h 265 119 119 71 [some (vr 91), some (vi l1), none, some (vi l3), some (vl (0#64)), none, some (vi 0)] [] (I, J, PP b) Q)) ∧ (¬ ((I 92 3) ≤ l4) → ((0 ≤ l4 ∧ l4 < (60 : Int)) ∧ ((((I 114 l4.toNat) = 0) → ((0 ≤ l3 ∧ l3 < (60 : Int)) ∧ (Tri G h 265 119 119 24 [some (vr 91), some (vi l1), none, some (vi (w32 (l3 + 1))), some (vi (w32 (l4 + 1)))] [] (u2 I 118 l3.toNat l4, J, PP b) Q))) ∧ (¬ ((I 114 l4.toNat) = 0) → (Tri G h 265 119 119 24 [some (vr 91), some (vi l1), none, some (vi l3), some (vi (w32 (l4 + 1)))] [] (I, J, PP b) Q)))))) : Tri G h 265 119 119 24 [some (vr 91), some (vi l1), none, some (vi l3), some (vi l4)] [] (I, J, PP b) Q := wp_at ck265 [(24, [true, true, false, true, true]), (71, [true, true, false, true, true, false, true]), (105, [true, true, false, true, true, false, true, false, true])] 400 (And.intro (show (0 : Int) ≤ 3 ∧ (3 : Int) < ((5120 : Nat) : Int) by decide) H)
set_option maxRecDepth 100000 in
theorem x265_71 {G : Ctx} {h : Nat} {Q : MP} {I : Nat → Nat → Int} {J : Nat → Nat → BitVec 64} {b : B3} {l1 l3 l6 : Int} {l4 : BitVec 64} (hh : 1 ≤ h) (H : ((l1 ≤ l6) → (Q (some (vl l4)) (I, J, PP b))) ∧ (¬ (l1 ≤ l6) → (l3 ≠ 0 ∧ ((0 ≤ (iRem (iUsh (w32 ((w32 (1664525 * (I 92 0))) + 1013904223)) 8) l3) ∧ (iRem (iUsh (w32 ((w32 (1664525 * (I 92 0))) + 1013904223)) 8) l3) < (60 : Int)) ∧ (Tri G h 265 119 119 105 [some (vr 91), some (vi l1), none, some (vi (w32 (l3 + (-1)))), some (vl (l4 ||| (lShl (1#64) (I 118 ((iRem (iUsh (w32 ((w32 (1664525 * (I 92 0))) + 1013904223)) 8) l3).toNat))))), none, some (vi l6), none, some (vi (iRem (iUsh (w32 ((w32 (1664525 * (I 92 0))) + 1013904223)) 8) l3))] [] (u2 I 92 0 (w32 ((w32 (1664525 * (I 92 0))) + 1013904223)), J, PP b) Q))))) : Tri G h 265 119 119 71 [some (vr 91), some (vi l1), none, some (vi l3), some (vl l4), none, some (vi l6)] [] (I, J, PP b) Q := wp_at ck265 [(24, [true, true, false, true, true]), (71, [true, true, false, true, true, false, true]), (105, [true, true, false, true, true, false, true, false, true])] 400 (And.intro (fun q487 => H.1 q487) (fun q488 => x184_m (by omega) (fun h hh => x184 hh (And.intro (H.2 q488).1 (cI_r ((H.2 q488).2))))))
set_option maxRecDepth 100000 in
theorem x265_105 {G : Ctx} {h : Nat} {Q : MP} {I : Nat → Nat → Int} {J : Nat → Nat → BitVec 64} {b : B3} {l1 l3 l6 l8 : Int} {l4 : BitVec 64} (hh : 0 ≤ h) (H : ((l3 ≤ l8) → (Tri G h 265 119 119 71 [some (vr 91), some (vi l1), none, some (vi l3), some (vl l4), none, some (vi (w32 (l6 + 1)))] [] (I, J, PP b) Q)) ∧ (¬ (l3 ≤ l8) → ((0 ≤ (w32 (l8 + 1)) ∧ (w32 (l8 + 1)) < (60 : Int)) ∧ ((0 ≤ l8 ∧ l8 < (60 : Int)) ∧ (Tri G h 265 119 119 105 [some (vr 91), some (vi l1), none, some (vi l3), some (vl l4), none, some (vi l6), none, some (vi (w32 (l8 + 1)))] [] (u2 I 118 l8.toNat (I 118 ((w32 (l8 + 1)).toNat)), J, PP b) Q))))) : Tri G h 265 119 119 105 [some (vr 91), some (vi l1), none, some (vi l3), some (vl l4), none, some (vi l6), none, some (vi l8)] [] (I, J, PP b) Q := wp_at ck265 [(24, [true, true, false, true, true]), (71, [true, true, false, true, true, false, true]), (105, [true, true, false, true, true, false, true, false, true])] 400 H
theorem x265_m {G : Ctx} {h : Nat} {Q : MP} {I : Nat → Nat → Int} {J : Nat → Nat → BitVec 64} {b : B3} {x : Int} (hh : 4 ≤ h) (H : ∀ h, 3 ≤ h → Tri G h 265 119 119 0 [some (vr 91), some (vi x)] [] (I, J, PP b) Q) : TriM G h 265 119 119 [vr 91, vi x] (I, J, PP b) Q := TriM_intro (h - 1) (by omega) (by decide) (Nat.le_of_ble_eq_true rfl) (Nat.le_refl _) (Nat.le_refl _) (H (h - 1) (by omega))
set_option maxRecDepth 100000 in
theorem x135 {G : Ctx} {h : Nat} {Q : MP} {I : Nat → Nat → Int} {J : Nat → Nat → BitVec 64} {b : B3} (hh : 3 ≤ h) (H : TriM G h 133 119 119 [vr 1] (I, J, PP b) (cJN fun r1 I1 J1 b1 => (Tri G h 135 119 119 8 [some (vr 1), some (vr 90), some (vl r1), none, some (vi 0)] [] (I1, J1, PP b1) Q))) : Tri G h 135 119 119 0 [some (vr 1), some (vr 90)] [] (I, J, PP b) Q := wp_at ck135 [(8, [true, true, true, false, true])] 400 (cJN_go H (fun r1 I1 J1 b1 q489 => q489))
set_option maxRecDepth 100000 in
theorem x135_8 {G : Ctx} {h : Nat} {Q : MP} {I : Nat → Nat → Int} {J : Nat → Nat → BitVec 64} {b : B3} {l4 : Int} {l2 : BitVec 64} (hh : 1 ≤ h) (H : ((5 ≤ l4) → (Q none (I, J, PP b))) ∧ (¬ (5 ≤ l4) → ((0 ≤ l4 ∧ l4 < (5 : Int)) ∧ (((¬ (I 26 l4.toNat) = (-1)) → (TriM G h 127 119 119 [vr 2, vi (I 26 l4.toNat)] (I, J, PP b) (cJN fun r1 I1 J1 b1 => (TriM G h 17 119 119 [vl (l2 &&& r1)] (I1, J1, PP b1) (cIN fun r2 I2 J2 b2 => ((0 ≤ l4 ∧ l4 < (5 : Int)) ∧ (Tri G h 135 119 119 8 [some (vr 1), some (vr 90), some (vl l2), none, some (vi (w32 (l4 + 1)))] [] (u2 I2 90 l4.toNat (min (9 : Int) r2), J2, PP b2) Q))))))) ∧ (¬ (¬ (I 26 l4.toNat) = (-1)) → ((0 ≤ l4 ∧ l4 < (5 : Int)) ∧ (Tri G h 135 119 119 8 [some (vr 1), some (vr 90), some (vl l2), none, some (vi (w32 (l4 + 1)))] [] (u2 I 90 l4.toNat (min (9 : Int) (0 : Int)), J, PP b) Q))))))) : Tri G h 135 119 119 8 [some (vr 1), some (vr 90), some (vl l2), none, some (vi l4)] [] (I, J, PP b) Q := wp_at ck135 [(8, [true, true, true, false, true])] 400 (And.intro (fun q490 => H.1 q490) (fun q491 => And.intro (H.2 q491).1 (And.intro (fun q492 => cJN_go (((H.2 q491).2).1 q492) (fun r1 I1 J1 b1 q494 => cIN_go q494 (fun r2 I2 J2 b2 q495 => sx3 (by omega)  q495))) (fun q493 => sx3 (by omega)  (((H.2 q491).2).2 q493)))))
theorem x135_m {G : Ctx} {h : Nat} {Q : MP} {I : Nat → Nat → Int} {J : Nat → Nat → BitVec 64} {b : B3} (hh : 4 ≤ h) (H : ∀ h, 3 ≤ h → Tri G h 135 119 119 0 [some (vr 1), some (vr 90)] [] (I, J, PP b) Q) : TriM G h 135 119 119 [vr 1, vr 90] (I, J, PP b) Q := TriM_intro (h - 1) (by omega) (by decide) (Nat.le_of_ble_eq_true rfl) (Nat.le_refl _) (Nat.le_refl _) (H (h - 1) (by omega))
set_option maxRecDepth 100000 in
theorem x260 {G : Ctx} {h : Nat} {Q : MP} {I : Nat → Nat → Int} {J : Nat → Nat → BitVec 64} {b : B3} (hh : 0 ≤ h) (H : Tri G h 260 119 119 4 [some (vr 91), some (vi 0), some (vi 0)] [] (I, J, PP b) Q) : Tri G h 260 119 119 0 [some (vr 91)] [] (I, J, PP b) Q := wp_at ck260 [(4, [true, true, true])] 400 H
set_option maxRecDepth 100000 in
theorem x260_4 {G : Ctx} {h : Nat} {Q : MP} {I : Nat → Nat → Int} {J : Nat → Nat → BitVec 64} {b : B3} {l1 l2 : Int} (hh : 3 ≤ h) (H : ((5 ≤ l2) → (Q (some (vi l1)) (I, J, PP b))) ∧ (¬ (5 ≤ l2) → ((0 ≤ (w32 (10 + l2)) ∧ (w32 (10 + l2)) < (5120 : Int)) ∧ (((¬ (I 92 ((w32 (10 + l2)).toNat)) = (-1)) → ((0 ≤ (w32 (10 + l2)) ∧ (w32 (10 + l2)) < (5120 : Int)) ∧ (TriM G h 256 119 119 [vr 91, vi (I 92 ((w32 (10 + l2)).toNat))] (I, J, PP b) (cIN fun r1 I1 J1 b1 => (((r1 ≤ 9) → ((0 ≤ l2 ∧ l2 < (5 : Int)) ∧ ((0 ≤ l2 ∧ l2 < (5 : Int)) ∧ (Tri G h 260 119 119 4 [some (vr 91), some (vi (w32 (l1 + ((u2 I1 115 l2.toNat r1) 115 l2.toNat)))), some (vi (w32 (l2 + 1)))] [] (u2 I1 115 l2.toNat r1, J1, PP b1) Q)))) ∧ (¬ (r1 ≤ 9) → ((0 ≤ l2 ∧ l2 < (5 : Int)) ∧ ((0 ≤ l2 ∧ l2 < (5 : Int)) ∧ (Tri G h 260 119 119 4 [some (vr 91), some (vi (w32 (l1 + ((u2 I1 115 l2.toNat 9) 115 l2.toNat)))), some (vi (w32 (l2 + 1)))] [] (u2 I1 115 l2.toNat 9, J1, PP b1) Q))))))))) ∧ (¬ (¬ (I 92 ((w32 (10 + l2)).toNat)) = (-1)) → ((0 ≤ l2 ∧ l2 < (5 : Int)) ∧ ((0 ≤ l2 ∧ l2 < (5 : Int)) ∧ (Tri G h 260 119 119 4 [some (vr 91), some (vi (w32 (l1 + ((u2 I 115 l2.toNat 0) 115 l2.toNat)))), some (vi (w32 (l2 + 1)))] [] (u2 I 115 l2.toNat 0, J, PP b) Q)))))))) : Tri G h 260 119 119 4 [some (vr 91), some (vi l1), some (vi l2)] [] (I, J, PP b) Q := wp_at ck260 [(4, [true, true, true])] 400 (And.intro (fun q496 => H.1 q496) (fun q497 => And.intro (H.2 q497).1 (And.intro (fun q498 => And.intro (((H.2 q497).2).1 q498).1 (cIN_go ((((H.2 q497).2).1 q498).2) (fun r1 I1 J1 b1 q500 => q500))) (fun q499 => And.intro (fun _ => ((H.2 q497).2).2 q499) (fun z => absurd (show (0 : Int) ≤ (9 : Int) by decide) z)))))
theorem x260_m {G : Ctx} {h : Nat} {Q : MP} {I : Nat → Nat → Int} {J : Nat → Nat → BitVec 64} {b : B3} (hh : 4 ≤ h) (H : ∀ h, 3 ≤ h → Tri G h 260 119 119 0 [some (vr 91)] [] (I, J, PP b) Q) : TriM G h 260 119 119 [vr 91] (I, J, PP b) Q := TriM_intro (h - 1) (by omega) (by decide) (Nat.le_of_ble_eq_true rfl) (Nat.le_refl _) (Nat.le_refl _) (H (h - 1) (by omega))
set_option maxRecDepth 100000 in
theorem x55 {G : Ctx} {h : Nat} {Q : MP} {I : Nat → Nat → Int} {J : Nat → Nat → BitVec 64} {b : B3} (hh : 0 ≤ h) (H : Tri G h 55 119 119 4 [some (vr 25), some (vr 90), some (vi 0), some (vi 0)] [] (I, J, PP b) Q) : Tri G h 55 119 119 0 [some (vr 25), some (vr 90)] [] (I, J, PP b) Q := wp_at ck55 [(4, [true, true, true, true]), (15, [true, true, true, true, true])] 400 H
set_option maxRecDepth 100000 in
theorem x55_4 {G : Ctx} {h : Nat} {Q : MP} {I : Nat → Nat → Int} {J : Nat → Nat → BitVec 64} {b : B3} {l2 l3 : Int} (hh : 0 ≤ h) (H : (((I 25 0) ≤ l3) → (Q (some (vi l2)) (I, J, PP b))) ∧ (¬ ((I 25 0) ≤ l3) → (Tri G h 55 119 119 15 [some (vr 25), some (vr 90), some (vi l2), some (vi l3), some (vi 0)] [] (I, J, PP b) Q))) : Tri G h 55 119 119 4 [some (vr 25), some (vr 90), some (vi l2), some (vi l3)] [] (I, J, PP b) Q := wp_at ck55 [(4, [true, true, true, true]), (15, [true, true, true, true, true])] 400 H
set_option maxRecDepth 100000 in
theorem x55_15 {G : Ctx} {h : Nat} {Q : MP} {I : Nat → Nat → Int} {J : Nat → Nat → BitVec 64} {b : B3} {l2 l3 l4 : Int} (hh : 2 ≤ h) (H : (((I 25 1) ≤ l4) → (Tri G h 55 119 119 4 [some (vr 25), some (vr 90), some (vi l2), some (vi (w32 (l3 + 1)))] [] (I, J, PP b) Q)) ∧ (¬ ((I 25 1) ≤ l4) → ((0 ≤ (w32 ((w32 (l4 * 4)) + l3)) ∧ (w32 ((w32 (l4 * 4)) + l3)) < (24 : Int)) ∧ (((0 ≤ (I 29 ((w32 ((w32 (l4 * 4)) + l3)).toNat)) ∧ (I 29 ((w32 ((w32 (l4 * 4)) + l3)).toNat)) < (5 : Int)) → (((0 ≤ (I 29 ((w32 ((w32 (l4 * 4)) + l3)).toNat)) ∧ (I 29 ((w32 ((w32 (l4 * 4)) + l3)).toNat)) < (5 : Int)) → (((0 ≤ l3 ∧ l3 < (4 : Int)) → ((0 ≤ (w32 ((w32 ((I 29 ((w32 ((w32 (l4 * 4)) + l3)).toNat)) * 4)) + l3)) ∧ (w32 ((w32 ((I 29 ((w32 ((w32 (l4 * 4)) + l3)).toNat)) * 4)) + l3)) < (20 : Int)) ∧ (((¬ (I 28 ((w32 ((w32 ((I 29 ((w32 ((w32 (l4 * 4)) + l3)).toNat)) * 4)) + l3)).toNat)) = 0) → (Tri G h 55 119 119 15 [some (vr 25), some (vr 90), some (vi l2), some (vi l3), some (vi (w32 (l4 + 1)))] [] (I, J, PP b) Q)) ∧ (¬ (¬ (I 28 ((w32 ((w32 ((I 29 ((w32 ((w32 (l4 * 4)) + l3)).toNat)) * 4)) + l3)).toNat)) = 0) → ((0 ≤ l4 ∧ l4 < (6 : Int)) ∧ ((0 ≤ (I 29 ((w32 ((w32 (l4 * 4)) + l3)).toNat)) ∧ (I 29 ((w32 ((w32 (l4 * 4)) + l3)).toNat)) < (5 : Int)) ∧ ((0 ≤ (I 29 ((w32 ((w32 (l4 * 4)) + l3)).toNat)) ∧ (I 29 ((w32 ((w32 (l4 * 4)) + l3)).toNat)) < (5 : Int)) ∧ ((0 ≤ (I 29 ((w32 ((w32 (l4 * 4)) + l3)).toNat)) ∧ (I 29 ((w32 ((w32 (l4 * 4)) + l3)).toNat)) < (5 : Int)) ∧ (Tri G h 55 119 119 15 [some (vr 25), some (vr 90), some (vi (w32 (l2 + (min (I 27 l4.toNat) (I 90 ((I 29 ((w32 ((w32 (l4 * 4)) + l3)).toNat)).toNat)))))), some (vi l3), some (vi (w32 (l4 + 1)))] [] (u2 I 90 ((I 29 ((w32 ((w32 (l4 * 4)) + l3)).toNat)).toNat) (w32 ((I 90 ((I 29 ((w32 ((w32 (l4 * 4)) + l3)).toNat)).toNat)) - (min (I 27 l4.toNat) (I 90 ((I 29 ((w32 ((w32 (l4 * 4)) + l3)).toNat)).toNat))))), J, PP b) Q))))))))) ∧ (¬ (0 ≤ l3 ∧ l3 < (4 : Int)) → (Tri G h 55 119 119 15 [some (vr 25), some (vr 90), some (vi l2), some (vi l3), some (vi (w32 (l4 + 1)))] [] (I, J, PP b) Q)))) ∧ (¬ (0 ≤ (I 29 ((w32 ((w32 (l4 * 4)) + l3)).toNat)) ∧ (I 29 ((w32 ((w32 (l4 * 4)) + l3)).toNat)) < (5 : Int)) → (Tri G h 55 119 119 15 [some (vr 25), some (vr 90), some (vi l2), some (vi l3), some (vi (w32 (l4 + 1)))] [] (I, J, PP b) Q)))) ∧ (¬ (0 ≤ (I 29 ((w32 ((w32 (l4 * 4)) + l3)).toNat)) ∧ (I 29 ((w32 ((w32 (l4 * 4)) + l3)).toNat)) < (5 : Int)) → (Tri G h 55 119 119 15 [some (vr 25), some (vr 90), some (vi l2), some (vi l3), some (vi (w32 (l4 + 1)))] [] (I, J, PP b) Q)))))) : Tri G h 55 119 119 15 [some (vr 25), some (vr 90), some (vi l2), some (vi l3), some (vi l4)] [] (I, J, PP b) Q := wp_at ck55 [(4, [true, true, true, true]), (15, [true, true, true, true, true])] 400 (And.intro (fun q501 => H.1 q501) (fun q502 => And.intro (H.2 q502).1 (sx172 (by omega)  (fun q503 => And.intro (fun z => absurd z (show ¬ ((1 : Int) = (0 : Int)) by decide)) (fun _ => x53_m (by omega) (fun h hh => x53 hh (And.intro (fun q505 => And.intro (fun q507 => And.intro (((((H.2 q502).2).1 q503).1 q505).1 q507).1 (And.intro (fun q509 => cI_r (And.intro (fun _ => ((((((H.2 q502).2).1 q503).1 q505).1 q507).2).1 q509) (fun z => absurd (show (0 : Int) = (0 : Int) by decide) z))) (fun q510 => cI_r (And.intro (fun z => absurd z (show ¬ ((1 : Int) = (0 : Int)) by decide)) (fun _ => And.intro (((((((H.2 q502).2).1 q503).1 q505).1 q507).2).2 q510).1 (And.intro ((((((((H.2 q502).2).1 q503).1 q505).1 q507).2).2 q510).2).1 (sx3 (by omega)  (((((((((H.2 q502).2).1 q503).1 q505).1 q507).2).2 q510).2).2)))))))) (fun q508 => cI_r (And.intro (fun _ => ((((H.2 q502).2).1 q503).1 q505).2 q508) (fun z => absurd (show (0 : Int) = (0 : Int) by decide) z)))) (fun q506 => cI_r (And.intro (fun _ => (((H.2 q502).2).1 q503).2 q506) (fun z => absurd (show (0 : Int) = (0 : Int) by decide) z))))))) (fun q504 => And.intro (fun _ => ((H.2 q502).2).2 q504) (fun z => absurd (show (0 : Int) = (0 : Int) by decide) z)))))
theorem x55_m {G : Ctx} {h : Nat} {Q : MP} {I : Nat → Nat → Int} {J : Nat → Nat → BitVec 64} {b : B3} (hh : 3 ≤ h) (H : ∀ h, 2 ≤ h → Tri G h 55 119 119 0 [some (vr 25), some (vr 90)] [] (I, J, PP b) Q) : TriM G h 55 119 119 [vr 25, vr 90] (I, J, PP b) Q := TriM_intro (h - 1) (by omega) (by decide) (Nat.le_of_ble_eq_true rfl) (Nat.le_refl _) (Nat.le_refl _) (H (h - 1) (by omega))
set_option maxRecDepth 100000 in
theorem x262 {G : Ctx} {h : Nat} {Q : MP} {I : Nat → Nat → Int} {J : Nat → Nat → BitVec 64} {b : B3} (hh : 4 ≤ h) (H : TriM G h 260 119 119 [vr 91] (I, J, PP b) (cIN fun r1 I1 J1 b1 => (Tri G h 262 119 119 9 [some (vr 91), some (vi 0), some (vi 0)] [] (I1, J1, PP b1) Q))) : Tri G h 262 119 119 0 [some (vr 91)] [] (I, J, PP b) Q := wp_at ck262 [(9, [true, true, true]), (22, [true, true, true, true])] 400 (cIN_go H (fun r1 I1 J1 b1 q511 => q511))
set_option maxRecDepth 100000 in
theorem x262_9 {G : Ctx} {h : Nat} {Q : MP} {I : Nat → Nat → Int} {J : Nat → Nat → BitVec 64} {b : B3} {l1 l2 : Int} (hh : 0 ≤ h) (H : (((I 92 8) ≤ l2) → (Q (some (vi l1)) (I, J, PP b))) ∧ (¬ ((I 92 8) ≤ l2) → (Tri G h 262 119 119 22 [some (vr 91), some (vi l1), some (vi l2), some (vi 0)] [] (I, J, PP b) Q))) : Tri G h 262 119 119 9 [some (vr 91), some (vi l1), some (vi l2)] [] (I, J, PP b) Q := wp_at ck262 [(9, [true, true, true]), (22, [true, true, true, true])] 400 (And.intro (show (0 : Int) ≤ 8 ∧ (8 : Int) < ((5120 : Nat) : Int) by decide) H)
set_option maxRecDepth 100000 in
theorem x262_22 {G : Ctx} {h : Nat} {Q : MP} {I : Nat → Nat → Int} {J : Nat → Nat → BitVec 64} {b : B3} {l1 l2 l3 : Int} (hh : 1 ≤ h) (H : (((I 92 9) ≤ l3) → (Tri G h 262 119 119 9 [some (vr 91), some (vi l1), some (vi (w32 (l2 + 1)))] [] (I, J, PP b) Q)) ∧ (¬ ((I 92 9) ≤ l3) → ((0 ≤ (w32 ((w32 (41 + (w32 (4 * l3)))) + l2)) ∧ (w32 ((w32 (41 + (w32 (4 * l3)))) + l2)) < (5120 : Int)) ∧ ((((I 92 ((w32 ((w32 (41 + (w32 (4 * l3)))) + l2)).toNat)) = (-1)) → (Tri G h 262 119 119 22 [some (vr 91), some (vi l1), some (vi l2), some (vi (w32 (l3 + 1)))] [] (I, J, PP b) Q)) ∧ (¬ ((I 92 ((w32 ((w32 (41 + (w32 (4 * l3)))) + l2)).toNat)) = (-1)) → ((0 ≤ (w32 (10 + (I 92 ((w32 ((w32 (41 + (w32 (4 * l3)))) + l2)).toNat)))) ∧ (w32 (10 + (I 92 ((w32 ((w32 (41 + (w32 (4 * l3)))) + l2)).toNat)))) < (5120 : Int)) ∧ ((((I 92 ((w32 (10 + (I 92 ((w32 ((w32 (41 + (w32 (4 * l3)))) + l2)).toNat)))).toNat)) = (-1)) → (Tri G h 262 119 119 22 [some (vr 91), some (vi l1), some (vi l2), some (vi (w32 (l3 + 1)))] [] (I, J, PP b) Q)) ∧ (¬ ((I 92 ((w32 (10 + (I 92 ((w32 ((w32 (41 + (w32 (4 * l3)))) + l2)).toNat)))).toNat)) = (-1)) → ((0 ≤ (w32 ((w32 (21 + (w32 (4 * (I 92 ((w32 ((w32 (41 + (w32 (4 * l3)))) + l2)).toNat)))))) + l2)) ∧ (w32 ((w32 (21 + (w32 (4 * (I 92 ((w32 ((w32 (41 + (w32 (4 * l3)))) + l2)).toNat)))))) + l2)) < (5120 : Int)) ∧ (((¬ (I 92 ((w32 ((w32 (21 + (w32 (4 * (I 92 ((w32 ((w32 (41 + (w32 (4 * l3)))) + l2)).toNat)))))) + l2)).toNat)) = 0) → (Tri G h 262 119 119 22 [some (vr 91), some (vi l1), some (vi l2), some (vi (w32 (l3 + 1)))] [] (I, J, PP b) Q)) ∧ (¬ (¬ (I 92 ((w32 ((w32 (21 + (w32 (4 * (I 92 ((w32 ((w32 (41 + (w32 (4 * l3)))) + l2)).toNat)))))) + l2)).toNat)) = 0) → ((0 ≤ (I 92 ((w32 ((w32 (41 + (w32 (4 * l3)))) + l2)).toNat)) ∧ (I 92 ((w32 ((w32 (41 + (w32 (4 * l3)))) + l2)).toNat)) < (5 : Int)) ∧ ((0 ≤ (w32 (15 + l3)) ∧ (w32 (15 + l3)) < (5120 : Int)) ∧ ((((I 92 ((w32 (15 + l3)).toNat)) ≤ (I 115 ((I 92 ((w32 ((w32 (41 + (w32 (4 * l3)))) + l2)).toNat)).toNat))) → ((0 ≤ (w32 (15 + l3)) ∧ (w32 (15 + l3)) < (5120 : Int)) ∧ ((0 ≤ (I 92 ((w32 ((w32 (41 + (w32 (4 * l3)))) + l2)).toNat)) ∧ (I 92 ((w32 ((w32 (41 + (w32 (4 * l3)))) + l2)).toNat)) < (5 : Int)) ∧ ((0 ≤ (I 92 ((w32 ((w32 (41 + (w32 (4 * l3)))) + l2)).toNat)) ∧ (I 92 ((w32 ((w32 (41 + (w32 (4 * l3)))) + l2)).toNat)) < (5 : Int)) ∧ (Tri G h 262 119 119 22 [some (vr 91), some (vi (w32 (l1 + (I 92 ((w32 (15 + l3)).toNat))))), some (vi l2), some (vi (w32 (l3 + 1)))] [] (u2 I 115 ((I 92 ((w32 ((w32 (41 + (w32 (4 * l3)))) + l2)).toNat)).toNat) (w32 ((I 115 ((I 92 ((w32 ((w32 (41 + (w32 (4 * l3)))) + l2)).toNat)).toNat)) - (I 92 ((w32 (15 + l3)).toNat)))), J, PP b) Q))))) ∧ (¬ ((I 92 ((w32 (15 + l3)).toNat)) ≤ (I 115 ((I 92 ((w32 ((w32 (41 + (w32 (4 * l3)))) + l2)).toNat)).toNat))) → ((0 ≤ (I 92 ((w32 ((w32 (41 + (w32 (4 * l3)))) + l2)).toNat)) ∧ (I 92 ((w32 ((w32 (41 + (w32 (4 * l3)))) + l2)).toNat)) < (5 : Int)) ∧ ((0 ≤ (I 92 ((w32 ((w32 (41 + (w32 (4 * l3)))) + l2)).toNat)) ∧ (I 92 ((w32 ((w32 (41 + (w32 (4 * l3)))) + l2)).toNat)) < (5 : Int)) ∧ ((0 ≤ (I 92 ((w32 ((w32 (41 + (w32 (4 * l3)))) + l2)).toNat)) ∧ (I 92 ((w32 ((w32 (41 + (w32 (4 * l3)))) + l2)).toNat)) < (5 : Int)) ∧ (Tri G h 262 119 119 22 [some (vr 91), some (vi (w32 (l1 + (I 115 ((I 92 ((w32 ((w32 (41 + (w32 (4 * l3)))) + l2)).toNat)).toNat))))), some (vi l2), some (vi (w32 (l3 + 1)))] [] (u2 I 115 ((I 92 ((w32 ((w32 (41 + (w32 (4 * l3)))) + l2)).toNat)).toNat) (w32 ((I 115 ((I 92 ((w32 ((w32 (41 + (w32 (4 * l3)))) + l2)).toNat)).toNat)) - (I 115 ((I 92 ((w32 ((w32 (41 + (w32 (4 * l3)))) + l2)).toNat)).toNat)))), J, PP b) Q))))))))))))))))))) : Tri G h 262 119 119 22 [some (vr 91), some (vi l1), some (vi l2), some (vi l3)] [] (I, J, PP b) Q := wp_at ck262 [(9, [true, true, true]), (22, [true, true, true, true])] 400 (And.intro (show (0 : Int) ≤ 9 ∧ (9 : Int) < ((5120 : Nat) : Int) by decide) (And.intro (fun q512 => H.1 q512) (fun q513 => And.intro (H.2 q513).1 (And.intro (fun q514 => ((H.2 q513).2).1 q514) (fun q515 => x261_m (by omega) (fun h hh => x261 hh (And.intro (((H.2 q513).2).2 q515).1 (And.intro (fun q516 => cI_r (And.intro (fun z => absurd z (show ¬ (¬ (0 : Int) = (0 : Int)) by decide)) (fun _ => ((((H.2 q513).2).2 q515).2).1 q516))) (fun q517 => And.intro (((((H.2 q513).2).2 q515).2).2 q517).1 (And.intro (fun q518 => cI_r (And.intro (fun z => absurd z (show ¬ (¬ (0 : Int) = (0 : Int)) by decide)) (fun _ => ((((((H.2 q513).2).2 q515).2).2 q517).2).1 q518))) (fun q519 => cI_r (And.intro (fun _ => ((((((H.2 q513).2).2 q515).2).2 q517).2).2 q519) (fun z => absurd (show ¬ (1 : Int) = (0 : Int) by decide) z)))))))))))))
theorem x262_m {G : Ctx} {h : Nat} {Q : MP} {I : Nat → Nat → Int} {J : Nat → Nat → BitVec 64} {b : B3} (hh : 5 ≤ h) (H : ∀ h, 4 ≤ h → Tri G h 262 119 119 0 [some (vr 91)] [] (I, J, PP b) Q) : TriM G h 262 119 119 [vr 91] (I, J, PP b) Q := TriM_intro (h - 1) (by omega) (by decide) (Nat.le_of_ble_eq_true rfl) (Nat.le_refl _) (Nat.le_refl _) (H (h - 1) (by omega))
set_option maxRecDepth 100000 in
theorem x166 {G : Ctx} {h : Nat} {Q : MP} {I : Nat → Nat → Int} {J : Nat → Nat → BitVec 64} {b : B3} (hh : 4 ≤ h) (H : TriM G h 135 119 119 [vr 1, vr 90] (I, J, PP b) (cVN fun I1 J1 b1 => (TriM G h 55 119 119 [vr 25, vr 90] (I1, J1, PP b1) (cIN fun r2 I2 J2 b2 => (Q (some (vi r2)) (I2, J2, PP b2)))))) : Tri G h 166 119 119 0 [some (vr 0)] [] (I, J, PP b) Q := wp_at ck166 [] 400 (cVN_go H (fun I1 J1 b1 q520 => cIN_go q520 (fun r2 I2 J2 b2 q521 => q521)))
theorem x166_m {G : Ctx} {h : Nat} {Q : MP} {I : Nat → Nat → Int} {J : Nat → Nat → BitVec 64} {b : B3} (hh : 5 ≤ h) (H : ∀ h, 4 ≤ h → Tri G h 166 119 119 0 [some (vr 0)] [] (I, J, PP b) Q) : TriM G h 166 119 119 [vr 0] (I, J, PP b) Q := TriM_intro (h - 1) (by omega) (by decide) (Nat.le_of_ble_eq_true rfl) (Nat.le_refl _) (Nat.le_refl _) (H (h - 1) (by omega))
theorem u2_u2 {α : Type} {f : Nat → Nat → α} {k j : Nat} {x y : α} : u2 (u2 f k j x) k j y = u2 f k j y := by
  funext c d
  unfold u2
  split <;> rfl
theorem lCmp_0 {a : BitVec 64} : lCmp a (0#64) = 0 ↔ a = 0#64 := by
  unfold lCmp lg_cmp
  have hi : ∀ c : Int64, c = Int64.ofBitVec (0#64) ↔ c.toBitVec = 0#64 := fun c => ⟨fun q => by rw [q]; rfl, fun q => Int64.toBitVec_inj.1 q⟩
  constructor
  · intro q
    split at q
    · exact absurd q (by decide)
    · split at q
      · next h1 => exact (hi _).1 h1
      · exact absurd q (by decide)
  · intro q
    subst q
    rfl
section LOTS
variable {G : Ctx} {h n : Nat} {I : MI} {J : MJ} {b : B3} {x y z u v e : Int} {a : BitVec 64}
/-- bits that stand for a list -/
def bitsL (a : BitVec 64) (L : List Nat) : Prop := ∀ j, a.getLsbD j = true ↔ j ∈ L
theorem bitsL_low {y : Nat} {L : List Nat} (h : bitsL a (y :: L)) (hs : (y :: L).Pairwise (· < ·)) : lowB a y := by
  have h1 := (h y).2 List.mem_cons_self
  refine ⟨BitVec.lt_of_getLsbD h1, h1, fun j hj => ?_⟩
  cases hc : a.getLsbD j with
  | false => rfl
  | true =>
    rcases List.mem_cons.1 ((h j).1 hc) with q | q
    · omega
    · have := (List.pairwise_cons.1 hs).1 j q
      omega
theorem bitsL_cl {y : Nat} {L : List Nat} (h : bitsL a (y :: L)) (hs : (y :: L).Pairwise (· < ·)) : bitsL (a &&& (a - 1#64)) L := by
  intro j
  rw [low_cl (bitsL_low h hs), Bool.and_eq_true, h j, decide_eq_true_eq, List.mem_cons]
  constructor
  · rintro ⟨q1 | q1, q2⟩
    · exact absurd q1 q2
    · exact q1
  · intro q
    have := (List.pairwise_cons.1 hs).1 j q
    exact ⟨Or.inr q, by omega⟩
theorem s178_l {K : BitVec 64 → MI → MJ → B3 → Prop} : ∀ (L : List Nat) (a : BitVec 64) (d : Nat) (i : Int), bitsL a L → L.Pairwise (· < ·) → (hd : d < L.length) → 0 ≤ i → i + d < 1000 → (∀ r : BitVec 64, (∀ j, r.getLsbD j = decide (j = L[d])) → K r I J b) → Tri G h 178 119 119 5 [none, none, some (vi (i + d)), some (vl a), none, some (vi i)] [] (I, J, PP b) (cJN K)
  | [], a, d, i, _, _, hd, _, _, _ => by simp at hd
  | y :: L, a, 0, i, hb, hs, hd, h0, h1, k => by
    refine x178_5 (Nat.zero_le _) ⟨fun q => cJN_r (k _ fun j => ?_), fun q => by omega⟩
    rw [low_neg (bitsL_low hb hs)]
    rfl
  | y :: L, a, d + 1, i, hb, hs, hd, h0, h1, k => by
    have hl := bitsL_low hb hs
    refine x178_5 (Nat.zero_le _) ⟨fun q => by omega, fun q => ⟨fun q2 => ?_, fun q2 => ?_⟩⟩
    · rw [lCmp_0] at q2
      have := hl.2.1
      rw [q2] at this
      simp at this
    · have := s178_l (K := K) L (a &&& (a - 1#64)) d (i + 1) (bitsL_cl hb hs) (List.pairwise_cons.1 hs).2 (by simpa using hd) (by omega) (by omega) k
      rw [w32_id (by omega) (by omega), show i + ((d + 1 : Nat) : Int) = i + 1 + d by omega]
      exact this
theorem s178 {K : BitVec 64 → MI → MJ → B3 → Prop} {L : List Nat} {d : Nat} (hh : 1 ≤ h) (hb : bitsL a L) (hs : L.Pairwise (· < ·)) (hd : d < L.length) (h2 : d < 1000) (hx : x = d) (k : K (lShl (1#64) (L[d] : Nat)) I J b) : TriM G h 178 119 119 [vl a, vi x] (I, J, PP b) (cJN K) := by
  refine x178_m hh (fun h hh => x178 hh ?_)
  have := s178_l (G := G) (h := h) (I := I) (J := J) (b := b) (K := K) L a d 0 hb hs hd (by omega) (by omega) (fun r hr => ?_)
  · rw [hx, show (d : Int) = 0 + d by omega]
    exact this
  · have hm : L[d] < 64 := BitVec.lt_of_getLsbD ((hb _).2 (List.getElem_mem hd))
    have e : r = lShl (1#64) (L[d] : Nat) := by
      apply BitVec.eq_of_getLsbD_eq
      intro j _
      rw [hr, shl1_bit rfl hm]
    rw [e]
    exact k
def drawS (S : Int) : Int := w32 (w32 (1664525 * S) + 1013904223)
def drawV (S m : Int) : Int := iRem (iUsh (drawS S) 8) m
theorem iUsh8 (a : Int) : 0 ≤ iUsh a 8 ∧ iUsh a 8 < 16777216 := by
  unfold iUsh
  have e := pk_ushr (Int32.ofInt a) (Int32.ofInt 8) 8 (by decide)
  have h1 := (Int32.ofInt a).toBitVec.isLt
  generalize ((Int32.ofInt a).toUInt32 >>> ((Int32.ofInt 8).toUInt32 &&& Int32.toUInt32 31)).toInt32 = U at e ⊢
  have h2 : U.toInt = (U.toBitVec.toNat : Int).bmod (2 ^ 32) := BitVec.toInt_eq_toNat_bmod _
  rw [h2, Int.bmod_def]
  omega
theorem drawV_in {S m : Int} (hm : 0 < m) (h2 : m < 1000) : 0 ≤ drawV S m ∧ drawV S m < m := by
  have h1 := iUsh8 (drawS S)
  unfold drawV
  rw [iRem_pos h1.1 (by omega) hm (by omega)]
  exact ⟨Int.emod_nonneg _ (by omega), Int.emod_lt_of_pos _ hm⟩
def lotF : Nat → Int → List Nat → BitVec 64 → BitVec 64 × Int
  | 0, S, _, a => (a, S)
  | k + 1, S, L, a => lotF k (drawS S) (L.eraseIdx (drawV S L.length).toNat) (a ||| lShl (1#64) (L.getD (drawV S L.length).toNat 0 : Nat))
theorem bitsL_er {L : List Nat} {d : Nat} (h : bitsL a L) (hs : L.Pairwise (· < ·)) (hd : d < L.length) : bitsL (a &&& (lShl (1#64) (L[d] : Nat) ^^^ BitVec.ofInt 64 (-1))) (L.eraseIdx d) := by
  have hm : L[d] < 64 := BitVec.lt_of_getLsbD ((h _).2 (List.getElem_mem hd))
  intro j
  rw [show BitVec.ofInt 64 (-1) = BitVec.allOnes 64 from rfl, BitVec.xor_allOnes, BitVec.getLsbD_and, BitVec.getLsbD_not, shl1_bit rfl hm, List.mem_eraseIdx_iff_getElem, Bool.and_eq_true, h j]
  constructor
  · rintro ⟨q1, q2⟩
    obtain ⟨i, hi, e⟩ := List.getElem_of_mem q1
    refine ⟨i, hi, ?_, e⟩
    intro hid
    subst hid
    rw [e] at q2
    simp at q2
  · rintro ⟨i, hi, hid, e⟩
    have q1 : j ∈ L := by rw [← e]; exact List.getElem_mem hi
    have hj : j < 64 := BitVec.lt_of_getLsbD ((h _).2 q1)
    refine ⟨q1, ?_⟩
    have hne : j ≠ L[d] := by
      intro hc
      rw [← e] at hc
      rcases Nat.lt_trichotomy i d with q | q | q
      · have := List.pairwise_iff_getElem.1 hs i d hi hd q
        omega
      · exact hid q
      · have := List.pairwise_iff_getElem.1 hs d i hd hi q
        omega
    simp [hj, hne]
theorem s168_l {K : BitVec 64 → MI → MJ → B3 → Prop} {many : Int} : ∀ (m : Nat) (i S : Int) (L : List Nat) (a c : BitVec 64), i + m = x → 0 ≤ i → many = i + L.length → many < 100 → m ≤ L.length → bitsL a L → L.Pairwise (· < ·) → K (lotF m S L c).1 (u2 I 1 0 (lotF m S L c).2) J b → 1 ≤ h → Tri G h 168 119 119 34 [some (vr 0), some (vi x), some (vl a), none, some (vi many), some (vl c), none, some (vi i)] [] (u2 I 1 0 S, J, PP b) (cJN K) := by
  intro m
  induction m with
  | zero =>
    intro i S L a c hi h0 hm h100 hL hb hs k hh
    exact x168_34 hh ⟨fun q => cJN_r k, fun q => by omega⟩
  | succ m ih =>
    intro i S L a c hi h0 hm h100 hL hb hs k hh
    refine x168_34 hh ?_
    rw [w32_id (x := many - i) (by omega) (by omega), show many - i = (L.length : Int) by omega]
    have hdr := drawV_in (S := S) (m := L.length) (by omega) (by omega)
    refine ⟨fun q => by omega, fun q => ⟨fun q2 => by omega, fun q2 => ⟨by omega, ?_⟩⟩⟩
    rw [u2e, u2_u2]
    have hd : (drawV S L.length).toNat < L.length := by omega
    refine s178 (L := L) (d := (drawV S L.length).toNat) (by omega) hb hs hd (by omega) (show drawV S L.length = _ by omega) ?_
    rw [w32_id (by omega) (by omega)]
    refine ih (i + 1) (drawS S) (L.eraseIdx (drawV S L.length).toNat) _ _ (by omega) (by omega) (by rw [List.length_eraseIdx_of_lt hd]; omega) h100 (by rw [List.length_eraseIdx_of_lt hd]; omega) (bitsL_er hb hs hd) (hs.sublist (List.eraseIdx_sublist _ _)) ?_ hh
    simp only [lotF] at k
    rw [List.getD_eq_getElem?_getD, List.getElem?_eq_getElem hd] at k
    exact k
/-- the reference's row of lots -/
def rowL (f : Nat → Int) (L : List Nat) : Prop := ∀ (t : Nat) (ht : t < L.length), f t = (L[t] : Nat)
theorem s265_3 {Q : MP} {L : List Nat} {d : Nat} {l4 : BitVec 64} {l6 : Int} {I0 : MI} (hL : L.length ≤ 60) (hd : d < L.length) (k : ∀ I', frK [118] I0 I' → rowL (I' 118) (L.eraseIdx d) → Tri G h 265 119 119 71 [some (vr 91), some (vi x), none, some (vi (L.length - 1 : Nat)), some (vl l4), none, some (vi (w32 (l6 + 1)))] [] (I', J, PP b) Q) : ∀ (m j : Nat) (I' : MI), j + m + 1 = L.length → d ≤ j → frK [118] I0 I' → (∀ (t : Nat) (ht : t < L.length), (t < d → I' 118 t = (L[t] : Nat)) ∧ (j ≤ t → t ≠ d → I' 118 t = (L[t] : Nat)) ∧ (d < t → t ≤ j → I' 118 (t - 1) = (L[t] : Nat))) → Tri G h 265 119 119 105 [some (vr 91), some (vi x), none, some (vi (L.length - 1 : Nat)), some (vl l4), none, some (vi l6), none, some (vi j)] [] (I', J, PP b) Q := by
  intro m
  induction m with
  | zero =>
    intro j I' hj hdj hf ht
    refine x265_105 (Nat.zero_le _) ⟨fun q => k I' hf fun t h1 => ?_, fun q => by omega⟩
    rw [List.length_eraseIdx_of_lt hd] at h1
    rw [List.getElem_eraseIdx]
    split
    · next q1 => exact (ht t (by omega)).1 q1
    · next q1 =>
      have := (ht (t + 1) (by omega)).2.2 (by omega) (by omega)
      exact this
  | succ m ih =>
    intro j I' hj hdj hf ht
    refine x265_105 (Nat.zero_le _) ⟨fun q => by omega, fun q => ?_⟩
    rw [w32_id (by omega) (by omega)]
    refine ⟨by omega, by omega, ?_⟩
    rw [toN, show ((j : Int) + 1).toNat = j + 1 by omega]
    refine ih (j + 1) _ (by omega) (by omega) (hf.u (by decide)) (fun t h1 => ⟨fun q1 => ?_, fun q1 q2 => ?_, fun q1 q2 => ?_⟩)
    · rw [u2j (by omega)]; exact (ht t h1).1 q1
    · rw [u2j (by omega)]; exact (ht t h1).2.1 (by omega) q2
    · by_cases htj : t = j + 1
      · subst htj
        rw [show j + 1 - 1 = j by omega, u2e]
        exact (ht (j + 1) h1).2.1 (by omega) (by omega)
      · rw [u2j (by omega)]; exact (ht t h1).2.2 q1 (by omega)
theorem frK_u2 {S : List Nat} {A B : MI} {k j : Nat} {p q : Int} (h : frK S (u2 A k j p) B) : frK S (u2 A k j q) (u2 B k j q) := by
  intro c hc
  have h1 := h c hc
  by_cases hk : c = k
  · subst hk
    funext d
    by_cases hd : d = j
    · subst hd; rw [u2e, u2e]
    · rw [u2j hd, u2j hd, h1, u2j hd]
  · rw [u2_ne hk, u2_ne hk, h1, u2_ne hk]
theorem s265_2 {K : BitVec 64 → MI → MJ → B3 → Prop} {I0 : MI} : ∀ (m : Nat) (i S : Int) (L : List Nat) (c : BitVec 64) (I' : MI), i + m = x → 0 ≤ i → i + L.length < 100 → L.length ≤ 60 → m ≤ L.length → rowL (I' 118) L → frK [118] (u2 I0 92 0 S) I' → (∀ I2, frK [118] (u2 I0 92 0 (lotF m S L c).2) I2 → K (lotF m S L c).1 I2 J b) → 1 ≤ h → Tri G h 265 119 119 71 [some (vr 91), some (vi x), none, some (vi L.length), some (vl c), none, some (vi i)] [] (I', J, PP b) (cJN K) := by
  intro m
  induction m with
  | zero =>
    intro i S L c I' hi h0 h100 hL hm hr hf k hh
    exact x265_71 hh ⟨fun q => cJN_r (k I' hf), fun q => by omega⟩
  | succ m ih =>
    intro i S L c I' hi h0 h100 hL hm hr hf k hh
    have hdr := drawV_in (S := S) (m := L.length) (by omega) (by omega)
    have hd : (drawV S L.length).toNat < L.length := by omega
    have f92 : I' 92 0 = S := by rw [hf 92 (by decide)]; exact u2e
    refine x265_71 hh ?_
    rw [f92]
    refine ⟨fun q => by omega, fun q => ⟨by omega, ⟨hdr.1, Int.lt_of_lt_of_le hdr.2 (by omega)⟩, ?_⟩⟩
    obtain ⟨d, hdd⟩ : ∃ d : Nat, drawV S L.length = d := ⟨(drawV S L.length).toNat, by omega⟩
    have hd2 : d < L.length := by omega
    simp only [lotF] at k
    rw [hdd, toN, List.getD_eq_getElem?_getD, List.getElem?_eq_getElem hd2] at k
    show Tri G h 265 119 119 105 [some (vr 91), some (vi x), none, some (vi (w32 ((L.length : Int) + (-1)))), some (vl (c ||| (lShl (1#64) (I' 118 ((drawV S L.length).toNat))))), none, some (vi i), none, some (vi (drawV S L.length))] [] (u2 I' 92 0 (drawS S), J, PP b) (cJN K)
    rw [hdd, toN, hr d hd2, w32_id (by omega) (by omega), show (L.length : Int) + (-1) = ((L.length - 1 : Nat) : Int) by omega]
    refine s265_3 (I0 := u2 I' 92 0 (drawS S)) hL hd2 (fun I2 hf2 hr2 => ?_) (L.length - 1 - d) d _ (by omega) (Nat.le_refl _) frK.r (fun t ht => ⟨fun q1 => ?_, fun q1 q2 => ?_, fun q1 q2 => by omega⟩)
    · rw [w32_id (by omega) (by omega)]
      have := ih (i + 1) (drawS S) (L.eraseIdx d) (c ||| lShl (1#64) (L[d] : Nat)) I2 (by omega) (by omega) (by rw [List.length_eraseIdx_of_lt hd2]; omega) (by rw [List.length_eraseIdx_of_lt hd2]; omega) (by rw [List.length_eraseIdx_of_lt hd2]; omega) hr2 ((frK_u2 hf).t hf2) k hh
      rw [List.length_eraseIdx_of_lt hd2] at this
      exact this
    · rw [u2n (by decide)]; exact hr t ht
    · rw [u2n (by decide)]; exact hr t ht
noncomputable def lstM (I : MI) (i : Nat) : List Nat := (List.range i).filter (misB I)
theorem lstM_s (I : MI) (i : Nat) : lstM I (i + 1) = if misB I i = true then lstM I i ++ [i] else lstM I i := by
  unfold lstM
  rw [List.range_succ, List.filter_append]
  by_cases h : misB I i = true
  · rw [if_pos h]; simp [h]
  · rw [if_neg h]; simp [h]
theorem lstM_len (I : MI) : ∀ i, (lstM I i).length = fb_ct (misB I) i
  | 0 => rfl
  | i + 1 => by
    rw [lstM_s, fb_ct_succ, ← lstM_len I i]
    split
    · rw [List.length_append]; rfl
    · rfl
theorem lstM_sort (I : MI) (i : Nat) : (lstM I i).Pairwise (· < ·) := List.Pairwise.filter _ List.pairwise_lt_range
theorem lstM_mem {I : MI} {i j : Nat} : j ∈ lstM I i ↔ j < i ∧ misB I j = true := by
  unfold lstM
  rw [List.mem_filter, List.mem_range]
theorem lstM_60 {I : MI} (hT : rTown 0 92 I) : lstM I (I 2 0).toNat = lstM I 60 := by
  have t1 := hT.1
  simp only [Nat.reduceAdd] at t1
  have : ∀ m, lstM I ((I 2 0).toNat + m) = lstM I (I 2 0).toNat := by
    intro m
    induction m with
    | zero => rfl
    | succ m ih =>
      rw [← Nat.add_assoc, lstM_s, if_neg, ih]
      rw [misB_iff]
      omega
  rw [← this (60 - (I 2 0).toNat), show (I 2 0).toNat + (60 - (I 2 0).toNat) = 60 by omega]
theorem misN_len (I : MI) : misN I (-1) = (lstM I 60).length := by
  rw [lstM_len]
  unfold misN
  congr 1
  apply fb_ct_cong
  intro k _
  simp
theorem s265_1 {Q : MP} {I0 : MI} (hT : rTown 0 92 I) (hf0 : seenR I I0) (k : ∀ I', frK [118] I0 I' → rowL (I' 118) (lstM I 60) → Tri G h 265 119 119 71 [some (vr 91), some (vi x), none, some (vi (lstM I 60).length), some (vl (0#64)), none, some (vi 0)] [] (I', J, PP b) Q) : ∀ (m i : Nat) (I' : MI), (i : Int) + m = I 2 0 → frK [118] I0 I' → rowL (I' 118) (lstM I i) → Tri G h 265 119 119 24 [some (vr 91), some (vi x), none, some (vi (lstM I i).length), some (vi i)] [] (I', J, PP b) Q := by
  have t1 := hT.1
  simp only [Nat.reduceAdd] at t1
  intro m
  induction m with
  | zero =>
    intro i I' hi hf hr
    have f92 : I' 92 = I 92 := by rw [hf 92 (by decide), hf0.1 92 (by decide)]
    have hi2 : i = (I 2 0).toNat := by omega
    rw [hi2, lstM_60 hT] at hr
    refine x265_24 (Nat.zero_le _) ⟨fun q => ?_, fun q => by rw [f92] at q; omega⟩
    rw [hi2, lstM_60 hT]
    exact k I' hf hr
  | succ m ih =>
    intro i I' hi hf hr
    have f92 : I' 92 = I 92 := by rw [hf 92 (by decide), hf0.1 92 (by decide)]
    have f114 : I' 114 = I0 114 := hf 114 (by decide)
    have hs := hf0.2 i (by omega)
    have hl := fb_ct_le (misB I) i
    have hlen := lstM_len I i
    refine x265_24 (Nat.zero_le _) ⟨fun q => by rw [f92] at q; omega, fun q => ⟨by omega, fun q2 => ⟨by omega, ?_⟩, fun q2 => ?_⟩⟩
    · rw [f114, toN] at q2
      have hm : misB I i = true := by
        rw [misB_iff, ← hs.2]
        omega
      rw [w32_id (by omega) (by omega), w32_id (by omega) (by omega), toN]
      have := ih (i + 1) (u2 I' 118 (lstM I i).length i) (by omega) (hf.u (by decide)) ?_
      · rw [lstM_s, if_pos hm, List.length_append] at this
        exact this
      · rw [lstM_s, if_pos hm]
        intro t ht
        rw [List.length_append] at ht
        by_cases h1 : t = (lstM I i).length
        · subst h1
          rw [u2e]
          simp
        · rw [u2j h1]
          have h2 : t < (lstM I i).length := by simp at ht; omega
          rw [List.getElem_append_left h2]
          exact hr t h2
    · rw [f114, toN] at q2
      have hm : ¬ misB I i = true := by
        rw [misB_iff, ← hs.2]
        omega
      rw [w32_id (by omega) (by omega)]
      have := ih (i + 1) I' (by omega) hf (by rw [lstM_s, if_neg hm]; exact hr)
      rw [lstM_s, if_neg hm] at this
      exact this
theorem INV.dr {c : Nat} (hI : INV c I J) (v : Int) : INV c (u2 (u2 I 1 0 v) 92 0 v) J := by
  obtain ⟨p0, p1, p2, ⟨a1, a2, a3, a4, a5⟩, ⟨t0, t1, t2⟩, hl, hp, htp, hf, ⟨k1, k2, k3⟩, hc, hcc⟩ := hI
  refine ⟨p0, p1, p2, ⟨a1.fr ?_ ?_ ?_ ?_ ?_ ?_, a2.fr ?_ ?_ ?_ ?_ ?_ ?_ ?_ ?_, a3.fr ?_ ?_ ?_ ?_ ?_, a4.fr ?_ ?_ ?_ ?_ ?_ ?_, ?_⟩, ⟨t0.fr ?_ ?_ ?_, t1.fr ?_ ?_ ?_, t2.fr ?_ ?_ ?_⟩, hl.fr ?_ ?_ ?_ ?_ ?_ ?_ ?_ ?_ ?_, hp.fr ?_ ?_ ?_ ?_ ?_ ?_ ?_ ?_ ?_ ?_ ?_ ?_ ?_ ?_ ?_, htp.fr ?_ ?_ ?_ ?_, ?_, ⟨?_, ?_, fun q => (k3 ?_).fr ?_ ?_⟩, hc, ?_⟩
  all_goals first
    | (simp (disch := decide) only [u2_ne, u1_ne]; done)
    | (intro j hj; simp (disch := omega) only [u2n, u2j, u1n]; done)
    | (simp (disch := omega) only [u2n, u2j, u2e, u1n]; first | done | omega | assumption | exact Int.le_refl _)
    | (intro k hk; simp (disch := omega) only [u2_ne, u1_ne]; done)
    | (simp (disch := omega) only [u2n, u2j, u2e] at q; exact q)
    | rfl
theorem misB_1 {v : Int} : misB (u2 I 1 0 v) = misB I := by
  funext j
  have e : ∀ n, sn (u2 I 1 0 v) n j = sn I n j := by
    intro n
    unfold sn fact
    rw [knB_c (I := I) (u2_ne (by decide)) (u2_ne (by decide)) (u2_ne (by decide))]
    simp (disch := decide) only [u2n]
  apply Bool.eq_iff_iff.2
  rw [misB_iff, misB_iff, e, u2n (by decide), u2n (by decide)]
theorem u2_id {f : MI} {k j : Nat} : u2 f k j (f k j) = f := by
  funext c d
  unfold u2
  split
  · next h => rw [h.1, h.2]
  · rfl
theorem pub_lots (hI : INV n I J) (hn : n < 64) (hh : 40 ≤ h) : PairJ G h 168 265 [vi x] (n + 1) I J b := by
  have hI2 := hI.suc hn
  obtain ⟨hT, hB, h0⟩ : rTown 0 92 I ∧ rBook 0 92 I ∧ I 92 0 = I 1 0 := by
    obtain ⟨p0, p1, p2, ⟨a1, a2, a3, a4, a5⟩, -⟩ := hI
    exact ⟨a1, a2, a5⟩
  have t1 := hT.1
  simp only [Nat.reduceAdd] at t1
  have hlen : (lstM I 60).length ≤ 60 := by rw [lstM_len]; exact fb_ct_le _ _
  have hmn := misN_len I
  have no : ¬ (0 ≤ x ∧ x ≤ misN I (-1)) → TriM G h 265 119 119 [vr 91, vi x] (I, J, PP b) (cJN fun y I2 J2 _ => BitVec.ofInt 64 (-1) = y ∧ INV (n + 1) I2 J2) := by
    intro hx
    exact x265_m (by omega) (fun h2 hh2 => x265 hh2 (s256 (by omega) hT hB (Or.inl rfl) fun I' hs => ⟨fun q => absurd q hx, fun q => cJN_r ⟨rfl, hI2.sc (hs.1.mo (by decide)) (fun _ _ => rfl)⟩⟩))
  refine x168_m (by omega) (fun h2 hh2 => x168 hh2 (s133 (by omega) hT hB fun r hr => s133c (by omega) hT hr ⟨fun q => cJN_r (no (by omega)), fun q => ⟨fun q2 => ?_, fun q2 => cJN_r (no (by omega))⟩⟩))
  have hb : bitsL r (lstM I 60) := by
    intro j
    rw [hr, lstM_mem]
    constructor
    · exact fun q3 => ⟨misB_lt hT q3, q3⟩
    · exact fun q3 => q3.2
  have hgo := s168_l (G := G) (h := h2) (I := I) (J := J) (b := b) (x := x) (many := misN I (-1)) (K := fun r I1 J1 b1 => TriM G h 265 119 119 [vr 91, vi x] (I1, J1, PP b1) (cJN fun y I2 J2 _ => r = y ∧ INV (n + 1) I2 J2)) x.toNat 0 (I 1 0) (lstM I 60) r 0#64 (by omega) (by omega) (by omega) (by omega) (by omega) hb (lstM_sort I 60) ?_ (by omega)
  · rw [u2_id] at hgo
    exact hgo
  obtain ⟨F, hF⟩ : ∃ F, lotF x.toNat (I 1 0) (lstM I 60) 0#64 = F := ⟨_, rfl⟩
  rw [hF]
  have hT1 : rTown 0 92 (u2 I 1 0 F.2) := hT.fr (u2_ne (by decide)) (u2_ne (by decide)) (u2_ne (by decide)) (u2_ne (by decide)) (u2_ne (by decide)) (fun j _ => by rw [u2_ne (by decide)])
  have hB1 : rBook 0 92 (u2 I 1 0 F.2) := hB.fr (by rw [u2_ne (by decide)]; exact Int.le_refl _) (u2_ne (by decide)) (u2_ne (by decide)) (u2_ne (by decide)) (u2_ne (by decide)) (u2_ne (by decide)) (u2_ne (by decide)) (fun j _ => by rw [u2_ne (by decide)])
  have el : lstM (u2 I 1 0 F.2) = lstM I := by
    funext i
    unfold lstM
    rw [misB_1]
  refine x265_m (by omega) (fun h3 hh3 => x265 hh3 (s256 (by omega) hT1 hB1 (Or.inl rfl) fun I' hs => ⟨fun q3 => ?_, fun q3 => absurd (show 0 ≤ x ∧ x ≤ misN (u2 I 1 0 F.2) (-1) by rw [misN_len, el]; omega) q3⟩))
  refine s265_1 hT1 hs (fun I2 hf2 hr2 => ?_) (u2 I 1 0 F.2 2 0).toNat 0 I' ?_ frK.r (fun t ht => by simp [lstM] at ht)
  · rw [el] at hr2 ⊢
    refine s265_2 (I0 := I') x.toNat 0 (I 1 0) (lstM I 60) 0#64 I2 (by omega) (by omega) (by omega) hlen (by omega) hr2 ?_ (fun I3 hf3 => ?_) (by omega)
    · have e92 : I' 92 0 = I 1 0 := by
        rw [hs.1 92 (by decide), u2n (by decide), h0]
      rw [← e92, u2_id]
      exact hf2
    · rw [hF] at hf3 ⊢
      refine ⟨rfl, ?_⟩
      refine (hI2.dr F.2).sc (I' := I3) ?_ (fun _ _ => rfl)
      intro k hk
      have hk1 : k ∉ [118] := fun q => hk (by revert q; simp; intro q; subst q; decide)
      have hk2 : k ∉ [114] := fun q => hk (by revert q; simp; intro q; subst q; decide)
      rw [hf3 k hk1]
      by_cases h92 : k = 92
      · subst h92
        funext j
        by_cases hj : j = 0
        · subst hj; rw [u2e, u2e]
        · rw [u2j hj, u2j hj, hs.1 92 (by decide)]
      · rw [u2_ne h92, u2_ne h92, hs.1 k hk2]
  · rw [u2n (by decide)]; omega
end LOTS
