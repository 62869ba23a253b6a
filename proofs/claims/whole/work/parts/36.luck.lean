set_option maxRecDepth 100000 in
theorem x179 {G : Ctx} {h : Nat} {Q : MP} {I : Nat → Nat → Int} {J : Nat → Nat → BitVec 64} {b : B3} {x y : Int} (hh : 0 ≤ h) (H : ((y < 0) → (Q (some (vl (0#64))) (I, J, PP b))) ∧ (¬ (y < 0) → (((y ≤ x) → (Tri G h 179 119 119 16 [some (vi x), some (vi y), some (vl (1#64)), none, some (vi 1)] [] (I, J, PP b) Q)) ∧ (¬ (y ≤ x) → (Q (some (vl (0#64))) (I, J, PP b)))))) : Tri G h 179 119 119 0 [some (vi x), some (vi y)] [] (I, J, PP b) Q := wp_at ck179 [(16, [true, true, true, false, true])] 400 H
set_option maxRecDepth 100000 in
theorem x179_16 {G : Ctx} {h : Nat} {Q : MP} {I : Nat → Nat → Int} {J : Nat → Nat → BitVec 64} {b : B3} {l0 l1 l4 : Int} {l2 : BitVec 64} (hh : 0 ≤ h) (H : ((l1 < l4) → (Q (some (vl l2)) (I, J, PP b))) ∧ (¬ (l1 < l4) → ((i2l l4) ≠ 0 ∧ (Tri G h 179 119 119 16 [some (vi l0), some (vi l1), some (vl (lDiv (l2 * (i2l (w32 ((w32 (l0 - l1)) + l4)))) (i2l l4))), none, some (vi (w32 (l4 + 1)))] [] (I, J, PP b) Q)))) : Tri G h 179 119 119 16 [some (vi l0), some (vi l1), some (vl l2), none, some (vi l4)] [] (I, J, PP b) Q := wp_at ck179 [(16, [true, true, true, false, true])] 400 H
theorem x179_m {G : Ctx} {h : Nat} {Q : MP} {I : Nat → Nat → Int} {J : Nat → Nat → BitVec 64} {b : B3} {x y : Int} (hh : 1 ≤ h) (H : ∀ h, 0 ≤ h → Tri G h 179 119 119 0 [some (vi x), some (vi y)] [] (I, J, PP b) Q) : TriM G h 179 119 119 [vi x, vi y] (I, J, PP b) Q := TriM_intro (h - 1) (by omega) (by decide) (Nat.le_of_ble_eq_true rfl) (Nat.le_refl _) (Nat.le_refl _) (H (h - 1) (by omega))
set_option maxRecDepth 100000 in
theorem x157 {G : Ctx} {h : Nat} {Q : MP} {I : Nat → Nat → Int} {J : Nat → Nat → BitVec 64} {b : B3} {u x y z : Int} (hh : 1 ≤ h) (H : ((x < 1) → (Q (some (vl (BitVec.ofInt 64 (-1)))) (I, J, PP b))) ∧ (¬ (x < 1) → (((60 < x) → (Q (some (vl (BitVec.ofInt 64 (-1)))) (I, J, PP b))) ∧ (¬ (60 < x) → (((0 ≤ y ∧ y < (w32 (x + 1))) → (((0 ≤ z ∧ z < (w32 (x + 1))) → (((0 ≤ u ∧ u < (w32 (x + 1))) → (Tri G h 157 119 119 52 [none, some (vi x), some (vi y), some (vi z), some (vi u), some (vl (0#64)), none, some (vi 0)] [] (I, J, PP b) Q)) ∧ (¬ (0 ≤ u ∧ u < (w32 (x + 1))) → (Q (some (vl (BitVec.ofInt 64 (-1)))) (I, J, PP b))))) ∧ (¬ (0 ≤ z ∧ z < (w32 (x + 1))) → (Q (some (vl (BitVec.ofInt 64 (-1)))) (I, J, PP b))))) ∧ (¬ (0 ≤ y ∧ y < (w32 (x + 1))) → (Q (some (vl (BitVec.ofInt 64 (-1)))) (I, J, PP b)))))))) : Tri G h 157 119 119 0 [some (vr 0), some (vi x), some (vi y), some (vi z), some (vi u)] [] (I, J, PP b) Q := wp_at ck157 [(52, [false, true, true, true, true, true, false, true])] 400 (And.intro (fun q522 => H.1 q522) (fun q523 => And.intro (fun q524 => (H.2 q523).1 q524) (fun q525 => sx172 (by omega)  (fun q526 => And.intro (fun z => absurd z (show ¬ ((1 : Int) = (0 : Int)) by decide)) (fun _ => sx172 (by omega)  (fun q528 => And.intro (fun z => absurd z (show ¬ ((1 : Int) = (0 : Int)) by decide)) (fun _ => sx172 (by omega)  (fun q530 => And.intro (fun _ => ((((H.2 q523).2 q525).1 q526).1 q528).1 q530) (fun z => absurd (show ¬ (1 : Int) = (0 : Int) by decide) z)) (fun q531 => And.intro (fun z => absurd z (show ¬ (¬ (0 : Int) = (0 : Int)) by decide)) (fun _ => ((((H.2 q523).2 q525).1 q526).1 q528).2 q531)))) (fun q529 => And.intro (fun _ => (((H.2 q523).2 q525).1 q526).2 q529) (fun z => absurd (show (0 : Int) = (0 : Int) by decide) z)))) (fun q527 => And.intro (fun _ => ((H.2 q523).2 q525).2 q527) (fun z => absurd (show (0 : Int) = (0 : Int) by decide) z)))))
set_option maxRecDepth 100000 in
theorem x157_52 {G : Ctx} {h : Nat} {Q : MP} {I : Nat → Nat → Int} {J : Nat → Nat → BitVec 64} {b : B3} {l1 l2 l3 l4 l7 : Int} {l5 : BitVec 64} (hh : 1 ≤ h) (H : ((l4 < l7) → (Q (some (vl l5)) (I, J, PP b))) ∧ (¬ (l4 < l7) → (((l3 < l7) → (Q (some (vl l5)) (I, J, PP b))) ∧ (¬ (l3 < l7) → (TriM G h 179 119 119 [vi l2, vi l7] (I, J, PP b) (cJN fun r1 I1 J1 b1 => (TriM G h 179 119 119 [vi (w32 (l1 - l2)), vi (w32 (l3 - l7))] (I1, J1, PP b1) (cJN fun r2 I2 J2 b2 => (Tri G h 157 119 119 52 [none, some (vi l1), some (vi l2), some (vi l3), some (vi l4), some (vl (l5 + (r1 * r2))), none, some (vi (w32 (l7 + 1)))] [] (I2, J2, PP b2) Q))))))))) : Tri G h 157 119 119 52 [none, some (vi l1), some (vi l2), some (vi l3), some (vi l4), some (vl l5), none, some (vi l7)] [] (I, J, PP b) Q := wp_at ck157 [(52, [false, true, true, true, true, true, false, true])] 400 (And.intro (fun q532 => H.1 q532) (fun q533 => And.intro (fun q534 => (H.2 q533).1 q534) (fun q535 => cJN_go ((H.2 q533).2 q535) (fun r1 I1 J1 b1 q536 => cJN_go q536 (fun r2 I2 J2 b2 q537 => q537)))))
theorem x157_m {G : Ctx} {h : Nat} {Q : MP} {I : Nat → Nat → Int} {J : Nat → Nat → BitVec 64} {b : B3} {x y z u : Int} (hh : 2 ≤ h) (H : ∀ h, 1 ≤ h → Tri G h 157 119 119 0 [some (vr 0), some (vi x), some (vi y), some (vi z), some (vi u)] [] (I, J, PP b) Q) : TriM G h 157 119 119 [vr 0, vi x, vi y, vi z, vi u] (I, J, PP b) Q := TriM_intro (h - 1) (by omega) (by decide) (Nat.le_of_ble_eq_true rfl) (Nat.le_refl _) (Nat.le_refl _) (H (h - 1) (by omega))
set_option maxRecDepth 100000 in
theorem x240 {G : Ctx} {h : Nat} {Q : MP} {I : Nat → Nat → Int} {J : Nat → Nat → BitVec 64} {b : B3} (hh : 0 ≤ h) (H : ((¬ (lCmp (J 109 0) (1#64)) = 0) → (Tri G h 240 119 119 14 [some (vr 91), some (vi 0)] [] (I, J, PP b) Q)) ∧ (¬ (¬ (lCmp (J 109 0) (1#64)) = 0) → (Q none (I, J, PP b)))) : Tri G h 240 119 119 0 [some (vr 91)] [] (I, J, PP b) Q := wp_at ck240 [(14, [true, true]), (32, [true, true, true])] 400 (And.intro (show (0 : Int) ≤ 0 ∧ (0 : Int) < ((3721 : Nat) : Int) by decide) H)
set_option maxRecDepth 100000 in
theorem x240_14 {G : Ctx} {h : Nat} {Q : MP} {I : Nat → Nat → Int} {J : Nat → Nat → BitVec 64} {b : B3} {l1 : Int} (hh : 0 ≤ h) (H : ((61 ≤ l1) → (Q none (I, J, PP b))) ∧ (¬ (61 ≤ l1) → ((0 ≤ (w32 (61 * l1)) ∧ (w32 (61 * l1)) < (3721 : Int)) ∧ (Tri G h 240 119 119 32 [some (vr 91), some (vi l1), some (vi 1)] [] (I, u2 J 109 ((w32 (61 * l1)).toNat) (1#64), PP b) Q)))) : Tri G h 240 119 119 14 [some (vr 91), some (vi l1)] [] (I, J, PP b) Q := wp_at ck240 [(14, [true, true]), (32, [true, true, true])] 400 H
set_option maxRecDepth 100000 in
theorem x240_32 {G : Ctx} {h : Nat} {Q : MP} {I : Nat → Nat → Int} {J : Nat → Nat → BitVec 64} {b : B3} {l1 l2 : Int} (hh : 0 ≤ h) (H : ((l1 < l2) → (Tri G h 240 119 119 14 [some (vr 91), some (vi (w32 (l1 + 1)))] [] (I, J, PP b) Q)) ∧ (¬ (l1 < l2) → ((0 ≤ (w32 ((w32 ((w32 (61 * (w32 (l1 - 1)))) + l2)) - 1)) ∧ (w32 ((w32 ((w32 (61 * (w32 (l1 - 1)))) + l2)) - 1)) < (3721 : Int)) ∧ (((l1 ≤ l2) → ((0 ≤ (w32 ((w32 (61 * l1)) + l2)) ∧ (w32 ((w32 (61 * l1)) + l2)) < (3721 : Int)) ∧ (Tri G h 240 119 119 32 [some (vr 91), some (vi l1), some (vi (w32 (l2 + 1)))] [] (I, u2 J 109 ((w32 ((w32 (61 * l1)) + l2)).toNat) ((J 109 ((w32 ((w32 ((w32 (61 * (w32 (l1 - 1)))) + l2)) - 1)).toNat)) + (0#64)), PP b) Q))) ∧ (¬ (l1 ≤ l2) → ((0 ≤ (w32 ((w32 (61 * (w32 (l1 - 1)))) + l2)) ∧ (w32 ((w32 (61 * (w32 (l1 - 1)))) + l2)) < (3721 : Int)) ∧ ((0 ≤ (w32 ((w32 (61 * l1)) + l2)) ∧ (w32 ((w32 (61 * l1)) + l2)) < (3721 : Int)) ∧ (Tri G h 240 119 119 32 [some (vr 91), some (vi l1), some (vi (w32 (l2 + 1)))] [] (I, u2 J 109 ((w32 ((w32 (61 * l1)) + l2)).toNat) ((J 109 ((w32 ((w32 ((w32 (61 * (w32 (l1 - 1)))) + l2)) - 1)).toNat)) + (J 109 ((w32 ((w32 (61 * (w32 (l1 - 1)))) + l2)).toNat))), PP b) Q)))))))) : Tri G h 240 119 119 32 [some (vr 91), some (vi l1), some (vi l2)] [] (I, J, PP b) Q := wp_at ck240 [(14, [true, true]), (32, [true, true, true])] 400 H
theorem x240_m {G : Ctx} {h : Nat} {Q : MP} {I : Nat → Nat → Int} {J : Nat → Nat → BitVec 64} {b : B3} (hh : 1 ≤ h) (H : ∀ h, 0 ≤ h → Tri G h 240 119 119 0 [some (vr 91)] [] (I, J, PP b) Q) : TriM G h 240 119 119 [vr 91] (I, J, PP b) Q := TriM_intro (h - 1) (by omega) (by decide) (Nat.le_of_ble_eq_true rfl) (Nat.le_refl _) (Nat.le_refl _) (H (h - 1) (by omega))
set_option maxRecDepth 100000 in
theorem x242 {G : Ctx} {h : Nat} {Q : MP} {I : Nat → Nat → Int} {J : Nat → Nat → BitVec 64} {b : B3} {u x y z : Int} (hh : 1 ≤ h) (H : (((1 : Int) ≤ x ∧ x ≤ (60 : Int)) → ((((0 : Int) ≤ y ∧ y ≤ x) → ((((0 : Int) ≤ z ∧ z ≤ x) → ((((0 : Int) ≤ u ∧ u ≤ x) → (TriM G h 240 119 119 [vr 91] (I, J, PP b) (cVN fun I1 J1 b1 => (Tri G h 242 119 119 52 [some (vr 91), some (vi x), some (vi y), some (vi z), some (vi u), some (vl (0#64)), none, some (vi 0)] [] (I1, J1, PP b1) Q)))) ∧ (¬ ((0 : Int) ≤ u ∧ u ≤ x) → (Q (some (vl (BitVec.ofInt 64 (-1)))) (I, J, PP b))))) ∧ (¬ ((0 : Int) ≤ z ∧ z ≤ x) → (Q (some (vl (BitVec.ofInt 64 (-1)))) (I, J, PP b))))) ∧ (¬ ((0 : Int) ≤ y ∧ y ≤ x) → (Q (some (vl (BitVec.ofInt 64 (-1)))) (I, J, PP b))))) ∧ (¬ ((1 : Int) ≤ x ∧ x ≤ (60 : Int)) → (Q (some (vl (BitVec.ofInt 64 (-1)))) (I, J, PP b)))) : Tri G h 242 119 119 0 [some (vr 91), some (vi x), some (vi y), some (vi z), some (vi u)] [] (I, J, PP b) Q := wp_at ck242 [(52, [true, true, true, true, true, true, false, true])] 400 (sx181 (by omega)  (fun q538 => And.intro (fun z => absurd z (show ¬ ((1 : Int) = (0 : Int)) by decide)) (fun _ => sx181 (by omega)  (fun q540 => And.intro (fun z => absurd z (show ¬ ((1 : Int) = (0 : Int)) by decide)) (fun _ => sx181 (by omega)  (fun q542 => And.intro (fun z => absurd z (show ¬ ((1 : Int) = (0 : Int)) by decide)) (fun _ => sx181 (by omega)  (fun q544 => And.intro (fun _ => cVN_go ((((H.1 q538).1 q540).1 q542).1 q544) (fun I1 J1 b1 q546 => q546)) (fun z => absurd (show ¬ (1 : Int) = (0 : Int) by decide) z)) (fun q545 => And.intro (fun z => absurd z (show ¬ (¬ (0 : Int) = (0 : Int)) by decide)) (fun _ => (((H.1 q538).1 q540).1 q542).2 q545)))) (fun q543 => And.intro (fun _ => ((H.1 q538).1 q540).2 q543) (fun z => absurd (show (0 : Int) = (0 : Int) by decide) z)))) (fun q541 => And.intro (fun _ => (H.1 q538).2 q541) (fun z => absurd (show (0 : Int) = (0 : Int) by decide) z)))) (fun q539 => And.intro (fun _ => H.2 q539) (fun z => absurd (show (0 : Int) = (0 : Int) by decide) z)))
set_option maxRecDepth 100000 in
theorem x242_52 {G : Ctx} {h : Nat} {Q : MP} {I : Nat → Nat → Int} {J : Nat → Nat → BitVec 64} {b : B3} {l1 l2 l3 l4 l7 : Int} {l5 : BitVec 64} (hh : 2 ≤ h) (H : ((l4 < l7) → (Q (some (vl l5)) (I, J, PP b))) ∧ (¬ (l4 < l7) → ((((0 : Int) ≤ l7 ∧ l7 ≤ l2) → ((0 ≤ (w32 ((w32 (61 * l2)) + l7)) ∧ (w32 ((w32 (61 * l2)) + l7)) < (3721 : Int)) ∧ ((((0 : Int) ≤ (w32 (l3 - l7)) ∧ (w32 (l3 - l7)) ≤ (w32 (l1 - l2))) → ((0 ≤ (w32 ((w32 (61 * (w32 (l1 - l2)))) + (w32 (l3 - l7)))) ∧ (w32 ((w32 (61 * (w32 (l1 - l2)))) + (w32 (l3 - l7)))) < (3721 : Int)) ∧ (Tri G h 242 119 119 52 [some (vr 91), some (vi l1), some (vi l2), some (vi l3), some (vi l4), some (vl (l5 + ((J 109 ((w32 ((w32 (61 * l2)) + l7)).toNat)) * (J 109 ((w32 ((w32 (61 * (w32 (l1 - l2)))) + (w32 (l3 - l7)))).toNat))))), none, some (vi (w32 (l7 + 1)))] [] (I, J, PP b) Q))) ∧ (¬ ((0 : Int) ≤ (w32 (l3 - l7)) ∧ (w32 (l3 - l7)) ≤ (w32 (l1 - l2))) → (Tri G h 242 119 119 52 [some (vr 91), some (vi l1), some (vi l2), some (vi l3), some (vi l4), some (vl (l5 + ((J 109 ((w32 ((w32 (61 * l2)) + l7)).toNat)) * (0#64)))), none, some (vi (w32 (l7 + 1)))] [] (I, J, PP b) Q))))) ∧ (¬ ((0 : Int) ≤ l7 ∧ l7 ≤ l2) → ((((0 : Int) ≤ (w32 (l3 - l7)) ∧ (w32 (l3 - l7)) ≤ (w32 (l1 - l2))) → ((0 ≤ (w32 ((w32 (61 * (w32 (l1 - l2)))) + (w32 (l3 - l7)))) ∧ (w32 ((w32 (61 * (w32 (l1 - l2)))) + (w32 (l3 - l7)))) < (3721 : Int)) ∧ (Tri G h 242 119 119 52 [some (vr 91), some (vi l1), some (vi l2), some (vi l3), some (vi l4), some (vl (l5 + ((0#64) * (J 109 ((w32 ((w32 (61 * (w32 (l1 - l2)))) + (w32 (l3 - l7)))).toNat))))), none, some (vi (w32 (l7 + 1)))] [] (I, J, PP b) Q))) ∧ (¬ ((0 : Int) ≤ (w32 (l3 - l7)) ∧ (w32 (l3 - l7)) ≤ (w32 (l1 - l2))) → (Tri G h 242 119 119 52 [some (vr 91), some (vi l1), some (vi l2), some (vi l3), some (vi l4), some (vl (l5 + ((0#64) * (0#64)))), none, some (vi (w32 (l7 + 1)))] [] (I, J, PP b) Q))))))) : Tri G h 242 119 119 52 [some (vr 91), some (vi l1), some (vi l2), some (vi l3), some (vi l4), some (vl l5), none, some (vi l7)] [] (I, J, PP b) Q := wp_at ck242 [(52, [true, true, true, true, true, true, false, true])] 400 (And.intro (fun q547 => H.1 q547) (fun q548 => x241_m (by omega) (fun h hh => x241 hh (And.intro (fun q549 => And.intro ((H.2 q548).1 q549).1 (cJ_r (x241_m (by omega) (fun h hh => x241 hh (And.intro (fun q551 => And.intro ((((H.2 q548).1 q549).2).1 q551).1 (cJ_r (((((H.2 q548).1 q549).2).1 q551).2))) (fun q552 => cJ_r ((((H.2 q548).1 q549).2).2 q552))))))) (fun q550 => cJ_r (x241_m (by omega) (fun h hh => x241 hh (And.intro (fun q553 => And.intro (((H.2 q548).2 q550).1 q553).1 (cJ_r ((((H.2 q548).2 q550).1 q553).2))) (fun q554 => cJ_r (((H.2 q548).2 q550).2 q554))))))))))
theorem x242_m {G : Ctx} {h : Nat} {Q : MP} {I : Nat → Nat → Int} {J : Nat → Nat → BitVec 64} {b : B3} {x y z u : Int} (hh : 3 ≤ h) (H : ∀ h, 2 ≤ h → Tri G h 242 119 119 0 [some (vr 91), some (vi x), some (vi y), some (vi z), some (vi u)] [] (I, J, PP b) Q) : TriM G h 242 119 119 [vr 91, vi x, vi y, vi z, vi u] (I, J, PP b) Q := TriM_intro (h - 1) (by omega) (by decide) (Nat.le_of_ble_eq_true rfl) (Nat.le_refl _) (Nat.le_refl _) (H (h - 1) (by omega))
/-! choices -/
theorem binom_0 : ∀ n, binom n 0 = 1
  | 0 => rfl
  | _ + 1 => rfl
theorem binom_big : ∀ n k, n < k → binom n k = 0
  | 0, 0, h => by omega
  | 0, _ + 1, _ => rfl
  | _ + 1, 0, h => by omega
  | n + 1, k + 1, h => by
    simp only [binom]
    rw [binom_big n k (by omega), binom_big n (k + 1) (by omega)]
theorem binom_abs : ∀ n k, (k + 1) * binom (n + 1) (k + 1) = (n + 1) * binom n k
  | 0, 0 => rfl
  | 0, k + 1 => by
    rw [binom_big 1 (k + 2) (by omega), binom_big 0 (k + 1) (by omega)]
    omega
  | n + 1, 0 => by
    have := binom_abs n 0
    simp only [binom, binom_0] at this ⊢
    omega
  | n + 1, k + 1 => by
    have h1 := binom_abs n (k + 1)
    have h2 := binom_abs n k
    have e1 : binom (n + 1 + 1) (k + 1 + 1) = binom (n + 1) (k + 1) + binom (n + 1) (k + 1 + 1) := rfl
    have e2 : binom (n + 1) (k + 1) = binom n k + binom n (k + 1) := rfl
    rw [e1, Nat.mul_add, h1]
    have e3 : (k + 1 + 1) * binom (n + 1) (k + 1) = binom (n + 1) (k + 1) + (n + 1) * binom n k := by
      rw [Nat.add_mul, h2]
      omega
    have e4 : (n + 1) * binom n k + (n + 1) * binom n (k + 1) = (n + 1) * binom (n + 1) (k + 1) := by rw [e2, Nat.mul_add]
    rw [e3, Nat.add_mul (n + 1) 1]
    omega
def pnext : List Nat → Nat → List Nat
  | [], p => [p]
  | x :: r, p => (p + x) :: pnext r x
def prow : Nat → List Nat
  | 0 => [1]
  | n + 1 => pnext (prow n) 0
theorem pnext_at : ∀ (l : List Nat) (p k : Nat), (pnext l p)[k]?.getD 0 = (if k = 0 then p else l[k - 1]?.getD 0) + l[k]?.getD 0
  | [], p, 0 => rfl
  | [], p, k + 1 => by simp [pnext]
  | x :: r, p, 0 => rfl
  | x :: r, p, k + 1 => by
    have := pnext_at r x k
    simp only [pnext, List.getElem?_cons_succ]
    rw [this]
    cases k with
    | zero => simp
    | succ k => simp
theorem prow_at : ∀ n k, (prow n)[k]?.getD 0 = binom n k
  | 0, 0 => rfl
  | 0, k + 1 => by simp [prow, binom]
  | n + 1, 0 => by
    simp only [prow]
    rw [pnext_at, if_pos rfl, prow_at n 0, binom_0, binom_0]
  | n + 1, k + 1 => by
    simp only [prow]
    rw [pnext_at, if_neg (by omega), show k + 1 - 1 = k by omega, prow_at n k, prow_at n (k + 1)]
    rfl
theorem prow_b : ∀ n, n < 61 → ∀ x ∈ prow n, x * 60 < 9223372036854775808 := by decide +kernel
theorem binom_b {n : Nat} (hn : n < 61) (k : Nat) : binom n k * 60 < 9223372036854775808 := by
  rw [← prow_at]
  cases h : (prow n)[k]? with
  | none => decide
  | some x => exact prow_b n hn x (List.mem_of_getElem? h)
theorem i2l_nat {x : Int} {k : Nat} (hx : x = k) (hk : k < 2147483648) : i2l x = BitVec.ofNat 64 k := by
  subst hx
  unfold i2l
  apply BitVec.eq_of_toInt_eq
  rw [Int64.toInt_toBitVec, Int32.toInt_toInt64, toI (by unfold inR; omega), BitVec.toInt_ofNat']
  exact (Int.bmod_eq_of_le (by omega) (by omega)).symm
theorem lDiv_nat {A B : Nat} (hA : A < 9223372036854775808) (hB : 0 < B) (hB2 : B < 9223372036854775808) : lDiv (BitVec.ofNat 64 A) (BitVec.ofNat 64 B) = BitVec.ofNat 64 (A / B) := by
  unfold lDiv
  have e : ∀ C : Nat, C < 9223372036854775808 → (Int64.ofBitVec (BitVec.ofNat 64 C)).toInt = C := by
    intro C hC
    rw [Int64.toInt_ofBitVec, BitVec.toInt_ofNat']
    exact Int.bmod_eq_of_le (by omega) (by omega)
  have h3 : A / B ≤ A := Nat.div_le_self _ _
  apply BitVec.eq_of_toInt_eq
  rw [Int64.toInt_toBitVec, Int64.toInt_div, e A hA, e B hB2, Int.tdiv_eq_ediv_of_nonneg (by omega), BitVec.toInt_ofNat']
  rfl
theorem lCmp_eq {a c : BitVec 64} : lCmp a c = 0 ↔ a = c := by
  unfold lCmp lg_cmp
  have hi : ∀ p q : BitVec 64, Int64.ofBitVec p = Int64.ofBitVec q ↔ p = q := fun p q => ⟨fun h => congrArg Int64.toBitVec h, fun h => congrArg Int64.ofBitVec h⟩
  constructor
  · intro q
    split at q
    · exact absurd q (by decide)
    · split at q
      · next h1 => exact (hi _ _).1 h1
      · exact absurd q (by decide)
  · intro q
    subst q
    have h1 : ¬ Int64.ofBitVec a > Int64.ofBitVec a := by
      intro q2
      exact Int64.lt_irrefl q2
    rw [if_neg h1, if_pos rfl]
    rfl
def chB (n k : Int) : BitVec 64 := if 0 ≤ k ∧ k ≤ n then BitVec.ofNat 64 (binom n.toNat k.toNat) else 0#64
def frJ (S : List Nat) (J J' : MJ) : Prop := ∀ k, k ∉ S → J' k = J k
theorem frJ.r {S : List Nat} {J : MJ} : frJ S J J := fun _ _ => rfl
theorem frJ.t {S : List Nat} {J J' J2 : MJ} (h : frJ S J J') (h2 : frJ S J' J2) : frJ S J J2 := fun k hk => by rw [h2 k hk, h k hk]
theorem frJ.mo {S S' : List Nat} {J J' : MJ} (h : frJ S J J') (hs : ∀ k ∈ S, k ∈ S') : frJ S' J J' := fun k hk => h k fun q => hk (hs k q)
theorem frJ.u {S : List Nat} {J J' : MJ} {k j : Nat} {x : BitVec 64} (h : frJ S J J') (hk : k ∈ S) : frJ S J (u2 J' k j x) := fun a ha => by
  rw [u2_ne (fun q => ha (by rw [q]; exact hk)), h a ha]
def chT (J : MJ) : Prop := ∀ n k : Nat, n < 61 → k ≤ n → J 109 (61 * n + k) = BitVec.ofNat 64 (binom n k)
section LUCK
variable {G : Ctx} {h n : Nat} {I : MI} {J : MJ} {b : B3} {x y z u v e : Int} {a : BitVec 64}
theorem s179_l {K : BitVec 64 → MI → MJ → B3 → Prop} {n k : Nat} (hn : n < 61) (hk : k ≤ n) (kk : K (BitVec.ofNat 64 (binom n k)) I J b) : ∀ (m i : Nat), i + m = k → Tri G h 179 119 119 16 [some (vi (n : Int)), some (vi (k : Int)), some (vl (BitVec.ofNat 64 (binom (n - k + i) i))), none, some (vi ((i : Int) + 1))] [] (I, J, PP b) (cJN K) := by
  intro m
  induction m with
  | zero =>
    intro i hi
    obtain rfl : i = k := by omega
    refine x179_16 (Nat.zero_le _) ⟨fun q => cJN_r ?_, fun q => by omega⟩
    rw [show n - i + i = n by omega]
    exact kk
  | succ m ih =>
    intro i hi
    have hb := binom_b (n := n - k + i + 1) (by omega) (i + 1)
    have ha := binom_abs (n - k + i) i
    have hle : (i + 1) * binom (n - k + i + 1) (i + 1) ≤ binom (n - k + i + 1) (i + 1) * 60 := by
      rw [Nat.mul_comm]
      exact Nat.mul_le_mul_left _ (by omega)
    have e1 : i2l ((i : Int) + 1) = BitVec.ofNat 64 (i + 1) := i2l_nat (k := i + 1) rfl (by omega)
    have e2 : i2l (w32 (w32 ((n : Int) - k) + ((i : Int) + 1))) = BitVec.ofNat 64 (n - k + i + 1) := by
      rw [w32_id (x := (n : Int) - k) (by omega) (by omega), w32_id (by omega) (by omega)]
      exact i2l_nat (by omega) (by omega)
    have e3 : lDiv (BitVec.ofNat 64 (binom (n - k + i) i) * i2l (w32 (w32 ((n : Int) - k) + ((i : Int) + 1)))) (i2l ((i : Int) + 1)) = BitVec.ofNat 64 (binom (n - k + (i + 1)) (i + 1)) := by
      rw [e2, e1, ← BitVec.ofNat_mul, Nat.mul_comm, ← ha, lDiv_nat (by omega) (by omega) (by omega), Nat.mul_div_cancel_left _ (by omega)]
      rfl
    refine x179_16 (Nat.zero_le _) ⟨fun q => by omega, fun q => ⟨?_, ?_⟩⟩
    · rw [e1]
      intro hz
      have := congrArg BitVec.toNat hz
      rw [BitVec.toNat_ofNat, Nat.mod_eq_of_lt (by omega)] at this
      simp at this
    · rw [e3, w32_id (by omega) (by omega)]
      exact ih (i + 1) (by omega)
theorem s179 {K : BitVec 64 → MI → MJ → B3 → Prop} (hh : 1 ≤ h) (hx : 0 ≤ x ∧ x ≤ 60) (kk : K (chB x y) I J b) : TriM G h 179 119 119 [vi x, vi y] (I, J, PP b) (cJN K) := by
  unfold chB at kk
  refine x179_m hh (fun h hh => x179 hh ⟨fun q => cJN_r ?_, fun q => ⟨fun q2 => ?_, fun q2 => cJN_r ?_⟩⟩)
  · rw [if_neg (by omega)] at kk; exact kk
  · rw [if_pos (by omega)] at kk
    obtain ⟨n, rfl⟩ : ∃ n : Nat, x = n := ⟨x.toNat, by omega⟩
    obtain ⟨k, rfl⟩ : ∃ k : Nat, y = k := ⟨y.toNat, by omega⟩
    rw [toN, toN] at kk
    have := s179_l (G := G) (h := h) (I := I) (J := J) (b := b) (K := K) (n := n) (k := k) (by omega) (by omega) kk k 0 (by omega)
    rw [binom_0] at this
    exact this
  · rw [if_neg (by omega)] at kk; exact kk
def lkS (n a c : Int) : Nat → BitVec 64
  | 0 => 0#64
  | j + 1 => lkS n a c j + chB a j * chB (n - a) (c - j)
theorem lkS_far {n a c : Int} {m : Nat} (hc : c < m) : ∀ t, lkS n a c (m + t) = lkS n a c m
  | 0 => rfl
  | t + 1 => by
    have e : chB (n - a) (c - (m + t : Nat)) = 0#64 := by
      unfold chB
      rw [if_neg (by omega)]
    show lkS n a c (m + t) + chB a (m + t : Nat) * chB (n - a) (c - (m + t : Nat)) = _
    rw [e, BitVec.mul_zero, BitVec.add_zero, lkS_far hc t]
theorem s157_l {K : BitVec 64 → MI → MJ → B3 → Prop} (hh : 1 ≤ h) (hx : 1 ≤ x ∧ x ≤ 60) (hy : 0 ≤ y ∧ y ≤ x) (hz : 0 ≤ z ∧ z ≤ x) (hu : 0 ≤ u ∧ u ≤ x) (kk : K (lkS x y z (u.toNat + 1)) I J b) : ∀ (m i : Nat), (i : Int) + m = u + 1 → (i : Int) ≤ z + 1 → Tri G h 157 119 119 52 [none, some (vi x), some (vi y), some (vi z), some (vi u), some (vl (lkS x y z i)), none, some (vi i)] [] (I, J, PP b) (cJN K) := by
  intro m
  induction m with
  | zero =>
    intro i hi hz2
    refine x157_52 hh ⟨fun q => cJN_r ?_, fun q => by omega⟩
    rw [show i = u.toNat + 1 by omega]
    exact kk
  | succ m ih =>
    intro i hi hz2
    refine x157_52 hh ⟨fun q => by omega, fun q => ⟨fun q2 => cJN_r ?_, fun q2 => ?_⟩⟩
    · rw [← lkS_far (m := i) (by omega) (m + 1), show i + (m + 1) = u.toNat + 1 by omega]
      exact kk
    · refine s179 hh (by omega) ?_
      rw [w32_id (by omega) (by omega), w32_id (by omega) (by omega)]
      refine s179 hh (by omega) ?_
      rw [w32_id (by omega) (by omega)]
      exact ih (i + 1) (by omega) (by omega)
theorem s240_k {Q : MP} {J0 : MJ} {n : Nat} (hn : n < 61) (k : ∀ J', frJ [109] J0 J' → (∀ p q : Nat, p < n + 1 → q ≤ p → J' 109 (61 * p + q) = BitVec.ofNat 64 (binom p q)) → Tri G h 240 119 119 14 [some (vr 91), some (vi ((n : Int) + 1))] [] (I, J', PP b) Q) : ∀ (m i : Nat) (J' : MJ), i + m = n + 1 → 1 ≤ i → frJ [109] J0 J' → (∀ p q : Nat, p < n → q ≤ p → J' 109 (61 * p + q) = BitVec.ofNat 64 (binom p q)) → (∀ q : Nat, q < i → J' 109 (61 * n + q) = BitVec.ofNat 64 (binom n q)) → Tri G h 240 119 119 32 [some (vr 91), some (vi n), some (vi i)] [] (I, J', PP b) Q := by
  intro m
  induction m with
  | zero =>
    intro i J' hi h1 hf hp hq
    refine x240_32 (Nat.zero_le _) ⟨fun q => ?_, fun q => by omega⟩
    rw [w32_id (by omega) (by omega)]
    refine k J' hf (fun p q2 hp2 hq2 => ?_)
    by_cases h2 : p = n
    · subst h2; exact hq q2 (by omega)
    · exact hp p q2 (by omega) hq2
  | succ m ih =>
    intro i J' hi h1 hf hp hq
    obtain ⟨n0, rfl⟩ : ∃ t, n = t + 1 := ⟨n - 1, by omega⟩
    refine x240_32 (Nat.zero_le _) ⟨fun q => by omega, fun q => ?_⟩
    rw [w32_id (x := ((n0 + 1 : Nat) : Int) - 1) (by omega) (by omega), w32_id (x := 61 * (((n0 + 1 : Nat) : Int) - 1)) (by omega) (by omega), w32_id (x := 61 * (((n0 + 1 : Nat) : Int) - 1) + i) (by omega) (by omega), w32_id (x := 61 * (((n0 + 1 : Nat) : Int) - 1) + i - 1) (by omega) (by omega), w32_id (x := 61 * ((n0 + 1 : Nat) : Int)) (by omega) (by omega), w32_id (x := 61 * ((n0 + 1 : Nat) : Int) + i) (by omega) (by omega), w32_id (x := (i : Int) + 1) (by omega) (by omega)]
    rw [show (61 * (((n0 + 1 : Nat) : Int) - 1) + (i : Int) - 1).toNat = 61 * n0 + (i - 1) by omega, show (61 * ((n0 + 1 : Nat) : Int) + (i : Int)).toNat = 61 * (n0 + 1) + i by omega, show (61 * (((n0 + 1 : Nat) : Int) - 1) + (i : Int)).toNat = 61 * n0 + i by omega, hp n0 (i - 1) (by omega) (by omega)]
    have fin : ∀ w, w = BitVec.ofNat 64 (binom (n0 + 1) i) → Tri G h 240 119 119 32 [some (vr 91), some (vi (n0 + 1 : Nat)), some (vi ((i : Int) + 1))] [] (I, u2 J' 109 (61 * (n0 + 1) + i) w, PP b) Q := by
      intro w hw
      refine ih (i + 1) _ (by omega) (by omega) (hf.u (by decide)) (fun p q2 h2 h3 => ?_) (fun q2 h2 => ?_)
      · rw [u2j (by omega)]; exact hp p q2 h2 h3
      · by_cases h3 : q2 = i
        · subst h3; rw [u2e, hw]
        · rw [u2j (by omega)]; exact hq q2 (by omega)
    obtain ⟨i0, rfl⟩ : ∃ t, i = t + 1 := ⟨i - 1, by omega⟩
    have eb : binom (n0 + 1) (i0 + 1) = binom n0 i0 + binom n0 (i0 + 1) := rfl
    refine ⟨by omega, fun q2 => ⟨by omega, fin _ ?_⟩, fun q2 => ⟨by omega, by omega, fin _ ?_⟩⟩
    · rw [eb, binom_big n0 (i0 + 1) (by omega)]
      show BitVec.ofNat 64 (binom n0 i0) + 0#64 = _
      rw [BitVec.add_zero]
      rfl
    · rw [hp n0 (i0 + 1) (by omega) (by omega), eb, BitVec.ofNat_add]
      rfl
theorem s240_n {K : MI → MJ → B3 → Prop} {J0 : MJ} (k : ∀ J', frJ [109] J0 J' → chT J' → K I J' b) : ∀ (m n : Nat) (J' : MJ), n + m = 61 → frJ [109] J0 J' → (∀ p q : Nat, p < n → q ≤ p → J' 109 (61 * p + q) = BitVec.ofNat 64 (binom p q)) → Tri G h 240 119 119 14 [some (vr 91), some (vi n)] [] (I, J', PP b) (cVN K) := by
  intro m
  induction m with
  | zero =>
    intro n J' hn hf hp
    exact x240_14 (Nat.zero_le _) ⟨fun q => cVN_r (k J' hf fun p q2 h1 h2 => hp p q2 (by omega) h2), fun q => by omega⟩
  | succ m ih =>
    intro n J' hn hf hp
    refine x240_14 (Nat.zero_le _) ⟨fun q => by omega, fun q => ?_⟩
    rw [w32_id (by omega) (by omega), show (61 * (n : Int)).toNat = 61 * n + 0 by omega]
    refine ⟨by omega, s240_k (J0 := J0) (by omega) (fun J2 hf2 hp2 => ih (n + 1) J2 (by omega) hf2 hp2) n 1 _ (by omega) (by omega) (hf.u (by decide)) (fun p q2 h1 h2 => ?_) (fun q2 h1 => ?_)⟩
    · rw [u2j (by omega)]; exact hp p q2 h1 h2
    · rw [show q2 = 0 by omega, u2e, binom_0]
theorem s240 {K : MI → MJ → B3 → Prop} (hh : 1 ≤ h) (hc : choI J) (k : ∀ J', frJ [109] J J' → chT J' → K I J' b) : TriM G h 240 119 119 [vr 91] (I, J, PP b) (cVN K) := by
  refine x240_m hh (fun h hh => x240 hh ⟨fun q => s240_n k 61 0 J rfl frJ.r (fun p q2 h1 => by omega), fun q => cVN_r (k J frJ.r ?_)⟩)
  have e : J 109 0 = 1#64 := lCmp_eq.1 (by omega)
  exact hc e
theorem chT_at (hc : chT J) {p q : Int} (hp : 0 ≤ p ∧ p ≤ 60) (hq : 0 ≤ q ∧ q ≤ p) : J 109 (61 * p + q).toNat = chB p q := by
  have := hc p.toNat q.toNat (by omega) (by omega)
  unfold chB
  rw [if_pos hq, ← this]
  congr 1
  omega
theorem s242_l {K : BitVec 64 → MI → MJ → B3 → Prop} (hh : 2 ≤ h) (hc : chT J) (hx : 1 ≤ x ∧ x ≤ 60) (hy : 0 ≤ y ∧ y ≤ x) (hz : 0 ≤ z ∧ z ≤ x) (hu : 0 ≤ u ∧ u ≤ x) (kk : K (lkS x y z (u.toNat + 1)) I J b) : ∀ (m i : Nat), (i : Int) + m = u + 1 → Tri G h 242 119 119 52 [some (vr 91), some (vi x), some (vi y), some (vi z), some (vi u), some (vl (lkS x y z i)), none, some (vi i)] [] (I, J, PP b) (cJN K) := by
  intro m
  induction m with
  | zero =>
    intro i hi
    refine x242_52 hh ⟨fun q => cJN_r ?_, fun q => by omega⟩
    rw [show i = u.toNat + 1 by omega]
    exact kk
  | succ m ih =>
    intro i hi
    have fin : ∀ c d, c = chB y i → d = chB (x - y) (z - i) → Tri G h 242 119 119 52 [some (vr 91), some (vi x), some (vi y), some (vi z), some (vi u), some (vl (lkS x y z i + c * d)), none, some (vi ((i : Int) + 1))] [] (I, J, PP b) (cJN K) := by
      intro c d hc2 hd
      subst hc2 hd
      exact ih (i + 1) (by omega)
    refine x242_52 hh ?_
    rw [w32_id (x := 61 * y) (by omega) (by omega), w32_id (x := 61 * y + i) (by omega) (by omega), w32_id (x := z - i) (by omega) (by omega), w32_id (x := x - y) (by omega) (by omega), w32_id (x := 61 * (x - y)) (by omega) (by omega), w32_id (x := 61 * (x - y) + (z - i)) (by omega) (by omega), w32_id (x := (i : Int) + 1) (by omega) (by omega)]
    have c0 : ∀ p q : Int, ¬ (0 ≤ q ∧ q ≤ p) → (0#64) = chB p q := by
      intro p q hpq
      unfold chB
      rw [if_neg hpq]
    refine ⟨fun q => by omega, fun q => ⟨fun q1 => ⟨by omega, fun q2 => ⟨by omega, fin _ _ (chT_at hc (by omega) q1) (chT_at hc (by omega) q2)⟩, fun q2 => fin _ _ (chT_at hc (by omega) q1) (c0 _ _ q2)⟩, fun q1 => ⟨fun q2 => ⟨by omega, fin _ _ (c0 _ _ q1) (chT_at hc (by omega) q2)⟩, fun q2 => fin _ _ (c0 _ _ q1) (c0 _ _ q2)⟩⟩⟩
theorem INV.ch {c : Nat} {J' : MJ} (hI : INV c I J) (hf : frJ [109] J J') (ht : chT J') : INV c I J' := by
  obtain ⟨p0, p1, p2, a, t, hl, hp, htp, hf2, k, hc, hcc⟩ := hI
  exact ⟨p0, p1, p2, a, t, hl.fr rfl rfl rfl rfl rfl rfl rfl (hf 70 (by decide)) (hf 71 (by decide)), hp.fr rfl rfl rfl rfl rfl rfl rfl rfl rfl rfl rfl rfl rfl rfl (hf 77 (by decide)), htp, hf2, k, fun _ => ht, hcc⟩
theorem pub_luck (hI : INV n I J) (hn : n < 64) (hh : 40 ≤ h) : PairJ G h 157 242 [vi x, vi y, vi z, vi u] (n + 1) I J b := by
  have hI2 := hI.suc hn
  have hc : choI J := by
    obtain ⟨p0, p1, p2, -, -, -, -, -, -, -, hc, -⟩ := hI
    exact hc
  have no : ¬ ((1 ≤ x ∧ x ≤ 60) ∧ (0 ≤ y ∧ y ≤ x) ∧ (0 ≤ z ∧ z ≤ x) ∧ 0 ≤ u ∧ u ≤ x) → cJN (fun x_1 I1 J1 b1 => TriM G h 242 119 119 [vr 91, vi x, vi y, vi z, vi u] (I1, J1, PP b1) (cJN fun y I2 J2 _ => x_1 = y ∧ INV (n + 1) I2 J2)) (some (vl (BitVec.ofInt 64 (-1)))) (I, J, PP b) := by
    intro hx
    have fin : cJN (fun y I2 J2 _ => BitVec.ofInt 64 (-1) = y ∧ INV (n + 1) I2 J2) (some (vl (BitVec.ofInt 64 (-1)))) (I, J, PP b) := cJN_r ⟨rfl, hI2⟩
    exact cJN_r (x242_m (by omega) fun h2 hh2 => x242 (by omega) ⟨fun q1 => ⟨fun q2 => ⟨fun q3 => ⟨fun q4 => absurd ⟨q1, q2, q3, q4⟩ hx, fun _ => fin⟩, fun _ => fin⟩, fun _ => fin⟩, fun _ => fin⟩)
  refine x157_m (by omega) (fun h2 hh2 => x157 hh2 ⟨fun q => no (by omega), fun q => ⟨fun q1 => no (by omega), fun q1 => ?_⟩⟩)
  rw [w32_id (by omega) (by omega)]
  refine ⟨fun q2 => ⟨fun q3 => ⟨fun q4 => ?_, fun q4 => no (by omega)⟩, fun q3 => no (by omega)⟩, fun q2 => no (by omega)⟩
  refine s157_l hh2 (by omega) (by omega) (by omega) (by omega) ?_ (u.toNat + 1) 0 (by omega) (by omega)
  refine x242_m (by omega) (fun h3 hh3 => x242 (by omega) ⟨fun _ => ⟨fun _ => ⟨fun _ => ⟨fun _ => s240 (by omega) hc fun J' hf ht => ?_, fun q => by omega⟩, fun q => by omega⟩, fun q => by omega⟩, fun q => by omega⟩)
  exact s242_l hh3 ht (by omega) (by omega) (by omega) (by omega) ⟨rfl, hI2.ch hf ht⟩ (u.toNat + 1) 0 (by omega)
end LUCK
