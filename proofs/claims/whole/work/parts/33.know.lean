/-! what is known, what is missed -/
theorem knB_iff {I : MI} {e : Nat} : knB I e = true ↔ I 9 e ≤ atT I ∧ (I 10 e = -1 ∨ atT I < I 10 e) := by
  unfold knB
  rw [Bool.and_eq_true, Bool.or_eq_true, decide_eq_true_eq, decide_eq_true_eq, decide_eq_true_eq]
theorem atT_or (I : MI) : (I 7 2 = -1 ∧ atT I = I 7 1) ∨ (¬ I 7 2 = -1 ∧ atT I = I 7 2) := by
  unfold atT
  by_cases h : I 7 2 = -1
  · rw [if_pos h]; exact Or.inl ⟨h, rfl⟩
  · rw [if_neg h]; exact Or.inr ⟨h, rfl⟩
section KNOW
variable {G : Ctx} {h n : Nat} {I : MI} {J : MJ} {b : B3} {x y z u v e : Int}
theorem sb27 {K : Int → MS → Prop} (hh : 2 ≤ h) (g : rBook 0 92 I ∧ 0 ≤ e ∧ e < I 7 0) (k1 : knB I e.toNat = true → K 1 (I, J, PP b)) (k0 : ¬ (knB I e.toNat = true) → K 0 (I, J, PP b)) : TriM G h 27 119 119 [vr 7, vi e] (I, J, PP b) (cI' K) := by
  obtain ⟨⟨b1, b2, b3, b4⟩, g1, g2⟩ := g
  simp only [Nat.reduceAdd] at b1 b2 b3
  have ha := atT_or I
  rw [knB_iff] at k1 k0
  refine x27_m hh (fun h hh => x27 hh ?_)
  repeat' (first | apply And.intro | intro _)
  all_goals first | omega | exact cI_r (k1 (by omega)) | exact cI_r (k0 (by omega))
theorem sb225 {K : Int → MS → Prop} (hh : 2 ≤ h) (g : rBook 0 92 I ∧ 0 ≤ e ∧ e < I 7 0) (k1 : knB I e.toNat = true → K 1 (I, J, PP b)) (k0 : ¬ (knB I e.toNat = true) → K 0 (I, J, PP b)) : TriM G h 225 119 119 [vr 91, vi e] (I, J, PP b) (cI' K) := by
  obtain ⟨⟨b1, b2, b3, b4⟩, g1, g2⟩ := g
  simp only [Nat.reduceAdd] at b1 b2 b3
  have ha := atT_or I
  rw [knB_iff] at k1 k0
  obtain ⟨-, -, c3, c4, -⟩ := b4 e g1 (by simp only [Nat.reduceAdd]; exact g2)
  simp only [Nat.reduceAdd] at c3 c4
  refine x225_m hh (fun h hh => x225 hh ?_)
  repeat' (first | apply And.intro | intro _)
  all_goals first | omega | exact cI_r (k1 (by omega)) | exact cI_r (k0 (by omega))

set_option maxRecDepth 100000 in
theorem x33 {G : Ctx} {h : Nat} {Q : MP} {I : Nat → Nat → Int} {J : Nat → Nat → BitVec 64} {b : B3} {x y z : Int} (hh : 2 ≤ h) (H : (0 ≤ x ∧ x < (I 7 0) ∧ (I 7 0) ≤ 120 ∧ 0 ≤ (1 : Int) ∧ (1 : Int) < 6) ∧ (((¬ (I 8 ((x * 6 + (1 : Int)).toNat)) = y) → (Q (some (vi 0)) (I, J, PP b))) ∧ (¬ (¬ (I 8 ((x * 6 + (1 : Int)).toNat)) = y) → ((0 ≤ x ∧ x < (I 7 0) ∧ (I 7 0) ≤ 120 ∧ 0 ≤ (0 : Int) ∧ (0 : Int) < 6) ∧ (((¬ (I 8 ((x * 6 + (0 : Int)).toNat)) = z) → (Q (some (vi 0)) (I, J, PP b))) ∧ (¬ (¬ (I 8 ((x * 6 + (0 : Int)).toNat)) = z) → ((rBook 0 92 I ∧ 0 ≤ x ∧ x < I 7 0) ∧ (((knB I x.toNat = true) → (Q (some (vi 1)) (I, J, PP b))) ∧ (¬ (knB I x.toNat = true) → (Q (some (vi 0)) (I, J, PP b))))))))))) : Tri G h 33 119 119 0 [some (vr 82), some (vi x), some (vi y), some (vi z)] [] (I, J, PP b) Q := wp_at ck33 [] 400 (sx29 (by omega) H.1 (And.intro (fun q443 => And.intro (show (0 : Int) = 0 ∨ (0 : Int) = 1 by decide) (H.2.1 q443)) (fun q444 => sx29 (by omega) (H.2.2 q444).1 (And.intro (fun q445 => And.intro (show (0 : Int) = 0 ∨ (0 : Int) = 1 by decide) (((H.2.2 q444).2).1 q445)) (fun q446 => sb27 (by omega) (((H.2.2 q444).2).2 q446).1 (fun q447 => And.intro (fun z => absurd z (show ¬ ((1 : Int) = (0 : Int)) by decide)) (fun _ => And.intro (show (1 : Int) = 0 ∨ (1 : Int) = 1 by decide) (((((H.2.2 q444).2).2 q446).2).1 q447))) (fun q448 => And.intro (fun _ => And.intro (show (0 : Int) = 0 ∨ (0 : Int) = 1 by decide) (((((H.2.2 q444).2).2 q446).2).2 q448)) (fun z => absurd (show (0 : Int) = (0 : Int) by decide) z)))))))
theorem x33_m {G : Ctx} {h : Nat} {Q : MP} {I : Nat → Nat → Int} {J : Nat → Nat → BitVec 64} {b : B3} {x y z : Int} (hh : 3 ≤ h) (H : ∀ h, 2 ≤ h → Tri G h 33 119 119 0 [some (vr 82), some (vi x), some (vi y), some (vi z)] [] (I, J, PP b) Q) : TriM G h 33 119 119 [vr 82, vi x, vi y, vi z] (I, J, PP b) Q := TriM_intro (h - 1) (by omega) (by decide) (Nat.le_of_ble_eq_true rfl) (Nat.le_refl _) (Nat.le_refl _) (H (h - 1) (by omega))
set_option maxRecDepth 100000 in
theorem x28 {G : Ctx} {h : Nat} {Q : MP} {I : Nat → Nat → Int} {J : Nat → Nat → BitVec 64} {b : B3} (hh : 0 ≤ h) (H : Tri G h 28 119 119 4 [some (vr 7), some (vi 0), some (vi 0)] [] (I, J, PP b) Q) : Tri G h 28 119 119 0 [some (vr 7)] [] (I, J, PP b) Q := wp_at ck28 [(4, [true, true, true])] 400 H
set_option maxRecDepth 100000 in
theorem x28_4 {G : Ctx} {h : Nat} {Q : MP} {I : Nat → Nat → Int} {J : Nat → Nat → BitVec 64} {b : B3} {l1 l2 : Int} (hh : 2 ≤ h) (H : (((I 7 0) ≤ l2) → (Q (some (vi l1)) (I, J, PP b))) ∧ (¬ ((I 7 0) ≤ l2) → ((rBook 0 92 I ∧ 0 ≤ l2 ∧ l2 < I 7 0) ∧ (((knB I l2.toNat = true) → (Tri G h 28 119 119 4 [some (vr 7), some (vi (w32 (l1 + 1))), some (vi (w32 (l2 + 1)))] [] (I, J, PP b) Q)) ∧ (¬ (knB I l2.toNat = true) → (Tri G h 28 119 119 4 [some (vr 7), some (vi l1), some (vi (w32 (l2 + 1)))] [] (I, J, PP b) Q)))))) : Tri G h 28 119 119 4 [some (vr 7), some (vi l1), some (vi l2)] [] (I, J, PP b) Q := wp_at ck28 [(4, [true, true, true])] 400 (And.intro (fun q449 => H.1 q449) (fun q450 => sb27 (by omega) (H.2 q450).1 (fun q451 => And.intro (fun z => absurd z (show ¬ ((1 : Int) = (0 : Int)) by decide)) (fun _ => ((H.2 q450).2).1 q451)) (fun q452 => And.intro (fun _ => ((H.2 q450).2).2 q452) (fun z => absurd (show (0 : Int) = (0 : Int) by decide) z))))
theorem x28_m {G : Ctx} {h : Nat} {Q : MP} {I : Nat → Nat → Int} {J : Nat → Nat → BitVec 64} {b : B3} (hh : 3 ≤ h) (H : ∀ h, 2 ≤ h → Tri G h 28 119 119 0 [some (vr 7)] [] (I, J, PP b) Q) : TriM G h 28 119 119 [vr 7] (I, J, PP b) Q := TriM_intro (h - 1) (by omega) (by decide) (Nat.le_of_ble_eq_true rfl) (Nat.le_refl _) (Nat.le_refl _) (H (h - 1) (by omega))
set_option maxRecDepth 100000 in
theorem x267 {G : Ctx} {h : Nat} {Q : MP} {I : Nat → Nat → Int} {J : Nat → Nat → BitVec 64} {b : B3} (hh : 0 ≤ h) (H : Tri G h 267 119 119 4 [some (vr 91), some (vi 0), some (vi 0)] [] (I, J, PP b) Q) : Tri G h 267 119 119 0 [some (vr 91)] [] (I, J, PP b) Q := wp_at ck267 [(4, [true, true, true])] 400 H
set_option maxRecDepth 100000 in
theorem x267_4 {G : Ctx} {h : Nat} {Q : MP} {I : Nat → Nat → Int} {J : Nat → Nat → BitVec 64} {b : B3} {l1 l2 : Int} (hh : 2 ≤ h) (H : (((I 92 4) ≤ l2) → (Q (some (vi l1)) (I, J, PP b))) ∧ (¬ ((I 92 4) ≤ l2) → ((rBook 0 92 I ∧ 0 ≤ l2 ∧ l2 < I 7 0) ∧ (((knB I l2.toNat = true) → (Tri G h 267 119 119 4 [some (vr 91), some (vi (w32 (l1 + 1))), some (vi (w32 (l2 + 1)))] [] (I, J, PP b) Q)) ∧ (¬ (knB I l2.toNat = true) → (Tri G h 267 119 119 4 [some (vr 91), some (vi (w32 (l1 + 0))), some (vi (w32 (l2 + 1)))] [] (I, J, PP b) Q)))))) : Tri G h 267 119 119 4 [some (vr 91), some (vi l1), some (vi l2)] [] (I, J, PP b) Q := wp_at ck267 [(4, [true, true, true])] 400 (And.intro (show (0 : Int) ≤ 4 ∧ (4 : Int) < ((5120 : Nat) : Int) by decide) (And.intro (fun q453 => H.1 q453) (fun q454 => sb225 (by omega) (H.2 q454).1 (fun q455 => And.intro (fun z => absurd z (show ¬ ((1 : Int) = (0 : Int)) by decide)) (fun _ => ((H.2 q454).2).1 q455)) (fun q456 => And.intro (fun _ => ((H.2 q454).2).2 q456) (fun z => absurd (show (0 : Int) = (0 : Int) by decide) z)))))
theorem x267_m {G : Ctx} {h : Nat} {Q : MP} {I : Nat → Nat → Int} {J : Nat → Nat → BitVec 64} {b : B3} (hh : 3 ≤ h) (H : ∀ h, 2 ≤ h → Tri G h 267 119 119 0 [some (vr 91)] [] (I, J, PP b) Q) : TriM G h 267 119 119 [vr 91] (I, J, PP b) Q := TriM_intro (h - 1) (by omega) (by decide) (Nat.le_of_ble_eq_true rfl) (Nat.le_refl _) (Nat.le_refl _) (H (h - 1) (by omega))
set_option maxRecDepth 100000 in
theorem x133 {G : Ctx} {h : Nat} {Q : MP} {I : Nat → Nat → Int} {J : Nat → Nat → BitVec 64} {b : B3} (hh : 0 ≤ h) (H : Tri G h 133 119 119 4 [some (vr 1), some (vl (0#64)), none, some (vi 0)] [] (I, J, PP b) Q) : Tri G h 133 119 119 0 [some (vr 1)] [] (I, J, PP b) Q := wp_at ck133 [(4, [true, true, false, true])] 400 H
set_option maxRecDepth 100000 in
theorem x133_4 {G : Ctx} {h : Nat} {Q : MP} {I : Nat → Nat → Int} {J : Nat → Nat → BitVec 64} {b : B3} {l3 : Int} {l1 : BitVec 64} (hh : 2 ≤ h) (H : (((I 7 0) ≤ l3) → (Q (some (vl (((lShl (1#64) (I 2 0)) - (1#64)) &&& (l1 ^^^ (BitVec.ofInt 64 (-1)))))) (I, J, PP b))) ∧ (¬ ((I 7 0) ≤ l3) → ((rBook 0 92 I ∧ 0 ≤ l3 ∧ l3 < I 7 0) ∧ (((knB I l3.toNat = true) → ((0 ≤ l3 ∧ l3 < (I 7 0) ∧ (I 7 0) ≤ 120 ∧ 0 ≤ (2 : Int) ∧ (2 : Int) < 6) ∧ (Tri G h 133 119 119 4 [some (vr 1), some (vl (l1 ||| (lShl (1#64) (I 8 ((l3 * 6 + (2 : Int)).toNat))))), none, some (vi (w32 (l3 + 1)))] [] (I, J, PP b) Q))) ∧ (¬ (knB I l3.toNat = true) → (Tri G h 133 119 119 4 [some (vr 1), some (vl l1), none, some (vi (w32 (l3 + 1)))] [] (I, J, PP b) Q)))))) : Tri G h 133 119 119 4 [some (vr 1), some (vl l1), none, some (vi l3)] [] (I, J, PP b) Q := wp_at ck133 [(4, [true, true, false, true])] 400 (And.intro (fun q457 => H.1 q457) (fun q458 => sb27 (by omega) (H.2 q458).1 (fun q459 => And.intro (fun z => absurd z (show ¬ ((1 : Int) = (0 : Int)) by decide)) (fun _ => sx29 (by omega) (((H.2 q458).2).1 q459).1 ((((H.2 q458).2).1 q459).2))) (fun q460 => And.intro (fun _ => ((H.2 q458).2).2 q460) (fun z => absurd (show (0 : Int) = (0 : Int) by decide) z))))
theorem x133_m {G : Ctx} {h : Nat} {Q : MP} {I : Nat → Nat → Int} {J : Nat → Nat → BitVec 64} {b : B3} (hh : 3 ≤ h) (H : ∀ h, 2 ≤ h → Tri G h 133 119 119 0 [some (vr 1)] [] (I, J, PP b) Q) : TriM G h 133 119 119 [vr 1] (I, J, PP b) Q := TriM_intro (h - 1) (by omega) (by decide) (Nat.le_of_ble_eq_true rfl) (Nat.le_refl _) (Nat.le_refl _) (H (h - 1) (by omega))
set_option maxRecDepth 100000 in
theorem x127 {G : Ctx} {h : Nat} {Q : MP} {I : Nat → Nat → Int} {J : Nat → Nat → BitVec 64} {b : B3} {x : Int} (hh : 0 ≤ h) (H : Tri G h 127 119 119 5 [some (vr 2), some (vi x), some (vl (0#64)), none, some (vi 0)] [] (I, J, PP b) Q) : Tri G h 127 119 119 0 [some (vr 2), some (vi x)] [] (I, J, PP b) Q := wp_at ck127 [(5, [true, true, true, false, true])] 400 H
set_option maxRecDepth 100000 in
theorem x127_5 {G : Ctx} {h : Nat} {Q : MP} {I : Nat → Nat → Int} {J : Nat → Nat → BitVec 64} {b : B3} {l1 l4 : Int} {l2 : BitVec 64} (hh : 0 ≤ h) (H : (((I 2 0) ≤ l4) → (Q (some (vl l2)) (I, J, PP b))) ∧ (¬ ((I 2 0) ≤ l4) → ((0 ≤ l4 ∧ l4 < (60 : Int)) ∧ (((¬ (I 3 l4.toNat) = l1) → (Tri G h 127 119 119 5 [some (vr 2), some (vi l1), some (vl l2), none, some (vi (w32 (l4 + 1)))] [] (I, J, PP b) Q)) ∧ (¬ (¬ (I 3 l4.toNat) = l1) → (Tri G h 127 119 119 5 [some (vr 2), some (vi l1), some (vl (l2 ||| (lShl (1#64) l4))), none, some (vi (w32 (l4 + 1)))] [] (I, J, PP b) Q)))))) : Tri G h 127 119 119 5 [some (vr 2), some (vi l1), some (vl l2), none, some (vi l4)] [] (I, J, PP b) Q := wp_at ck127 [(5, [true, true, true, false, true])] 400 H
theorem x127_m {G : Ctx} {h : Nat} {Q : MP} {I : Nat → Nat → Int} {J : Nat → Nat → BitVec 64} {b : B3} {x : Int} (hh : 1 ≤ h) (H : ∀ h, 0 ≤ h → Tri G h 127 119 119 0 [some (vr 2), some (vi x)] [] (I, J, PP b) Q) : TriM G h 127 119 119 [vr 2, vi x] (I, J, PP b) Q := TriM_intro (h - 1) (by omega) (by decide) (Nat.le_of_ble_eq_true rfl) (Nat.le_refl _) (Nat.le_refl _) (H (h - 1) (by omega))
set_option maxRecDepth 100000 in
theorem x256 {G : Ctx} {h : Nat} {Q : MP} {I : Nat → Nat → Int} {J : Nat → Nat → BitVec 64} {b : B3} {x : Int} (hh : 0 ≤ h) (H : Tri G h 256 119 119 2 [some (vr 91), some (vi x), some (vi 0)] [] (I, J, PP b) Q) : Tri G h 256 119 119 0 [some (vr 91), some (vi x)] [] (I, J, PP b) Q := wp_at ck256 [(2, [true, true, true]), (23, [true, true, true]), (63, [true, true, true, true])] 400 H
set_option maxRecDepth 100000 in
theorem x256_2 {G : Ctx} {h : Nat} {Q : MP} {I : Nat → Nat → Int} {J : Nat → Nat → BitVec 64} {b : B3} {l1 l2 : Int} (hh : 0 ≤ h) (H : ((60 ≤ l2) → (Tri G h 256 119 119 23 [some (vr 91), some (vi l1), some (vi 0)] [] (I, J, PP b) Q)) ∧ (¬ (60 ≤ l2) → ((0 ≤ l2 ∧ l2 < (60 : Int)) ∧ (Tri G h 256 119 119 2 [some (vr 91), some (vi l1), some (vi (w32 (l2 + 1)))] [] (u2 I 114 l2.toNat 0, J, PP b) Q)))) : Tri G h 256 119 119 2 [some (vr 91), some (vi l1), some (vi l2)] [] (I, J, PP b) Q := wp_at ck256 [(2, [true, true, true]), (23, [true, true, true]), (63, [true, true, true, true])] 400 (And.intro (fun q461 => H.1 q461) (fun q462 => And.intro (H.2 q462).1 (And.intro (show (0 : Int) = 0 ∨ (0 : Int) = 1 by decide) ((H.2 q462).2))))
set_option maxRecDepth 100000 in
theorem x256_23 {G : Ctx} {h : Nat} {Q : MP} {I : Nat → Nat → Int} {J : Nat → Nat → BitVec 64} {b : B3} {l1 l2 : Int} (hh : 2 ≤ h) (H : (((I 92 4) ≤ l2) → (Tri G h 256 119 119 63 [some (vr 91), some (vi l1), some (vi 0), some (vi 0)] [] (I, J, PP b) Q)) ∧ (¬ ((I 92 4) ≤ l2) → ((rBook 0 92 I ∧ 0 ≤ l2 ∧ l2 < I 7 0) ∧ (((knB I l2.toNat = true) → ((0 ≤ l2 ∧ l2 < 120 ∧ 0 ≤ (2 : Int) ∧ (2 : Int) < 17) ∧ ((0 ≤ (I 92 ((450 + 17 * l2 + (2 : Int)).toNat)) ∧ (I 92 ((450 + 17 * l2 + (2 : Int)).toNat)) < (60 : Int)) ∧ (Tri G h 256 119 119 23 [some (vr 91), some (vi l1), some (vi (w32 (l2 + 1)))] [] (u2 I 114 ((I 92 ((450 + 17 * l2 + (2 : Int)).toNat)).toNat) 1, J, PP b) Q)))) ∧ (¬ (knB I l2.toNat = true) → (Tri G h 256 119 119 23 [some (vr 91), some (vi l1), some (vi (w32 (l2 + 1)))] [] (I, J, PP b) Q)))))) : Tri G h 256 119 119 23 [some (vr 91), some (vi l1), some (vi l2)] [] (I, J, PP b) Q := wp_at ck256 [(2, [true, true, true]), (23, [true, true, true]), (63, [true, true, true, true])] 400 (And.intro (show (0 : Int) ≤ 4 ∧ (4 : Int) < ((5120 : Nat) : Int) by decide) (And.intro (fun q463 => H.1 q463) (fun q464 => sb225 (by omega) (H.2 q464).1 (fun q465 => And.intro (fun z => absurd z (show ¬ ((1 : Int) = (0 : Int)) by decide)) (fun _ => sx188 (by omega) (((H.2 q464).2).1 q465).1 (And.intro ((((H.2 q464).2).1 q465).2).1 (And.intro (show (1 : Int) = 0 ∨ (1 : Int) = 1 by decide) (((((H.2 q464).2).1 q465).2).2))))) (fun q466 => And.intro (fun _ => ((H.2 q464).2).2 q466) (fun z => absurd (show (0 : Int) = (0 : Int) by decide) z)))))
set_option maxRecDepth 100000 in
theorem x256_63 {G : Ctx} {h : Nat} {Q : MP} {I : Nat → Nat → Int} {J : Nat → Nat → BitVec 64} {b : B3} {l1 l2 l3 : Int} (hh : 1 ≤ h) (H : (((I 92 3) ≤ l3) → (Q (some (vi l2)) (I, J, PP b))) ∧ (¬ ((I 92 3) ≤ l3) → ((0 ≤ l3 ∧ l3 < (60 : Int)) ∧ (((¬ (I 114 l3.toNat) = 0) → (Tri G h 256 119 119 63 [some (vr 91), some (vi l1), some (vi (w32 (l2 + 0))), some (vi (w32 (l3 + 1)))] [] (I, J, PP b) Q)) ∧ (¬ (¬ (I 114 l3.toNat) = 0) → (((l1 = (-1)) → (Tri G h 256 119 119 63 [some (vr 91), some (vi l1), some (vi (w32 (l2 + 1))), some (vi (w32 (l3 + 1)))] [] (I, J, PP b) Q)) ∧ (¬ (l1 = (-1)) → ((0 ≤ l3 ∧ l3 < 60) ∧ (((¬ (I 92 ((220 + 3 * l3).toNat)) = l1) → (Tri G h 256 119 119 63 [some (vr 91), some (vi l1), some (vi (w32 (l2 + 0))), some (vi (w32 (l3 + 1)))] [] (I, J, PP b) Q)) ∧ (¬ (¬ (I 92 ((220 + 3 * l3).toNat)) = l1) → (Tri G h 256 119 119 63 [some (vr 91), some (vi l1), some (vi (w32 (l2 + 1))), some (vi (w32 (l3 + 1)))] [] (I, J, PP b) Q))))))))))) : Tri G h 256 119 119 63 [some (vr 91), some (vi l1), some (vi l2), some (vi l3)] [] (I, J, PP b) Q := wp_at ck256 [(2, [true, true, true]), (23, [true, true, true]), (63, [true, true, true, true])] 400 (And.intro (show (0 : Int) ≤ 3 ∧ (3 : Int) < ((5120 : Nat) : Int) by decide) (And.intro (fun q467 => H.1 q467) (fun q468 => And.intro (H.2 q468).1 (And.intro (fun q469 => ((H.2 q468).2).1 q469) (fun q470 => And.intro (fun q471 => (((H.2 q468).2).2 q470).1 q471) (fun q472 => sx189 (by omega) ((((H.2 q468).2).2 q470).2 q472).1 (((((H.2 q468).2).2 q470).2 q472).2)))))))
theorem x256_m {G : Ctx} {h : Nat} {Q : MP} {I : Nat → Nat → Int} {J : Nat → Nat → BitVec 64} {b : B3} {x : Int} (hh : 3 ≤ h) (H : ∀ h, 2 ≤ h → Tri G h 256 119 119 0 [some (vr 91), some (vi x)] [] (I, J, PP b) Q) : TriM G h 256 119 119 [vr 91, vi x] (I, J, PP b) Q := TriM_intro (h - 1) (by omega) (by decide) (Nat.le_of_ble_eq_true rfl) (Nat.le_refl _) (Nat.le_refl _) (H (h - 1) (by omega))
set_option maxRecDepth 100000 in
theorem x134 {G : Ctx} {h : Nat} {Q : MP} {I : Nat → Nat → Int} {J : Nat → Nat → BitVec 64} {b : B3} {x : Int} (hh : 3 ≤ h) (H : TriM G h 133 119 119 [vr 1] (I, J, PP b) (cJN fun r1 I1 J1 b1 => (TriM G h 127 119 119 [vr 2, vi x] (I1, J1, PP b1) (cJN fun r2 I2 J2 b2 => (TriM G h 17 119 119 [vl (r1 &&& r2)] (I2, J2, PP b2) (cIN fun r3 I3 J3 b3 => (Q (some (vi r3)) (I3, J3, PP b3)))))))) : Tri G h 134 119 119 0 [some (vr 1), some (vi x)] [] (I, J, PP b) Q := wp_at ck134 [] 400 (cJN_go H (fun r1 I1 J1 b1 q473 => cJN_go q473 (fun r2 I2 J2 b2 q474 => cIN_go q474 (fun r3 I3 J3 b3 q475 => q475))))
theorem x134_m {G : Ctx} {h : Nat} {Q : MP} {I : Nat → Nat → Int} {J : Nat → Nat → BitVec 64} {b : B3} {x : Int} (hh : 4 ≤ h) (H : ∀ h, 3 ≤ h → Tri G h 134 119 119 0 [some (vr 1), some (vi x)] [] (I, J, PP b) Q) : TriM G h 134 119 119 [vr 1, vi x] (I, J, PP b) Q := TriM_intro (h - 1) (by omega) (by decide) (Nat.le_of_ble_eq_true rfl) (Nat.le_refl _) (Nat.le_refl _) (H (h - 1) (by omega))
theorem cntE_ct (f : Nat → Bool) : ∀ n, cntE f n = (fb_ct f n : Int)
  | 0 => rfl
  | n + 1 => by
    simp only [cntE, fb_ct]
    rw [cntE_ct f n]
    split <;> omega
theorem cntE_b (f : Nat → Bool) (n : Nat) : 0 ≤ cntE f n ∧ cntE f n ≤ n := by
  have := fb_ct_le f n
  rw [cntE_ct]
  omega
theorem cntE_s {f : Nat → Bool} {n : Nat} (h : f n = true) : cntE f (n + 1) = cntE f n + 1 := by
  simp only [cntE]
  rw [if_pos h]
theorem cntE_n {f : Nat → Bool} {n : Nat} (h : ¬ f n = true) : cntE f (n + 1) = cntE f n := by
  simp only [cntE]
  rw [if_neg h, Int.add_zero]
theorem toN (i : Nat) : ((i : Int)).toNat = i := by omega

theorem s28_l {K : Int → MI → MJ → B3 → Prop} (hh : 2 ≤ h) (hB : rBook 0 92 I) (k : K (cntE (knB I) (I 7 0).toNat) I J b) : ∀ (m i : Nat), (i : Int) + m = I 7 0 → Tri G h 28 119 119 4 [some (vr 7), some (vi (cntE (knB I) i)), some (vi i)] [] (I, J, PP b) (cIN K) := by
  have b1 := hB.1
  simp only [Nat.reduceAdd] at b1
  intro m
  induction m with
  | zero =>
    intro i hi
    refine x28_4 hh ⟨fun q => cIN_r fun _ => ?_, fun q => by omega⟩
    rw [show i = (I 7 0).toNat by omega]
    exact k
  | succ m ih =>
    intro i hi
    have hc := cntE_b (knB I) i
    refine x28_4 hh ⟨fun q => by omega, fun q => ⟨⟨hB, by omega, by omega⟩, fun q2 => ?_, fun q2 => ?_⟩⟩
    · rw [toN] at q2
      rw [w32_id (x := (i : Int) + 1) (by omega) (by omega), w32_id (by omega) (by omega), ← cntE_s q2]
      exact ih (i + 1) (by omega)
    · rw [toN] at q2
      rw [w32_id (x := (i : Int) + 1) (by omega) (by omega), ← cntE_n q2]
      exact ih (i + 1) (by omega)
theorem s28 {K : Int → MI → MJ → B3 → Prop} (hh : 3 ≤ h) (hB : rBook 0 92 I) (k : K (cntE (knB I) (I 7 0).toNat) I J b) : TriM G h 28 119 119 [vr 7] (I, J, PP b) (cIN K) := by
  have b1 := hB.1
  simp only [Nat.reduceAdd] at b1
  exact x28_m hh (fun h hh => x28 (Nat.zero_le _) (s28_l hh hB k (I 7 0).toNat 0 (by omega)))
theorem s267_l {K : Int → MI → MJ → B3 → Prop} (hh : 2 ≤ h) (hB : rBook 0 92 I) (k : K (cntE (knB I) (I 7 0).toNat) I J b) : ∀ (m i : Nat), (i : Int) + m = I 7 0 → Tri G h 267 119 119 4 [some (vr 91), some (vi (cntE (knB I) i)), some (vi i)] [] (I, J, PP b) (cIN K) := by
  have b1 := hB.1
  simp only [Nat.reduceAdd] at b1
  intro m
  induction m with
  | zero =>
    intro i hi
    rw [← b1.2.2] at hi
    refine x267_4 hh ⟨fun q => cIN_r fun _ => ?_, fun q => by omega⟩
    rw [show i = (I 7 0).toNat by omega]
    exact k
  | succ m ih =>
    intro i hi
    have hc := cntE_b (knB I) i
    refine x267_4 hh ⟨fun q => by omega, fun q => ⟨⟨hB, by omega, by omega⟩, fun q2 => ?_, fun q2 => ?_⟩⟩
    · rw [toN] at q2
      rw [w32_id (x := (i : Int) + 1) (by omega) (by omega), w32_id (by omega) (by omega), ← cntE_s q2]
      exact ih (i + 1) (by omega)
    · rw [toN] at q2
      rw [w32_id (x := (i : Int) + 1) (by omega) (by omega), Int.add_zero, w32_id (by omega) (by omega), ← cntE_n q2]
      exact ih (i + 1) (by omega)
theorem s267 {K : Int → MI → MJ → B3 → Prop} (hh : 3 ≤ h) (hB : rBook 0 92 I) (k : K (cntE (knB I) (I 7 0).toNat) I J b) : TriM G h 267 119 119 [vr 91] (I, J, PP b) (cIN K) := by
  have b1 := hB.1
  simp only [Nat.reduceAdd] at b1
  exact x267_m hh (fun h hh => x267 (Nat.zero_le _) (s267_l hh hB k (I 7 0).toNat 0 (by omega)))
/-- a house with an entry among the first n -/
def sn (I : MI) (n j : Nat) : Prop := ∃ e : Nat, e < n ∧ knB I e = true ∧ fact I e 2 = j
theorem sn_s {I : MI} {n j : Nat} : sn I (n + 1) j ↔ sn I n j ∨ (knB I n = true ∧ fact I n 2 = j) := by
  constructor
  · rintro ⟨e, e1, e2, e3⟩
    by_cases h : e = n
    · subst h; exact Or.inr ⟨e2, e3⟩
    · exact Or.inl ⟨e, by omega, e2, e3⟩
  · rintro (⟨e, e1, e2, e3⟩ | ⟨e2, e3⟩)
    · exact ⟨e, by omega, e2, e3⟩
    · exact ⟨n, by omega, e2, e3⟩
noncomputable def misB (I : MI) (j : Nat) : Bool := @decide ((j : Int) < I 2 0 ∧ ¬ sn I (I 7 0).toNat j) (Classical.propDecidable _)
theorem misB_iff {I : MI} {j : Nat} : misB I j = true ↔ (j : Int) < I 2 0 ∧ ¬ sn I (I 7 0).toNat j := by
  unfold misB
  exact @decide_eq_true_iff _ (Classical.propDecidable _)
theorem s133_l {K : BitVec 64 → MI → MJ → B3 → Prop} (hh : 2 ≤ h) (hT : rTown 0 92 I) (hB : rBook 0 92 I) (k : ∀ r, (∀ j, r.getLsbD j = misB I j) → K r I J b) : ∀ (m i : Nat) (a : BitVec 64), (i : Int) + m = I 7 0 → (∀ j, a.getLsbD j = true ↔ sn I i j) → Tri G h 133 119 119 4 [some (vr 1), some (vl a), none, some (vi i)] [] (I, J, PP b) (cJN K) := by
  have b1 := hB.1
  have t1 := hT.1
  simp only [Nat.reduceAdd] at b1 t1
  intro m
  induction m with
  | zero =>
    intro i a hi ha
    refine x133_4 hh ⟨fun q => cJN_r (k _ fun j => ?_), fun q => by omega⟩
    have hin : i = (I 7 0).toNat := by omega
    subst hin
    have e1 : ((lShl (1#64) (I 2 0)) - (1#64)).toNat = 2 ^ (I 2 0).toNat - 1 := by
      have hp : 2 ^ (I 2 0).toNat ≤ 2 ^ 60 := Nat.pow_le_pow_right (by decide) (by omega)
      have h1 : (lShl (1#64) (I 2 0)).toNat = 2 ^ (I 2 0).toNat := by
        rw [lShl_eq _ (k := (I 2 0).toNat) (by omega) (by omega), BitVec.toNat_shiftLeft, Nat.shiftLeft_eq]
        rw [show (1#64).toNat = 1 from rfl, Nat.one_mul, Nat.mod_eq_of_lt (by omega)]
      have hp0 : 0 < 2 ^ (I 2 0).toNat := Nat.pow_pos (by decide)
      rw [BitVec.toNat_sub_of_le (by rw [BitVec.le_def, h1]; exact hp0), h1]
      rfl
    have e2 : ((lShl (1#64) (I 2 0)) - (1#64)).getLsbD j = decide (j < (I 2 0).toNat) := by
      rw [← BitVec.testBit_toNat, e1, Nat.testBit_two_pow_sub_one]
    rw [BitVec.getLsbD_and, e2, show BitVec.ofInt 64 (-1) = BitVec.allOnes 64 from rfl, BitVec.xor_allOnes, BitVec.getLsbD_not]
    apply Bool.eq_iff_iff.2
    rw [misB_iff, Bool.and_eq_true, Bool.and_eq_true, decide_eq_true_eq, decide_eq_true_eq, ← ha j, Bool.not_eq_true']
    cases a.getLsbD j
    · simp only [and_true, Bool.false_eq_true, not_false_eq_true]; omega
    · simp
  | succ m ih =>
    intro i a hi ha
    have hen := hB.2.2.2 i (by omega) (by simp only [Nat.reduceAdd]; omega)
    have hf := hen.2.1.2.2.1
    simp only [Nat.reduceAdd] at hf
    refine x133_4 hh ⟨fun q => by omega, fun q => ⟨⟨hB, by omega, by omega⟩, fun q2 => ⟨by omega, ?_⟩, fun q2 => ?_⟩⟩
    · rw [toN] at q2
      rw [w32_id (by omega) (by omega)]
      refine ih (i + 1) _ (by omega) (fun j => ?_)
      rw [sn_s, BitVec.getLsbD_or, shl1_bit (k := (I 8 ((i : Int) * 6 + 2).toNat).toNat) (by omega) (by omega), Bool.or_eq_true, ha j, decide_eq_true_eq]
      unfold fact
      constructor
      · rintro (q3 | q3)
        · exact Or.inl q3
        · exact Or.inr ⟨q2, by omega⟩
      · rintro (q3 | q3)
        · exact Or.inl q3
        · exact Or.inr (by omega)
    · rw [toN] at q2
      rw [w32_id (by omega) (by omega)]
      refine ih (i + 1) _ (by omega) (fun j => ?_)
      rw [sn_s, ha j]
      constructor
      · exact Or.inl
      · rintro (q3 | q3)
        · exact q3
        · exact absurd q3.1 q2
theorem s133 {K : BitVec 64 → MI → MJ → B3 → Prop} (hh : 3 ≤ h) (hT : rTown 0 92 I) (hB : rBook 0 92 I) (k : ∀ r, (∀ j, r.getLsbD j = misB I j) → K r I J b) : TriM G h 133 119 119 [vr 1] (I, J, PP b) (cJN K) := by
  have b1 := hB.1
  simp only [Nat.reduceAdd] at b1
  refine x133_m hh (fun h hh => x133 (Nat.zero_le _) (s133_l hh hT hB k (I 7 0).toNat 0 0#64 (by omega) fun j => ?_))
  rw [BitVec.getLsbD_zero]
  constructor
  · intro q; exact absurd q (by decide)
  · rintro ⟨e, e1, -⟩; omega
theorem s127_l {K : BitVec 64 → MI → MJ → B3 → Prop} (hT : rTown 0 92 I) (k : ∀ r, (∀ j : Nat, r.getLsbD j = (decide ((j : Int) < I 2 0) && decide (I 3 j = x))) → K r I J b) : ∀ (m i : Nat) (a : BitVec 64), (i : Int) + m = I 2 0 → (∀ j, a.getLsbD j = (decide (j < i) && decide (I 3 j = x))) → Tri G h 127 119 119 5 [some (vr 2), some (vi x), some (vl a), none, some (vi i)] [] (I, J, PP b) (cJN K) := by
  have t1 := hT.1
  simp only [Nat.reduceAdd] at t1
  intro m
  induction m with
  | zero =>
    intro i a hi ha
    refine x127_5 (Nat.zero_le _) ⟨fun q => cJN_r (k _ fun j => ?_), fun q => by omega⟩
    rw [ha j]
    congr 1
    exact decide_eq_decide.2 (by omega)
  | succ m ih =>
    intro i a hi ha
    refine x127_5 (Nat.zero_le _) ⟨fun q => by omega, fun q => ⟨by omega, fun q2 => ?_, fun q2 => ?_⟩⟩
    · rw [toN] at q2
      rw [w32_id (by omega) (by omega)]
      refine ih (i + 1) _ (by omega) (fun j => ?_)
      rw [ha j]
      by_cases hj : j = i
      · subst hj; simp [q2]
      · congr 1
        exact decide_eq_decide.2 (by omega)
    · rw [toN] at q2
      rw [w32_id (by omega) (by omega)]
      refine ih (i + 1) _ (by omega) (fun j => ?_)
      rw [BitVec.getLsbD_or, shl1_bit (k := i) rfl (by omega), ha j]
      by_cases hj : j = i
      · subst hj; simp at q2; simp [q2]
      · have e : decide (j < i) = decide (j < i + 1) := decide_eq_decide.2 (by omega)
        rw [e]; simp [hj]
theorem s127 {K : BitVec 64 → MI → MJ → B3 → Prop} (hh : 1 ≤ h) (hT : rTown 0 92 I) (k : ∀ r, (∀ j : Nat, r.getLsbD j = (decide ((j : Int) < I 2 0) && decide (I 3 j = x))) → K r I J b) : TriM G h 127 119 119 [vr 2, vi x] (I, J, PP b) (cJN K) := by
  have t1 := hT.1
  simp only [Nat.reduceAdd] at t1
  refine x127_m hh (fun h hh => x127 hh (s127_l hT k (I 2 0).toNat 0 0#64 (by omega) fun j => ?_))
  rw [BitVec.getLsbD_zero]
  simp
/-- how many are missed in a street (-1: in all) -/
noncomputable def misN (I : MI) (x : Int) : Int := fb_ct (fun j => misB I j && (decide (x = -1) || decide (I 3 j = x))) 60
theorem misB_lt {I : MI} (hT : rTown 0 92 I) {j : Nat} (h : misB I j = true) : j < 60 := by
  have t1 := hT.1
  simp only [Nat.reduceAdd] at t1
  rw [misB_iff] at h
  omega
theorem pc60 {f : Nat → Bool} {a : BitVec 64} (h : ∀ j, a.getLsbD j = f j) (h60 : ∀ j, f j = true → j < 60) : pcL a = fb_ct f 60 := by
  unfold pcL
  rw [fb_ct_cong (fun k _ => h k), show 64 = 60 + 4 from rfl, fb_ct_split]
  have : fb_ct (fun k => f (60 + k)) 4 = 0 := by
    rw [fb_ct_zero]
    intro k hk
    cases hf : f (60 + k) with
    | false => rfl
    | true => have := h60 _ hf; omega
  rw [this, Nat.add_zero]
theorem s134 {K : Int → MI → MJ → B3 → Prop} (hh : 4 ≤ h) (hT : rTown 0 92 I) (hB : rBook 0 92 I) (hx : x ≠ -1) (k : K (misN I x) I J b) : TriM G h 134 119 119 [vr 1, vi x] (I, J, PP b) (cIN K) := by
  refine x134_m hh (fun h hh => x134 hh (s133 (by omega) hT hB fun r hr => s127 (by omega) hT fun r2 hr2 => s17 (by omega) (cIN_r fun _ => ?_)))
  have e : pcL (r &&& r2) = misN I x := by
    unfold misN
    refine pc60 (fun j => ?_) (fun j hj => ?_)
    · rw [BitVec.getLsbD_and, hr, hr2]
      cases hm : misB I j with
      | false => rfl
      | true =>
        rw [misB_iff] at hm
        simp [hm.1, hx]
    · rw [Bool.and_eq_true] at hj
      exact misB_lt hT hj.1
  rw [e]
  exact k
theorem s133c {K : Int → MI → MJ → B3 → Prop} {r : BitVec 64} (hh : 1 ≤ h) (hT : rTown 0 92 I) (hr : ∀ j, r.getLsbD j = misB I j) (k : K (misN I (-1)) I J b) : TriM G h 17 119 119 [vl r] (I, J, PP b) (cIN K) := by
  refine s17 hh ?_
  have e : pcL r = misN I (-1) := by
    unfold misN
    refine pc60 (fun j => ?_) (fun j hj => ?_)
    · rw [hr]
      simp
    · rw [Bool.and_eq_true] at hj
      exact misB_lt hT hj.1
  rw [e]
  exact k
/-- the row of seen houses that the reference lays -/
def seenR (I I' : MI) : Prop := frK [114] I I' ∧ ∀ j : Nat, j < 60 → (I' 114 j = 0 ∨ I' 114 j = 1) ∧ (I' 114 j = 1 ↔ sn I (I 7 0).toNat j)
theorem s256_3 {K : Int → MI → MJ → B3 → Prop} {I' : MI} (hh : 1 ≤ h) (hT : rTown 0 92 I) (hS : seenR I I') (hx : x = -1 ∨ 0 ≤ x) (k : K (misN I x) I' J b) : ∀ (m i : Nat), (i : Int) + m = I 2 0 → Tri G h 256 119 119 63 [some (vr 91), some (vi x), some (vi (fb_ct (fun j => misB I j && (decide (x = -1) || decide (I 3 j = x))) i : Nat)), some (vi i)] [] (I', J, PP b) (cIN K) := by
  have t1 := hT.1
  simp only [Nat.reduceAdd] at t1
  have f92 := hS.1 92 (by decide)
  intro m
  induction m with
  | zero =>
    intro i hi
    refine x256_63 hh ⟨fun q => cIN_r fun _ => ?_, fun q => by rw [f92] at q; omega⟩
    have e : ((fb_ct (fun j => misB I j && (decide (x = -1) || decide (I 3 j = x))) i : Nat) : Int) = misN I x := by
      unfold misN
      rw [show 60 = i + (60 - i) by omega, fb_ct_split]
      have : fb_ct (fun k => misB I (i + k) && (decide (x = -1) || decide (I 3 (i + k) = x))) (60 - i) = 0 := by
        rw [fb_ct_zero]
        intro k hk
        cases hm : misB I (i + k) with
        | false => rfl
        | true => rw [misB_iff] at hm; omega
      rw [this, Nat.add_zero]
    rw [e]
    exact k
  | succ m ih =>
    intro i hi
    have hc := fb_ct_le (fun j => misB I j && (decide (x = -1) || decide (I 3 j = x))) i
    have h4 := (hT.2.2.2.1 i (by omega) (by simp only [Nat.reduceAdd]; omega)).1.1
    simp only [Nat.reduceAdd] at h4
    have hs := hS.2 i (by omega)
    have hmi : misB I i = true ↔ ¬ I' 114 i = 1 := by
      rw [misB_iff, hs.2]
      constructor
      · exact fun q => q.2
      · exact fun q => ⟨by omega, q⟩
    have yes : misB I i = true → (x = -1 ∨ I 3 i = x) → Tri G h 256 119 119 63 [some (vr 91), some (vi x), some (vi (w32 (((fb_ct (fun j => misB I j && (decide (x = -1) || decide (I 3 j = x))) i : Nat) : Int) + 1))), some (vi (w32 ((i : Int) + 1)))] [] (I', J, PP b) (cIN K) := by
      intro q1 q2
      rw [w32_id (by omega) (by omega), w32_id (by omega) (by omega)]
      have := ih (i + 1) (by omega)
      rw [fb_ct_succ, if_pos (by simp [q1, q2])] at this
      exact this
    have no : ¬ (misB I i = true ∧ (x = -1 ∨ I 3 i = x)) → Tri G h 256 119 119 63 [some (vr 91), some (vi x), some (vi (w32 (((fb_ct (fun j => misB I j && (decide (x = -1) || decide (I 3 j = x))) i : Nat) : Int) + 0))), some (vi (w32 ((i : Int) + 1)))] [] (I', J, PP b) (cIN K) := by
      intro q1
      rw [Int.add_zero, w32_id (by omega) (by omega), w32_id (by omega) (by omega)]
      have := ih (i + 1) (by omega)
      rw [fb_ct_succ, if_neg (by rw [Bool.and_eq_true, Bool.or_eq_true, decide_eq_true_eq, decide_eq_true_eq]; exact q1), Nat.add_zero] at this
      exact this
    refine x256_63 hh ⟨fun q => by rw [f92] at q; omega, fun q => ⟨by omega, fun q1 => ?_, fun q1 => ⟨fun q2 => ?_, fun q2 => ⟨by omega, fun q3 => ?_, fun q3 => ?_⟩⟩⟩⟩
    · rw [toN] at q1
      exact no fun q2 => hmi.1 q2.1 (by omega)
    · rw [toN] at q1
      exact yes (hmi.2 (by omega)) (Or.inl q2)
    · rw [f92, h4, toN] at q3
      exact no fun q4 => q4.2.elim q2 q3
    · rw [toN] at q1
      rw [f92, h4, toN] at q3
      exact yes (hmi.2 (by omega)) (Or.inr (by omega))
theorem s256_2 {Q : MP} (hh : 2 ≤ h) (hT : rTown 0 92 I) (hB : rBook 0 92 I) (k : ∀ I', seenR I I' → Tri G h 256 119 119 63 [some (vr 91), some (vi x), some (vi 0), some (vi 0)] [] (I', J, PP b) Q) : ∀ (m i : Nat) (I' : MI), (i : Int) + m = I 7 0 → frK [114] I I' → (∀ j : Nat, j < 60 → (I' 114 j = 0 ∨ I' 114 j = 1) ∧ (I' 114 j = 1 ↔ sn I i j)) → Tri G h 256 119 119 23 [some (vr 91), some (vi x), some (vi i)] [] (I', J, PP b) Q := by
  have b1 := hB.1
  have t1 := hT.1
  simp only [Nat.reduceAdd] at b1 t1
  intro m
  induction m with
  | zero =>
    intro i I' hi hf ha
    have f92 := hf 92 (by decide)
    refine x256_23 hh ⟨fun q => k I' ⟨hf, ?_⟩, fun q => by rw [f92] at q; omega⟩
    rw [show i = (I 7 0).toNat by omega] at ha
    exact ha
  | succ m ih =>
    intro i I' hi hf ha
    have f92 := hf 92 (by decide)
    have f7 := hf 7 (by decide)
    have hen := hB.2.2.2 i (by omega) (by simp only [Nat.reduceAdd]; omega)
    have hf2 := hen.2.1.2.2.1
    have hf3 := hen.1.2.2.1
    simp only [Nat.reduceAdd] at hf2 hf3
    have hB' : rBook 0 92 I' := hB.fr (by rw [hf 2 (by decide)]; exact Int.le_refl _) f7 (hf 8 (by decide)) (hf 9 (by decide)) (hf 10 (by decide)) (hf 11 (by decide)) (hf 12 (by decide)) (fun j _ => by rw [f92])
    have ek : knB I' = knB I := knB_c f7 (hf 9 (by decide)) (hf 10 (by decide))
    refine x256_23 hh ⟨fun q => by rw [f92] at q; omega, fun q => ⟨⟨hB', by omega, by rw [f7]; omega⟩, fun q2 => ⟨by omega, by rw [f92]; omega, ?_⟩, fun q2 => ?_⟩⟩
    · rw [toN, ek] at q2
      rw [w32_id (by omega) (by omega), f92, hf3]
      refine ih (i + 1) _ (by omega) (hf.u (by decide)) (fun j hj => ?_)
      have e3 : fact I i 2 = I 8 ((i : Int) * 6 + 2).toNat := rfl
      rw [sn_s, e3]
      by_cases hj2 : j = (I 8 ((i : Int) * 6 + 2).toNat).toNat
      · subst hj2
        rw [u2e]
        refine ⟨Or.inr rfl, fun _ => Or.inr ⟨q2, by omega⟩, fun _ => rfl⟩
      · rw [u2j hj2]
        refine ⟨(ha j hj).1, fun q3 => Or.inl ((ha j hj).2.1 q3), ?_⟩
        rintro (q3 | q3)
        · exact (ha j hj).2.2 q3
        · omega
    · rw [toN, ek] at q2
      rw [w32_id (by omega) (by omega)]
      refine ih (i + 1) _ (by omega) hf (fun j hj => ?_)
      rw [sn_s]
      refine ⟨(ha j hj).1, fun q3 => Or.inl ((ha j hj).2.1 q3), ?_⟩
      rintro (q3 | q3)
      · exact (ha j hj).2.2 q3
      · exact absurd q3.1 q2
theorem s256_1 {Q : MP} (k : ∀ I', frK [114] I I' → (∀ j : Nat, j < 60 → I' 114 j = 0) → Tri G h 256 119 119 23 [some (vr 91), some (vi x), some (vi 0)] [] (I', J, PP b) Q) : ∀ (m i : Nat) (I' : MI), i + m = 60 → frK [114] I I' → (∀ j : Nat, j < i → I' 114 j = 0) → Tri G h 256 119 119 2 [some (vr 91), some (vi x), some (vi i)] [] (I', J, PP b) Q := by
  intro m
  induction m with
  | zero =>
    intro i I' hi hf ha
    exact x256_2 (Nat.zero_le _) ⟨fun q => k I' hf fun j hj => ha j (by omega), fun q => by omega⟩
  | succ m ih =>
    intro i I' hi hf ha
    refine x256_2 (Nat.zero_le _) ⟨fun q => by omega, fun q => ⟨by omega, ?_⟩⟩
    rw [w32_id (by omega) (by omega), toN]
    refine ih (i + 1) _ (by omega) (hf.u (by decide)) (fun j hj => ?_)
    by_cases hj2 : j = i
    · subst hj2; exact u2e
    · rw [u2j hj2]; exact ha j (by omega)
theorem s256 {K : Int → MI → MJ → B3 → Prop} (hh : 3 ≤ h) (hT : rTown 0 92 I) (hB : rBook 0 92 I) (hx : x = -1 ∨ 0 ≤ x) (k : ∀ I', seenR I I' → K (misN I x) I' J b) : TriM G h 256 119 119 [vr 91, vi x] (I, J, PP b) (cIN K) := by
  have b1 := hB.1
  have t1 := hT.1
  simp only [Nat.reduceAdd] at b1 t1
  refine x256_m hh (fun h hh => x256 (Nat.zero_le _) (s256_1 (fun I' hf hz => ?_) 60 0 I rfl frK.r fun j hj => by omega))
  have hT' : rTown 0 92 I' := hT.fr (hf 2 (by decide)) (hf 3 (by decide)) (hf 4 (by decide)) (hf 5 (by decide)) (hf 6 (by decide)) (fun j _ => by rw [hf 92 (by decide)])
  have hB' : rBook 0 92 I' := hB.fr (by rw [hf 2 (by decide)]; exact Int.le_refl _) (hf 7 (by decide)) (hf 8 (by decide)) (hf 9 (by decide)) (hf 10 (by decide)) (hf 11 (by decide)) (hf 12 (by decide)) (fun j _ => by rw [hf 92 (by decide)])
  refine s256_2 hh hT hB (fun I2 hs => s256_3 (by omega) hT hs hx (k I2 hs) (I 2 0).toNat 0 (by omega)) (I 7 0).toNat 0 I' (by omega) hf (fun j hj => ⟨Or.inl (hz j hj), ?_⟩)
  rw [hz j hj]
  constructor
  · intro q; exact absurd q (by decide)
  · rintro ⟨e, e1, -⟩; omega
end KNOW
