/-! counters' books -/
def byE (I : MI) (c k : Int) (e : Nat) : Bool := decide (fact I e 1 = c) && (decide (fact I e 0 = k) && knB I e)
theorem byE_iff {I : MI} {c k : Int} {e : Nat} : byE I c k e = true ↔ fact I e 1 = c ∧ fact I e 0 = k ∧ knB I e = true := by
  unfold byE
  rw [Bool.and_eq_true, Bool.and_eq_true, decide_eq_true_eq, decide_eq_true_eq]
def ordE (I : MI) (e : Nat) : Int := (fact I e 3 * 1440 + fact I e 4) * 120 + e
def qkE (I : MI) (a c : Nat) : Bool := decide (fact I a 3 = fact I c 3) && (!decide (fact I a 2 = fact I c 2) && decide (fact I c 4 - fact I a 4 < minF I (fact I a 2) (fact I c 2)))
def ghE (p2 : List Lin) (I : MI) (e : Nat) : Bool := !homeB p2 I (fact I e 2) (fact I e 3) (fact I e 4)
/-- the entry just ahead in a counter's book -/
def jaP (I : MI) (c k : Int) (m : Nat) (w : Int) (a : Nat) : Prop := a < m ∧ byE I c k a = true ∧ ordE I a < w ∧ ∀ o : Nat, o < m → byE I c k o = true → ordE I o < w → ordE I o ≤ ordE I a
noncomputable def qkP (I : MI) (c k : Int) (e : Nat) : Bool := @decide (∃ a, jaP I c k (I 7 0).toNat (ordE I e) a ∧ qkE I a e = true) (Classical.propDecidable _)
theorem qkP_iff {I : MI} {c k : Int} {e : Nat} : qkP I c k e = true ↔ ∃ a, jaP I c k (I 7 0).toNat (ordE I e) a ∧ qkE I a e = true := by
  unfold qkP
  exact @decide_eq_true_iff _ (Classical.propDecidable _)
/-- facts of an entry, by numbers -/
theorem ent_f {I : MI} (hB : rBook 0 92 I) {e : Nat} (he : (e : Int) < I 7 0) : (I 92 (450 + 17 * (e : Int) + 0).toNat = fact I e 0 ∧ I 92 (450 + 17 * (e : Int) + 1).toNat = fact I e 1 ∧ I 92 (450 + 17 * (e : Int) + 2).toNat = fact I e 2 ∧ I 92 (450 + 17 * (e : Int) + 3).toNat = fact I e 3 ∧ I 92 (450 + 17 * (e : Int) + 4).toNat = fact I e 4 ∧ I 92 (450 + 17 * (e : Int) + 5).toNat = fact I e 5) ∧ (0 ≤ fact I e 0 ∧ fact I e 0 < 2) ∧ (0 ≤ fact I e 1 ∧ fact I e 1 < 11) ∧ (0 ≤ fact I e 2 ∧ fact I e 2 < I 2 0) ∧ (0 ≤ fact I e 3 ∧ fact I e 3 < 100) ∧ (0 ≤ fact I e 4 ∧ fact I e 4 < 1440) ∧ 0 ≤ fact I e 5 ∧ fact I e 5 < 120 := by
  obtain ⟨⟨c0, c1, c2, c3, c4, c5⟩, ⟨d0, d1, d2, d3, d4, d5⟩, -⟩ := hB.2.2.2 e (by omega) (by simp only [Nat.reduceAdd]; exact he)
  simp only [Nat.reduceAdd] at c0 c1 c2 c3 c4 c5 d0 d1 d2 d3 d4 d5
  unfold fact
  rw [Int.add_zero, Int.add_zero]
  exact ⟨⟨c0, c1, c2, c3, c4, c5⟩, d0, d1, d2, d3, d4, d5⟩
theorem ord_in {I : MI} (hB : rBook 0 92 I) {e : Nat} (he : (e : Int) < I 7 0) : 0 ≤ ordE I e ∧ ordE I e < 20000000 := by
  have h := (ent_f hB he).2
  have b1 := hB.1
  simp only [Nat.reduceAdd] at b1
  unfold ordE
  omega
theorem ord_inj {I : MI} (hB : rBook 0 92 I) {e f : Nat} (he : (e : Int) < I 7 0) (hf : (f : Int) < I 7 0) (h : ordE I e = ordE I f) : e = f := by
  have h1 := (ent_f hB he).2
  have h2 := (ent_f hB hf).2
  have b1 := hB.1
  simp only [Nat.reduceAdd] at b1
  unfold ordE at h
  omega
section BOOKS
variable {G : Ctx} {h n : Nat} {I : MI} {J : MJ} {b : B3} {x y z u v e : Int} {a : BitVec 64}
theorem sb33 {K : Int → MS → Prop} {c k : Int} (hh : 3 ≤ h) (g : rBook 0 92 I ∧ 0 ≤ e ∧ e < I 7 0) (k1 : byE I c k e.toNat = true → K 1 (I, J, PP b)) (k0 : ¬ (byE I c k e.toNat = true) → K 0 (I, J, PP b)) : TriM G h 33 119 119 [vr 82, vi e, vi c, vi k] (I, J, PP b) (cI' K) := by
  have b1 := g.1.1
  simp only [Nat.reduceAdd] at b1
  have e0 : ((e.toNat : Nat) : Int) = e := by omega
  rw [byE_iff] at k1 k0
  unfold fact at k1 k0
  rw [e0] at k1 k0
  refine x33_m hh (fun h hh => x33 hh ?_)
  refine ⟨by omega, fun q => cI_r (k0 fun z => q z.1), fun q => ⟨by omega, fun q2 => cI_r (k0 fun z => q2 z.2.1), fun q2 => ⟨g, fun q3 => cI_r (k1 ⟨by omega, by omega, q3⟩), fun q3 => cI_r (k0 fun z => q3 z.2.2)⟩⟩⟩

set_option maxRecDepth 100000 in
theorem x34 {G : Ctx} {h : Nat} {Q : MP} {I : Nat → Nat → Int} {J : Nat → Nat → BitVec 64} {b : B3} {x y : Int} (hh : 0 ≤ h) (H : Tri G h 34 119 119 5 [some (vr 82), some (vi x), some (vi y), some (vi 0), some (vi 0)] [] (I, J, PP b) Q) : Tri G h 34 119 119 0 [some (vr 82), some (vi x), some (vi y)] [] (I, J, PP b) Q := wp_at ck34 [(5, [true, true, true, true, true])] 400 H
set_option maxRecDepth 100000 in
theorem x34_5 {G : Ctx} {h : Nat} {Q : MP} {I : Nat → Nat → Int} {J : Nat → Nat → BitVec 64} {b : B3} {l1 l2 l3 l4 : Int} (hh : 3 ≤ h) (H : (((I 7 0) ≤ l4) → (Q (some (vi l3)) (I, J, PP b))) ∧ (¬ ((I 7 0) ≤ l4) → ((rBook 0 92 I ∧ 0 ≤ l4 ∧ l4 < I 7 0) ∧ (((byE I l1 l2 l4.toNat = true) → (Tri G h 34 119 119 5 [some (vr 82), some (vi l1), some (vi l2), some (vi (w32 (l3 + 1))), some (vi (w32 (l4 + 1)))] [] (I, J, PP b) Q)) ∧ (¬ (byE I l1 l2 l4.toNat = true) → (Tri G h 34 119 119 5 [some (vr 82), some (vi l1), some (vi l2), some (vi l3), some (vi (w32 (l4 + 1)))] [] (I, J, PP b) Q)))))) : Tri G h 34 119 119 5 [some (vr 82), some (vi l1), some (vi l2), some (vi l3), some (vi l4)] [] (I, J, PP b) Q := wp_at ck34 [(5, [true, true, true, true, true])] 400 (And.intro (fun q740 => H.1 q740) (fun q741 => sb33 (by omega) (H.2 q741).1 (fun q742 => And.intro (fun z => absurd z (show ¬ ((1 : Int) = (0 : Int)) by decide)) (fun _ => ((H.2 q741).2).1 q742)) (fun q743 => And.intro (fun _ => ((H.2 q741).2).2 q743) (fun z => absurd (show (0 : Int) = (0 : Int) by decide) z))))
theorem x34_m {G : Ctx} {h : Nat} {Q : MP} {I : Nat → Nat → Int} {J : Nat → Nat → BitVec 64} {b : B3} {x y : Int} (hh : 4 ≤ h) (H : ∀ h, 3 ≤ h → Tri G h 34 119 119 0 [some (vr 82), some (vi x), some (vi y)] [] (I, J, PP b) Q) : TriM G h 34 119 119 [vr 82, vi x, vi y] (I, J, PP b) Q := TriM_intro (h - 1) (by omega) (by decide) (Nat.le_of_ble_eq_true rfl) (Nat.le_refl _) (Nat.le_refl _) (H (h - 1) (by omega))
set_option maxRecDepth 100000 in
theorem x35 {G : Ctx} {h : Nat} {Q : MP} {I : Nat → Nat → Int} {J : Nat → Nat → BitVec 64} {b : B3} {x : Int} (hh : 0 ≤ h) (H : Tri G h 35 119 119 13 [some (vr 82), some (vi x), some (vr 7), some (vi 0), some (vi 0)] [] (I, J, PP b) Q) : Tri G h 35 119 119 0 [some (vr 82), some (vi x)] [] (I, J, PP b) Q := wp_at ck35 [(13, [true, true, true, true, true])] 400 H
set_option maxRecDepth 100000 in
theorem x35_13 {G : Ctx} {h : Nat} {Q : MP} {I : Nat → Nat → Int} {J : Nat → Nat → BitVec 64} {b : B3} {l1 l3 l4 : Int} (hh : 4 ≤ h) (H : (((I 7 0) ≤ l4) → (Q (some (vi l3)) (I, J, PP b))) ∧ (¬ ((I 7 0) ≤ l4) → ((rBook 0 92 I ∧ 0 ≤ l4 ∧ l4 < I 7 0) ∧ (((byE I l1 (0 : Int) l4.toNat = true) → ((0 ≤ l4 ∧ l4 < (I 7 0) ∧ (I 7 0) ≤ 120 ∧ 0 ≤ (2 : Int) ∧ (2 : Int) < 6) ∧ ((0 ≤ l4 ∧ l4 < (I 7 0) ∧ (I 7 0) ≤ 120 ∧ 0 ≤ (3 : Int) ∧ (3 : Int) < 6) ∧ ((0 ≤ l4 ∧ l4 < (I 7 0) ∧ (I 7 0) ≤ 120 ∧ 0 ≤ (4 : Int) ∧ (4 : Int) < 6) ∧ (TriM G h 132 119 119 [vr 1, vi (I 8 ((l4 * 6 + (2 : Int)).toNat)), vi (I 8 ((l4 * 6 + (3 : Int)).toNat)), vi (I 8 ((l4 * 6 + (4 : Int)).toNat))] (I, J, PP b) (cIN fun r1 I1 J1 b1 => (((¬ r1 = 0) → (Tri G h 35 119 119 13 [some (vr 82), some (vi l1), some (vr 7), some (vi l3), some (vi (w32 (l4 + 1)))] [] (I1, J1, PP b1) Q)) ∧ (¬ (¬ r1 = 0) → (Tri G h 35 119 119 13 [some (vr 82), some (vi l1), some (vr 7), some (vi (w32 (l3 + 1))), some (vi (w32 (l4 + 1)))] [] (I1, J1, PP b1) Q))))))))) ∧ (¬ (byE I l1 (0 : Int) l4.toNat = true) → (Tri G h 35 119 119 13 [some (vr 82), some (vi l1), some (vr 7), some (vi l3), some (vi (w32 (l4 + 1)))] [] (I, J, PP b) Q)))))) : Tri G h 35 119 119 13 [some (vr 82), some (vi l1), some (vr 7), some (vi l3), some (vi l4)] [] (I, J, PP b) Q := wp_at ck35 [(13, [true, true, true, true, true])] 400 (And.intro (fun q744 => H.1 q744) (fun q745 => sb33 (by omega) (H.2 q745).1 (fun q746 => And.intro (fun z => absurd z (show ¬ ((1 : Int) = (0 : Int)) by decide)) (fun _ => sx29 (by omega) (((H.2 q745).2).1 q746).1 (sx29 (by omega) ((((H.2 q745).2).1 q746).2).1 (sx29 (by omega) (((((H.2 q745).2).1 q746).2).2).1 (cIN_go ((((((H.2 q745).2).1 q746).2).2).2) (fun r1 I1 J1 b1 q748 => q748)))))) (fun q747 => And.intro (fun _ => ((H.2 q745).2).2 q747) (fun z => absurd (show (0 : Int) = (0 : Int) by decide) z))))
theorem x35_m {G : Ctx} {h : Nat} {Q : MP} {I : Nat → Nat → Int} {J : Nat → Nat → BitVec 64} {b : B3} {x : Int} (hh : 5 ≤ h) (H : ∀ h, 4 ≤ h → Tri G h 35 119 119 0 [some (vr 82), some (vi x)] [] (I, J, PP b) Q) : TriM G h 35 119 119 [vr 82, vi x] (I, J, PP b) Q := TriM_intro (h - 1) (by omega) (by decide) (Nat.le_of_ble_eq_true rfl) (Nat.le_refl _) (Nat.le_refl _) (H (h - 1) (by omega))
set_option maxRecDepth 100000 in
theorem x37 {G : Ctx} {h : Nat} {Q : MP} {I : Nat → Nat → Int} {J : Nat → Nat → BitVec 64} {b : B3} {x : Int} (hh : 2 ≤ h) (H : (0 ≤ x ∧ x < (I 7 0) ∧ (I 7 0) ≤ 120 ∧ 0 ≤ (3 : Int) ∧ (3 : Int) < 6) ∧ ((0 ≤ x ∧ x < (I 7 0) ∧ (I 7 0) ≤ 120 ∧ 0 ≤ (4 : Int) ∧ (4 : Int) < 6) ∧ (Q (some (vi (w32 ((w32 ((w32 ((w32 ((I 8 ((x * 6 + (3 : Int)).toNat)) * 1440)) + (I 8 ((x * 6 + (4 : Int)).toNat)))) * 120)) + x)))) (I, J, PP b)))) : Tri G h 37 119 119 0 [some (vr 82), some (vi x)] [] (I, J, PP b) Q := wp_at ck37 [] 400 (sx29 (by omega) H.1 (sx29 (by omega) H.2.1 H.2.2))
theorem x37_m {G : Ctx} {h : Nat} {Q : MP} {I : Nat → Nat → Int} {J : Nat → Nat → BitVec 64} {b : B3} {x : Int} (hh : 3 ≤ h) (H : ∀ h, 2 ≤ h → Tri G h 37 119 119 0 [some (vr 82), some (vi x)] [] (I, J, PP b) Q) : TriM G h 37 119 119 [vr 82, vi x] (I, J, PP b) Q := TriM_intro (h - 1) (by omega) (by decide) (Nat.le_of_ble_eq_true rfl) (Nat.le_refl _) (Nat.le_refl _) (H (h - 1) (by omega))
set_option maxRecDepth 100000 in
theorem x38 {G : Ctx} {h : Nat} {Q : MP} {I : Nat → Nat → Int} {J : Nat → Nat → BitVec 64} {b : B3} {x y z : Int} (hh : 3 ≤ h) (H : TriM G h 37 119 119 [vr 82, vi x] (I, J, PP b) (cIN fun r1 I1 J1 b1 => (Tri G h 38 119 119 16 [some (vr 82), none, some (vi y), some (vi z), some (vi (-1)), some (vi (-1)), some (vi r1), some (vi 0)] [] (I1, J1, PP b1) Q))) : Tri G h 38 119 119 0 [some (vr 82), some (vi x), some (vi y), some (vi z)] [] (I, J, PP b) Q := wp_at ck38 [(16, [true, false, true, true, true, true, true, true])] 400 (cIN_go H (fun r1 I1 J1 b1 q749 => q749))
set_option maxRecDepth 100000 in
theorem x38_16 {G : Ctx} {h : Nat} {Q : MP} {I : Nat → Nat → Int} {J : Nat → Nat → BitVec 64} {b : B3} {l2 l3 l4 l5 l6 l7 : Int} (hh : 3 ≤ h) (H : (((I 7 0) ≤ l7) → (Q (some (vi l4)) (I, J, PP b))) ∧ (¬ ((I 7 0) ≤ l7) → (TriM G h 37 119 119 [vr 82, vi l7] (I, J, PP b) (cIN fun r1 I1 J1 b1 => (((l6 ≤ r1) → (Tri G h 38 119 119 16 [some (vr 82), none, some (vi l2), some (vi l3), some (vi l4), some (vi l5), some (vi l6), some (vi (w32 (l7 + 1)))] [] (I1, J1, PP b1) Q)) ∧ (¬ (l6 ≤ r1) → (((r1 ≤ l5) → (Tri G h 38 119 119 16 [some (vr 82), none, some (vi l2), some (vi l3), some (vi l4), some (vi l5), some (vi l6), some (vi (w32 (l7 + 1)))] [] (I1, J1, PP b1) Q)) ∧ (¬ (r1 ≤ l5) → ((rBook 0 92 I1 ∧ 0 ≤ l7 ∧ l7 < I1 7 0) ∧ (((byE I1 l2 l3 l7.toNat = true) → (Tri G h 38 119 119 16 [some (vr 82), none, some (vi l2), some (vi l3), some (vi l7), some (vi r1), some (vi l6), some (vi (w32 (l7 + 1)))] [] (I1, J1, PP b1) Q)) ∧ (¬ (byE I1 l2 l3 l7.toNat = true) → (Tri G h 38 119 119 16 [some (vr 82), none, some (vi l2), some (vi l3), some (vi l4), some (vi l5), some (vi l6), some (vi (w32 (l7 + 1)))] [] (I1, J1, PP b1) Q)))))))))))) : Tri G h 38 119 119 16 [some (vr 82), none, some (vi l2), some (vi l3), some (vi l4), some (vi l5), some (vi l6), some (vi l7)] [] (I, J, PP b) Q := wp_at ck38 [(16, [true, false, true, true, true, true, true, true])] 400 (And.intro (fun q750 => H.1 q750) (fun q751 => cIN_go (H.2 q751) (fun r1 I1 J1 b1 q752 => And.intro (fun q753 => q752.1 q753) (fun q754 => And.intro (fun q755 => (q752.2 q754).1 q755) (fun q756 => sb33 (by omega) ((q752.2 q754).2 q756).1 (fun q757 => And.intro (fun z => absurd z (show ¬ ((1 : Int) = (0 : Int)) by decide)) (fun _ => (((q752.2 q754).2 q756).2).1 q757)) (fun q758 => And.intro (fun _ => (((q752.2 q754).2 q756).2).2 q758) (fun z => absurd (show (0 : Int) = (0 : Int) by decide) z)))))))
theorem x38_m {G : Ctx} {h : Nat} {Q : MP} {I : Nat → Nat → Int} {J : Nat → Nat → BitVec 64} {b : B3} {x y z : Int} (hh : 4 ≤ h) (H : ∀ h, 3 ≤ h → Tri G h 38 119 119 0 [some (vr 82), some (vi x), some (vi y), some (vi z)] [] (I, J, PP b) Q) : TriM G h 38 119 119 [vr 82, vi x, vi y, vi z] (I, J, PP b) Q := TriM_intro (h - 1) (by omega) (by decide) (Nat.le_of_ble_eq_true rfl) (Nat.le_refl _) (Nat.le_refl _) (H (h - 1) (by omega))
set_option maxRecDepth 100000 in
theorem x39 {G : Ctx} {h : Nat} {Q : MP} {I : Nat → Nat → Int} {J : Nat → Nat → BitVec 64} {b : B3} {x y : Int} (hh : 3 ≤ h) (H : (0 ≤ x ∧ x < (I 7 0) ∧ (I 7 0) ≤ 120 ∧ 0 ≤ (2 : Int) ∧ (2 : Int) < 6) ∧ ((0 ≤ y ∧ y < (I 7 0) ∧ (I 7 0) ≤ 120 ∧ 0 ≤ (2 : Int) ∧ (2 : Int) < 6) ∧ ((((I 8 ((x * 6 + (2 : Int)).toNat)) = (I 8 ((y * 6 + (2 : Int)).toNat))) → (Q (some (vi 0)) (I, J, PP b))) ∧ (¬ ((I 8 ((x * 6 + (2 : Int)).toNat)) = (I 8 ((y * 6 + (2 : Int)).toNat))) → ((0 ≤ x ∧ x < (I 7 0) ∧ (I 7 0) ≤ 120 ∧ 0 ≤ (3 : Int) ∧ (3 : Int) < 6) ∧ ((0 ≤ y ∧ y < (I 7 0) ∧ (I 7 0) ≤ 120 ∧ 0 ≤ (3 : Int) ∧ (3 : Int) < 6) ∧ ((((I 8 ((x * 6 + (3 : Int)).toNat)) = (I 8 ((y * 6 + (3 : Int)).toNat))) → ((0 ≤ y ∧ y < (I 7 0) ∧ (I 7 0) ≤ 120 ∧ 0 ≤ (4 : Int) ∧ (4 : Int) < 6) ∧ ((0 ≤ x ∧ x < (I 7 0) ∧ (I 7 0) ≤ 120 ∧ 0 ≤ (4 : Int) ∧ (4 : Int) < 6) ∧ ((rTown 0 92 I ∧ (0 ≤ (I 8 ((x * 6 + (2 : Int)).toNat)) ∧ (I 8 ((x * 6 + (2 : Int)).toNat)) < I 2 0) ∧ 0 ≤ (I 8 ((y * 6 + (2 : Int)).toNat)) ∧ (I 8 ((y * 6 + (2 : Int)).toNat)) < I 2 0) ∧ ((((minF I (I 8 ((x * 6 + (2 : Int)).toNat)) (I 8 ((y * 6 + (2 : Int)).toNat))) ≤ (w32 ((I 8 ((y * 6 + (4 : Int)).toNat)) - (I 8 ((x * 6 + (4 : Int)).toNat))))) → (Q (some (vi 0)) (I, J, PP b))) ∧ (¬ ((minF I (I 8 ((x * 6 + (2 : Int)).toNat)) (I 8 ((y * 6 + (2 : Int)).toNat))) ≤ (w32 ((I 8 ((y * 6 + (4 : Int)).toNat)) - (I 8 ((x * 6 + (4 : Int)).toNat))))) → (Q (some (vi 1)) (I, J, PP b)))))))) ∧ (¬ ((I 8 ((x * 6 + (3 : Int)).toNat)) = (I 8 ((y * 6 + (3 : Int)).toNat))) → (Q (some (vi 0)) (I, J, PP b)))))))))) : Tri G h 39 119 119 0 [some (vr 82), some (vi x), some (vi y)] [] (I, J, PP b) Q := wp_at ck39 [] 400 (sx29 (by omega) H.1 (sx29 (by omega) H.2.1 (And.intro (fun q759 => And.intro (show (0 : Int) = 0 ∨ (0 : Int) = 1 by decide) (H.2.2.1 q759)) (fun q760 => sx29 (by omega) (H.2.2.2 q760).1 (sx29 (by omega) ((H.2.2.2 q760).2).1 (And.intro (fun q761 => sx29 (by omega) ((((H.2.2.2 q760).2).2).1 q761).1 (sx29 (by omega) (((((H.2.2.2 q760).2).2).1 q761).2).1 (sx126 (by omega) ((((((H.2.2.2 q760).2).2).1 q761).2).2).1 (And.intro (fun q763 => And.intro (show (0 : Int) = 0 ∨ (0 : Int) = 1 by decide) ((((((((H.2.2.2 q760).2).2).1 q761).2).2).2).1 q763)) (fun q764 => And.intro (show (1 : Int) = 0 ∨ (1 : Int) = 1 by decide) ((((((((H.2.2.2 q760).2).2).1 q761).2).2).2).2 q764)))))) (fun q762 => And.intro (show (0 : Int) = 0 ∨ (0 : Int) = 1 by decide) ((((H.2.2.2 q760).2).2).2 q762))))))))
theorem x39_m {G : Ctx} {h : Nat} {Q : MP} {I : Nat → Nat → Int} {J : Nat → Nat → BitVec 64} {b : B3} {x y : Int} (hh : 4 ≤ h) (H : ∀ h, 3 ≤ h → Tri G h 39 119 119 0 [some (vr 82), some (vi x), some (vi y)] [] (I, J, PP b) Q) : TriM G h 39 119 119 [vr 82, vi x, vi y] (I, J, PP b) Q := TriM_intro (h - 1) (by omega) (by decide) (Nat.le_of_ble_eq_true rfl) (Nat.le_refl _) (Nat.le_refl _) (H (h - 1) (by omega))
set_option maxRecDepth 100000 in
theorem x36 {G : Ctx} {h : Nat} {Q : MP} {I : Nat → Nat → Int} {J : Nat → Nat → BitVec 64} {b : B3} {x y : Int} (hh : 0 ≤ h) (H : Tri G h 36 119 119 5 [some (vr 82), some (vi x), some (vi y), some (vi 0), some (vi 0)] [] (I, J, PP b) Q) : Tri G h 36 119 119 0 [some (vr 82), some (vi x), some (vi y)] [] (I, J, PP b) Q := wp_at ck36 [(5, [true, true, true, true, true])] 400 H
set_option maxRecDepth 100000 in
theorem x36_5 {G : Ctx} {h : Nat} {Q : MP} {I : Nat → Nat → Int} {J : Nat → Nat → BitVec 64} {b : B3} {l1 l2 l3 l4 : Int} (hh : 5 ≤ h) (H : (((I 7 0) ≤ l4) → (Q (some (vi l3)) (I, J, PP b))) ∧ (¬ ((I 7 0) ≤ l4) → ((rBook 0 92 I ∧ 0 ≤ l4 ∧ l4 < I 7 0) ∧ (((byE I l1 l2 l4.toNat = true) → (TriM G h 38 119 119 [vr 82, vi l4, vi l1, vi l2] (I, J, PP b) (cIN fun r1 I1 J1 b1 => (((r1 = (-1)) → (Tri G h 36 119 119 5 [some (vr 82), some (vi l1), some (vi l2), some (vi l3), some (vi (w32 (l4 + 1)))] [] (I1, J1, PP b1) Q)) ∧ (¬ (r1 = (-1)) → (TriM G h 39 119 119 [vr 82, vi r1, vi l4] (I1, J1, PP b1) (cIN fun r2 I2 J2 b2 => (((r2 = 0) → (Tri G h 36 119 119 5 [some (vr 82), some (vi l1), some (vi l2), some (vi l3), some (vi (w32 (l4 + 1)))] [] (I2, J2, PP b2) Q)) ∧ (¬ (r2 = 0) → (Tri G h 36 119 119 5 [some (vr 82), some (vi l1), some (vi l2), some (vi (w32 (l3 + 1))), some (vi (w32 (l4 + 1)))] [] (I2, J2, PP b2) Q)))))))))) ∧ (¬ (byE I l1 l2 l4.toNat = true) → (Tri G h 36 119 119 5 [some (vr 82), some (vi l1), some (vi l2), some (vi l3), some (vi (w32 (l4 + 1)))] [] (I, J, PP b) Q)))))) : Tri G h 36 119 119 5 [some (vr 82), some (vi l1), some (vi l2), some (vi l3), some (vi l4)] [] (I, J, PP b) Q := wp_at ck36 [(5, [true, true, true, true, true])] 400 (And.intro (fun q765 => H.1 q765) (fun q766 => sb33 (by omega) (H.2 q766).1 (fun q767 => And.intro (fun z => absurd z (show ¬ ((1 : Int) = (0 : Int)) by decide)) (fun _ => cIN_go (((H.2 q766).2).1 q767) (fun r1 I1 J1 b1 q769 => And.intro (fun q770 => q769.1 q770) (fun q771 => cIN_go (q769.2 q771) (fun r2 I2 J2 b2 q772 => q772))))) (fun q768 => And.intro (fun _ => ((H.2 q766).2).2 q768) (fun z => absurd (show (0 : Int) = (0 : Int) by decide) z))))
theorem x36_m {G : Ctx} {h : Nat} {Q : MP} {I : Nat → Nat → Int} {J : Nat → Nat → BitVec 64} {b : B3} {x y : Int} (hh : 6 ≤ h) (H : ∀ h, 5 ≤ h → Tri G h 36 119 119 0 [some (vr 82), some (vi x), some (vi y)] [] (I, J, PP b) Q) : TriM G h 36 119 119 [vr 82, vi x, vi y] (I, J, PP b) Q := TriM_intro (h - 1) (by omega) (by decide) (Nat.le_of_ble_eq_true rfl) (Nat.le_refl _) (Nat.le_refl _) (H (h - 1) (by omega))
set_option maxRecDepth 100000 in
theorem x40 {G : Ctx} {h : Nat} {Q : MP} {I : Nat → Nat → Int} {J : Nat → Nat → BitVec 64} {b : B3} {x : Int} (hh : 1 ≤ h) (H : Tri G h 40 119 119 12 [some (vr 82), some (vi x), some (vi 0), some (vi 0)] [] (u1 I 83 (fun j => if j < 10 then 0 else I 83 j), J, PP b) Q) : Tri G h 40 119 119 0 [some (vr 82), some (vi x)] [] (I, J, PP b) Q := wp_at ck40 [(12, [true, true, true, true])] 400 (sx0_r83 (by omega)  H)
set_option maxRecDepth 100000 in
theorem x40_12 {G : Ctx} {h : Nat} {Q : MP} {I : Nat → Nat → Int} {J : Nat → Nat → BitVec 64} {b : B3} {l1 l2 l3 : Int} (hh : 3 ≤ h) (H : (((I 7 0) ≤ l3) → (Q (some (vi l2)) (I, J, PP b))) ∧ (¬ ((I 7 0) ≤ l3) → (((15 ≤ l2) → (Q (some (vi l2)) (I, J, PP b))) ∧ (¬ (15 ≤ l2) → ((rBook 0 92 I ∧ 0 ≤ l3 ∧ l3 < I 7 0) ∧ (((byE I l1 (0 : Int) l3.toNat = true) → ((0 ≤ l3 ∧ l3 < (I 7 0) ∧ (I 7 0) ≤ 120 ∧ 0 ≤ (5 : Int) ∧ (5 : Int) < 6) ∧ (TriM G h 18 119 119 [vi (I 8 ((l3 * 6 + (5 : Int)).toNat)), vi 10] (I, J, PP b) (cIN fun r1 I1 J1 b1 => ((0 ≤ r1 ∧ r1 < (10 : Int)) ∧ ((0 ≤ r1 ∧ r1 < (10 : Int)) ∧ (Tri G h 40 119 119 12 [some (vr 82), some (vi l1), some (vi (w32 (l2 + 1))), some (vi (w32 (l3 + 1)))] [] (u2 I1 83 r1.toNat (w32 ((I1 83 r1.toNat) + 1)), J1, PP b1) Q))))))) ∧ (¬ (byE I l1 (0 : Int) l3.toNat = true) → (Tri G h 40 119 119 12 [some (vr 82), some (vi l1), some (vi l2), some (vi (w32 (l3 + 1)))] [] (I, J, PP b) Q)))))))) : Tri G h 40 119 119 12 [some (vr 82), some (vi l1), some (vi l2), some (vi l3)] [] (I, J, PP b) Q := wp_at ck40 [(12, [true, true, true, true])] 400 (And.intro (fun q773 => H.1 q773) (fun q774 => And.intro (fun q775 => (H.2 q774).1 q775) (fun q776 => sb33 (by omega) ((H.2 q774).2 q776).1 (fun q777 => And.intro (fun z => absurd z (show ¬ ((1 : Int) = (0 : Int)) by decide)) (fun _ => sx29 (by omega) ((((H.2 q774).2 q776).2).1 q777).1 (cIN_go (((((H.2 q774).2 q776).2).1 q777).2) (fun r1 I1 J1 b1 q779 => q779)))) (fun q778 => And.intro (fun _ => (((H.2 q774).2 q776).2).2 q778) (fun z => absurd (show (0 : Int) = (0 : Int) by decide) z)))))
theorem x40_m {G : Ctx} {h : Nat} {Q : MP} {I : Nat → Nat → Int} {J : Nat → Nat → BitVec 64} {b : B3} {x : Int} (hh : 4 ≤ h) (H : ∀ h, 3 ≤ h → Tri G h 40 119 119 0 [some (vr 82), some (vi x)] [] (I, J, PP b) Q) : TriM G h 40 119 119 [vr 82, vi x] (I, J, PP b) Q := TriM_intro (h - 1) (by omega) (by decide) (Nat.le_of_ble_eq_true rfl) (Nat.le_refl _) (Nat.le_refl _) (H (h - 1) (by omega))
set_option maxRecDepth 100000 in
theorem x41 {G : Ctx} {h : Nat} {Q : MP} {I : Nat → Nat → Int} {J : Nat → Nat → BitVec 64} {b : B3} (hh : 0 ≤ h) (H : Tri G h 41 119 119 4 [some (vr 82), some (vi 0), some (vi 0)] [] (I, J, PP b) Q) : Tri G h 41 119 119 0 [some (vr 82)] [] (I, J, PP b) Q := wp_at ck41 [(4, [true, true, true])] 400 H
set_option maxRecDepth 100000 in
theorem x41_4 {G : Ctx} {h : Nat} {Q : MP} {I : Nat → Nat → Int} {J : Nat → Nat → BitVec 64} {b : B3} {l1 l2 : Int} (hh : 0 ≤ h) (H : ((10 ≤ l2) → (Q (some (vi l1)) (I, J, PP b))) ∧ (¬ (10 ≤ l2) → ((0 ≤ l2 ∧ l2 < (10 : Int)) ∧ ((0 ≤ l2 ∧ l2 < (10 : Int)) ∧ (Tri G h 41 119 119 4 [some (vr 82), some (vi (w32 (l1 + (w32 ((I 83 l2.toNat) * (I 83 l2.toNat)))))), some (vi (w32 (l2 + 1)))] [] (I, J, PP b) Q))))) : Tri G h 41 119 119 4 [some (vr 82), some (vi l1), some (vi l2)] [] (I, J, PP b) Q := wp_at ck41 [(4, [true, true, true])] 400 H
theorem x41_m {G : Ctx} {h : Nat} {Q : MP} {I : Nat → Nat → Int} {J : Nat → Nat → BitVec 64} {b : B3} (hh : 1 ≤ h) (H : ∀ h, 0 ≤ h → Tri G h 41 119 119 0 [some (vr 82)] [] (I, J, PP b) Q) : TriM G h 41 119 119 [vr 82] (I, J, PP b) Q := TriM_intro (h - 1) (by omega) (by decide) (Nat.le_of_ble_eq_true rfl) (Nat.le_refl _) (Nat.le_refl _) (H (h - 1) (by omega))
set_option maxRecDepth 100000 in
theorem x42 {G : Ctx} {h : Nat} {Q : MP} {I : Nat → Nat → Int} {J : Nat → Nat → BitVec 64} {b : B3} {x : Int} (hh : 4 ≤ h) (H : TriM G h 40 119 119 [vr 82, vi x] (I, J, PP b) (cIN fun r1 I1 J1 b1 => (TriM G h 41 119 119 [vr 82] (I1, J1, PP b1) (cIN fun r2 I2 J2 b2 => (Q (some (vi r2)) (I2, J2, PP b2)))))) : Tri G h 42 119 119 0 [some (vr 82), some (vi x)] [] (I, J, PP b) Q := wp_at ck42 [] 400 (cIN_go H (fun r1 I1 J1 b1 q780 => cIN_go q780 (fun r2 I2 J2 b2 q781 => q781)))
theorem x42_m {G : Ctx} {h : Nat} {Q : MP} {I : Nat → Nat → Int} {J : Nat → Nat → BitVec 64} {b : B3} {x : Int} (hh : 5 ≤ h) (H : ∀ h, 4 ≤ h → Tri G h 42 119 119 0 [some (vr 82), some (vi x)] [] (I, J, PP b) Q) : TriM G h 42 119 119 [vr 82, vi x] (I, J, PP b) Q := TriM_intro (h - 1) (by omega) (by decide) (Nat.le_of_ble_eq_true rfl) (Nat.le_refl _) (Nat.le_refl _) (H (h - 1) (by omega))
set_option maxRecDepth 100000 in
theorem x45 {G : Ctx} {h : Nat} {Q : MP} {I : Nat → Nat → Int} {J : Nat → Nat → BitVec 64} {b : B3} (hh : 0 ≤ h) (H : Tri G h 45 119 119 6 [some (vr 82), some (vi (-1)), some (vi 0), some (vi 0)] [] (I, J, PP b) Q) : Tri G h 45 119 119 0 [some (vr 82)] [] (I, J, PP b) Q := wp_at ck45 [(6, [true, true, true, true])] 400 H
set_option maxRecDepth 100000 in
theorem x45_6 {G : Ctx} {h : Nat} {Q : MP} {I : Nat → Nat → Int} {J : Nat → Nat → BitVec 64} {b : B3} {l1 l2 l3 : Int} (hh : 6 ≤ h) (H : ((11 ≤ l3) → (Q (some (vi l1)) (I, J, PP b))) ∧ (¬ (11 ≤ l3) → (TriM G h 35 119 119 [vr 82, vi l3] (I, J, PP b) (cIN fun r1 I1 J1 b1 => (TriM G h 36 119 119 [vr 82, vi l3, vi 0] (I1, J1, PP b1) (cIN fun r2 I2 J2 b2 => ((((w32 (r1 + r2)) ≤ l2) → (Tri G h 45 119 119 6 [some (vr 82), some (vi l1), some (vi l2), some (vi (w32 (l3 + 1)))] [] (I2, J2, PP b2) Q)) ∧ (¬ ((w32 (r1 + r2)) ≤ l2) → (Tri G h 45 119 119 6 [some (vr 82), some (vi l3), some (vi (w32 (r1 + r2))), some (vi (w32 (l3 + 1)))] [] (I2, J2, PP b2) Q))))))))) : Tri G h 45 119 119 6 [some (vr 82), some (vi l1), some (vi l2), some (vi l3)] [] (I, J, PP b) Q := wp_at ck45 [(6, [true, true, true, true])] 400 (And.intro (fun q782 => H.1 q782) (fun q783 => cIN_go (H.2 q783) (fun r1 I1 J1 b1 q784 => cIN_go q784 (fun r2 I2 J2 b2 q785 => q785))))
theorem x45_m {G : Ctx} {h : Nat} {Q : MP} {I : Nat → Nat → Int} {J : Nat → Nat → BitVec 64} {b : B3} (hh : 7 ≤ h) (H : ∀ h, 6 ≤ h → Tri G h 45 119 119 0 [some (vr 82)] [] (I, J, PP b) Q) : TriM G h 45 119 119 [vr 82] (I, J, PP b) Q := TriM_intro (h - 1) (by omega) (by decide) (Nat.le_of_ble_eq_true rfl) (Nat.le_refl _) (Nat.le_refl _) (H (h - 1) (by omega))
set_option maxRecDepth 100000 in
theorem x158 {G : Ctx} {h : Nat} {Q : MP} {I : Nat → Nat → Int} {J : Nat → Nat → BitVec 64} {b : B3} {x y : Int} (hh : 6 ≤ h) (H : ((0 ≤ x ∧ x < (11 : Int)) → (((y = 0 → (TriM G h 34 119 119 [vr 82, vi x, vi y] (I, J, PP b) (cIN fun r1 I1 J1 b1 => (Q (some (vi r1)) (I1, J1, PP b1))))) ∧ (y = 1 → (TriM G h 34 119 119 [vr 82, vi x, vi y] (I, J, PP b) (cIN fun r2 I2 J2 b2 => (Q (some (vi r2)) (I2, J2, PP b2))))) ∧ (y = 2 → (TriM G h 35 119 119 [vr 82, vi x] (I, J, PP b) (cIN fun r3 I3 J3 b3 => (Q (some (vi r3)) (I3, J3, PP b3))))) ∧ (y = 3 → (TriM G h 36 119 119 [vr 82, vi x, vi (w32 (y - 3))] (I, J, PP b) (cIN fun r4 I4 J4 b4 => (Q (some (vi r4)) (I4, J4, PP b4))))) ∧ (y = 4 → (TriM G h 36 119 119 [vr 82, vi x, vi (w32 (y - 3))] (I, J, PP b) (cIN fun r5 I5 J5 b5 => (Q (some (vi r5)) (I5, J5, PP b5))))) ∧ (y = 5 → (TriM G h 42 119 119 [vr 82, vi x] (I, J, PP b) (cIN fun r6 I6 J6 b6 => (Q (some (vi r6)) (I6, J6, PP b6))))) ∧ True) ∧ ((y < 0 ∨ 5 < y) → (Q (some (vi (-1))) (I, J, PP b))))) ∧ (¬ (0 ≤ x ∧ x < (11 : Int)) → (Q (some (vi (-1))) (I, J, PP b)))) : Tri G h 158 119 119 0 [some (vr 0), some (vi x), some (vi y)] [] (I, J, PP b) Q := wp_at ck158 [] 400 (sx172 (by omega)  (fun q786 => And.intro (fun _ => And.intro (And.intro (fun q788 => cIN_go (((H.1 q786).1).1 q788) (fun r1 I1 J1 b1 q789 => q789)) (And.intro (fun q790 => cIN_go ((((H.1 q786).1).2).1 q790) (fun r2 I2 J2 b2 q791 => q791)) (And.intro (fun q792 => cIN_go (((((H.1 q786).1).2).2).1 q792) (fun r3 I3 J3 b3 q793 => q793)) (And.intro (fun q794 => cIN_go ((((((H.1 q786).1).2).2).2).1 q794) (fun r4 I4 J4 b4 q795 => q795)) (And.intro (fun q796 => cIN_go (((((((H.1 q786).1).2).2).2).2).1 q796) (fun r5 I5 J5 b5 q797 => q797)) (And.intro (fun q798 => cIN_go ((((((((H.1 q786).1).2).2).2).2).2).1 q798) (fun r6 I6 J6 b6 q799 => q799)) trivial)))))) (fun q800 => (H.1 q786).2 q800)) (fun z => absurd (show ¬ (1 : Int) = (0 : Int) by decide) z)) (fun q787 => And.intro (fun z => absurd z (show ¬ (¬ (0 : Int) = (0 : Int)) by decide)) (fun _ => H.2 q787)))
theorem x158_m {G : Ctx} {h : Nat} {Q : MP} {I : Nat → Nat → Int} {J : Nat → Nat → BitVec 64} {b : B3} {x y : Int} (hh : 7 ≤ h) (H : ∀ h, 6 ≤ h → Tri G h 158 119 119 0 [some (vr 0), some (vi x), some (vi y)] [] (I, J, PP b) Q) : TriM G h 158 119 119 [vr 0, vi x, vi y] (I, J, PP b) Q := TriM_intro (h - 1) (by omega) (by decide) (Nat.le_of_ble_eq_true rfl) (Nat.le_refl _) (Nat.le_refl _) (H (h - 1) (by omega))
set_option maxRecDepth 100000 in
theorem x160 {G : Ctx} {h : Nat} {Q : MP} {I : Nat → Nat → Int} {J : Nat → Nat → BitVec 64} {b : B3} (hh : 7 ≤ h) (H : TriM G h 45 119 119 [vr 82] (I, J, PP b) (cIN fun r1 I1 J1 b1 => (Q (some (vi r1)) (I1, J1, PP b1)))) : Tri G h 160 119 119 0 [some (vr 0)] [] (I, J, PP b) Q := wp_at ck160 [] 400 (cIN_go H (fun r1 I1 J1 b1 q801 => q801))
theorem x160_m {G : Ctx} {h : Nat} {Q : MP} {I : Nat → Nat → Int} {J : Nat → Nat → BitVec 64} {b : B3} (hh : 8 ≤ h) (H : ∀ h, 7 ≤ h → Tri G h 160 119 119 0 [some (vr 0)] [] (I, J, PP b) Q) : TriM G h 160 119 119 [vr 0] (I, J, PP b) Q := TriM_intro (h - 1) (by omega) (by decide) (Nat.le_of_ble_eq_true rfl) (Nat.le_refl _) (Nat.le_refl _) (H (h - 1) (by omega))
set_option maxRecDepth 100000 in
theorem x243 {G : Ctx} {h : Nat} {Q : MP} {I : Nat → Nat → Int} {J : Nat → Nat → BitVec 64} {b : B3} {x y : Int} (hh : 1 ≤ h) (H : (0 ≤ x ∧ x < 120 ∧ 0 ≤ (3 : Int) ∧ (3 : Int) < 17) ∧ ((0 ≤ y ∧ y < 120 ∧ 0 ≤ (3 : Int) ∧ (3 : Int) < 17) ∧ ((((I 92 ((450 + 17 * x + (3 : Int)).toNat)) = (I 92 ((450 + 17 * y + (3 : Int)).toNat))) → ((0 ≤ x ∧ x < 120 ∧ 0 ≤ (4 : Int) ∧ (4 : Int) < 17) ∧ ((0 ≤ y ∧ y < 120 ∧ 0 ≤ (4 : Int) ∧ (4 : Int) < 17) ∧ ((((I 92 ((450 + 17 * x + (4 : Int)).toNat)) = (I 92 ((450 + 17 * y + (4 : Int)).toNat))) → (((y ≤ x) → (Q (some (vi 0)) (I, J, PP b))) ∧ (¬ (y ≤ x) → (Q (some (vi 1)) (I, J, PP b))))) ∧ (¬ ((I 92 ((450 + 17 * x + (4 : Int)).toNat)) = (I 92 ((450 + 17 * y + (4 : Int)).toNat))) → ((0 ≤ x ∧ x < 120 ∧ 0 ≤ (4 : Int) ∧ (4 : Int) < 17) ∧ ((0 ≤ y ∧ y < 120 ∧ 0 ≤ (4 : Int) ∧ (4 : Int) < 17) ∧ ((((I 92 ((450 + 17 * y + (4 : Int)).toNat)) ≤ (I 92 ((450 + 17 * x + (4 : Int)).toNat))) → (Q (some (vi 0)) (I, J, PP b))) ∧ (¬ ((I 92 ((450 + 17 * y + (4 : Int)).toNat)) ≤ (I 92 ((450 + 17 * x + (4 : Int)).toNat))) → (Q (some (vi 1)) (I, J, PP b))))))))))) ∧ (¬ ((I 92 ((450 + 17 * x + (3 : Int)).toNat)) = (I 92 ((450 + 17 * y + (3 : Int)).toNat))) → ((0 ≤ x ∧ x < 120 ∧ 0 ≤ (3 : Int) ∧ (3 : Int) < 17) ∧ ((0 ≤ y ∧ y < 120 ∧ 0 ≤ (3 : Int) ∧ (3 : Int) < 17) ∧ ((((I 92 ((450 + 17 * y + (3 : Int)).toNat)) ≤ (I 92 ((450 + 17 * x + (3 : Int)).toNat))) → (Q (some (vi 0)) (I, J, PP b))) ∧ (¬ ((I 92 ((450 + 17 * y + (3 : Int)).toNat)) ≤ (I 92 ((450 + 17 * x + (3 : Int)).toNat))) → (Q (some (vi 1)) (I, J, PP b)))))))))) : Tri G h 243 119 119 0 [some (vr 91), some (vi x), some (vi y)] [] (I, J, PP b) Q := wp_at ck243 [] 400 (sx188 (by omega) H.1 (sx188 (by omega) H.2.1 (And.intro (fun q802 => sx188 (by omega) (H.2.2.1 q802).1 (sx188 (by omega) ((H.2.2.1 q802).2).1 (And.intro (fun q804 => And.intro (fun q806 => And.intro (show (0 : Int) = 0 ∨ (0 : Int) = 1 by decide) (((((H.2.2.1 q802).2).2).1 q804).1 q806)) (fun q807 => And.intro (show (1 : Int) = 0 ∨ (1 : Int) = 1 by decide) (((((H.2.2.1 q802).2).2).1 q804).2 q807))) (fun q805 => sx188 (by omega) ((((H.2.2.1 q802).2).2).2 q805).1 (sx188 (by omega) (((((H.2.2.1 q802).2).2).2 q805).2).1 (And.intro (fun q808 => And.intro (show (0 : Int) = 0 ∨ (0 : Int) = 1 by decide) (((((((H.2.2.1 q802).2).2).2 q805).2).2).1 q808)) (fun q809 => And.intro (show (1 : Int) = 0 ∨ (1 : Int) = 1 by decide) (((((((H.2.2.1 q802).2).2).2 q805).2).2).2 q809)))))))) (fun q803 => sx188 (by omega) (H.2.2.2 q803).1 (sx188 (by omega) ((H.2.2.2 q803).2).1 (And.intro (fun q810 => And.intro (show (0 : Int) = 0 ∨ (0 : Int) = 1 by decide) ((((H.2.2.2 q803).2).2).1 q810)) (fun q811 => And.intro (show (1 : Int) = 0 ∨ (1 : Int) = 1 by decide) ((((H.2.2.2 q803).2).2).2 q811))))))))
theorem x243_m {G : Ctx} {h : Nat} {Q : MP} {I : Nat → Nat → Int} {J : Nat → Nat → BitVec 64} {b : B3} {x y : Int} (hh : 2 ≤ h) (H : ∀ h, 1 ≤ h → Tri G h 243 119 119 0 [some (vr 91), some (vi x), some (vi y)] [] (I, J, PP b) Q) : TriM G h 243 119 119 [vr 91, vi x, vi y] (I, J, PP b) Q := TriM_intro (h - 1) (by omega) (by decide) (Nat.le_of_ble_eq_true rfl) (Nat.le_refl _) (Nat.le_refl _) (H (h - 1) (by omega))
set_option maxRecDepth 100000 in
theorem x244 {G : Ctx} {h : Nat} {Q : MP} {I : Nat → Nat → Int} {J : Nat → Nat → BitVec 64} {b : B3} {x y : Int} (hh : 0 ≤ h) (H : Tri G h 244 119 119 5 [some (vr 91), some (vi x), some (vi y), some (vi 0), some (vi 0)] [] (I, J, PP b) Q) : Tri G h 244 119 119 0 [some (vr 91), some (vi x), some (vi y)] [] (I, J, PP b) Q := wp_at ck244 [(5, [true, true, true, true, true]), (53, [true, true, true, true, true, true])] 400 H
set_option maxRecDepth 100000 in
theorem x244_5 {G : Ctx} {h : Nat} {Q : MP} {I : Nat → Nat → Int} {J : Nat → Nat → BitVec 64} {b : B3} {l1 l2 l3 l4 : Int} (hh : 2 ≤ h) (H : (((I 92 4) ≤ l4) → (Q (some (vi l3)) (I, J, PP b))) ∧ (¬ ((I 92 4) ≤ l4) → ((rBook 0 92 I ∧ 0 ≤ l4 ∧ l4 < I 7 0) ∧ (((knB I l4.toNat = true) → ((0 ≤ l4 ∧ l4 < 120 ∧ 0 ≤ (1 : Int) ∧ (1 : Int) < 17) ∧ (((¬ (I 92 ((450 + 17 * l4 + (1 : Int)).toNat)) = l1) → (Tri G h 244 119 119 5 [some (vr 91), some (vi l1), some (vi l2), some (vi l3), some (vi (w32 (l4 + 1)))] [] (I, J, PP b) Q)) ∧ (¬ (¬ (I 92 ((450 + 17 * l4 + (1 : Int)).toNat)) = l1) → ((0 ≤ l4 ∧ l4 < 120 ∧ 0 ≤ (0 : Int) ∧ (0 : Int) < 17) ∧ ((((I 92 ((450 + 17 * l4 + (0 : Int)).toNat)) = l2) → (Tri G h 244 119 119 53 [some (vr 91), some (vi l1), some (vi l2), some (vi l3), some (vi l4), some (vi l3)] [] (I, J, PP b) Q)) ∧ (¬ ((I 92 ((450 + 17 * l4 + (0 : Int)).toNat)) = l2) → (Tri G h 244 119 119 5 [some (vr 91), some (vi l1), some (vi l2), some (vi l3), some (vi (w32 (l4 + 1)))] [] (I, J, PP b) Q)))))))) ∧ (¬ (knB I l4.toNat = true) → (Tri G h 244 119 119 5 [some (vr 91), some (vi l1), some (vi l2), some (vi l3), some (vi (w32 (l4 + 1)))] [] (I, J, PP b) Q)))))) : Tri G h 244 119 119 5 [some (vr 91), some (vi l1), some (vi l2), some (vi l3), some (vi l4)] [] (I, J, PP b) Q := wp_at ck244 [(5, [true, true, true, true, true]), (53, [true, true, true, true, true, true])] 400 (And.intro (show (0 : Int) ≤ 4 ∧ (4 : Int) < ((5120 : Nat) : Int) by decide) (And.intro (fun q812 => H.1 q812) (fun q813 => sb225 (by omega) (H.2 q813).1 (fun q814 => And.intro (fun z => absurd z (show ¬ ((1 : Int) = (0 : Int)) by decide)) (fun _ => sx188 (by omega) (((H.2 q813).2).1 q814).1 (And.intro (fun q816 => ((((H.2 q813).2).1 q814).2).1 q816) (fun q817 => sx188 (by omega) (((((H.2 q813).2).1 q814).2).2 q817).1 ((((((H.2 q813).2).1 q814).2).2 q817).2))))) (fun q815 => And.intro (fun _ => ((H.2 q813).2).2 q815) (fun z => absurd (show (0 : Int) = (0 : Int) by decide) z)))))
set_option maxRecDepth 100000 in
theorem x244_53 {G : Ctx} {h : Nat} {Q : MP} {I : Nat → Nat → Int} {J : Nat → Nat → BitVec 64} {b : B3} {l1 l2 l3 l4 l5 : Int} (hh : 2 ≤ h) (H : ((l5 ≤ 0) → ((0 ≤ l5 ∧ l5 < (120 : Int)) ∧ (Tri G h 244 119 119 5 [some (vr 91), some (vi l1), some (vi l2), some (vi (w32 (l3 + 1))), some (vi (w32 (l4 + 1)))] [] (u2 I 110 l5.toNat l4, J, PP b) Q))) ∧ (¬ (l5 ≤ 0) → ((0 ≤ (w32 (l5 - 1)) ∧ (w32 (l5 - 1)) < (120 : Int)) ∧ (TriM G h 243 119 119 [vr 91, vi l4, vi (I 110 ((w32 (l5 - 1)).toNat))] (I, J, PP b) (cIN fun r1 I1 J1 b1 => (((r1 = 0) → ((0 ≤ l5 ∧ l5 < (120 : Int)) ∧ (Tri G h 244 119 119 5 [some (vr 91), some (vi l1), some (vi l2), some (vi (w32 (l3 + 1))), some (vi (w32 (l4 + 1)))] [] (u2 I1 110 l5.toNat l4, J1, PP b1) Q))) ∧ (¬ (r1 = 0) → ((0 ≤ (w32 (l5 - 1)) ∧ (w32 (l5 - 1)) < (120 : Int)) ∧ ((0 ≤ l5 ∧ l5 < (120 : Int)) ∧ (Tri G h 244 119 119 53 [some (vr 91), some (vi l1), some (vi l2), some (vi l3), some (vi l4), some (vi (w32 (l5 + (-1))))] [] (u2 I1 110 l5.toNat (I1 110 ((w32 (l5 - 1)).toNat)), J1, PP b1) Q)))))))))) : Tri G h 244 119 119 53 [some (vr 91), some (vi l1), some (vi l2), some (vi l3), some (vi l4), some (vi l5)] [] (I, J, PP b) Q := wp_at ck244 [(5, [true, true, true, true, true]), (53, [true, true, true, true, true, true])] 400 (And.intro (fun q818 => H.1 q818) (fun q819 => And.intro (H.2 q819).1 (cIN_go ((H.2 q819).2) (fun r1 I1 J1 b1 q820 => q820))))
theorem x244_m {G : Ctx} {h : Nat} {Q : MP} {I : Nat → Nat → Int} {J : Nat → Nat → BitVec 64} {b : B3} {x y : Int} (hh : 3 ≤ h) (H : ∀ h, 2 ≤ h → Tri G h 244 119 119 0 [some (vr 91), some (vi x), some (vi y)] [] (I, J, PP b) Q) : TriM G h 244 119 119 [vr 91, vi x, vi y] (I, J, PP b) Q := TriM_intro (h - 1) (by omega) (by decide) (Nat.le_of_ble_eq_true rfl) (Nat.le_refl _) (Nat.le_refl _) (H (h - 1) (by omega))
set_option maxRecDepth 100000 in
theorem x245 {G : Ctx} {h : Nat} {Q : MP} {I : Nat → Nat → Int} {J : Nat → Nat → BitVec 64} {b : B3} {x : Int} (hh : 3 ≤ h) (H : TriM G h 244 119 119 [vr 91, vi x, vi 0] (I, J, PP b) (cIN fun r1 I1 J1 b1 => (Tri G h 245 119 119 12 [some (vr 91), none, some (vi r1), some (vi 0), some (vi 0)] [] (I1, J1, PP b1) Q))) : Tri G h 245 119 119 0 [some (vr 91), some (vi x)] [] (I, J, PP b) Q := wp_at ck245 [(12, [true, false, true, true, true])] 400 (cIN_go H (fun r1 I1 J1 b1 q821 => q821))
set_option maxRecDepth 100000 in
theorem x245_12 {G : Ctx} {h : Nat} {Q : MP} {I : Nat → Nat → Int} {J : Nat → Nat → BitVec 64} {b : B3} {l2 l3 l4 : Int} (hh : 3 ≤ h) (H : ((l2 ≤ l4) → (Q (some (vi l3)) (I, J, PP b))) ∧ (¬ (l2 ≤ l4) → ((0 ≤ l4 ∧ l4 < (120 : Int)) ∧ ((0 ≤ (I 110 l4.toNat) ∧ (I 110 l4.toNat) < 120 ∧ 0 ≤ (2 : Int) ∧ (2 : Int) < 17) ∧ ((0 ≤ l4 ∧ l4 < (120 : Int)) ∧ ((0 ≤ (I 110 l4.toNat) ∧ (I 110 l4.toNat) < 120 ∧ 0 ≤ (3 : Int) ∧ (3 : Int) < 17) ∧ ((0 ≤ l4 ∧ l4 < (120 : Int)) ∧ ((0 ≤ (I 110 l4.toNat) ∧ (I 110 l4.toNat) < 120 ∧ 0 ≤ (4 : Int) ∧ (4 : Int) < 17) ∧ (TriM G h 229 119 119 [vr 91, vi (I 92 ((450 + 17 * ((I 110 l4.toNat)) + (2 : Int)).toNat)), vi (I 92 ((450 + 17 * ((I 110 l4.toNat)) + (3 : Int)).toNat)), vi (I 92 ((450 + 17 * ((I 110 l4.toNat)) + (4 : Int)).toNat))] (I, J, PP b) (cIN fun r1 I1 J1 b1 => (((r1 = 0) → (Tri G h 245 119 119 12 [some (vr 91), none, some (vi l2), some (vi (w32 (l3 + 1))), some (vi (w32 (l4 + 1)))] [] (I1, J1, PP b1) Q)) ∧ (¬ (r1 = 0) → (Tri G h 245 119 119 12 [some (vr 91), none, some (vi l2), some (vi (w32 (l3 + 0))), some (vi (w32 (l4 + 1)))] [] (I1, J1, PP b1) Q))))))))))))) : Tri G h 245 119 119 12 [some (vr 91), none, some (vi l2), some (vi l3), some (vi l4)] [] (I, J, PP b) Q := wp_at ck245 [(12, [true, false, true, true, true])] 400 (And.intro (fun q822 => H.1 q822) (fun q823 => And.intro (H.2 q823).1 (sx188 (by omega) ((H.2 q823).2).1 (And.intro (((H.2 q823).2).2).1 (sx188 (by omega) ((((H.2 q823).2).2).2).1 (And.intro (((((H.2 q823).2).2).2).2).1 (sx188 (by omega) ((((((H.2 q823).2).2).2).2).2).1 (cIN_go (((((((H.2 q823).2).2).2).2).2).2) (fun r1 I1 J1 b1 q824 => q824)))))))))
theorem x245_m {G : Ctx} {h : Nat} {Q : MP} {I : Nat → Nat → Int} {J : Nat → Nat → BitVec 64} {b : B3} {x : Int} (hh : 4 ≤ h) (H : ∀ h, 3 ≤ h → Tri G h 245 119 119 0 [some (vr 91), some (vi x)] [] (I, J, PP b) Q) : TriM G h 245 119 119 [vr 91, vi x] (I, J, PP b) Q := TriM_intro (h - 1) (by omega) (by decide) (Nat.le_of_ble_eq_true rfl) (Nat.le_refl _) (Nat.le_refl _) (H (h - 1) (by omega))
set_option maxRecDepth 100000 in
theorem x246 {G : Ctx} {h : Nat} {Q : MP} {I : Nat → Nat → Int} {J : Nat → Nat → BitVec 64} {b : B3} {x y : Int} (hh : 3 ≤ h) (H : TriM G h 244 119 119 [vr 91, vi x, vi y] (I, J, PP b) (cIN fun r1 I1 J1 b1 => (Tri G h 246 119 119 13 [some (vr 91), none, none, some (vi r1), some (vi 0), some (vi 1)] [] (I1, J1, PP b1) Q))) : Tri G h 246 119 119 0 [some (vr 91), some (vi x), some (vi y)] [] (I, J, PP b) Q := wp_at ck246 [(13, [true, false, false, true, true, true])] 400 (cIN_go H (fun r1 I1 J1 b1 q825 => q825))
set_option maxRecDepth 100000 in
theorem x246_13 {G : Ctx} {h : Nat} {Q : MP} {I : Nat → Nat → Int} {J : Nat → Nat → BitVec 64} {b : B3} {l3 l4 l5 : Int} (hh : 3 ≤ h) (H : ((l3 ≤ l5) → (Q (some (vi l4)) (I, J, PP b))) ∧ (¬ (l3 ≤ l5) → ((0 ≤ (w32 (l5 - 1)) ∧ (w32 (l5 - 1)) < (120 : Int)) ∧ ((0 ≤ l5 ∧ l5 < (120 : Int)) ∧ ((0 ≤ (I 110 ((w32 (l5 - 1)).toNat)) ∧ (I 110 ((w32 (l5 - 1)).toNat)) < 120 ∧ 0 ≤ (3 : Int) ∧ (3 : Int) < 17) ∧ ((0 ≤ (I 110 l5.toNat) ∧ (I 110 l5.toNat) < 120 ∧ 0 ≤ (3 : Int) ∧ (3 : Int) < 17) ∧ (((¬ (I 92 ((450 + 17 * (I 110 ((w32 (l5 - 1)).toNat)) + (3 : Int)).toNat)) = (I 92 ((450 + 17 * ((I 110 l5.toNat)) + (3 : Int)).toNat))) → (Tri G h 246 119 119 13 [some (vr 91), none, none, some (vi l3), some (vi l4), some (vi (w32 (l5 + 1)))] [] (I, J, PP b) Q)) ∧ (¬ (¬ (I 92 ((450 + 17 * (I 110 ((w32 (l5 - 1)).toNat)) + (3 : Int)).toNat)) = (I 92 ((450 + 17 * ((I 110 l5.toNat)) + (3 : Int)).toNat))) → ((0 ≤ (I 110 ((w32 (l5 - 1)).toNat)) ∧ (I 110 ((w32 (l5 - 1)).toNat)) < 120 ∧ 0 ≤ (2 : Int) ∧ (2 : Int) < 17) ∧ ((0 ≤ (I 110 l5.toNat) ∧ (I 110 l5.toNat) < 120 ∧ 0 ≤ (2 : Int) ∧ (2 : Int) < 17) ∧ (((¬ (I 92 ((450 + 17 * (I 110 ((w32 (l5 - 1)).toNat)) + (2 : Int)).toNat)) = (I 92 ((450 + 17 * ((I 110 l5.toNat)) + (2 : Int)).toNat))) → ((0 ≤ (I 110 l5.toNat) ∧ (I 110 l5.toNat) < 120 ∧ 0 ≤ (4 : Int) ∧ (4 : Int) < 17) ∧ ((0 ≤ (I 110 ((w32 (l5 - 1)).toNat)) ∧ (I 110 ((w32 (l5 - 1)).toNat)) < 120 ∧ 0 ≤ (4 : Int) ∧ (4 : Int) < 17) ∧ ((0 ≤ (I 110 ((w32 (l5 - 1)).toNat)) ∧ (I 110 ((w32 (l5 - 1)).toNat)) < 120 ∧ 0 ≤ (2 : Int) ∧ (2 : Int) < 17) ∧ ((0 ≤ (I 110 l5.toNat) ∧ (I 110 l5.toNat) < 120 ∧ 0 ≤ (2 : Int) ∧ (2 : Int) < 17) ∧ ((rTown 0 92 I ∧ (0 ≤ (I 92 ((450 + 17 * (I 110 ((w32 (l5 - 1)).toNat)) + (2 : Int)).toNat)) ∧ (I 92 ((450 + 17 * (I 110 ((w32 (l5 - 1)).toNat)) + (2 : Int)).toNat)) < I 2 0) ∧ 0 ≤ (I 92 ((450 + 17 * ((I 110 l5.toNat)) + (2 : Int)).toNat)) ∧ (I 92 ((450 + 17 * ((I 110 l5.toNat)) + (2 : Int)).toNat)) < I 2 0) ∧ ((((minF I (I 92 ((450 + 17 * (I 110 ((w32 (l5 - 1)).toNat)) + (2 : Int)).toNat)) (I 92 ((450 + 17 * ((I 110 l5.toNat)) + (2 : Int)).toNat))) ≤ (w32 ((I 92 ((450 + 17 * ((I 110 l5.toNat)) + (4 : Int)).toNat)) - (I 92 ((450 + 17 * (I 110 ((w32 (l5 - 1)).toNat)) + (4 : Int)).toNat))))) → (Tri G h 246 119 119 13 [some (vr 91), none, none, some (vi l3), some (vi (w32 (l4 + 0))), some (vi (w32 (l5 + 1)))] [] (I, J, PP b) Q)) ∧ (¬ ((minF I (I 92 ((450 + 17 * (I 110 ((w32 (l5 - 1)).toNat)) + (2 : Int)).toNat)) (I 92 ((450 + 17 * ((I 110 l5.toNat)) + (2 : Int)).toNat))) ≤ (w32 ((I 92 ((450 + 17 * ((I 110 l5.toNat)) + (4 : Int)).toNat)) - (I 92 ((450 + 17 * (I 110 ((w32 (l5 - 1)).toNat)) + (4 : Int)).toNat))))) → (Tri G h 246 119 119 13 [some (vr 91), none, none, some (vi l3), some (vi (w32 (l4 + 1))), some (vi (w32 (l5 + 1)))] [] (I, J, PP b) Q))))))))) ∧ (¬ (¬ (I 92 ((450 + 17 * (I 110 ((w32 (l5 - 1)).toNat)) + (2 : Int)).toNat)) = (I 92 ((450 + 17 * ((I 110 l5.toNat)) + (2 : Int)).toNat))) → (Tri G h 246 119 119 13 [some (vr 91), none, none, some (vi l3), some (vi l4), some (vi (w32 (l5 + 1)))] [] (I, J, PP b) Q))))))))))))) : Tri G h 246 119 119 13 [some (vr 91), none, none, some (vi l3), some (vi l4), some (vi l5)] [] (I, J, PP b) Q := wp_at ck246 [(13, [true, false, false, true, true, true])] 400 (And.intro (fun q826 => H.1 q826) (fun q827 => And.intro (H.2 q827).1 (And.intro ((H.2 q827).2).1 (sx188 (by omega) (((H.2 q827).2).2).1 (sx188 (by omega) ((((H.2 q827).2).2).2).1 (And.intro (fun q828 => (((((H.2 q827).2).2).2).2).1 q828) (fun q829 => sx188 (by omega) ((((((H.2 q827).2).2).2).2).2 q829).1 (sx188 (by omega) (((((((H.2 q827).2).2).2).2).2 q829).2).1 (And.intro (fun q830 => sx188 (by omega) (((((((((H.2 q827).2).2).2).2).2 q829).2).2).1 q830).1 (sx188 (by omega) ((((((((((H.2 q827).2).2).2).2).2 q829).2).2).1 q830).2).1 (sx188 (by omega) (((((((((((H.2 q827).2).2).2).2).2 q829).2).2).1 q830).2).2).1 (sx188 (by omega) ((((((((((((H.2 q827).2).2).2).2).2 q829).2).2).1 q830).2).2).2).1 (sx195 (by omega) (((((((((((((H.2 q827).2).2).2).2).2 q829).2).2).1 q830).2).2).2).2).1 ((((((((((((((H.2 q827).2).2).2).2).2 q829).2).2).1 q830).2).2).2).2).2)))))) (fun q831 => ((((((((H.2 q827).2).2).2).2).2 q829).2).2).2 q831))))))))))
theorem x246_m {G : Ctx} {h : Nat} {Q : MP} {I : Nat → Nat → Int} {J : Nat → Nat → BitVec 64} {b : B3} {x y : Int} (hh : 4 ≤ h) (H : ∀ h, 3 ≤ h → Tri G h 246 119 119 0 [some (vr 91), some (vi x), some (vi y)] [] (I, J, PP b) Q) : TriM G h 246 119 119 [vr 91, vi x, vi y] (I, J, PP b) Q := TriM_intro (h - 1) (by omega) (by decide) (Nat.le_of_ble_eq_true rfl) (Nat.le_refl _) (Nat.le_refl _) (H (h - 1) (by omega))
set_option maxRecDepth 100000 in
theorem x247 {G : Ctx} {h : Nat} {Q : MP} {I : Nat → Nat → Int} {J : Nat → Nat → BitVec 64} {b : B3} {x : Int} (hh : 0 ≤ h) (H : Tri G h 247 119 119 7 [some (vr 91), some (vi x), some (vi 0)] [] (u2 I 91 35 0, J, PP b) Q) : Tri G h 247 119 119 0 [some (vr 91), some (vi x)] [] (I, J, PP b) Q := wp_at ck247 [(7, [true, true, true]), (28, [true, true, true]), (115, [true, false, true, true])] 400 H
set_option maxRecDepth 100000 in
theorem x247_7 {G : Ctx} {h : Nat} {Q : MP} {I : Nat → Nat → Int} {J : Nat → Nat → BitVec 64} {b : B3} {l1 l2 : Int} (hh : 0 ≤ h) (H : ((10 ≤ l2) → (Tri G h 247 119 119 28 [some (vr 91), some (vi l1), some (vi 0)] [] (I, J, PP b) Q)) ∧ (¬ (10 ≤ l2) → ((0 ≤ l2 ∧ l2 < (10 : Int)) ∧ (Tri G h 247 119 119 7 [some (vr 91), some (vi l1), some (vi (w32 (l2 + 1)))] [] (u2 I 111 l2.toNat 0, J, PP b) Q)))) : Tri G h 247 119 119 7 [some (vr 91), some (vi l1), some (vi l2)] [] (I, J, PP b) Q := wp_at ck247 [(7, [true, true, true]), (28, [true, true, true]), (115, [true, false, true, true])] 400 H
set_option maxRecDepth 100000 in
theorem x247_28 {G : Ctx} {h : Nat} {Q : MP} {I : Nat → Nat → Int} {J : Nat → Nat → BitVec 64} {b : B3} {l1 l2 : Int} (hh : 2 ≤ h) (H : (((I 92 4) ≤ l2) → (Tri G h 247 119 119 115 [some (vr 91), none, some (vi 0), some (vi 0)] [] (I, J, PP b) Q)) ∧ (¬ ((I 92 4) ≤ l2) → (((15 ≤ (I 91 35)) → (Tri G h 247 119 119 115 [some (vr 91), none, some (vi 0), some (vi 0)] [] (I, J, PP b) Q)) ∧ (¬ (15 ≤ (I 91 35)) → ((rBook 0 92 I ∧ 0 ≤ l2 ∧ l2 < I 7 0) ∧ (((knB I l2.toNat = true) → ((0 ≤ l2 ∧ l2 < 120 ∧ 0 ≤ (1 : Int) ∧ (1 : Int) < 17) ∧ (((¬ (I 92 ((450 + 17 * l2 + (1 : Int)).toNat)) = l1) → (Tri G h 247 119 119 28 [some (vr 91), some (vi l1), some (vi (w32 (l2 + 1)))] [] (I, J, PP b) Q)) ∧ (¬ (¬ (I 92 ((450 + 17 * l2 + (1 : Int)).toNat)) = l1) → ((0 ≤ l2 ∧ l2 < 120 ∧ 0 ≤ (0 : Int) ∧ (0 : Int) < 17) ∧ ((((I 92 ((450 + 17 * l2 + (0 : Int)).toNat)) = 0) → ((0 ≤ l2 ∧ l2 < 120 ∧ 0 ≤ (5 : Int) ∧ (5 : Int) < 17) ∧ ((0 ≤ (iRem (I 92 ((450 + 17 * l2 + (5 : Int)).toNat)) 10) ∧ (iRem (I 92 ((450 + 17 * l2 + (5 : Int)).toNat)) 10) < (10 : Int)) ∧ ((0 ≤ (iRem (I 92 ((450 + 17 * l2 + (5 : Int)).toNat)) 10) ∧ (iRem (I 92 ((450 + 17 * l2 + (5 : Int)).toNat)) 10) < (10 : Int)) ∧ (Tri G h 247 119 119 28 [some (vr 91), some (vi l1), some (vi (w32 (l2 + 1)))] [] (u2 (u2 I 111 ((iRem (I 92 ((450 + 17 * l2 + (5 : Int)).toNat)) 10).toNat) (w32 ((I 111 ((iRem (I 92 ((450 + 17 * l2 + (5 : Int)).toNat)) 10).toNat)) + 1))) 91 35 (w32 ((I 91 35) + 1)), J, PP b) Q))))) ∧ (¬ ((I 92 ((450 + 17 * l2 + (0 : Int)).toNat)) = 0) → (Tri G h 247 119 119 28 [some (vr 91), some (vi l1), some (vi (w32 (l2 + 1)))] [] (I, J, PP b) Q)))))))) ∧ (¬ (knB I l2.toNat = true) → (Tri G h 247 119 119 28 [some (vr 91), some (vi l1), some (vi (w32 (l2 + 1)))] [] (I, J, PP b) Q)))))))) : Tri G h 247 119 119 28 [some (vr 91), some (vi l1), some (vi l2)] [] (I, J, PP b) Q := wp_at ck247 [(7, [true, true, true]), (28, [true, true, true]), (115, [true, false, true, true])] 400 (And.intro (show (0 : Int) ≤ 4 ∧ (4 : Int) < ((5120 : Nat) : Int) by decide) (And.intro (fun q832 => H.1 q832) (fun q833 => And.intro (fun q834 => (H.2 q833).1 q834) (fun q835 => sb225 (by omega) ((H.2 q833).2 q835).1 (fun q836 => And.intro (fun z => absurd z (show ¬ ((1 : Int) = (0 : Int)) by decide)) (fun _ => sx188 (by omega) ((((H.2 q833).2 q835).2).1 q836).1 (And.intro (fun q838 => (((((H.2 q833).2 q835).2).1 q836).2).1 q838) (fun q839 => sx188 (by omega) ((((((H.2 q833).2 q835).2).1 q836).2).2 q839).1 (And.intro (fun q840 => sx188 (by omega) ((((((((H.2 q833).2 q835).2).1 q836).2).2 q839).2).1 q840).1 (And.intro (show (10 : Int) ≠ 0 by decide) (((((((((H.2 q833).2 q835).2).1 q836).2).2 q839).2).1 q840).2))) (fun q841 => (((((((H.2 q833).2 q835).2).1 q836).2).2 q839).2).2 q841)))))) (fun q837 => And.intro (fun _ => (((H.2 q833).2 q835).2).2 q837) (fun z => absurd (show (0 : Int) = (0 : Int) by decide) z))))))
set_option maxRecDepth 100000 in
theorem x247_115 {G : Ctx} {h : Nat} {Q : MP} {I : Nat → Nat → Int} {J : Nat → Nat → BitVec 64} {b : B3} {l2 l3 : Int} (hh : 0 ≤ h) (H : ((10 ≤ l3) → (Q (some (vi l2)) (I, J, PP b))) ∧ (¬ (10 ≤ l3) → ((0 ≤ l3 ∧ l3 < (10 : Int)) ∧ ((0 ≤ l3 ∧ l3 < (10 : Int)) ∧ (Tri G h 247 119 119 115 [some (vr 91), none, some (vi (w32 (l2 + (w32 ((I 111 l3.toNat) * (I 111 l3.toNat)))))), some (vi (w32 (l3 + 1)))] [] (I, J, PP b) Q))))) : Tri G h 247 119 119 115 [some (vr 91), none, some (vi l2), some (vi l3)] [] (I, J, PP b) Q := wp_at ck247 [(7, [true, true, true]), (28, [true, true, true]), (115, [true, false, true, true])] 400 H
theorem x247_m {G : Ctx} {h : Nat} {Q : MP} {I : Nat → Nat → Int} {J : Nat → Nat → BitVec 64} {b : B3} {x : Int} (hh : 3 ≤ h) (H : ∀ h, 2 ≤ h → Tri G h 247 119 119 0 [some (vr 91), some (vi x)] [] (I, J, PP b) Q) : TriM G h 247 119 119 [vr 91, vi x] (I, J, PP b) Q := TriM_intro (h - 1) (by omega) (by decide) (Nat.le_of_ble_eq_true rfl) (Nat.le_refl _) (Nat.le_refl _) (H (h - 1) (by omega))
set_option maxRecDepth 100000 in
theorem x249 {G : Ctx} {h : Nat} {Q : MP} {I : Nat → Nat → Int} {J : Nat → Nat → BitVec 64} {b : B3} {x y : Int} (hh : 4 ≤ h) (H : ((0 ≤ x ∧ x < 11) → (((y = 0 → (TriM G h 244 119 119 [vr 91, vi x, vi y] (I, J, PP b) (cIN fun r1 I1 J1 b1 => (Q (some (vi r1)) (I1, J1, PP b1))))) ∧ (y = 1 → (TriM G h 244 119 119 [vr 91, vi x, vi y] (I, J, PP b) (cIN fun r2 I2 J2 b2 => (Q (some (vi r2)) (I2, J2, PP b2))))) ∧ (y = 2 → (TriM G h 245 119 119 [vr 91, vi x] (I, J, PP b) (cIN fun r3 I3 J3 b3 => (Q (some (vi r3)) (I3, J3, PP b3))))) ∧ (y = 3 → (TriM G h 246 119 119 [vr 91, vi x, vi (w32 (y - 3))] (I, J, PP b) (cIN fun r4 I4 J4 b4 => (Q (some (vi r4)) (I4, J4, PP b4))))) ∧ (y = 4 → (TriM G h 246 119 119 [vr 91, vi x, vi (w32 (y - 3))] (I, J, PP b) (cIN fun r5 I5 J5 b5 => (Q (some (vi r5)) (I5, J5, PP b5))))) ∧ (y = 5 → (TriM G h 247 119 119 [vr 91, vi x] (I, J, PP b) (cIN fun r6 I6 J6 b6 => (Q (some (vi r6)) (I6, J6, PP b6))))) ∧ True) ∧ ((y < 0 ∨ 5 < y) → (Q (some (vi (-1))) (I, J, PP b))))) ∧ (¬ (0 ≤ x ∧ x < 11) → (Q (some (vi (-1))) (I, J, PP b)))) : Tri G h 249 119 119 0 [some (vr 91), some (vi x), some (vi y)] [] (I, J, PP b) Q := wp_at ck249 [] 400 (sx248 (by omega)  (fun q842 => And.intro (fun _ => And.intro (And.intro (fun q844 => cIN_go (((H.1 q842).1).1 q844) (fun r1 I1 J1 b1 q845 => q845)) (And.intro (fun q846 => cIN_go ((((H.1 q842).1).2).1 q846) (fun r2 I2 J2 b2 q847 => q847)) (And.intro (fun q848 => cIN_go (((((H.1 q842).1).2).2).1 q848) (fun r3 I3 J3 b3 q849 => q849)) (And.intro (fun q850 => cIN_go ((((((H.1 q842).1).2).2).2).1 q850) (fun r4 I4 J4 b4 q851 => q851)) (And.intro (fun q852 => cIN_go (((((((H.1 q842).1).2).2).2).2).1 q852) (fun r5 I5 J5 b5 q853 => q853)) (And.intro (fun q854 => cIN_go ((((((((H.1 q842).1).2).2).2).2).2).1 q854) (fun r6 I6 J6 b6 q855 => q855)) trivial)))))) (fun q856 => (H.1 q842).2 q856)) (fun z => absurd (show ¬ (1 : Int) = (0 : Int) by decide) z)) (fun q843 => And.intro (fun z => absurd z (show ¬ (¬ (0 : Int) = (0 : Int)) by decide)) (fun _ => H.2 q843)))
theorem x249_m {G : Ctx} {h : Nat} {Q : MP} {I : Nat → Nat → Int} {J : Nat → Nat → BitVec 64} {b : B3} {x y : Int} (hh : 5 ≤ h) (H : ∀ h, 4 ≤ h → Tri G h 249 119 119 0 [some (vr 91), some (vi x), some (vi y)] [] (I, J, PP b) Q) : TriM G h 249 119 119 [vr 91, vi x, vi y] (I, J, PP b) Q := TriM_intro (h - 1) (by omega) (by decide) (Nat.le_of_ble_eq_true rfl) (Nat.le_refl _) (Nat.le_refl _) (H (h - 1) (by omega))
set_option maxRecDepth 100000 in
theorem x252 {G : Ctx} {h : Nat} {Q : MP} {I : Nat → Nat → Int} {J : Nat → Nat → BitVec 64} {b : B3} (hh : 0 ≤ h) (H : Tri G h 252 119 119 6 [some (vr 91), some (vi (-1)), some (vi 0), some (vi 0)] [] (I, J, PP b) Q) : Tri G h 252 119 119 0 [some (vr 91)] [] (I, J, PP b) Q := wp_at ck252 [(6, [true, true, true, true])] 400 H
set_option maxRecDepth 100000 in
theorem x252_6 {G : Ctx} {h : Nat} {Q : MP} {I : Nat → Nat → Int} {J : Nat → Nat → BitVec 64} {b : B3} {l1 l2 l3 : Int} (hh : 4 ≤ h) (H : ((11 ≤ l3) → (Q (some (vi l1)) (I, J, PP b))) ∧ (¬ (11 ≤ l3) → (TriM G h 245 119 119 [vr 91, vi l3] (I, J, PP b) (cIN fun r1 I1 J1 b1 => (TriM G h 246 119 119 [vr 91, vi l3, vi 0] (I1, J1, PP b1) (cIN fun r2 I2 J2 b2 => (((l2 < (w32 (r1 + r2))) → (Tri G h 252 119 119 6 [some (vr 91), some (vi l3), some (vi (w32 (r1 + r2))), some (vi (w32 (l3 + 1)))] [] (I2, J2, PP b2) Q)) ∧ (¬ (l2 < (w32 (r1 + r2))) → (Tri G h 252 119 119 6 [some (vr 91), some (vi l1), some (vi l2), some (vi (w32 (l3 + 1)))] [] (I2, J2, PP b2) Q))))))))) : Tri G h 252 119 119 6 [some (vr 91), some (vi l1), some (vi l2), some (vi l3)] [] (I, J, PP b) Q := wp_at ck252 [(6, [true, true, true, true])] 400 (And.intro (fun q857 => H.1 q857) (fun q858 => cIN_go (H.2 q858) (fun r1 I1 J1 b1 q859 => cIN_go q859 (fun r2 I2 J2 b2 q860 => q860))))
theorem x252_m {G : Ctx} {h : Nat} {Q : MP} {I : Nat → Nat → Int} {J : Nat → Nat → BitVec 64} {b : B3} (hh : 5 ≤ h) (H : ∀ h, 4 ≤ h → Tri G h 252 119 119 0 [some (vr 91)] [] (I, J, PP b) Q) : TriM G h 252 119 119 [vr 91] (I, J, PP b) Q := TriM_intro (h - 1) (by omega) (by decide) (Nat.le_of_ble_eq_true rfl) (Nat.le_refl _) (Nat.le_refl _) (H (h - 1) (by omega))
theorem s34_l {K : Int → MI → MJ → B3 → Prop} (hh : 3 ≤ h) (hB : rBook 0 92 I) (k : K (cntE (byE I x y) (I 7 0).toNat) I J b) : ∀ (m i : Nat), (i : Int) + m = I 7 0 → Tri G h 34 119 119 5 [some (vr 82), some (vi x), some (vi y), some (vi (cntE (byE I x y) i)), some (vi i)] [] (I, J, PP b) (cIN K) := by
  have b1 := hB.1
  simp only [Nat.reduceAdd] at b1
  intro m
  induction m with
  | zero =>
    intro i hi
    refine x34_5 hh ⟨fun q => cIN_r fun _ => ?_, fun q => by omega⟩
    rw [show i = (I 7 0).toNat by omega]
    exact k
  | succ m ih =>
    intro i hi
    have hc := cntE_b (byE I x y) i
    refine x34_5 hh ⟨fun q => by omega, fun q => ⟨⟨hB, by omega, by omega⟩, fun q2 => ?_, fun q2 => ?_⟩⟩
    · rw [toN] at q2
      rw [w32_id (x := (i : Int) + 1) (by omega) (by omega), w32_id (by omega) (by omega), ← cntE_s q2]
      exact ih (i + 1) (by omega)
    · rw [toN] at q2
      rw [w32_id (x := (i : Int) + 1) (by omega) (by omega), ← cntE_n q2]
      exact ih (i + 1) (by omega)
theorem s34 {K : Int → MI → MJ → B3 → Prop} (hh : 4 ≤ h) (hB : rBook 0 92 I) (k : K (cntE (byE I x y) (I 7 0).toNat) I J b) : TriM G h 34 119 119 [vr 82, vi x, vi y] (I, J, PP b) (cIN K) := by
  have b1 := hB.1
  simp only [Nat.reduceAdd] at b1
  exact x34_m hh (fun h hh => x34 (Nat.zero_le _) (s34_l hh hB k (I 7 0).toNat 0 (by omega)))
theorem byE_k {S : List Nat} {I' : MI} (hf : frK S I I') (hS : ∀ k ∈ [7, 8, 9, 10], k ∉ S) : byE I' = byE I := by
  funext c k e
  unfold byE fact
  rw [knB_c (hf 7 (hS 7 (by decide))) (hf 9 (hS 9 (by decide))) (hf 10 (hS 10 (by decide))), hf 8 (hS 8 (by decide))]
theorem ghE_k {S : List Nat} {I' : MI} (p : List Lin) (hf : frK S I I') (hS : ∀ k ∈ [3, 4, 5, 8], k ∉ S) : ghE p I' = ghE p I := by
  funext e
  unfold ghE fact
  rw [homeB_k p hf (fun k hk => hS k (by revert hk; simp; omega)), hf 8 (hS 8 (by decide))]
theorem s35_l {K : Int → MI → MJ → B3 → Prop} {p2 : List Lin} (hh : 4 ≤ h) (hT : rTown 0 92 I) (hB : rBook 0 92 I) (ht : rTxt 19 92 2 I true p2) (k : ∀ I2, frK [21, 30] I I2 → K (cntE (fun e => byE I x 0 e && ghE p2 I e) (I 7 0).toNat) I2 J b) : ∀ (m i : Nat) (I' : MI), (i : Int) + m = I 7 0 → frK [21, 30] I I' → Tri G h 35 119 119 13 [some (vr 82), some (vi x), some (vr 7), some (vi (cntE (fun e => byE I x 0 e && ghE p2 I e) i)), some (vi i)] [] (I', J, PP b) (cIN K) := by
  have b1 := hB.1
  simp only [Nat.reduceAdd] at b1
  intro m
  induction m with
  | zero =>
    intro i I' hi hf
    refine x35_13 hh ⟨fun q => cIN_r fun _ => ?_, fun q => by rw [hf 7 (by decide)] at q; omega⟩
    rw [show i = (I 7 0).toNat by omega]
    exact k I' hf
  | succ m ih =>
    intro i I' hi hf
    have hc := cntE_b (fun e => byE I x 0 e && ghE p2 I e) i
    have hT' := hT.k hf (by decide)
    have hB' := hB.k hf (by decide)
    have ht' := ht.k hf (by decide) (by decide) (by decide)
    have e7 := hf 7 (by decide)
    have hen := (ent_f hB' (e := i) (by rw [e7]; omega)).2
    refine x35_13 hh ⟨fun q => by rw [e7] at q; omega, fun q => ⟨⟨hB', by omega, by rw [e7]; omega⟩, fun q2 => ?_, fun q2 => ?_⟩⟩
    · rw [toN, byE_k hf (by decide)] at q2
      rw [e7]
      refine ⟨by omega, by omega, by omega, s132 (by omega) hT' ht' hen.2.2.1 fun I2 hf2 => ?_⟩
      rw [w32_id (x := (i : Int) + 1) (by omega) (by omega), w32_id (by omega) (by omega)]
      have eg : ghE p2 I i = !homeB p2 I' (I' 8 ((i : Int) * 6 + 2).toNat) (I' 8 ((i : Int) * 6 + 3).toNat) (I' 8 ((i : Int) * 6 + 4).toNat) := by
        rw [← ghE_k p2 hf (by decide)]
        rfl
      have go := ih (i + 1) I2 (by omega) (hf.t hf2)
      cases hb : homeB p2 I' (I' 8 ((i : Int) * 6 + 2).toNat) (I' 8 ((i : Int) * 6 + 3).toNat) (I' 8 ((i : Int) * 6 + 4).toNat) with
      | true =>
        rw [hb] at eg
        rw [cntE_n (by rw [eg]; simp)] at go
        exact ⟨fun _ => go, fun q3 => absurd (by decide) q3⟩
      | false =>
        rw [hb] at eg
        rw [cntE_s (by rw [q2, eg]; rfl)] at go
        exact ⟨fun q3 => absurd rfl q3, fun _ => go⟩
    · rw [toN, byE_k hf (by decide)] at q2
      rw [w32_id (x := (i : Int) + 1) (by omega) (by omega)]
      have go := ih (i + 1) I' (by omega) hf
      rw [cntE_n (by rw [Bool.and_eq_true]; exact fun q3 => q2 q3.1)] at go
      exact go
theorem s35 {K : Int → MI → MJ → B3 → Prop} {p2 : List Lin} (hh : 5 ≤ h) (hT : rTown 0 92 I) (hB : rBook 0 92 I) (ht : rTxt 19 92 2 I true p2) (k : ∀ I2, frK [21, 30] I I2 → K (cntE (fun e => byE I x 0 e && ghE p2 I e) (I 7 0).toNat) I2 J b) : TriM G h 35 119 119 [vr 82, vi x] (I, J, PP b) (cIN K) := by
  have b1 := hB.1
  simp only [Nat.reduceAdd] at b1
  exact x35_m hh (fun h hh => x35 (Nat.zero_le _) (s35_l hh hT hB ht k (I 7 0).toNat 0 I (by omega) frK.r))
theorem s37 {K : Int → MI → MJ → B3 → Prop} {i : Nat} (hh : 3 ≤ h) (hB : rBook 0 92 I) (hi : (i : Int) < I 7 0) (k : K (ordE I i) I J b) : TriM G h 37 119 119 [vr 82, vi i] (I, J, PP b) (cIN K) := by
  have b1 := hB.1
  simp only [Nat.reduceAdd] at b1
  have he := (ent_f hB hi).2
  unfold ordE at k
  unfold fact at he k
  refine x37_m hh (fun h hh => x37 hh ?_)
  rw [w32_id (x := I 8 ((i : Int) * 6 + 3).toNat * 1440) (by omega) (by omega), w32_id (x := I 8 ((i : Int) * 6 + 3).toNat * 1440 + I 8 ((i : Int) * 6 + 4).toNat) (by omega) (by omega), w32_id (x := (I 8 ((i : Int) * 6 + 3).toNat * 1440 + I 8 ((i : Int) * 6 + 4).toNat) * 120) (by omega) (by omega), w32_id (by omega) (by omega)]
  exact ⟨by omega, by omega, cIN_r fun _ => k⟩
/-- the best so far -/
def jaS (I : MI) (c k : Int) (m : Nat) (w r q : Int) : Prop := (r = -1 ∧ q = -1 ∧ ∀ o : Nat, o < m → byE I c k o = true → ¬ ordE I o < w) ∨ ∃ a : Nat, r = a ∧ q = ordE I a ∧ jaP I c k m w a
theorem s38_l {K : Int → MI → MJ → B3 → Prop} {w : Int} (hh : 3 ≤ h) (hB : rBook 0 92 I) (k : ∀ r q, jaS I y z (I 7 0).toNat w r q → K r I J b) : ∀ (m i : Nat) (r q : Int), (i : Int) + m = I 7 0 → jaS I y z i w r q → Tri G h 38 119 119 16 [some (vr 82), none, some (vi y), some (vi z), some (vi r), some (vi q), some (vi w), some (vi i)] [] (I, J, PP b) (cIN K) := by
  have b1 := hB.1
  simp only [Nat.reduceAdd] at b1
  intro m
  induction m with
  | zero =>
    intro i r q hi hj
    refine x38_16 hh ⟨fun _ => cIN_r fun _ => k r q ?_, fun q2 => by omega⟩
    rw [show (I 7 0).toNat = i by omega]
    exact hj
  | succ m ih =>
    intro i r q hi hj
    have ho := ord_in hB (e := i) (by omega)
    refine x38_16 hh ⟨fun q2 => by omega, fun q2 => s37 (by omega) hB (by omega) ?_⟩
    rw [w32_id (by omega) (by omega)]
    -- an entry that doesn't count
    have old : ¬ (byE I y z i = true ∧ ordE I i < w ∧ q < ordE I i) → jaS I y z (i + 1) w r q := by
      intro hno
      rcases hj with ⟨j1, j2, j3⟩ | ⟨a, j1, j2, j3, j4, j5, j6⟩
      · refine Or.inl ⟨j1, j2, fun o ho1 ho2 ho3 => ?_⟩
        by_cases h1 : o = i
        · subst h1
          exact hno ⟨ho2, ho3, by omega⟩
        · exact j3 o (by omega) ho2 ho3
      · refine Or.inr ⟨a, j1, j2, by omega, j4, j5, fun o ho1 ho2 ho3 => ?_⟩
        by_cases h1 : o = i
        · subst h1
          apply Classical.byContradiction
          intro hc
          exact hno ⟨ho2, ho3, by omega⟩
        · exact j6 o (by omega) ho2 ho3
    refine ⟨fun q3 => ih (i + 1) r q (by omega) (old fun z => by omega), fun q3 => ⟨fun q4 => ih (i + 1) r q (by omega) (old fun z => by omega), fun q4 => ⟨⟨hB, by omega, by omega⟩, fun q5 => ih (i + 1) i _ (by omega) ?_, fun q5 => ih (i + 1) r q (by omega) (old fun z => q5 (by rw [toN]; exact z.1))⟩⟩⟩
    rw [toN] at q5
    refine Or.inr ⟨i, rfl, rfl, by omega, q5, by omega, fun o ho1 ho2 ho3 => ?_⟩
    by_cases h1 : o = i
    · subst h1; exact Int.le_refl _
    · rcases hj with ⟨j1, j2, j3⟩ | ⟨a, j1, j2, j3, j4, j5, j6⟩
      · exact absurd ho3 (j3 o (by omega) ho2)
      · have := j6 o (by omega) ho2 ho3
        omega
theorem s38 {K : Int → MI → MJ → B3 → Prop} {i : Nat} (hh : 4 ≤ h) (hB : rBook 0 92 I) (hi : (i : Int) < I 7 0) (k : ∀ r q, jaS I y z (I 7 0).toNat (ordE I i) r q → K r I J b) : TriM G h 38 119 119 [vr 82, vi i, vi y, vi z] (I, J, PP b) (cIN K) := by
  have b1 := hB.1
  simp only [Nat.reduceAdd] at b1
  exact x38_m hh (fun h hh => x38 hh (s37 (by omega) hB hi (s38_l hh hB k (I 7 0).toNat 0 (-1) (-1) (by omega) (Or.inl ⟨rfl, rfl, fun o ho => by omega⟩))))
theorem s39 {K : Int → MI → MJ → B3 → Prop} {i j : Nat} (hh : 4 ≤ h) (hT : rTown 0 92 I) (hB : rBook 0 92 I) (hi : (i : Int) < I 7 0) (hj : (j : Int) < I 7 0) (k : K (if qkE I i j = true then 1 else 0) I J b) : TriM G h 39 119 119 [vr 82, vi i, vi j] (I, J, PP b) (cIN K) := by
  have b1 := hB.1
  simp only [Nat.reduceAdd] at b1
  have he := (ent_f hB hi).2
  have he2 := (ent_f hB hj).2
  have hm := (min_in hT he.2.2.1 he2.2.2.1).2
  unfold qkE at k
  unfold fact at he he2 hm k
  refine x39_m hh (fun h hh => x39 hh ?_)
  rw [w32_id (by omega) (by omega)]
  refine ⟨by omega, by omega, fun q => cIN_r fun _ => ?_, fun q => ⟨by omega, by omega, fun q2 => ⟨by omega, by omega, ⟨hT, he.2.2.1, he2.2.2.1⟩, fun q3 => cIN_r fun _ => ?_, fun q3 => cIN_r fun _ => ?_⟩, fun q2 => cIN_r fun _ => ?_⟩⟩
  · rw [if_neg (by simp [q])] at k; exact k
  · rw [if_neg (by simp; intro _ _; omega)] at k; exact k
  · rw [if_pos (by simp [q, q2]; omega)] at k; exact k
  · rw [if_neg (by simp [q2])] at k; exact k
theorem s36_l {K : Int → MI → MJ → B3 → Prop} (hh : 5 ≤ h) (hT : rTown 0 92 I) (hB : rBook 0 92 I) (k : K (cntE (fun e => byE I x y e && qkP I x y e) (I 7 0).toNat) I J b) : ∀ (m i : Nat), (i : Int) + m = I 7 0 → Tri G h 36 119 119 5 [some (vr 82), some (vi x), some (vi y), some (vi (cntE (fun e => byE I x y e && qkP I x y e) i)), some (vi i)] [] (I, J, PP b) (cIN K) := by
  have b1 := hB.1
  simp only [Nat.reduceAdd] at b1
  intro m
  induction m with
  | zero =>
    intro i hi
    refine x36_5 hh ⟨fun q => cIN_r fun _ => ?_, fun q => by omega⟩
    rw [show i = (I 7 0).toNat by omega]
    exact k
  | succ m ih =>
    intro i hi
    have hc := cntE_b (fun e => byE I x y e && qkP I x y e) i
    have go := ih (i + 1) (by omega)
    have no : ¬ (byE I x y i = true ∧ qkP I x y i = true) → Tri G h 36 119 119 5 [some (vr 82), some (vi x), some (vi y), some (vi (cntE (fun e => byE I x y e && qkP I x y e) i)), some (vi (w32 ((i : Int) + 1)))] [] (I, J, PP b) (cIN K) := by
      intro q
      rw [w32_id (by omega) (by omega)]
      rw [cntE_n (by rw [Bool.and_eq_true]; exact q)] at go
      exact go
    refine x36_5 hh ⟨fun q => by omega, fun q => ⟨⟨hB, by omega, by omega⟩, fun q2 => s38 (by omega) hB (by omega) fun r w hj => ⟨fun q3 => no fun q4 => ?_, fun q3 => ?_⟩, fun q2 => no fun q4 => q2 (by rw [toN]; exact q4.1)⟩⟩
    · rcases hj with ⟨j1, j2, j3⟩ | ⟨a, j1, -⟩
      · obtain ⟨a, ⟨ja1, ja2, ja3, ja4⟩, -⟩ := qkP_iff.1 q4.2
        exact j3 a ja1 ja2 ja3
      · omega
    · rcases hj with ⟨j1, -⟩ | ⟨a, j1, j2, j3⟩
      · exact absurd j1 q3
      · subst j1
        have ha : (a : Int) < I 7 0 := by have := j3.1; omega
        refine s39 (by omega) hT hB ha (by omega) ?_
        have huq : ∀ a2, jaP I x y (I 7 0).toNat (ordE I i) a2 → a2 = a := by
          intro a2 h2
          have e1 := j3.2.2.2 a2 h2.1 h2.2.1 h2.2.2.1
          have e2 := h2.2.2.2 a j3.1 j3.2.1 j3.2.2.1
          exact ord_inj hB (by have := h2.1; omega) ha (by omega)
        rw [toN] at q2
        cases hq : qkE I a i with
        | false =>
          refine ⟨fun _ => no fun q4 => ?_, fun q4 => absurd rfl q4⟩
          obtain ⟨a2, h2, h3⟩ := qkP_iff.1 q4.2
          rw [huq a2 h2, hq] at h3
          exact absurd h3 (by decide)
        | true =>
          refine ⟨fun q4 => absurd q4 (by decide), fun _ => ?_⟩
          rw [w32_id (x := (i : Int) + 1) (by omega) (by omega), w32_id (by omega) (by omega)]
          rw [cntE_s (by rw [Bool.and_eq_true]; exact ⟨q2, qkP_iff.2 ⟨a, j3, hq⟩⟩)] at go
          exact go
theorem s36 {K : Int → MI → MJ → B3 → Prop} (hh : 6 ≤ h) (hT : rTown 0 92 I) (hB : rBook 0 92 I) (k : K (cntE (fun e => byE I x y e && qkP I x y e) (I 7 0).toNat) I J b) : TriM G h 36 119 119 [vr 82, vi x, vi y] (I, J, PP b) (cIN K) := by
  have b1 := hB.1
  simp only [Nat.reduceAdd] at b1
  exact x36_m hh (fun h hh => x36 (Nat.zero_le _) (s36_l hh hT hB k (I 7 0).toNat 0 (by omega)))
end BOOKS
