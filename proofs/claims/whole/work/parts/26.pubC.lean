set_option maxRecDepth 100000 in
theorem y126 {G : Ctx} {h : Nat} {Q : MP} {I : Nat → Nat → Int} {J : Nat → Nat → BitVec 64} {b : B3} {x y : Int} (hh : 2 ≤ h) (H : (rTown 0 92 I ∧ (0 ≤ x ∧ x < I 2 0) ∧ 0 ≤ y ∧ y < I 2 0) ∧ (Q (some (vi (w32 ((iDiv (w32 ((wayF I x y) * (I 2 1))) 100) + (I 2 2))))) (I, J, PP b))) : Tri G h 126 119 119 0 [some (vr 2), some (vi x), some (vi y)] [] (I, J, PP b) Q := wp_at ck126 [] 400 (sx125 (by omega) H.1 (And.intro (show (100 : Int) ≠ 0 by decide) H.2))
theorem y126_m {G : Ctx} {h : Nat} {Q : MP} {I : Nat → Nat → Int} {J : Nat → Nat → BitVec 64} {b : B3} {x y : Int} (hh : 3 ≤ h) (H : ∀ h, 2 ≤ h → Tri G h 126 119 119 0 [some (vr 2), some (vi x), some (vi y)] [] (I, J, PP b) Q) : TriM G h 126 119 119 [vr 2, vi x, vi y] (I, J, PP b) Q := TriM_intro (h - 1) (by omega) (by decide) (Nat.le_of_ble_eq_true rfl) (Nat.le_refl _) (Nat.le_refl _) (H (h - 1) (by omega))
theorem sx126 {G : Ctx} {h : Nat} {I : MI} {J : MJ} {b : B3} {x y : Int} {K : Int → MS → Prop} (hh : 3 ≤ h) (g : rTown 0 92 I ∧ (0 ≤ x ∧ x < I 2 0) ∧ 0 ≤ y ∧ y < I 2 0) (k : K (minF I x y) (I, J, PP b)) : TriM G h 126 119 119 [vr 2, vi x, vi y] (I, J, PP b) (cI' K) := by
  refine y126_m hh (fun h hh => y126 hh ⟨g, cI_r ?_⟩)
  have e := (min_in g.1 g.2.1 g.2.2).1
  have e1 := g.1.2.1.2.2
  have e2 := g.1.2.2.1.2.2
  simp only [Nat.reduceAdd] at e1 e2
  first | (rw [e]; exact k) | (rw [e1, e2, e]; exact k)
set_option maxRecDepth 100000 in
theorem y195 {G : Ctx} {h : Nat} {Q : MP} {I : Nat → Nat → Int} {J : Nat → Nat → BitVec 64} {b : B3} {x y : Int} (hh : 2 ≤ h) (H : (rTown 0 92 I ∧ (0 ≤ x ∧ x < I 2 0) ∧ 0 ≤ y ∧ y < I 2 0) ∧ (Q (some (vi (w32 ((iDiv (w32 ((wayF I x y) * (I 92 1))) 100) + (I 92 2))))) (I, J, PP b))) : Tri G h 195 119 119 0 [some (vr 91), some (vi x), some (vi y)] [] (I, J, PP b) Q := wp_at ck195 [] 400 (sx194 (by omega) H.1 (And.intro (show (0 : Int) ≤ 1 ∧ (1 : Int) < ((5120 : Nat) : Int) by decide) (And.intro (show (100 : Int) ≠ 0 by decide) (And.intro (show (0 : Int) ≤ 2 ∧ (2 : Int) < ((5120 : Nat) : Int) by decide) H.2))))
theorem y195_m {G : Ctx} {h : Nat} {Q : MP} {I : Nat → Nat → Int} {J : Nat → Nat → BitVec 64} {b : B3} {x y : Int} (hh : 3 ≤ h) (H : ∀ h, 2 ≤ h → Tri G h 195 119 119 0 [some (vr 91), some (vi x), some (vi y)] [] (I, J, PP b) Q) : TriM G h 195 119 119 [vr 91, vi x, vi y] (I, J, PP b) Q := TriM_intro (h - 1) (by omega) (by decide) (Nat.le_of_ble_eq_true rfl) (Nat.le_refl _) (Nat.le_refl _) (H (h - 1) (by omega))
theorem sx195 {G : Ctx} {h : Nat} {I : MI} {J : MJ} {b : B3} {x y : Int} {K : Int → MS → Prop} (hh : 3 ≤ h) (g : rTown 0 92 I ∧ (0 ≤ x ∧ x < I 2 0) ∧ 0 ≤ y ∧ y < I 2 0) (k : K (minF I x y) (I, J, PP b)) : TriM G h 195 119 119 [vr 91, vi x, vi y] (I, J, PP b) (cI' K) := by
  refine y195_m hh (fun h hh => y195 hh ⟨g, cI_r ?_⟩)
  have e := (min_in g.1 g.2.1 g.2.2).1
  have e1 := g.1.2.1.2.2
  have e2 := g.1.2.2.1.2.2
  simp only [Nat.reduceAdd] at e1 e2
  first | (rw [e]; exact k) | (rw [e1, e2, e]; exact k)
set_option maxRecDepth 100000 in
theorem y141 {G : Ctx} {h : Nat} {Q : MP} {I : Nat → Nat → Int} {J : Nat → Nat → BitVec 64} {b : B3} {x y z : Int} (hh : 3 ≤ h) (H : ((0 ≤ x ∧ x < (I 2 0)) → (((0 ≤ y ∧ y < (I 2 0)) → (((z = 0 → ((rTown 0 92 I ∧ (0 ≤ x ∧ x < I 2 0) ∧ 0 ≤ y ∧ y < I 2 0) ∧ (Q (some (vi (wayF I x y))) (I, J, PP b)))) ∧ (z = 1 → ((rTown 0 92 I ∧ (0 ≤ x ∧ x < I 2 0) ∧ 0 ≤ y ∧ y < I 2 0) ∧ (Q (some (vi (minF I x y))) (I, J, PP b)))) ∧ True) ∧ (¬ z = 0 → ¬ z = 1 → (Q (some (vi (-1))) (I, J, PP b))))) ∧ (¬ (0 ≤ y ∧ y < (I 2 0)) → (Q (some (vi (-1))) (I, J, PP b))))) ∧ (¬ (0 ≤ x ∧ x < (I 2 0)) → (Q (some (vi (-1))) (I, J, PP b)))) : Tri G h 141 119 119 0 [some (vr 0), some (vi x), some (vi y), some (vi z)] [] (I, J, PP b) Q := wp_at ck141 [] 400 (sx172 (by omega)  (fun q351 => And.intro (fun z => absurd z (show ¬ ((1 : Int) = (0 : Int)) by decide)) (fun _ => sx172 (by omega)  (fun q353 => And.intro (fun _ => And.intro (And.intro (fun q355 => sx125 (by omega) ((((H.1 q351).1 q353).1).1 q355).1 (((((H.1 q351).1 q353).1).1 q355).2)) (And.intro (fun q356 => sx126 (by omega) (((((H.1 q351).1 q353).1).2).1 q356).1 ((((((H.1 q351).1 q353).1).2).1 q356).2)) trivial)) (fun q357 q358 => ((H.1 q351).1 q353).2 q357 q358)) (fun z => absurd (show ¬ (1 : Int) = (0 : Int) by decide) z)) (fun q354 => And.intro (fun z => absurd z (show ¬ (¬ (0 : Int) = (0 : Int)) by decide)) (fun _ => (H.1 q351).2 q354)))) (fun q352 => And.intro (fun _ => H.2 q352) (fun z => absurd (show (0 : Int) = (0 : Int) by decide) z)))
theorem y141_m {G : Ctx} {h : Nat} {Q : MP} {I : Nat → Nat → Int} {J : Nat → Nat → BitVec 64} {b : B3} {x y z : Int} (hh : 4 ≤ h) (H : ∀ h, 3 ≤ h → Tri G h 141 119 119 0 [some (vr 0), some (vi x), some (vi y), some (vi z)] [] (I, J, PP b) Q) : TriM G h 141 119 119 [vr 0, vi x, vi y, vi z] (I, J, PP b) Q := TriM_intro (h - 1) (by omega) (by decide) (Nat.le_of_ble_eq_true rfl) (Nat.le_refl _) (Nat.le_refl _) (H (h - 1) (by omega))
set_option maxRecDepth 100000 in
theorem y196 {G : Ctx} {h : Nat} {Q : MP} {I : Nat → Nat → Int} {J : Nat → Nat → BitVec 64} {b : B3} {x y z : Int} (hh : 3 ≤ h) (H : (0 ≤ (I 92 3) ∧ (I 92 3) < 1000) ∧ (((0 ≤ x ∧ x < (I 92 3)) → ((0 ≤ (I 92 3) ∧ (I 92 3) < 1000) ∧ (((0 ≤ y ∧ y < (I 92 3)) → ((((0 : Int) ≤ z ∧ z ≤ (1 : Int)) → (((¬ z = 0) → ((rTown 0 92 I ∧ (0 ≤ x ∧ x < I 2 0) ∧ 0 ≤ y ∧ y < I 2 0) ∧ (Q (some (vi (minF I x y))) (I, J, PP b)))) ∧ (¬ (¬ z = 0) → ((rTown 0 92 I ∧ (0 ≤ x ∧ x < I 2 0) ∧ 0 ≤ y ∧ y < I 2 0) ∧ (Q (some (vi (wayF I x y))) (I, J, PP b)))))) ∧ (¬ ((0 : Int) ≤ z ∧ z ≤ (1 : Int)) → (Q (some (vi (-1))) (I, J, PP b))))) ∧ (¬ (0 ≤ y ∧ y < (I 92 3)) → (Q (some (vi (-1))) (I, J, PP b)))))) ∧ (¬ (0 ≤ x ∧ x < (I 92 3)) → (Q (some (vi (-1))) (I, J, PP b))))) : Tri G h 196 119 119 0 [some (vr 91), some (vi x), some (vi y), some (vi z)] [] (I, J, PP b) Q := wp_at ck196 [] 400 (sx185 (by omega) H.1 (fun q359 => And.intro (fun z => absurd z (show ¬ ((1 : Int) = (0 : Int)) by decide)) (fun _ => sx185 (by omega) (H.2.1 q359).1 (fun q361 => And.intro (fun z => absurd z (show ¬ ((1 : Int) = (0 : Int)) by decide)) (fun _ => sx181 (by omega)  (fun q363 => And.intro (fun _ => And.intro (fun q365 => sx195 (by omega) (((((H.2.1 q359).2).1 q361).1 q363).1 q365).1 ((((((H.2.1 q359).2).1 q361).1 q363).1 q365).2)) (fun q366 => sx194 (by omega) (((((H.2.1 q359).2).1 q361).1 q363).2 q366).1 ((((((H.2.1 q359).2).1 q361).1 q363).2 q366).2))) (fun z => absurd (show ¬ (1 : Int) = (0 : Int) by decide) z)) (fun q364 => And.intro (fun z => absurd z (show ¬ (¬ (0 : Int) = (0 : Int)) by decide)) (fun _ => (((H.2.1 q359).2).1 q361).2 q364)))) (fun q362 => And.intro (fun _ => ((H.2.1 q359).2).2 q362) (fun z => absurd (show (0 : Int) = (0 : Int) by decide) z)))) (fun q360 => And.intro (fun _ => H.2.2 q360) (fun z => absurd (show (0 : Int) = (0 : Int) by decide) z)))
theorem y196_m {G : Ctx} {h : Nat} {Q : MP} {I : Nat → Nat → Int} {J : Nat → Nat → BitVec 64} {b : B3} {x y z : Int} (hh : 4 ≤ h) (H : ∀ h, 3 ≤ h → Tri G h 196 119 119 0 [some (vr 91), some (vi x), some (vi y), some (vi z)] [] (I, J, PP b) Q) : TriM G h 196 119 119 [vr 91, vi x, vi y, vi z] (I, J, PP b) Q := TriM_intro (h - 1) (by omega) (by decide) (Nat.le_of_ble_eq_true rfl) (Nat.le_refl _) (Nat.le_refl _) (H (h - 1) (by omega))
section PUBC
variable {G : Ctx} {h n : Nat} {I : MI} {J : MJ} {b : B3} {x y z v : Int}
theorem pub_way (hI : INV n I J) (hn : n < 64) (hh : 40 ≤ h) : PairI G h 141 196 [vi x, vi y, vi z] (n + 1) I J b := by
  have hI2 := hI.suc hn
  have hT : rTown 0 92 I := by
    obtain ⟨p0, p1, p2, ⟨a1, a2, a3, a4, a5⟩, -⟩ := hI
    exact a1
  have d1 := hT.1
  simp only [Nat.reduceAdd] at d1
  have key : ∀ w : Int, ((0 ≤ x ∧ x < I 2 0) ∧ (0 ≤ y ∧ y < I 2 0) ∧ z = 0 ∧ w = wayF I x y ∨ (0 ≤ x ∧ x < I 2 0) ∧ (0 ≤ y ∧ y < I 2 0) ∧ z = 1 ∧ w = minF I x y ∨ ¬ ((0 ≤ x ∧ x < I 2 0) ∧ (0 ≤ y ∧ y < I 2 0) ∧ 0 ≤ z ∧ z ≤ 1) ∧ w = -1) → cIN (fun x_1 I1 J1 b1 => TriM G h 196 119 119 [vr 91, vi x, vi y, vi z] (I1, J1, PP b1) (cIN fun y I2 J2 _ => x_1 = y ∧ INV (n + 1) I2 J2)) (some (vi w)) (I, J, PP b) := by
    intro w hw
    refine cIN_r fun _ => y196_m (by omega) (fun h2 _ => y196 (by omega) ?_)
    refine ⟨by omega, fun q1 => ⟨by omega, fun q2 => ⟨fun q3 => ⟨fun q4 => ⟨⟨hT, by omega, by omega⟩, cIN_r fun _ => ⟨?_, hI2⟩⟩, fun q4 => ⟨⟨hT, by omega, by omega⟩, cIN_r fun _ => ⟨?_, hI2⟩⟩⟩, fun q3 => cIN_r fun _ => ⟨?_, hI2⟩⟩, fun q2 => cIN_r fun _ => ⟨?_, hI2⟩⟩, fun q1 => cIN_r fun _ => ⟨?_, hI2⟩⟩
    all_goals omega
  refine y141_m (by omega) (fun h2 _ => y141 (by omega) ?_)
  exact ⟨fun q1 => ⟨fun q2 => ⟨⟨fun q3 => ⟨⟨hT, q1, q2⟩, key _ (by omega)⟩, fun q3 => ⟨⟨hT, q1, q2⟩, key _ (by omega)⟩, trivial⟩, fun q3 q4 => key _ (by omega)⟩, fun q2 => key _ (by omega)⟩, fun q1 => key _ (by omega)⟩
theorem pub_gap (hI : INV n I J) (hn : n < 64) (hh : 40 ≤ h) : PairI G h 139 192 [vi x, vi y, vi z] (n + 1) I J b := by
  have hI2 := hI.suc hn
  have no : ¬ ((0 ≤ x ∧ x < 12) ∧ (0 ≤ y ∧ y < 12) ∧ ¬ x = y ∧ 0 ≤ z ∧ z < 1000) → cIN (fun x_1 I1 J1 b1 => TriM G h 192 119 119 [vr 91, vi x, vi y, vi z] (I1, J1, PP b1) (cIN fun y I2 J2 _ => x_1 = y ∧ INV (n + 1) I2 J2)) (some (vi 0)) (I, J, PP b) := by
    intro hx
    refine cIN_r fun _ => x192_m (by omega) (fun h2 _ => x192 (by omega) ?_)
    exact ⟨fun q1 => ⟨fun q2 => ⟨fun q3 => cIN_r fun _ => ⟨rfl, hI2⟩, fun q3 => ⟨fun q4 => absurd ⟨q1, q2, q3, by omega⟩ hx, fun q4 => cIN_r fun _ => ⟨rfl, hI2⟩⟩⟩, fun q2 => cIN_r fun _ => ⟨rfl, hI2⟩⟩, fun q1 => cIN_r fun _ => ⟨rfl, hI2⟩⟩
  have yes : ((0 ≤ x ∧ x < 12) ∧ (0 ≤ y ∧ y < 12) ∧ ¬ x = y ∧ 0 ≤ z ∧ z < 1000) → cIN (fun x_1 I1 J1 b1 => TriM G h 192 119 119 [vr 91, vi x, vi y, vi z] (I1, J1, PP b1) (cIN fun y I2 J2 _ => x_1 = y ∧ INV (n + 1) I2 J2)) (some (vi 1)) (u2 (u2 (u2 I 6 (x * 12 + y).toNat z) 6 (y * 12 + x).toNat z) 72 3 1, u1 (u1 J 70 (fun j => if j < 224 then (0#64) else J 70 j)) 71 (fun j => if j < 224 then (0#64) else J 71 j), PP b) := by
    intro ⟨c1, c2, c3, c4⟩
    refine cIN_r fun _ => x192_m (by omega) (fun h2 _ => x192 (by omega) ?_)
    simp (disch := omega) only [w32_id]
    refine ⟨fun q1 => ⟨fun q2 => ⟨fun q3 => absurd q3 c3, fun q3 => ⟨fun q4 => ⟨by omega, by omega, cIN_r fun _ => ⟨rfl, ?_⟩⟩, fun q4 => absurd (show 0 ≤ z ∧ z ≤ 999 by omega) q4⟩⟩, fun q2 => absurd c2 q2⟩, fun q1 => absurd c1 q1⟩
    obtain ⟨p0, p1, p2, ⟨a1, a2, a3, a4, a5⟩, ⟨t0, t1, t2⟩, hl, hp, htp, hf, ⟨k1, k2, k3⟩, hc, hcc⟩ := hI.suc hn
    have ht : rTown 0 92 (u2 (u2 (u2 (u2 (u2 I 6 (x * 12 + y).toNat z) 6 (y * 12 + x).toNat z) 72 3 1) 92 (70 + 12 * x + y).toNat z) 92 (70 + 12 * y + x).toNat z) := by
      obtain ⟨d1, d2, d3, d4, d5⟩ := a1
      simp only [Nat.reduceAdd] at d1 d2 d3 d4 d5
      refine ⟨?_, ?_, ?_, fun e e1 e2 => ?_, fun i j i1 i2 j1 j2 hij => ?_⟩
      · simp (disch := omega) only [Nat.reduceAdd, u2n, u2j, u2e, and_true, true_and]; omega
      · simp (disch := omega) only [Nat.reduceAdd, u2n, u2j, u2e, and_true, true_and]; omega
      · simp (disch := omega) only [Nat.reduceAdd, u2n, u2j, u2e, and_true, true_and]; omega
      · simp (disch := omega) only [Nat.reduceAdd, u2n, u2j, u2e, and_true, true_and] at e2
        simp (disch := omega) only [Nat.reduceAdd, u2n, u2j, u2e, and_true, true_and]
        exact d4 e e1 e2
      · by_cases h1 : i = x ∧ j = y
        · obtain ⟨h1, h2⟩ := h1
          subst h1 h2
          simp (disch := omega) only [Nat.reduceAdd, u2n, u2j, u2e, and_true, true_and]
          omega
        · by_cases h2 : i = y ∧ j = x
          · obtain ⟨h1, h2⟩ := h2
            subst h1 h2
            simp (disch := omega) only [Nat.reduceAdd, u2n, u2j, u2e, and_true, true_and]
            omega
          · simp (disch := omega) only [Nat.reduceAdd, u2n, u2j, u2e, and_true, true_and]
            exact d5 i j i1 i2 j1 j2 hij
    refine ⟨p0, p1, p2, ⟨ht, a2.fr ?_ ?_ ?_ ?_ ?_ ?_ ?_ ?_, a3.fr ?_ ?_ ?_ ?_ ?_, a4.fr ?_ ?_ ?_ ?_ ?_ ?_, ?_⟩, ⟨t0.fr ?_ ?_ ?_, t1.fr ?_ ?_ ?_, t2.fr ?_ ?_ ?_⟩, likI.st (fun j hj => by simp (disch := omega) only [u1n, u1e]; rw [if_pos hj]) (fun j hj => by simp (disch := omega) only [u1n, u1e]; rw [if_pos hj]), perI.st (by simp (disch := omega) only [u2n, u2j, u2e]), htp.fr ?_ ?_ ?_ ?_, ?_, ⟨?_, ?_, fun q => (k3 ?_).fr ?_ ?_⟩, hc, ?_⟩
    all_goals first
      | (simp (disch := decide) only [u2_ne, u1_ne]; done)
      | (intro j hj; simp (disch := omega) only [u2n, u2j, u1n]; done)
      | (simp (disch := omega) only [u2n, u2j, u2e, u1n]; first | done | omega | assumption | exact Int.le_refl _)
      | (intro k hk; simp (disch := omega) only [u2_ne, u1_ne]; done)
      | (simp (disch := omega) only [u2n, u2j, u2e] at q; exact q)
      | rfl
  refine x139_m (by omega) (fun h2 _ => x139 (by omega) ?_)
  refine ⟨fun q1 => ⟨fun q2 => ⟨fun q3 => no (by omega), fun q3 => ⟨fun q4 => ⟨fun _ => ⟨fun _ => ?_, fun q => absurd q2 q⟩, fun q => absurd q1 q⟩, fun q4 => no (by omega)⟩⟩, fun q2 => no (by omega)⟩, fun q1 => no (by omega)⟩
  simp (disch := omega) only [w32_id]
  exact ⟨by omega, by omega, yes ⟨q1, q2, q3, q4⟩⟩
end PUBC
