section PUBB
variable {G : Ctx} {h n : Nat} {I : MI} {J : MJ} {b : B3} {x y z v : Int}
theorem pub_voids (hI : INV n I J) (hn : n < 64) (hh : 40 ≤ h) : PairI G h 149 223 [vi x] (n + 1) I J b := by
  have hB : rBook 0 92 I := by
    obtain ⟨p0, p1, p2, ⟨a1, a2, a3, a4, a5⟩, -⟩ := hI
    exact a2
  have hcn : I 7 1 ≤ n := by
    obtain ⟨p0, p1, p2, -, -, -, -, -, -, -, -, hcc⟩ := hI
    exact hcc.1
  obtain ⟨b1, b2, b3, b4⟩ := hB
  simp only [Nat.reduceAdd] at b1 b2 b3 b4
  have no : ¬ ((0 ≤ x ∧ x < I 7 0) ∧ I 10 x.toNat = -1) → ∀ w : Int, w = 0 → cIN (fun x_1 I1 J1 b1 => TriM G h 223 119 119 [vr 91, vi x] (I1, J1, PP b1) (cIN fun y I2 J2 _ => x_1 = y ∧ INV (n + 1) I2 J2)) (some (vi w)) (I, J, PP b) := by
    intro hx w hw
    subst hw
    refine cIN_r fun _ => x223_m (by omega) (fun h2 _ => x223 (by omega) ?_)
    refine ⟨by omega, fun q => ⟨by omega, fun q2 => ?_, fun q2 => cIN_r fun _ => ⟨rfl, hI.suc hn⟩⟩, fun q => cIN_r fun _ => ⟨rfl, hI.suc hn⟩⟩
    have e4 := (b4 x (by omega) (by omega)).2.2.2.1
    simp only [Nat.reduceAdd] at e4
    exact absurd (show (0 ≤ x ∧ x < I 7 0) ∧ I 10 x.toNat = -1 by omega) hx
  have yes : (0 ≤ x ∧ x < I 7 0) ∧ I 10 x.toNat = -1 → cIN (fun x_1 I1 J1 b1 => TriM G h 223 119 119 [vr 91, vi x] (I1, J1, PP b1) (cIN fun y I2 J2 _ => x_1 = y ∧ INV (n + 1) I2 J2)) (some (vi 1)) (u2 (u2 (u2 I 7 1 (w32 (I 7 1 + 1))) 10 x.toNat (w32 (I 7 1 + 1))) 72 3 1, J, PP b) := by
    intro hx
    have e4 := (b4 x (by omega) (by omega)).2.2.2.1
    simp only [Nat.reduceAdd] at e4
    refine cIN_r fun _ => x223_m (by omega) (fun h2 _ => x223 (by omega) ?_)
    simp (disch := omega) only [u2n, w32_id]
    refine ⟨by omega, fun q => ⟨by omega, fun q2 => ⟨by omega, cIN_r fun _ => ⟨rfl, ?_⟩⟩, fun q2 => absurd (show I 92 (450 + 17 * x + 7).toNat ≤ 0 by omega) q2⟩, fun q => absurd (show 0 ≤ x ∧ x < I 92 4 by omega) q⟩
    obtain ⟨p0, p1, p2, ⟨a1, a2, a3, a4, a5⟩, ⟨t0, t1, t2⟩, hl, hp, htp, hf, ⟨k1, k2, k3⟩, hc, hcc⟩ := hI.suc hn
    have ht : rBook 0 92 (u2 (u2 (u2 (u2 (u2 I 7 1 (I 7 1 + 1)) 10 x.toNat (I 7 1 + 1)) 72 3 1) 92 5 (I 92 5 + 1)) 92 (450 + 17 * x + 7).toNat (I 92 5 + 1)) := by
      refine ⟨?_, ?_, ?_, fun e e1 e2 => ?_⟩
      · simp (disch := omega) only [Nat.reduceAdd, u2n, u2j, u2e, and_true, true_and]; omega
      · simp (disch := omega) only [Nat.reduceAdd, u2n, u2j, u2e, and_true, true_and]; omega
      · simp (disch := omega) only [Nat.reduceAdd, u2n, u2j, u2e, and_true, true_and]; omega
      · simp (disch := omega) only [Nat.reduceAdd, u2n, u2j, u2e, and_true, true_and] at e2
        by_cases he : e = x
        · subst he
          obtain ⟨c1, c2, c3, c4, c5, c6⟩ := b4 e e1 e2
          unfold rEnt
          simp only [Nat.reduceAdd] at c1 c2 c3 c5 c6
          simp (disch := omega) only [Nat.reduceAdd, u2n, u2j, u2e, and_true, true_and]
          refine ⟨c1, c2, ⟨c3.1, c3.2.1, by omega⟩, Or.inr ⟨by omega, by omega, by omega⟩, c5, fun k q1 q2 => ?_⟩
          simp (disch := omega) only [Nat.reduceAdd, u2n, u2j, u2e, and_true, true_and]
          exact c6 k q1 q2
        · refine (b4 e e1 e2).fr e1 (by omega) ?_ ?_ (fun j => Or.inl ?_) ?_ ?_ ?_ (fun j => Or.inl ?_) (fun j hj => ?_)
          all_goals simp (disch := omega) only [Nat.reduceAdd, u2n, u2j, u2e, and_true, true_and]
          all_goals first | done | omega | exact Int.le_refl _
    refine ⟨p0, p1, p2, ⟨a1.fr ?_ ?_ ?_ ?_ ?_ ?_, ht, a3.fr ?_ ?_ ?_ ?_ ?_, a4.fr ?_ ?_ ?_ ?_ ?_ ?_, ?_⟩, ⟨t0.fr ?_ ?_ ?_, t1.fr ?_ ?_ ?_, t2.fr ?_ ?_ ?_⟩, hl.fr ?_ ?_ ?_ ?_ ?_ ?_ ?_ ?_ ?_, perI.st (by simp (disch := omega) only [u2n, u2j, u2e]), htp.fr ?_ ?_ ?_ ?_, ?_, ⟨?_, ?_, fun q => (k3 ?_).fr ?_ ?_⟩, hc, ⟨by simp (disch := omega) only [u2n, u2j, u2e]; omega, by simp (disch := omega) only [u2n, u2j, u2e]; exact hcc.2.1, hcc.2.2⟩⟩
    all_goals first
      | (simp (disch := decide) only [u2_ne, u1_ne]; done)
      | (intro j hj; simp (disch := omega) only [u2n, u2j, u1n]; done)
      | (simp (disch := omega) only [u2n, u2j, u2e, u1n]; first | done | omega | assumption | exact Int.le_refl _)
      | (intro k hk; simp (disch := omega) only [u2_ne, u1_ne]; done)
      | (simp (disch := omega) only [u2n, u2j, u2e] at q; exact q)
      | rfl
  refine x149_m (by omega) (fun h2 _ => x149 (by omega) ?_)
  refine ⟨fun q => ⟨fun q2 => ⟨by omega, fun q3 => ⟨fun q4 => ⟨by omega, yes ⟨q, q3⟩⟩, fun q4 => absurd q q4⟩, fun q3 => no (by omega) _ rfl⟩, fun q2 => absurd q q2⟩, fun q => no (by omega) _ rfl⟩
theorem pub_step (hI : INV n I J) (hn : n < 64) (hh : 40 ≤ h) : PairI G h 161 253 [vi x, vi y, vi z] (n + 1) I J b := by
  obtain ⟨hT, hR⟩ : rTown 0 92 I ∧ rRound 0 92 I := by
    obtain ⟨p0, p1, p2, ⟨a1, a2, a3, a4, a5⟩, -⟩ := hI
    exact ⟨a1, a3⟩
  have d1 := hT.1
  obtain ⟨b1, b2⟩ := hR
  simp only [Nat.reduceAdd] at d1 b1 b2
  have no : ¬ ((0 ≤ x ∧ x ≤ I 22 0 ∧ x < 24) ∧ (0 ≤ y ∧ y < I 2 0) ∧ 0 ≤ z ∧ z < 1440) → ∀ w : Int, w = -1 → cIN (fun x_1 I1 J1 b1 => TriM G h 253 119 119 [vr 91, vi x, vi y, vi z] (I1, J1, PP b1) (cIN fun y I2 J2 _ => x_1 = y ∧ INV (n + 1) I2 J2)) (some (vi w)) (I, J, PP b) := by
    intro hx w hw
    subst hw
    refine cIN_r fun _ => x253_m (by omega) (fun h2 _ => x253 (by omega) ?_)
    refine ⟨fun q => ⟨fun q2 => cIN_r fun _ => ⟨rfl, hI.suc hn⟩, fun q2 => ⟨by omega, fun q3 => ⟨fun q4 => absurd (show (0 ≤ x ∧ x ≤ I 22 0 ∧ x < 24) ∧ (0 ≤ y ∧ y < I 2 0) ∧ 0 ≤ z ∧ z < 1440 by omega) hx, fun q4 => cIN_r fun _ => ⟨rfl, hI.suc hn⟩⟩, fun q3 => cIN_r fun _ => ⟨rfl, hI.suc hn⟩⟩⟩, fun q => cIN_r fun _ => ⟨rfl, hI.suc hn⟩⟩
  refine x161_m (by omega) (fun h2 _ => x161 (by omega) ?_)
  refine ⟨fun q => no (by omega) _ rfl, fun q => ⟨fun q2 => no (by omega) _ rfl, fun q2 => ⟨fun q3 => no (by omega) _ rfl, fun q3 => ⟨fun q4 => ⟨fun q5 => ⟨fun q6 => ⟨q6, q6, ?_⟩, fun q6 => absurd (show 0 ≤ x ∧ x < 24 by omega) q6⟩, fun q5 => no (by omega) _ rfl⟩, fun q4 => no (by omega) _ rfl⟩⟩⟩⟩
  simp (disch := omega) only [w32_id]
  refine cIN_r fun _ => x253_m (by omega) (fun h2 _ => x253 (by omega) ?_)
  simp (disch := omega) only [u2n, w32_id]
  refine ⟨fun p1 => ⟨fun p2 => by omega, fun p2 => ⟨by omega, fun p3 => ⟨fun p4 => ⟨by omega, by omega, cIN_r fun _ => ⟨rfl, ?_⟩⟩, fun p4 => by omega⟩, fun p3 => by omega⟩⟩, fun p1 => by omega⟩
  obtain ⟨p0, p1, p2, ⟨a1, a2, a3, a4, a5⟩, ⟨t0, t1, t2⟩, hl, hp, htp, hf, ⟨k1, k2, k3⟩, hc, hcc⟩ := hI.suc hn
  have ht : rRound 0 92 (u2 (u2 (u2 (u2 (u2 (u2 I 23 x.toNat y) 24 x.toNat z) 22 0 (x + 1)) 92 (400 + 2 * x).toNat y) 92 (400 + 2 * x + 1).toNat z) 92 7 (x + 1)) := by
    refine ⟨?_, fun i i1 i2 => ?_⟩
    · simp (disch := omega) only [Nat.reduceAdd, u2n, u2j, u2e, and_true, true_and]; omega
    · simp (disch := omega) only [Nat.reduceAdd, u2n, u2j, u2e, and_true, true_and] at i2 ⊢
      by_cases he : i = x
      · subst he
        simp (disch := omega) only [Nat.reduceAdd, u2n, u2j, u2e, and_true, true_and]
        omega
      · simp (disch := omega) only [Nat.reduceAdd, u2n, u2j, u2e, and_true, true_and]
        exact b2 i i1 (by omega)
  refine ⟨p0, p1, p2, ⟨a1.fr ?_ ?_ ?_ ?_ ?_ ?_, a2.fr ?_ ?_ ?_ ?_ ?_ ?_ ?_ ?_, ht, a4.fr ?_ ?_ ?_ ?_ ?_ ?_, ?_⟩, ⟨t0.fr ?_ ?_ ?_, t1.fr ?_ ?_ ?_, t2.fr ?_ ?_ ?_⟩, hl.fr ?_ ?_ ?_ ?_ ?_ ?_ ?_ ?_ ?_, hp.fr ?_ ?_ ?_ ?_ ?_ ?_ ?_ ?_ ?_ ?_ ?_ ?_ ?_ ?_ ?_, htp.fr ?_ ?_ ?_ ?_, ?_, ⟨?_, ?_, fun q => (k3 ?_).fr ?_ ?_⟩, hc, ?_⟩
  all_goals first
    | (simp (disch := decide) only [u2_ne, u1_ne]; done)
    | (intro j hj; simp (disch := omega) only [u2n, u2j, u1n]; done)
    | (simp (disch := omega) only [u2n, u2j, u2e, u1n]; first | done | omega | assumption | exact Int.le_refl _)
    | (intro k hk; simp (disch := omega) only [u2_ne, u1_ne]; done)
    | (simp (disch := omega) only [u2n, u2j, u2e] at q; exact q)
    | rfl
theorem pub_closed (hI : INV n I J) (hn : n < 64) (hh : 40 ≤ h) (hz : z = 0 ∨ z = 1) : PairI G h 164 258 [vi x, vi y, vi z] (n + 1) I J b := by
  have no : ¬ ((0 ≤ x ∧ x < 5) ∧ 0 ≤ y ∧ y < 4) → ∀ w : Int, w = 0 → cIN (fun x_1 I1 J1 b1 => TriM G h 258 119 119 [vr 91, vi x, vi y, vi z] (I1, J1, PP b1) (cIN fun y I2 J2 _ => x_1 = y ∧ INV (n + 1) I2 J2)) (some (vi w)) (I, J, PP b) := by
    intro hx w hw
    subst hw
    refine cIN_r fun _ => x258_m (by omega) (fun h2 _ => x258 (by omega) ?_)
    refine ⟨fun q => ⟨fun q2 => absurd (show (0 ≤ x ∧ x < 5) ∧ 0 ≤ y ∧ y < 4 by omega) hx, fun q2 => cIN_r fun _ => ⟨rfl, hI.suc hn⟩⟩, fun q => cIN_r fun _ => ⟨rfl, hI.suc hn⟩⟩
  refine x164_m (by omega) (fun h2 _ => x164 (by omega) ?_)
  refine ⟨fun q => ⟨fun q2 => ⟨fun _ => ⟨fun _ => ?_, fun q3 => absurd q2 q3⟩, fun q3 => absurd q q3⟩, fun q2 => no (by omega) _ rfl⟩, fun q => no (by omega) _ rfl⟩
  simp (disch := omega) only [w32_id]
  refine ⟨by omega, hz, cIN_r fun _ => x258_m (by omega) (fun h2 _ => x258 (by omega) ?_)⟩
  simp (disch := omega) only [w32_id]
  have fin : INV (n + 1) (u2 (u2 I 28 (x * 4 + y).toNat z) 92 (21 + 4 * x + y).toNat z) J := by
    obtain ⟨p0, p1, p2, ⟨a1, a2, a3, a4, a5⟩, ⟨t0, t1, t2⟩, hl, hp, htp, hf, ⟨k1, k2, k3⟩, hc, hcc⟩ := hI.suc hn
    have ht : rLast 0 92 (u2 (u2 I 28 (x * 4 + y).toNat z) 92 (21 + 4 * x + y).toNat z) := by
      unfold rLast at a4 ⊢
      simp (disch := omega) only [Nat.reduceAdd, u2n, u2j, u2e, and_true, true_and] at a4 ⊢
      refine ⟨a4.1, a4.2.1, fun i i1 i2 => ?_, fun i i1 i2 => ?_, fun i d i1 i2 d1 d2 => ?_, fun i d i1 i2 d1 d2 => ?_⟩
      · simp (disch := omega) only [Nat.reduceAdd, u2n, u2j, u2e, and_true, true_and]; exact a4.2.2.1 i i1 i2
      · simp (disch := omega) only [Nat.reduceAdd, u2n, u2j, u2e, and_true, true_and]; exact a4.2.2.2.1 i i1 i2
      · by_cases he : i = x ∧ d = y
        · obtain ⟨rfl, rfl⟩ := he
          simp (disch := omega) only [Nat.reduceAdd, u2n, u2j, u2e, and_true, true_and]
          omega
        · simp (disch := omega) only [Nat.reduceAdd, u2n, u2j, u2e, and_true, true_and]; exact a4.2.2.2.2.1 i d i1 i2 d1 d2
      · simp (disch := omega) only [Nat.reduceAdd, u2n, u2j, u2e, and_true, true_and]; exact a4.2.2.2.2.2 i d i1 i2 d1 d2
    refine ⟨p0, p1, p2, ⟨a1.fr ?_ ?_ ?_ ?_ ?_ ?_, a2.fr ?_ ?_ ?_ ?_ ?_ ?_ ?_ ?_, a3.fr ?_ ?_ ?_ ?_ ?_, ht, ?_⟩, ⟨t0.fr ?_ ?_ ?_, t1.fr ?_ ?_ ?_, t2.fr ?_ ?_ ?_⟩, hl.fr ?_ ?_ ?_ ?_ ?_ ?_ ?_ ?_ ?_, hp.fr ?_ ?_ ?_ ?_ ?_ ?_ ?_ ?_ ?_ ?_ ?_ ?_ ?_ ?_ ?_, htp.fr ?_ ?_ ?_ ?_, ?_, ⟨?_, ?_, fun q => (k3 ?_).fr ?_ ?_⟩, hc, ?_⟩
    all_goals first
      | (simp (disch := decide) only [u2_ne, u1_ne]; done)
      | (intro j hj; simp (disch := omega) only [u2n, u2j, u1n]; done)
      | (simp (disch := omega) only [u2n, u2j, u2e, u1n]; first | done | omega | assumption | exact Int.le_refl _)
      | (intro k hk; simp (disch := omega) only [u2_ne, u1_ne]; done)
      | (simp (disch := omega) only [u2n, u2j, u2e] at q; exact q)
      | rfl
  refine ⟨fun p1 => ⟨fun p2 => ⟨fun p3 => ⟨by omega, cIN_r fun _ => ⟨rfl, ?_⟩⟩, fun p3 => ⟨by omega, cIN_r fun _ => ⟨rfl, ?_⟩⟩⟩, fun p2 => by omega⟩, fun p1 => by omega⟩
  · rw [p3] at fin ⊢; exact fin
  · rw [show z = 1 by omega] at fin ⊢; exact fin
theorem pub_plan (hI : INV n I J) (hn : n < 64) (hh : 40 ≤ h) : PairI G h 165 259 [vi x, vi y, vi z] (n + 1) I J b := by
  have no : ¬ ((0 ≤ x ∧ x < 6) ∧ (0 ≤ y ∧ y < 4) ∧ -1 ≤ z ∧ z < 5) → ∀ w : Int, w = 0 → cIN (fun x_1 I1 J1 b1 => TriM G h 259 119 119 [vr 91, vi x, vi y, vi z] (I1, J1, PP b1) (cIN fun y I2 J2 _ => x_1 = y ∧ INV (n + 1) I2 J2)) (some (vi w)) (I, J, PP b) := by
    intro hx w hw
    subst hw
    refine cIN_r fun _ => x259_m (by omega) (fun h2 _ => x259 (by omega) ?_)
    refine ⟨fun q => ⟨fun q2 => ⟨fun q3 => absurd (show (0 ≤ x ∧ x < 6) ∧ (0 ≤ y ∧ y < 4) ∧ -1 ≤ z ∧ z < 5 by omega) hx, fun q3 => cIN_r fun _ => ⟨rfl, hI.suc hn⟩⟩, fun q2 => cIN_r fun _ => ⟨rfl, hI.suc hn⟩⟩, fun q => cIN_r fun _ => ⟨rfl, hI.suc hn⟩⟩
  have yes : (0 ≤ x ∧ x < 6) ∧ (0 ≤ y ∧ y < 4) ∧ -1 ≤ z ∧ z < 5 → cIN (fun x_1 I1 J1 b1 => TriM G h 259 119 119 [vr 91, vi x, vi y, vi z] (I1, J1, PP b1) (cIN fun y I2 J2 _ => x_1 = y ∧ INV (n + 1) I2 J2)) (some (vi 1)) (u2 I 29 (w32 (w32 (x * 4) + y)).toNat z, J, PP b) := by
    intro hx
    simp (disch := omega) only [w32_id]
    refine cIN_r fun _ => x259_m (by omega) (fun h2 _ => x259 (by omega) ?_)
    simp (disch := omega) only [w32_id]
    refine ⟨fun p1 => ⟨fun p2 => ⟨fun p3 => ⟨by omega, cIN_r fun _ => ⟨rfl, ?_⟩⟩, fun p3 => by omega⟩, fun p2 => by omega⟩, fun p1 => by omega⟩
    obtain ⟨p0, p1, p2, ⟨a1, a2, a3, a4, a5⟩, ⟨t0, t1, t2⟩, hl, hp, htp, hf, ⟨k1, k2, k3⟩, hc, hcc⟩ := hI.suc hn
    have ht : rLast 0 92 (u2 (u2 I 29 (x * 4 + y).toNat z) 92 (41 + 4 * x + y).toNat z) := by
      unfold rLast at a4 ⊢
      simp (disch := omega) only [Nat.reduceAdd, u2n, u2j, u2e, and_true, true_and] at a4 ⊢
      refine ⟨a4.1, a4.2.1, fun i i1 i2 => ?_, fun i i1 i2 => ?_, fun i d i1 i2 d1 d2 => ?_, fun i d i1 i2 d1 d2 => ?_⟩
      · simp (disch := omega) only [Nat.reduceAdd, u2n, u2j, u2e, and_true, true_and]; exact a4.2.2.1 i i1 i2
      · simp (disch := omega) only [Nat.reduceAdd, u2n, u2j, u2e, and_true, true_and]; exact a4.2.2.2.1 i i1 i2
      · simp (disch := omega) only [Nat.reduceAdd, u2n, u2j, u2e, and_true, true_and]; exact a4.2.2.2.2.1 i d i1 i2 d1 d2
      · by_cases he : i = x ∧ d = y
        · obtain ⟨rfl, rfl⟩ := he
          simp (disch := omega) only [Nat.reduceAdd, u2n, u2j, u2e, and_true, true_and]
          omega
        · simp (disch := omega) only [Nat.reduceAdd, u2n, u2j, u2e, and_true, true_and]; exact a4.2.2.2.2.2 i d i1 i2 d1 d2
    refine ⟨p0, p1, p2, ⟨a1.fr ?_ ?_ ?_ ?_ ?_ ?_, a2.fr ?_ ?_ ?_ ?_ ?_ ?_ ?_ ?_, a3.fr ?_ ?_ ?_ ?_ ?_, ht, ?_⟩, ⟨t0.fr ?_ ?_ ?_, t1.fr ?_ ?_ ?_, t2.fr ?_ ?_ ?_⟩, hl.fr ?_ ?_ ?_ ?_ ?_ ?_ ?_ ?_ ?_, hp.fr ?_ ?_ ?_ ?_ ?_ ?_ ?_ ?_ ?_ ?_ ?_ ?_ ?_ ?_ ?_, htp.fr ?_ ?_ ?_ ?_, ?_, ⟨?_, ?_, fun q => (k3 ?_).fr ?_ ?_⟩, hc, ?_⟩
    all_goals first
      | (simp (disch := decide) only [u2_ne, u1_ne]; done)
      | (intro j hj; simp (disch := omega) only [u2n, u2j, u1n]; done)
      | (simp (disch := omega) only [u2n, u2j, u2e, u1n]; first | done | omega | assumption | exact Int.le_refl _)
      | (intro k hk; simp (disch := omega) only [u2_ne, u1_ne]; done)
      | (simp (disch := omega) only [u2n, u2j, u2e] at q; exact q)
      | rfl
  refine x165_m (by omega) (fun h2 _ => x165 (by omega) ?_)
  repeat' (first | apply And.intro | intro _)
  all_goals first
    | exact no (by omega) _ rfl
    | exact yes (by omega)
    | (simp (disch := omega) only [w32_id]; omega)
    | omega
end PUBB
