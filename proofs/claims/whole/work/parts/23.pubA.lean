/-! PUBLIC CALLS, first: a pair of calls, one on each side, gives one answer and keeps INV -/
def PairI (G : Ctx) (h c d : Nat) (av : List MV) (n : Nat) (I : MI) (J : MJ) (b : B3) : Prop := TriM G h c 119 119 (vr 0 :: av) (I, J, PP b) (cIN fun x I1 J1 b1 => TriM G h d 119 119 (vr 91 :: av) (I1, J1, PP b1) (cIN fun y I2 J2 _ => x = y ∧ INV n I2 J2))
def PairJ (G : Ctx) (h c d : Nat) (av : List MV) (n : Nat) (I : MI) (J : MJ) (b : B3) : Prop := TriM G h c 119 119 (vr 0 :: av) (I, J, PP b) (cJN fun x I1 J1 b1 => TriM G h d 119 119 (vr 91 :: av) (I1, J1, PP b1) (cJN fun y I2 J2 _ => x = y ∧ INV n I2 J2))
section PUBA
variable {G : Ctx} {h n : Nat} {I : MI} {J : MJ} {b : B3} {x y z v : Int}
theorem pub_state (hI : INV n I J) (hn : n < 64) (hh : 40 ≤ h) : PairI G h 137 183 [vi v] (n + 1) I J b := by
  refine x137_m (by omega) (fun h2 _ => x137 (Nat.zero_le _) (cIN_r fun _ => ?_))
  refine x183_m (by omega) (fun h2 _ => x183 (Nat.zero_le _) (cIN_r fun _ => ⟨?_, ?_⟩))
  · obtain ⟨p0, p1, p2, ⟨a1, a2, a3, a4, a5⟩, -⟩ := hI
    rw [u2n (by decide)]
    exact a5.symm
  · obtain ⟨p0, p1, p2, ⟨a1, a2, a3, a4, a5⟩, ⟨t0, t1, t2⟩, hl, hp, htp, hf, ⟨k1, k2, k3⟩, hc, hcc⟩ := hI.suc hn
    refine ⟨p0, p1, p2, ⟨a1.fr ?_ ?_ ?_ ?_ ?_ ?_, a2.fr ?_ ?_ ?_ ?_ ?_ ?_ ?_ ?_, a3.fr ?_ ?_ ?_ ?_ ?_, a4.fr ?_ ?_ ?_ ?_ ?_ ?_, ?_⟩, ⟨t0.fr ?_ ?_ ?_, t1.fr ?_ ?_ ?_, t2.fr ?_ ?_ ?_⟩, hl.fr ?_ ?_ ?_ ?_ ?_ ?_ ?_ ?_ ?_, hp.fr ?_ ?_ ?_ ?_ ?_ ?_ ?_ ?_ ?_ ?_ ?_ ?_ ?_ ?_ ?_, htp.fr ?_ ?_ ?_ ?_, ?_, ⟨?_, ?_, fun q => (k3 ?_).fr ?_ ?_⟩, hc, ?_⟩
    all_goals first
      | (simp (disch := decide) only [u2_ne]; done)
      | (intro j hj; simp (disch := omega) only [u2n, u2j]; done)
      | (simp (disch := omega) only [u2n, u2j, u2e]; first | done | omega | assumption | exact Int.le_refl _)
      | (intro k hk; rw [u2_ne (by omega), u2_ne (by omega)])
      | (simp (disch := omega) only [u2n, u2j, u2e] at q; exact q)
      | rfl
-- more
theorem pub_fault (hI : INV n I J) (hn : n < 64) (hh : 40 ≤ h) : PairI G h 146 219 [vi x] (n + 1) I J b := by
  have hI2 := hI.suc hn
  have key : ∀ w : Int, w = (if x = 0 then I 0 5 else if x = 1 then I 0 6 else -1) → cIN (fun x_1 I1 J1 b1 => TriM G h 219 119 119 [vr 91, vi x] (I1, J1, PP b1) (cIN fun y I2 J2 _ => x_1 = y ∧ INV (n + 1) I2 J2)) (some (vi w)) (I, J, PP b) := by
    intro w hw
    refine cIN_r fun _ => x219_m (by omega) (fun h2 _ => x219 (Nat.zero_le _) ?_)
    have hf : I 91 18 = I 0 5 ∧ I 91 20 = I 0 6 := by
      obtain ⟨p0, p1, p2, -, -, -, -, -, hf, -⟩ := hI
      exact hf
    refine ⟨fun q => ⟨fun q2 => cIN_r fun _ => ⟨?_, hI2⟩, fun q2 => cIN_r fun _ => ⟨?_, hI2⟩⟩, fun q => cIN_r fun _ => ⟨?_, hI2⟩⟩
    · rw [hw, if_neg q, if_neg q2]
    · rw [hw, if_neg q, if_pos (by omega), hf.2]
    · rw [hw, if_pos (by omega), hf.1]
  refine x146_m (by omega) (fun h2 _ => x146 (Nat.zero_le _) ⟨⟨fun q => key _ ?_, fun q => key _ ?_, trivial⟩, fun q q2 => key _ ?_⟩)
  · rw [if_pos q]
  · rw [if_neg (by omega), if_pos q]
  · rw [if_neg q, if_neg q2]
theorem pub_end (hI : INV n I J) (hn : n < 64) (hh : 40 ≤ h) : PairI G h 144 198 [vi x] (n + 1) I J b := by
  have htp0 : (0 ≤ I 0 4 ∧ I 0 4 ≤ 400 ∧ I 91 11 = I 0 4) := by
    obtain ⟨p0, p1, p2, -, -, -, -, htp, -⟩ := hI
    exact htp.1
  have no : ¬ (0 ≤ x ∧ x ≤ I 0 4) → cIN (fun x_1 I1 J1 b1 => TriM G h 198 119 119 [vr 91, vi x] (I1, J1, PP b1) (cIN fun y I2 J2 _ => x_1 = y ∧ INV (n + 1) I2 J2)) (some (vi 0)) (I, J, PP b) := by
    intro hx
    refine cIN_r fun _ => x198_m (by omega) (fun h2 _ => x198 (by omega) ⟨fun q => absurd q (by omega), fun q => cIN_r fun _ => ⟨rfl, hI.suc hn⟩⟩)
  refine x144_m (by omega) (fun h2 _ => x144 (Nat.zero_le _) ⟨fun q => no (by omega), fun q => ⟨fun q2 => ?_, fun q2 => no (by omega)⟩⟩)
  refine cIN_r fun _ => x198_m (by omega) (fun h2 _ => x198 (by omega) ?_)
  simp (disch := omega) only [u2n]
  refine ⟨fun q3 => cIN_r fun _ => ⟨rfl, ?_⟩, fun q3 => absurd (show (0 : Int) ≤ x ∧ x ≤ I 91 11 by omega) q3⟩
  obtain ⟨p0, p1, p2, ⟨a1, a2, a3, a4, a5⟩, ⟨t0, t1, t2⟩, hl, hp, htp, hf, ⟨k1, k2, k3⟩, hc, hcc⟩ := hI.suc hn
  have ht : rTape (u2 (u2 I 0 4 x) 91 11 x) := by
    unfold rTape at htp ⊢
    simp (disch := omega) only [u2n, u2j, u2e, and_true]
    refine ⟨by omega, fun i i1 i2 => htp.2 i i1 (by omega)⟩
  refine ⟨p0, p1, p2, ⟨a1.fr ?_ ?_ ?_ ?_ ?_ ?_, a2.fr ?_ ?_ ?_ ?_ ?_ ?_ ?_ ?_, a3.fr ?_ ?_ ?_ ?_ ?_, a4.fr ?_ ?_ ?_ ?_ ?_ ?_, ?_⟩, ⟨t0.fr ?_ ?_ ?_, t1.fr ?_ ?_ ?_, t2.fr ?_ ?_ ?_⟩, hl.fr ?_ ?_ ?_ ?_ ?_ ?_ ?_ ?_ ?_, hp.fr ?_ ?_ ?_ ?_ ?_ ?_ ?_ ?_ ?_ ?_ ?_ ?_ ?_ ?_ ?_, ht, ?_, ⟨?_, ?_, fun q => (k3 ?_).fr ?_ ?_⟩, hc, ?_⟩
  all_goals first
    | (simp (disch := decide) only [u2_ne, u1_ne]; done)
    | (intro j hj; simp (disch := omega) only [u2n, u2j, u1n]; done)
    | (simp (disch := omega) only [u2n, u2j, u2e, u1n]; first | done | omega | assumption | exact Int.le_refl _)
    | (intro k hk; simp (disch := omega) only [u2_ne, u1_ne]; done)
    | (simp (disch := omega) only [u2n, u2j, u2e] at q; exact q)
    | rfl
theorem pub_set (hI : INV n I J) (hn : n < 64) (hh : 40 ≤ h) : PairI G h 140 193 [vi x, vi y] (n + 1) I J b := by
  have no : ¬ ((0 ≤ x ∧ x < 2) ∧ 0 ≤ y ∧ y < 100) → cIN (fun x_1 I1 J1 b1 => TriM G h 193 119 119 [vr 91, vi x, vi y] (I1, J1, PP b1) (cIN fun y I2 J2 _ => x_1 = y ∧ INV (n + 1) I2 J2)) (some (vi 0)) (I, J, PP b) := by
    intro hx
    refine cIN_r fun _ => x193_m (by omega) (fun h2 _ => x193 (by omega) ⟨fun q => ⟨fun q2 => absurd (show (0 ≤ x ∧ x < 2) ∧ 0 ≤ y ∧ y < 100 by omega) hx, fun q2 => cIN_r fun _ => ⟨rfl, hI.suc hn⟩⟩, fun q => cIN_r fun _ => ⟨rfl, hI.suc hn⟩⟩)
  refine x140_m (by omega) (fun h2 _ => x140 (by omega) ⟨fun q => ⟨fun q2 => ⟨fun q3 => ?_, fun q3 => ?_⟩, fun q2 => no (by omega)⟩, fun q => no (by omega)⟩)
  · obtain rfl : x = 1 := by omega
    refine cIN_r fun _ => x193_m (by omega) (fun h2 _ => x193 (by omega) ⟨fun _ => ⟨fun _ => ⟨by decide, cIN_r fun _ => ⟨rfl, ?_⟩⟩, fun z => absurd (show (0 : Int) ≤ y ∧ y ≤ 99 by omega) z⟩, fun z => absurd (show (0 : Int) ≤ 1 ∧ (1 : Int) ≤ 1 by omega) z⟩)
    rw [show (w32 (1 + 1)).toNat = 2 from rfl]
    obtain ⟨p0, p1, p2, ⟨a1, a2, a3, a4, a5⟩, ⟨t0, t1, t2⟩, hl, hp, htp, hf, ⟨k1, k2, k3⟩, hc, hcc⟩ := hI.suc hn
    have ht : rTown 0 92 (u2 (u2 I 2 2 y) 92 2 y) := by
      unfold rTown at a1 ⊢
      simp (disch := omega) only [Nat.reduceAdd, u2n, u2j, u2e, and_true] at a1 ⊢
      refine ⟨a1.1, a1.2.1, by omega, fun e e1 e2 => ?_, fun x y x1 x2 y1 y2 m => ?_⟩
      · simp (disch := omega) only [u2n, u2j, u2e]; exact a1.2.2.2.1 e e1 e2
      · simp (disch := omega) only [u2n, u2j, u2e]; exact a1.2.2.2.2 x y x1 x2 y1 y2 m
    refine ⟨p0, p1, p2, ⟨ht, a2.fr ?_ ?_ ?_ ?_ ?_ ?_ ?_ ?_, a3.fr ?_ ?_ ?_ ?_ ?_, a4.fr ?_ ?_ ?_ ?_ ?_ ?_, ?_⟩, ⟨t0.fr ?_ ?_ ?_, t1.fr ?_ ?_ ?_, t2.fr ?_ ?_ ?_⟩, hl.fr ?_ ?_ ?_ ?_ ?_ ?_ ?_ ?_ ?_, hp.fr ?_ ?_ ?_ ?_ ?_ ?_ ?_ ?_ ?_ ?_ ?_ ?_ ?_ ?_ ?_, htp.fr ?_ ?_ ?_ ?_, ?_, ⟨?_, ?_, fun q => (k3 ?_).fr ?_ ?_⟩, hc, ?_⟩
    all_goals first
      | (simp (disch := decide) only [u2_ne, u1_ne]; done)
      | (intro j hj; simp (disch := omega) only [u2n, u2j, u1n]; done)
      | (simp (disch := omega) only [u2n, u2j, u2e, u1n]; first | done | omega | assumption | exact Int.le_refl _)
      | (intro k hk; simp (disch := omega) only [u2_ne, u1_ne]; done)
      | (simp (disch := omega) only [u2n, u2j, u2e] at q; exact q)
      | rfl
  · obtain rfl : x = 0 := by omega
    refine cIN_r fun _ => x193_m (by omega) (fun h2 _ => x193 (by omega) ⟨fun _ => ⟨fun _ => ⟨by decide, cIN_r fun _ => ⟨rfl, ?_⟩⟩, fun z => absurd (show (0 : Int) ≤ y ∧ y ≤ 99 by omega) z⟩, fun z => absurd (show (0 : Int) ≤ 0 ∧ (0 : Int) ≤ 1 by omega) z⟩)
    rw [show (w32 (1 + 0)).toNat = 1 from rfl]
    obtain ⟨p0, p1, p2, ⟨a1, a2, a3, a4, a5⟩, ⟨t0, t1, t2⟩, hl, hp, htp, hf, ⟨k1, k2, k3⟩, hc, hcc⟩ := hI.suc hn
    have ht : rTown 0 92 (u2 (u2 I 2 1 y) 92 1 y) := by
      unfold rTown at a1 ⊢
      simp (disch := omega) only [Nat.reduceAdd, u2n, u2j, u2e, and_true] at a1 ⊢
      refine ⟨a1.1, by omega, a1.2.2.1, fun e e1 e2 => ?_, fun x y x1 x2 y1 y2 m => ?_⟩
      · simp (disch := omega) only [u2n, u2j, u2e]; exact a1.2.2.2.1 e e1 e2
      · simp (disch := omega) only [u2n, u2j, u2e]; exact a1.2.2.2.2 x y x1 x2 y1 y2 m
    refine ⟨p0, p1, p2, ⟨ht, a2.fr ?_ ?_ ?_ ?_ ?_ ?_ ?_ ?_, a3.fr ?_ ?_ ?_ ?_ ?_, a4.fr ?_ ?_ ?_ ?_ ?_ ?_, ?_⟩, ⟨t0.fr ?_ ?_ ?_, t1.fr ?_ ?_ ?_, t2.fr ?_ ?_ ?_⟩, hl.fr ?_ ?_ ?_ ?_ ?_ ?_ ?_ ?_ ?_, hp.fr ?_ ?_ ?_ ?_ ?_ ?_ ?_ ?_ ?_ ?_ ?_ ?_ ?_ ?_ ?_, htp.fr ?_ ?_ ?_ ?_, ?_, ⟨?_, ?_, fun q => (k3 ?_).fr ?_ ?_⟩, hc, ?_⟩
    all_goals first
      | (simp (disch := decide) only [u2_ne, u1_ne]; done)
      | (intro j hj; simp (disch := omega) only [u2n, u2j, u1n]; done)
      | (simp (disch := omega) only [u2n, u2j, u2e, u1n]; first | done | omega | assumption | exact Int.le_refl _)
      | (intro k hk; simp (disch := omega) only [u2_ne, u1_ne]; done)
      | (simp (disch := omega) only [u2n, u2j, u2e] at q; exact q)
      | rfl
theorem pub_view (hI : INV n I J) (hn : n < 64) (hh : 40 ≤ h) : PairI G h 150 224 [vi x] (n + 1) I J b := by
  have hb0 : I 92 5 = I 7 1 := by
    obtain ⟨p0, p1, p2, ⟨a1, a2, a3, a4, a5⟩, -⟩ := hI
    exact a2.2.1.2.2
  have no : ¬ (-1 ≤ x ∧ x ≤ I 7 1) → cIN (fun x_1 I1 J1 b1 => TriM G h 224 119 119 [vr 91, vi x] (I1, J1, PP b1) (cIN fun y I2 J2 _ => x_1 = y ∧ INV (n + 1) I2 J2)) (some (vi 0)) (I, J, PP b) := by
    intro hx
    refine cIN_r fun _ => x224_m (by omega) (fun h2 _ => x224 (by omega) ⟨fun q => absurd q (by omega), fun q => cIN_r fun _ => ⟨rfl, hI.suc hn⟩⟩)
  refine x150_m (by omega) (fun h2 _ => x150 (by omega) ⟨fun q => no (by omega), fun q => ⟨fun q2 => ?_, fun q2 => no (by omega)⟩⟩)
  refine cIN_r fun _ => x224_m (by omega) (fun h2 _ => x224 (by omega) ?_)
  simp (disch := omega) only [u2n]
  refine ⟨fun q3 => cIN_r fun _ => ⟨rfl, ?_⟩, fun q3 => absurd (show (-1 : Int) ≤ x ∧ x ≤ I 92 5 by omega) q3⟩
  obtain ⟨p0, p1, p2, ⟨a1, a2, a3, a4, a5⟩, ⟨t0, t1, t2⟩, hl, hp, htp, hf, ⟨k1, k2, k3⟩, hc, hcc⟩ := hI.suc hn
  have ht : rBook 0 92 (u2 (u2 (u2 I 7 2 x) 72 3 1) 92 6 x) := by
    obtain ⟨b1, b2, b3, b4⟩ := a2
    refine ⟨?_, ?_, ?_, fun e e1 e2 => (b4 e e1 ?_).fr e1 ?_ ?_ ?_ (fun j => Or.inl ?_) ?_ ?_ ?_ (fun j => Or.inl ?_) (fun j hj => ?_)⟩
    all_goals simp (disch := omega) only [Nat.reduceAdd, u2n, u2j, u2e, and_true] at *
    all_goals first | assumption | omega | exact Int.le_refl _
  refine ⟨p0, p1, p2, ⟨a1.fr ?_ ?_ ?_ ?_ ?_ ?_, ht, a3.fr ?_ ?_ ?_ ?_ ?_, a4.fr ?_ ?_ ?_ ?_ ?_ ?_, ?_⟩, ⟨t0.fr ?_ ?_ ?_, t1.fr ?_ ?_ ?_, t2.fr ?_ ?_ ?_⟩, hl.fr ?_ ?_ ?_ ?_ ?_ ?_ ?_ ?_ ?_, perI.st (by simp (disch := omega) only [u2n, u2j, u2e]), htp.fr ?_ ?_ ?_ ?_, ?_, ⟨?_, ?_, fun q => (k3 ?_).fr ?_ ?_⟩, hc, ?_⟩
  all_goals first
    | (simp (disch := decide) only [u2_ne, u1_ne]; done)
    | (intro j hj; simp (disch := omega) only [u2n, u2j, u1n]; done)
    | (simp (disch := omega) only [u2n, u2j, u2e, u1n]; first | done | omega | assumption | exact Int.le_refl _)
    | (intro k hk; simp (disch := omega) only [u2_ne, u1_ne]; done)
    | (simp (disch := omega) only [u2n, u2j, u2e] at q; exact q)
    | rfl
end PUBA
