/-! PUBLIC CALLS, first: a pair of calls, one on each side, gives one answer and keeps INV -/
def PairI (G : Ctx) (h c d : Nat) (av : List MV) (n : Nat) (I : MI) (J : MJ) (b : B3) : Prop := TriM G h c 119 119 (vr 0 :: av) (I, J, PP b) (cIN fun x I1 J1 b1 => TriM G h d 119 119 (vr 91 :: av) (I1, J1, PP b1) (cIN fun y I2 J2 _ => x = y ∧ INV n I2 J2))
def PairJ (G : Ctx) (h c d : Nat) (av : List MV) (n : Nat) (I : MI) (J : MJ) (b : B3) : Prop := TriM G h c 119 119 (vr 0 :: av) (I, J, PP b) (cJN fun x I1 J1 b1 => TriM G h d 119 119 (vr 91 :: av) (I1, J1, PP b1) (cJN fun y I2 J2 _ => x = y ∧ INV n I2 J2))
section PUBA
variable {G : Ctx} {h n : Nat} {I : MI} {J : MJ} {b : B3} {x y z v : Int}
theorem pub_state (hI : INV n I J) (hn : n < 64) (hh : 40 ≤ h) : PairI G h 137 183 [vi v] (n + 1) I J b := by
  refine x137_m (by omega) (fun h2 _ => x137 (Nat.zero_le _) (cIN_r fun _ => ?_))
  refine x183_m (by omega) (fun h2 _ => x183 (Nat.zero_le _) (cIN_r fun _ => ⟨?_, ?_⟩))
  · obtain ⟨p0, p1, p2, ⟨a1, a2, a3, a4, a5⟩, -⟩ := hI
    rw [u2n (by decide)]
    exact a5.symm
  · obtain ⟨p0, p1, p2, ⟨a1, a2, a3, a4, a5⟩, ⟨t0, t1, t2⟩, hl, hp, htp, hf, ⟨k1, k2, k3⟩, hc, hcc⟩ := hI.suc hn
    refine ⟨p0, p1, p2, ⟨a1.fr ?_ ?_ ?_ ?_ ?_ ?_, a2.fr ?_ ?_ ?_ ?_ ?_ ?_ ?_ ?_, a3.fr ?_ ?_ ?_ ?_ ?_, a4.fr ?_ ?_ ?_ ?_ ?_ ?_, ?_⟩, ⟨t0.fr ?_ ?_ ?_, t1.fr ?_ ?_ ?_, t2.fr ?_ ?_ ?_⟩, hl.fr ?_ ?_ ?_ ?_ ?_ ?_ ?_ ?_ ?_, hp.fr ?_ ?_ ?_ ?_ ?_ ?_ ?_ ?_ ?_ ?_ ?_ ?_ ?_ ?_ ?_, htp.fr ?_ ?_ ?_ ?_, ?_, ⟨?_, ?_, fun q => (k3 ?_).fr ?_ ?_⟩, hc, ?_⟩
    all_goals first
      | (simp (disch := decide) only [u2_ne]; done)
      | (intro j hj; simp (disch := omega) only [u2n, u2j]; done)
      | (simp (disch := omega) only [u2n, u2j, u2e]; first | done | omega | assumption | exact Int.le_refl _)
      | (intro k hk; rw [u2_ne (by omega), u2_ne (by omega)])
      | (simp (disch := omega) only [u2n, u2j, u2e] at q; exact q)
      | rfl
end PUBA
