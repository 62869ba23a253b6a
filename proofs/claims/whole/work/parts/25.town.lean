/-! ways: one number on both sides -/
theorem iDiv_pos {a d : Int} (ha : 0 ≤ a) (h2 : a < 2147483648) (hd : 0 < d) (hd2 : d < 2147483648) : iDiv a d = a / d := by
  unfold iDiv
  rw [Int32.toInt_div, toI (by unfold inR; omega), toI (by unfold inR; omega), Int.tdiv_eq_ediv_of_nonneg ha]
  have h3 : 0 ≤ a / d := Int.ediv_nonneg ha (by omega)
  have h4 : a / d ≤ a := Int.ediv_le_self d ha
  exact Int.bmod_eq_of_le (by omega) (by omega)
theorem dist_comm (x y : Int) : dist x y = dist y x := by
  unfold dist
  split <;> split <;> omega
theorem way_in {I : MI} {x y : Int} (hT : rTown 0 92 I) (hx : 0 ≤ x ∧ x < I 2 0) (hy : 0 ≤ y ∧ y < I 2 0) : 0 ≤ wayF I x y ∧ wayF I x y ≤ 3000 := by
  obtain ⟨t1, t2, t3, t4, t5⟩ := hT
  simp only [Nat.reduceAdd] at t1 t2 t3 t4 t5
  have a1 := t4 x (by omega) (by omega)
  have a2 := t4 y (by omega) (by omega)
  unfold wayF dist
  split
  · split <;> omega
  · next hne =>
    have a3 := t5 (I 3 x.toNat) (I 3 y.toNat) (by omega) (by omega) (by omega) (by omega) hne
    omega
theorem way_sym {I : MI} {x y : Int} (hT : rTown 0 92 I) (hx : 0 ≤ x ∧ x < I 2 0) (hy : 0 ≤ y ∧ y < I 2 0) : wayF I x y = wayF I y x := by
  obtain ⟨t1, t2, t3, t4, t5⟩ := hT
  simp only [Nat.reduceAdd] at t1 t2 t3 t4 t5
  have a1 := t4 x (by omega) (by omega)
  have a2 := t4 y (by omega) (by omega)
  unfold wayF
  by_cases he : I 3 x.toNat = I 3 y.toNat
  · rw [if_pos he, if_pos he.symm, dist_comm]
  · rw [if_neg he, if_neg (fun q => he q.symm)]
    have a3 := t5 (I 3 x.toNat) (I 3 y.toNat) (by omega) (by omega) (by omega) (by omega) he
    omega
section TOWN
variable {G : Ctx} {h n : Nat} {I : MI} {J : MJ} {b : B3} {x y z v : Int} {K : Int → MS → Prop}
theorem sx125 (hh : 2 ≤ h) (g : rTown 0 92 I ∧ (0 ≤ x ∧ x < I 2 0) ∧ 0 ≤ y ∧ y < I 2 0) (k : K (wayF I x y) (I, J, PP b)) : TriM G h 125 119 119 [vr 2, vi x, vi y] (I, J, PP b) (cI' K) := by
  obtain ⟨t1, t2, t3, t4, t5⟩ := g.1
  simp only [Nat.reduceAdd] at t1 t2 t3 t4 t5
  have a1 := t4 x (by omega) (by omega)
  have a2 := t4 y (by omega) (by omega)
  unfold wayF dist at k
  refine x125_m hh (fun h hh => x125 hh ?_)
  refine ⟨fun _ => ⟨fun _ => ⟨by omega, by omega, fun q => ?_, fun q => ?_⟩, fun q => absurd g.2.2 q⟩, fun q => absurd g.2.1 q⟩
  · have a3 := t5 (I 3 x.toNat) (I 3 y.toNat) (by omega) (by omega) (by omega) (by omega) q
    rw [if_neg q] at k
    simp (disch := omega) only [w32_id]
    exact ⟨by omega, by omega, by omega, by omega, by omega, cI_r k⟩
  · rw [if_pos (by omega)] at k
    refine ⟨by omega, by omega, cI_r ?_⟩
    rw [w32_id (by omega) (by omega)]
    by_cases hl : I 4 y.toNat < I 4 x.toNat
    · rw [if_pos hl] at k
      rw [if_neg (by omega)]
      exact k
    · rw [if_neg hl] at k
      by_cases h0 : I 4 x.toNat - I 4 y.toNat < 0
      · rw [if_pos h0, w32_id (by omega) (by omega), show -(I 4 x.toNat - I 4 y.toNat) = I 4 y.toNat - I 4 x.toNat by omega]
        exact k
      · rw [if_neg h0, show I 4 x.toNat - I 4 y.toNat = I 4 y.toNat - I 4 x.toNat by omega]
        exact k
theorem sx194 (hh : 2 ≤ h) (g : rTown 0 92 I ∧ (0 ≤ x ∧ x < I 2 0) ∧ 0 ≤ y ∧ y < I 2 0) (k : K (wayF I x y) (I, J, PP b)) : TriM G h 194 119 119 [vr 91, vi x, vi y] (I, J, PP b) (cI' K) := by
  obtain ⟨t1, t2, t3, t4, t5⟩ := g.1
  simp only [Nat.reduceAdd] at t1 t2 t3 t4 t5
  have a1 := t4 x (by omega) (by omega)
  have a2 := t4 y (by omega) (by omega)
  unfold wayF at k
  refine x194_m hh (fun h hh => x194 hh ?_)
  rw [a1.1.1, a1.1.2.1, a2.1.1, a2.1.2.1]
  refine ⟨by omega, by omega, fun q => ?_, fun q => ?_⟩
  · have a3 := t5 (I 3 x.toNat) (I 3 y.toNat) (by omega) (by omega) (by omega) (by omega) q
    rw [if_neg q] at k
    simp (disch := omega) only [w32_id]
    rw [← a3.1] at k
    exact ⟨by omega, by omega, by omega, by omega, by omega, cI_r k⟩
  · rw [if_pos (by omega)] at k
    exact ⟨by omega, by omega, by omega, cI_r k⟩
theorem min_in (hT : rTown 0 92 I) (hx : 0 ≤ x ∧ x < I 2 0) (hy : 0 ≤ y ∧ y < I 2 0) : w32 (iDiv (w32 (wayF I x y * I 2 1)) 100 + I 2 2) = minF I x y ∧ 0 ≤ minF I x y ∧ minF I x y ≤ 4000 := by
  have hw := way_in hT hx hy
  obtain ⟨t1, t2, t3, t4, t5⟩ := hT
  simp only [Nat.reduceAdd] at t1 t2 t3 t4 t5
  have hm : 0 ≤ wayF I x y * I 2 1 := Int.mul_nonneg hw.1 t2.1
  have hm2 : wayF I x y * I 2 1 ≤ 3000 * 99 := Int.mul_le_mul hw.2 (by omega) t2.1 (by omega)
  unfold minF
  rw [show w32 (wayF I x y * I 2 1) = wayF I x y * I 2 1 from w32_id (by omega) (by omega), iDiv_pos hm (by omega) (by omega) (by omega), w32_id (by omega) (by omega)]
  refine ⟨rfl, by omega, by omega⟩
end TOWN
