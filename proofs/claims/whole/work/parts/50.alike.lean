section ALIKE
variable {G : Ctx} {h n : Nat} {I : MI} {J : MJ} {b : B3} {a : BitVec 64}
theorem likeV_sym {I : MI} {x y : Nat} (hT : rTown 0 92 I) (hB : rBook 0 92 I) (hx : (x : Int) < I 7 0) (hy : (y : Int) < I 7 0) : likeV I x y = likeV I y x := by
  funext s
  have e1 := ent_f hB hx
  have e2 := ent_f hB hy
  unfold likeV
  rw [levR_sym, dist_comm (fact I x 5), dist_comm (fact I x 3), way_sym hT e1.2.2.2.1 e2.2.2.2.1]
  have c1 : ∀ (p q : Int), (if p = q then (1 : Int) else 0) = if q = p then 1 else 0 := by
    intro p q
    by_cases h : p = q
    · rw [if_pos h, if_pos h.symm]
    · rw [if_neg h, if_neg (fun z => h z.symm)]
  have c2 : (if fact I x 0 = fact I y 0 ∧ fact I x 1 = fact I y 1 then (1 : Int) else 0) = if fact I y 0 = fact I x 0 ∧ fact I y 1 = fact I x 1 then 1 else 0 := by
    by_cases h : fact I x 0 = fact I y 0 ∧ fact I x 1 = fact I y 1
    · rw [if_pos h, if_pos ⟨h.1.symm, h.2.symm⟩]
    · rw [if_neg h, if_neg (fun z => h ⟨z.1.symm, z.2.symm⟩)]
  rw [c2, c1 (nam I x 0), c1 (fact I x 2)]
theorem alN_sym {I : MI} {x y : Nat} (p : List Lin) (hT : rTown 0 92 I) (hB : rBook 0 92 I) (hx : (x : Int) < I 7 0) (hy : (y : Int) < I 7 0) : alN p I x y = alN p I y x := by
  unfold alN alikB
  rw [likeV_sym hT hB hx hy]
theorem likeV_k {S : List Nat} {I I' : MI} {x y : Int} (hf : frK S I I') (hS : ∀ k ∈ [3, 4, 6, 8, 11, 12], k ∉ S) : likeV I' x y = likeV I x y := by
  funext s
  unfold likeV nam fact wayF
  rw [hf 3 (hS 3 (by decide)), hf 4 (hS 4 (by decide)), hf 6 (hS 6 (by decide)), hf 8 (hS 8 (by decide)), hf 11 (hS 11 (by decide)), hf 12 (hS 12 (by decide))]
theorem alN_k {S : List Nat} {I I' : MI} (p : List Lin) (hf : frK S I I') (hS : ∀ k ∈ [3, 4, 6, 8, 11, 12], k ∉ S) : alN p I' = alN p I := by
  funext x y
  unfold alN alikB
  rw [likeV_k hf hS]
theorem abs_d {p q : Int} (hp : 0 ≤ p ∧ p < 1000) (hq : 0 ≤ q ∧ q < 1000) : (if w32 (p - q) < 0 then w32 (-(w32 (p - q))) else w32 (p - q)) = dist p q := by
  rw [w32_id (x := p - q) (by omega) (by omega), w32_id (x := -(p - q)) (by omega) (by omega)]
  unfold dist
  split <;> split <;> omega
/-- the first s of the seven likenesses lie in a row -/
def gvn (R o : Nat) (I : MI) (x y : Int) (s : Nat) (I' : MI) : Prop := ∀ c : Nat, c < s → I' R (c + o) = likeV I x y ((c : Int) + 1)
theorem gvn_up {R o s : Nat} {I I' : MI} {x y v : Int} (h : gvn R o I x y s I') (hv : v = likeV I x y ((s : Int) + 1)) : gvn R o I x y (s + 1) (u2 I' R (s + o) v) := by
  intro c hc
  rw [u2_at]
  split
  · next e =>
    obtain rfl : c = s := by omega
    exact hv
  · exact h c (by omega)
variable {x y : Nat}
theorem s59_167 {K : MI → MJ → B3 → Prop} {I' : MI} (hh : 3 ≤ h) (hT : rTown 0 92 I) (hB : rBook 0 92 I) (hx : (x : Int) < I 7 0) (hy : (y : Int) < I 7 0) (hf : frK [68, 69] I I') (hg : gvn 68 0 I x y 6 I') (k : ∀ I2, frK [68, 69] I I2 → gvn 68 0 I x y 7 I2 → K I2 J b) : Tri G h 59 119 119 167 [some (vr 67), some (vi (x : Int)), some (vi (y : Int)), some (vr 7)] [] (I', J, PP b) (cVN K) := by
  have b1 := hB.1
  simp only [Nat.reduceAdd] at b1
  refine x59_167 (by omega) ?_
  rw [hf 7 (by decide), hf 8 (by decide)]
  refine ⟨by omega, by omega, fun q => ?_, fun q => ?_⟩
  · exact ⟨_, _, _, rfl, rfl, k _ (hf.u (by decide)) (gvn_up hg (if_neg q).symm)⟩
  · exact ⟨_, _, _, rfl, rfl, k _ (hf.u (by decide)) (gvn_up hg (if_pos (Decidable.of_not_not q)).symm)⟩
theorem s59_52 {K : MI → MJ → B3 → Prop} {l4 l5 : Int} (hh : 3 ≤ h) (hT : rTown 0 92 I) (hB : rBook 0 92 I) (hx : (x : Int) < I 7 0) (hy : (y : Int) < I 7 0) (h4 : l4 = if fact I x 0 = fact I y 0 then 1 else 0) (h5 : l5 = if fact I x 1 = fact I y 1 then 1 else 0) (k : ∀ I2, frK [68, 69] I I2 → gvn 68 0 I x y 7 I2 → K I2 J b) : Tri G h 59 119 119 52 [some (vr 67), some (vi (x : Int)), some (vi (y : Int)), some (vr 7), some (vi l4), some (vi l5)] [] (I, J, PP b) (cVN K) := by
  have b1 := hB.1
  simp only [Nat.reduceAdd] at b1
  have e1 := ent_f hB hx
  have e2 := ent_f hB hy
  refine x59_52 hh (s61 hh hB (by omega) (by omega) fun I2 hf2 => ?_)
  have hf2' : frK [68, 69] I I2 := hf2.mo (by decide)
  rw [hf2 7 (by decide), hf2 12 (by decide)]
  have go : ∀ v, v = likeV I x y 2 → Tri G h 59 119 119 90 [some (vr 67), some (vi (x : Int)), some (vi (y : Int)), some (vr 7), some (vi l4), some (vi l5)] [] (u2 (u2 I2 68 0 (likeV I x y 1)) 68 1 v, J, PP b) (cVN K) := by
    intro v hv
    have hf3 : frK [68, 69] I (u2 (u2 I2 68 0 (likeV I x y 1)) 68 1 v) := (hf2'.u (by decide)).u (by decide)
    have hg3 : gvn 68 0 I x y 2 (u2 (u2 I2 68 0 (likeV I x y 1)) 68 1 v) := gvn_up (s := 1) (gvn_up (s := 0) (fun c hc => by omega) rfl) hv
    generalize u2 (u2 I2 68 0 (likeV I x y 1)) 68 1 v = I3 at hf3 hg3
    refine x59_90 (by omega) ?_
    rw [hf3 7 (by decide), hf3 8 (by decide)]
    refine ⟨by omega, by omega, ?_⟩
    rw [show I 8 ((x : Int) * 6 + 5).toNat = fact I x 5 from rfl, show I 8 ((y : Int) * 6 + 5).toNat = fact I y 5 from rfl, abs_d (by omega) (by omega)]
    have hf4 : frK [68, 69] I (u2 I3 68 2 (dist (fact I x 5) (fact I y 5))) := hf3.u (by decide)
    have hg4 : gvn 68 0 I x y 3 (u2 I3 68 2 (dist (fact I x 5) (fact I y 5))) := gvn_up (s := 2) hg3 rfl
    generalize u2 I3 68 2 (dist (fact I x 5) (fact I y 5)) = I4 at hf4 hg4
    refine x59_112 hh ⟨⟨hT.k hf4 (by decide), hB.k hf4 (by decide), by rw [hf4 7 (by decide)]; omega, by rw [hf4 7 (by decide)]; omega⟩, ?_⟩
    have ew : wayF I4 (fact I4 x 2) (fact I4 y 2) = likeV I x y 4 := by rw [← likeV_k hf4 (by decide)]; rfl
    rw [ew, hf4 7 (by decide), hf4 8 (by decide)]
    refine ⟨by omega, by omega, ?_⟩
    rw [show I 8 ((x : Int) * 6 + 3).toNat = fact I x 3 from rfl, show I 8 ((y : Int) * 6 + 3).toNat = fact I y 3 from rfl, abs_d (by omega) (by omega)]
    have hf5 : frK [68, 69] I (u2 (u2 I4 68 3 (likeV I x y 4)) 68 4 (dist (fact I x 3) (fact I y 3))) := (hf4.u (by decide)).u (by decide)
    have hg5 : gvn 68 0 I x y 5 (u2 (u2 I4 68 3 (likeV I x y 4)) 68 4 (dist (fact I x 3) (fact I y 3))) := gvn_up (s := 4) (gvn_up (s := 3) hg4 rfl) rfl
    generalize u2 (u2 I4 68 3 (likeV I x y 4)) 68 4 (dist (fact I x 3) (fact I y 3)) = I5 at hf5 hg5
    have e6 : likeV I x y 6 = if fact I x 0 = fact I y 0 ∧ fact I x 1 = fact I y 1 then 1 else 0 := rfl
    have fin : ∀ w, w = likeV I x y 6 → Tri G h 59 119 119 167 [some (vr 67), some (vi (x : Int)), some (vi (y : Int)), some (vr 7)] [] (u2 I5 68 5 w, J, PP b) (cVN K) := fun w hw => s59_167 hh hT hB hx hy (hf5.u (by decide)) (gvn_up (s := 5) hg5 hw) k
    refine x59_146 (Nat.zero_le _) ⟨fun q => fin _ ?_, fun q => ⟨fun q2 => fin _ ?_, fun q2 => fin _ ?_⟩⟩
    · rw [e6, if_neg]
      intro z
      rw [h4, if_pos z.1] at q
      exact absurd q (by decide)
    · rw [e6, if_neg]
      intro z
      rw [h5, if_pos z.2] at q2
      exact absurd q2 (by decide)
    · rw [e6, if_pos]
      constructor
      · apply Decidable.byContradiction
        intro z
        rw [h4, if_neg z] at q
        exact q rfl
      · apply Decidable.byContradiction
        intro z
        rw [h5, if_neg z] at q2
        exact q2 rfl
  refine ⟨by omega, by omega, fun q => go _ ?_, fun q => go _ ?_⟩
  · exact (if_neg q).symm
  · exact (if_pos (Decidable.of_not_not q)).symm
theorem s59 {K : MI → MJ → B3 → Prop} (hh : 4 ≤ h) (hT : rTown 0 92 I) (hB : rBook 0 92 I) (hx : (x : Int) < I 7 0) (hy : (y : Int) < I 7 0) (k : ∀ I2, frK [68, 69] I I2 → gvn 68 0 I x y 7 I2 → K I2 J b) : TriM G h 59 119 119 [vr 67, vi (x : Int), vi (y : Int)] (I, J, PP b) (cVN K) := by
  have b1 := hB.1
  simp only [Nat.reduceAdd] at b1
  have go : ∀ h l4, 3 ≤ h → l4 = (if fact I x 0 = fact I y 0 then 1 else 0) → Tri G h 59 119 119 30 [some (vr 67), some (vi (x : Int)), some (vi (y : Int)), some (vr 7), some (vi l4)] [] (I, J, PP b) (cVN K) := by
    intro h l4 hh h4
    refine x59_30 (by omega) ⟨by omega, by omega, fun q => s59_52 hh hT hB hx hy h4 ?_ k, fun q => s59_52 hh hT hB hx hy h4 ?_ k⟩
    · exact (if_neg q).symm
    · exact (if_pos (Decidable.of_not_not q)).symm
  refine x59_m (by omega) (fun h hh => x59 (by omega) ⟨by omega, by omega, fun q => go h 0 (by omega) ?_, fun q => go h 1 (by omega) ?_⟩)
  · exact (if_neg q).symm
  · exact (if_pos (Decidable.of_not_not q)).symm
/-! pairs -/
theorem tri_s (a : Nat) : (a + 1) * (a + 1 - 1) / 2 = a * (a - 1) / 2 + a := by
  have : (a + 1) * (a + 1 - 1) = a * (a - 1) + 2 * a := by
    cases a with
    | zero => rfl
    | succ n =>
      show (n + 1 + 1) * (n + 1) = (n + 1) * n + 2 * (n + 1)
      rw [Nat.mul_comm (n + 1) n, ← Nat.add_mul]
  omega
theorem tri_m {a c : Nat} (h : a < c) : a * (a - 1) / 2 + a ≤ c * (c - 1) / 2 := by
  induction c with
  | zero => omega
  | succ c ih =>
    rw [tri_s]
    by_cases e : a = c
    · subst e
      exact Nat.le_refl _
    · have := ih (by omega)
      omega
theorem tri_120 {a : Nat} (h : a < 120) : a * (a - 1) / 2 + a ≤ 7140 := tri_m h
theorem pair_b {k a c : Nat} (hk : k < 2) (hc : c < a) (ha : a < 120) : pairI k a c < 14280 := by
  unfold pairI
  have := tri_120 ha
  omega
theorem pair_inj {k a c k' a' c' : Nat} (hk : k < 2) (hc : c < a) (ha : a < 120) (hk' : k' < 2) (hc' : c' < a') (ha' : a' < 120) (e : pairI k a c = pairI k' a' c') : k = k' ∧ a = a' ∧ c = c' := by
  unfold pairI at e
  have t1 := tri_120 ha
  have t2 := tri_120 ha'
  obtain rfl : k = k' := by omega
  have : a = a' := by
    rcases Nat.lt_trichotomy a a' with h | h | h
    · have := tri_m h; omega
    · exact h
    · have := tri_m h; omega
  subst this
  exact ⟨rfl, rfl, by omega⟩
theorem likI_set {p0 p1 : List Lin} {I : MI} {J J' : MJ} {k A B : Nat} (hl : likI p0 p1 I J) (hk : k < 2) (hB : B < A) (hA : A < 120) (hA7 : (A : Int) < I 7 0) (h70 : ∀ j, bitJ J' 70 j = (bitJ J 70 j || decide (j = pairI k A B))) (h71 : ∀ j, j ≠ pairI k A B → bitJ J' 71 j = bitJ J 71 j) (hv : bitJ J' 71 (pairI k A B) = if k = 0 then alN p0 I A B else alN p1 I A B) : likI p0 p1 I J' := by
  intro k' a c hk' hc ha
  by_cases e : pairI k' a c = pairI k A B
  · obtain ⟨rfl, rfl, rfl⟩ := pair_inj hk' hc ha hk hB hA e
    refine ⟨fun _ => ⟨hA7, hv⟩, fun q => ?_⟩
    rw [h70, decide_eq_true rfl, Bool.or_true] at q
    exact absurd q (by decide)
  · rw [h70, h71 _ e, decide_eq_false e, Bool.or_false]
    exact hl k' a c hk' hc ha
theorem pair_w {k : Nat} {A B : Nat} (hk : k < 2) (hB : B < A) (hA : A < 120) : w32 (w32 (w32 ((k : Int) * 7140) + iDiv (w32 ((A : Int) * w32 ((A : Int) - 1))) 2) + B) = (pairI k A B : Int) := by
  have h1 : A * (A - 1) ≤ 119 * 118 := Nat.mul_le_mul (by omega) (by omega)
  have h2 : (A : Int) * ((A : Int) - 1) = ((A * (A - 1) : Nat) : Int) := by
    rw [Int.natCast_mul, Int.natCast_sub (by omega)]
    rfl
  have hb := pair_b hk hB hA
  unfold pairI at hb ⊢
  rw [w32_id (x := (A : Int) - 1) (by omega) (by omega), h2, w32_id (x := ((A * (A - 1) : Nat) : Int)) (by omega) (by omega), iDiv_pos (by omega) (by omega) (by decide) (by decide), w32_id (x := (k : Int) * 7140) (by omega) (by omega), w32_id (x := (k : Int) * 7140 + ((A * (A - 1) : Nat) : Int) / 2) (by omega) (by omega), w32_id (by omega) (by omega)]
  omega

theorem s58_0 {K : Int → MI → MJ → B3 → Prop} {p0 p1 : List Lin} (hh : 5 ≤ h) (hT : rTown 0 92 I) (hB : rBook 0 92 I) (ht : rTxt 13 92 0 I false p0) (hl : likI p0 p1 I J) (hx : (x : Int) < I 7 0) (hy : (y : Int) < I 7 0) (hxy : x ≠ y) (k : ∀ I2 J2, frK [15, 68, 69] I I2 → frJ [70, 71] J J2 → likI p0 p1 I2 J2 → K (if alN p0 I x y = true then 1 else 0) I2 J2 b) : TriM G h 58 119 119 [vr 67, vi 0, vi (x : Int), vi (y : Int)] (I, J, PP b) (cIN K) := by
  have b1 := hB.1
  simp only [Nat.reduceAdd] at b1
  have a1 := ht.1
  obtain ⟨A, B, hA, hAB, hAx, hmx, hmn, hsy⟩ : ∃ A B : Nat, A < 120 ∧ B < A ∧ (A : Int) < I 7 0 ∧ max (x : Int) y = A ∧ min (x : Int) y = B ∧ alN p0 I A B = alN p0 I x y := by
    by_cases h : x < y
    · exact ⟨y, x, by omega, h, hy, by omega, by omega, alN_sym p0 hT hB hy hx⟩
    · exact ⟨x, y, by omega, by omega, hx, by omega, by omega, rfl⟩
  have hp := pair_w (k := 0) (by decide) hAB hA
  have hpb := pair_b (k := 0) (by decide) hAB hA
  have hl0 := hl 0 A B (by decide) hAB hA
  rw [if_pos rfl, hsy] at hl0
  have em : alN p0 I x y = (firstL (likeV I x y) p0).isSome := rfl
  refine x58_0_m hh (fun h hh => x58_0 hh ⟨fun q1 => ?_, fun q1 => cIN_r fun _ => ?_⟩)
  · rw [hmx, hmn, show w32 (w32 (w32 (0 * 7140) + iDiv (w32 ((A : Int) * w32 ((A : Int) - 1))) 2) + (B : Int)) = (pairI 0 A B : Int) from hp, toN]
    refine ⟨by omega, fun q2 => ⟨by omega, fun q3 => cIN_r fun _ => ?_, fun q3 => cIN_r fun _ => ?_⟩, fun q2 => ⟨by omega, s59 (by omega) hT hB hx hy fun I1 hf1 hg1 => ?_⟩⟩
    · have := k I J frK.r frJ.r hl
      rw [← (hl0.1 q2).2, if_pos q3] at this
      exact this
    · have := k I J frK.r frJ.r hl
      rw [← (hl0.1 q2).2, if_neg q3] at this
      exact this
    · have h71 := hl0.2 (by simpa using q2)
      refine s114_13 (p := p0) (w := 92) (kk := 0) (vals := likeV I x y) (by omega) (ht.k hf1 (by decide) (by decide) (by decide)) (fun c c1 c2 => ?_) (fun I2 hf2 => ?_)
      · have := hg1 (c - 1).toNat (by omega)
        rw [show (((c - 1).toNat : Nat) : Int) + 1 = c by omega] at this
        exact this.symm
      · have hf : frK [15, 68, 69] I I2 := (hf1.mo (by decide)).t (hf2.mo (by decide))
        have hli : ∀ J2, likI p0 p1 I J2 → likI p0 p1 I2 J2 := fun J2 h => h.fr (hf 3 (by decide)) (hf 4 (by decide)) (hf 6 (by decide)) (by rw [hf 7 (by decide)]) (hf 8 (by decide)) (hf 11 (by decide)) (hf 12 (by decide)) rfl rfl
        have hlk : ∀ J2, (∀ j, bitJ J2 70 j = (bitJ J 70 j || decide (j = pairI 0 A B))) → (∀ j, j ≠ pairI 0 A B → bitJ J2 71 j = bitJ J 71 j) → bitJ J2 71 (pairI 0 A B) = alN p0 I x y → likI p0 p1 I2 J2 := fun J2 g1 g2 g3 => hli J2 (likI_set hl (k := 0) (by decide) hAB hA hAx g1 g2 (by rw [if_pos rfl, hsy]; exact g3))
        cases hs : firstL (likeV I x y) p0 with
        | none =>
          rw [hs] at em
          refine ⟨fun _ => ⟨by omega, fun q3 => ?_, fun q3 => cIN_r fun _ => ?_⟩, fun q3 => absurd rfl q3⟩
          · rw [bitJ_oth (by decide), h71] at q3
            exact absurd q3 (by decide)
          · have hk := fun J2 h1 h2 => k I2 J2 hf h1 h2
            rw [em, if_neg (by decide)] at hk
            refine hk _ ((frJ.r (J := J)).u (by decide)) (hlk _ (fun j => bitJ_set) (fun j _ => bitJ_oth (by decide)) ?_)
            rw [bitJ_oth (by decide), h71, em]
            rfl
        | some q =>
          rw [hs] at em
          refine ⟨fun q3 => ?_, fun _ => ⟨by omega, by omega, fun q3 => cIN_r fun _ => ?_, fun q3 => ?_⟩⟩
          · exfalso
            revert q3
            show ¬ (if q.1 = 2 then (1 : Int) else 0) = -1
            split <;> decide
          · have hk := fun J2 h1 h2 => k I2 J2 hf h1 h2
            rw [em, if_pos (by rfl)] at hk
            refine hk _ (((frJ.r (J := J)).u (by decide)).u (by decide)) (hlk _ (fun j => ?_) (fun j hj => ?_) ?_)
            · rw [bitJ_oth (by decide), bitJ_set]
            · rw [bitJ_set, decide_eq_false hj, Bool.or_false, bitJ_oth (by decide)]
            · rw [bitJ_set, decide_eq_true rfl, Bool.or_true, em]
              rfl
          · rw [bitJ_set, decide_eq_true rfl, Bool.or_true] at q3
            exact absurd rfl q3
  · have hz : p0 = [] := by
      apply List.eq_nil_of_length_eq_zero
      have := Decidable.of_not_not q1
      omega
    have := k I J frK.r frJ.r hl
    rw [em, hz, if_neg (by simp [firstL])] at this
    exact this

theorem s58_1 {K : Int → MI → MJ → B3 → Prop} {p0 p1 : List Lin} (hh : 5 ≤ h) (hT : rTown 0 92 I) (hB : rBook 0 92 I) (ht : rTxt 16 92 1 I false p1) (hl : likI p0 p1 I J) (hx : (x : Int) < I 7 0) (hy : (y : Int) < I 7 0) (hxy : x ≠ y) (k : ∀ I2 J2, frK [18, 68, 69] I I2 → frJ [70, 71] J J2 → likI p0 p1 I2 J2 → K (if alN p1 I x y = true then 1 else 0) I2 J2 b) : TriM G h 58 119 119 [vr 67, vi 1, vi (x : Int), vi (y : Int)] (I, J, PP b) (cIN K) := by
  have b1 := hB.1
  simp only [Nat.reduceAdd] at b1
  have a1 := ht.1
  obtain ⟨A, B, hA, hAB, hAx, hmx, hmn, hsy⟩ : ∃ A B : Nat, A < 120 ∧ B < A ∧ (A : Int) < I 7 0 ∧ max (x : Int) y = A ∧ min (x : Int) y = B ∧ alN p1 I A B = alN p1 I x y := by
    by_cases h : x < y
    · exact ⟨y, x, by omega, h, hy, by omega, by omega, alN_sym p1 hT hB hy hx⟩
    · exact ⟨x, y, by omega, by omega, hx, by omega, by omega, rfl⟩
  have hp := pair_w (k := 1) (by decide) hAB hA
  have hpb := pair_b (k := 1) (by decide) hAB hA
  have hl0 := hl 1 A B (by decide) hAB hA
  rw [if_neg (by decide), hsy] at hl0
  have em : alN p1 I x y = (firstL (likeV I x y) p1).isSome := rfl
  refine x58_1_m hh (fun h hh => x58_1 hh ⟨fun q1 => ?_, fun q1 => cIN_r fun _ => ?_⟩)
  · rw [hmx, hmn, show w32 (w32 (w32 (1 * 7140) + iDiv (w32 ((A : Int) * w32 ((A : Int) - 1))) 2) + (B : Int)) = (pairI 1 A B : Int) from hp, toN]
    refine ⟨by omega, fun q2 => ⟨by omega, fun q3 => cIN_r fun _ => ?_, fun q3 => cIN_r fun _ => ?_⟩, fun q2 => ⟨by omega, s59 (by omega) hT hB hx hy fun I1 hf1 hg1 => ?_⟩⟩
    · have := k I J frK.r frJ.r hl
      rw [← (hl0.1 q2).2, if_pos q3] at this
      exact this
    · have := k I J frK.r frJ.r hl
      rw [← (hl0.1 q2).2, if_neg q3] at this
      exact this
    · have h71 := hl0.2 (by simpa using q2)
      refine s114_16 (p := p1) (w := 92) (kk := 1) (vals := likeV I x y) (by omega) (ht.k hf1 (by decide) (by decide) (by decide)) (fun c c1 c2 => ?_) (fun I2 hf2 => ?_)
      · have := hg1 (c - 1).toNat (by omega)
        rw [show (((c - 1).toNat : Nat) : Int) + 1 = c by omega] at this
        exact this.symm
      · have hf : frK [18, 68, 69] I I2 := (hf1.mo (by decide)).t (hf2.mo (by decide))
        have hli : ∀ J2, likI p0 p1 I J2 → likI p0 p1 I2 J2 := fun J2 h => h.fr (hf 3 (by decide)) (hf 4 (by decide)) (hf 6 (by decide)) (by rw [hf 7 (by decide)]) (hf 8 (by decide)) (hf 11 (by decide)) (hf 12 (by decide)) rfl rfl
        have hlk : ∀ J2, (∀ j, bitJ J2 70 j = (bitJ J 70 j || decide (j = pairI 1 A B))) → (∀ j, j ≠ pairI 1 A B → bitJ J2 71 j = bitJ J 71 j) → bitJ J2 71 (pairI 1 A B) = alN p1 I x y → likI p0 p1 I2 J2 := fun J2 g1 g2 g3 => hli J2 (likI_set hl (k := 1) (by decide) hAB hA hAx g1 g2 (by rw [if_neg (by decide), hsy]; exact g3))
        cases hs : firstL (likeV I x y) p1 with
        | none =>
          rw [hs] at em
          refine ⟨fun _ => ⟨by omega, fun q3 => ?_, fun q3 => cIN_r fun _ => ?_⟩, fun q3 => absurd rfl q3⟩
          · rw [bitJ_oth (by decide), h71] at q3
            exact absurd q3 (by decide)
          · have hk := fun J2 h1 h2 => k I2 J2 hf h1 h2
            rw [em, if_neg (by decide)] at hk
            refine hk _ ((frJ.r (J := J)).u (by decide)) (hlk _ (fun j => bitJ_set) (fun j _ => bitJ_oth (by decide)) ?_)
            rw [bitJ_oth (by decide), h71, em]
            rfl
        | some q =>
          rw [hs] at em
          refine ⟨fun q3 => ?_, fun _ => ⟨by omega, by omega, fun q3 => cIN_r fun _ => ?_, fun q3 => ?_⟩⟩
          · exfalso
            revert q3
            show ¬ (if q.1 = 2 then (1 : Int) else 0) = -1
            split <;> decide
          · have hk := fun J2 h1 h2 => k I2 J2 hf h1 h2
            rw [em, if_pos (by rfl)] at hk
            refine hk _ (((frJ.r (J := J)).u (by decide)).u (by decide)) (hlk _ (fun j => ?_) (fun j hj => ?_) ?_)
            · rw [bitJ_oth (by decide), bitJ_set]
            · rw [bitJ_set, decide_eq_false hj, Bool.or_false, bitJ_oth (by decide)]
            · rw [bitJ_set, decide_eq_true rfl, Bool.or_true, em]
              rfl
          · rw [bitJ_set, decide_eq_true rfl, Bool.or_true] at q3
            exact absurd rfl q3
  · have hz : p1 = [] := by
      apply List.eq_nil_of_length_eq_zero
      have := Decidable.of_not_not q1
      omega
    have := k I J frK.r frJ.r hl
    rw [em, hz, if_neg (by simp [firstL])] at this
    exact this

end ALIKE
