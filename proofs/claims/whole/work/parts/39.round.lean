/-! rounds -/
def rdF (ok : Nat → Bool) : Nat → Nat → Nat
  | 0, i => i
  | m + 1, i => if ok i = true then rdF ok m (i + 1) else i
theorem rdF_b {ok : Nat → Bool} : ∀ m i, i ≤ rdF ok m i ∧ rdF ok m i ≤ i + m
  | 0, i => ⟨Nat.le_refl _, Nat.le_refl _⟩
  | m + 1, i => by
    have := rdF_b (ok := ok) m (i + 1)
    simp only [rdF]
    split <;> omega
def rOK (p : List Lin) (I : MI) (d : Int) (i : Nat) : Bool := homeB p I (I 23 i) d (I 24 i) && (decide (i = 0) || decide (I 24 (i - 1) + minF I (I 23 (i - 1)) (I 23 i) ≤ I 24 i))
def hset (f : Nat → Nat) (r j : Nat) : Bool := decide (∃ i, i < r ∧ f i = j)
def nw (f : Nat → Nat) (i : Nat) : Bool := decide (∀ j, j < i → f j ≠ f i)
theorem hset_s {f : Nat → Nat} {r j : Nat} : hset f (r + 1) j = (hset f r j || decide (f r = j)) := by
  unfold hset
  rw [← Bool.decide_or]
  refine decide_eq_decide.2 ⟨?_, ?_⟩
  · rintro ⟨i, h1, h2⟩
    by_cases h : i = r
    · subst h; exact Or.inr h2
    · exact Or.inl ⟨i, by omega, h2⟩
  · rintro (⟨i, h1, h2⟩ | h2)
    · exact ⟨i, by omega, h2⟩
    · exact ⟨r, by omega, h2⟩
theorem hset_n {f : Nat → Nat} {M : Nat} : ∀ r, (∀ i, i < r → f i < M) → fb_ct (hset f r) M = fb_ct (nw f) r
  | 0, _ => by
    rw [fb_ct_zero.2]
    · rfl
    · intro k _
      unfold hset
      exact decide_eq_false (by rintro ⟨i, h, -⟩; omega)
  | r + 1, h => by
    have ih := hset_n r (fun i hi => h i (by omega))
    rw [fb_ct_succ (nw f) r, ← ih]
    by_cases hn : nw f r = true
    · rw [if_pos hn]
      have h1 : hset f r (f r) = false := by
        unfold hset
        unfold nw at hn
        rw [decide_eq_true_eq] at hn
        exact decide_eq_false (by rintro ⟨i, h2, h3⟩; exact hn i h2 h3)
      have h2 := fb_ct_upd (hset f r) true (i := f r) (n := M) (h r (by omega))
      rw [h1] at h2
      have h3 : fb_ct (hset f (r + 1)) M = fb_ct (fun k => if k = f r then true else hset f r k) M := by
        apply fb_ct_cong
        intro k _
        rw [hset_s]
        by_cases hk : k = f r
        · subst hk; simp
        · have : ¬ f r = k := fun q => hk q.symm
          simp [hk, this]
      rw [h3]
      simpa using h2
    · rw [if_neg hn, Nat.add_zero]
      apply fb_ct_cong
      intro k _
      rw [hset_s]
      by_cases hk : f r = k
      · have : hset f r k = true := by
          unfold nw at hn
          rw [decide_eq_true_eq] at hn
          unfold hset
          apply decide_eq_true
          apply Classical.byContradiction
          intro hc
          exact hn fun j hj he => hc ⟨j, hj, by rw [he, hk]⟩
        rw [this]; rfl
      · simp [hk]
section ROUND
variable {G : Ctx} {h n : Nat} {I : MI} {J : MJ} {b : B3} {x y z u v e : Int} {a : BitVec 64}
theorem minF_k {S : List Nat} {I' : MI} (hf : frK S I I') (hS : ∀ k ∈ [2, 3, 4, 6], k ∉ S) : minF I' = minF I := by
  funext x y
  unfold minF wayF
  rw [hf 2 (hS 2 (by decide)), hf 3 (hS 3 (by decide)), hf 4 (hS 4 (by decide)), hf 6 (hS 6 (by decide))]
theorem s101 {K : Int → MI → MJ → B3 → Prop} {i : Nat} (hh : 4 ≤ h) (hT : rTown 0 92 I) (hR : rRound 0 92 I) (hi : 1 ≤ i ∧ (i : Int) < I 22 0) (k1 : ¬ (I 24 (i - 1) + minF I (I 23 (i - 1)) (I 23 i) ≤ I 24 i) → K 1 I J b) (k0 : I 24 (i - 1) + minF I (I 23 (i - 1)) (I 23 i) ≤ I 24 i → K 0 I J b) : TriM G h 101 119 119 [vr 22, vr 2, vi i] (I, J, PP b) (cIN K) := by
  have r1 := hR.1
  have r2 := hR.2 i (by omega) (by simp only [Nat.reduceAdd]; omega)
  have r3 := hR.2 ((i : Int) - 1) (by omega) (by simp only [Nat.reduceAdd]; omega)
  simp only [Nat.reduceAdd] at r1 r2 r3
  have hm := (min_in hT r3.1.2 r2.1.2).2
  refine x101_m hh (fun h hh => x101 hh ?_)
  rw [w32_id (x := (i : Int) - 1) (by omega) (by omega)]
  rw [toN] at r2 hm ⊢
  rw [show ((i : Int) - 1).toNat = i - 1 by omega] at r3 hm ⊢
  rw [w32_id (by omega) (by omega)]
  refine ⟨by omega, by omega, by omega, by omega, ⟨hT, r3.1.2, r2.1.2⟩, fun q => cIN_r fun _ => k0 (by omega), fun q => cIN_r fun _ => k1 (by omega)⟩
theorem s100_l {K : Int → MI → MJ → B3 → Prop} {p2 : List Lin} {N : Nat} (hh : 4 ≤ h) (hT : rTown 0 92 I) (hR : rRound 0 92 I) (ht : rTxt 19 92 2 I true p2) (hN : I 22 0 = N) (k : ∀ I2, frK [21, 30] I I2 → K (if rdF (rOK p2 I x) N 0 = N then -1 else rdF (rOK p2 I x) N 0) I2 J b) : ∀ (m i : Nat) (I' : MI), i + m = N → frK [21, 30] I I' → rdF (rOK p2 I x) m i = rdF (rOK p2 I x) N 0 → Tri G h 100 119 119 2 [some (vr 22), some (vr 1), some (vi x), some (vi i)] [] (I', J, PP b) (cIN K) := by
  have r1 := hR.1
  simp only [Nat.reduceAdd] at r1
  intro m
  induction m with
  | zero =>
    intro i I' hi hf hr
    have hr2 : i = rdF (rOK p2 I x) N 0 := hr
    refine x100_2 hh ⟨fun q => cIN_r fun _ => ?_, fun q => by rw [hf 22 (by decide)] at q; omega⟩
    have := k I' hf
    rw [if_pos (by omega)] at this
    exact this
  | succ m ih =>
    intro i I' hi hf hr
    have hT' := hT.k hf (by decide)
    have hR' := hR.k hf (by decide)
    have ht' := ht.k hf (by decide) (by decide) (by decide)
    have r2 := hR'.2 i (by omega) (by simp only [Nat.reduceAdd]; rw [hf 22 (by decide)]; omega)
    simp only [Nat.reduceAdd, toN] at r2
    have e : rdF (rOK p2 I x) (m + 1) i = if rOK p2 I x i = true then rdF (rOK p2 I x) m (i + 1) else i := rfl
    have no : ¬ rOK p2 I x i = true → ∀ I2, frK [21, 30] I I2 → K i I2 J b := by
      intro q I2 hf2
      rw [if_neg q] at e
      have := k I2 hf2
      rw [if_neg (by omega), ← hr, e] at this
      exact this
    have yes : rOK p2 I x i = true → ∀ I2, frK [21, 30] I I2 → Tri G h 100 119 119 2 [some (vr 22), some (vr 1), some (vi x), some (vi (w32 ((i : Int) + 1)))] [] (I2, J, PP b) (cIN K) := by
      intro q I2 hf2
      rw [if_pos q] at e
      rw [w32_id (by omega) (by omega)]
      exact ih (i + 1) I2 (by omega) hf2 (by rw [← e]; exact hr)
    refine x100_2 hh ⟨fun q => by rw [hf 22 (by decide)] at q; omega, fun q => ⟨by omega, by omega, ?_⟩⟩
    rw [toN]
    refine s132 (by omega) hT' ht' r2.1.2 fun I2 hf2 => ?_
    have hf3 := hf.t hf2
    rw [homeB_k p2 hf (by decide), hf 23 (by decide), hf 24 (by decide)]
    unfold rOK at no yes
    cases hb : homeB p2 I (I 23 i) x (I 24 i) with
    | false =>
      rw [hb] at no
      exact ⟨fun _ => cIN_r fun _ => no (by simp) I2 hf3, fun q2 => absurd rfl q2⟩
    | true =>
      rw [hb] at no yes
      refine ⟨fun q2 => absurd q2 (by decide), fun _ => ⟨fun q2 => yes (by simp; omega) I2 hf3, fun q2 => ?_⟩⟩
      have hT3 := hT.k hf3 (by decide)
      have hR3 := hR.k hf3 (by decide)
      refine s101 (by omega) hT3 hR3 (by rw [hf3 22 (by decide)]; omega) (fun q3 => ?_) (fun q3 => ?_)
      · rw [hf3 23 (by decide), hf3 24 (by decide), minF_k hf3 (by decide)] at q3
        exact ⟨fun q4 => absurd q4 (by decide), fun _ => cIN_r fun _ => no (by simp; omega) I2 hf3⟩
      · rw [hf3 23 (by decide), hf3 24 (by decide), minF_k hf3 (by decide)] at q3
        exact ⟨fun _ => yes (by simp; omega) I2 hf3, fun q4 => absurd rfl q4⟩
theorem s100 {K : Int → MI → MJ → B3 → Prop} {p2 : List Lin} {N : Nat} (hh : 5 ≤ h) (hT : rTown 0 92 I) (hR : rRound 0 92 I) (ht : rTxt 19 92 2 I true p2) (hN : I 22 0 = N) (k : ∀ I2, frK [21, 30] I I2 → K (if rdF (rOK p2 I x) N 0 = N then -1 else rdF (rOK p2 I x) N 0) I2 J b) : TriM G h 100 119 119 [vr 22, vr 1, vi x] (I, J, PP b) (cIN K) :=
  x100_m hh (fun h hh => x100 (by omega) (s100_l hh hT hR ht hN k N 0 I (Nat.zero_add _) frK.r rfl))
theorem s102_l {K : Int → MI → MJ → B3 → Prop} {r : Nat} (hh : 1 ≤ h) (hR : rRound 0 92 I) (hT : rTown 0 92 I) (hr : (r : Int) ≤ I 22 0) (k : K (fb_ct (nw fun i => (I 23 i).toNat) r : Nat) I J b) : ∀ (m i : Nat) (a : BitVec 64), i + m = r → (∀ j, a.getLsbD j = hset (fun i => (I 23 i).toNat) i j) → Tri G h 102 119 119 28 [some (vr 22), none, none, none, some (vi r), some (vl a), none, some (vi i)] [] (I, J, PP b) (cIN K) := by
  have r1 := hR.1
  have t1 := hT.1
  simp only [Nat.reduceAdd] at r1 t1
  have hlt : ∀ i : Nat, (i : Int) < I 22 0 → 0 ≤ I 23 i ∧ I 23 i < 60 := by
    intro i hi
    have := (hR.2 i (by omega) (by simp only [Nat.reduceAdd]; omega)).1
    simp only [Nat.reduceAdd, toN] at this
    omega
  intro m
  induction m with
  | zero =>
    intro i a hi ha
    obtain rfl : i = r := hi
    refine x102_28 hh ⟨fun q => s17 (by omega) (cIN_r fun _ => ?_), fun q => by omega⟩
    have e : pcL a = (fb_ct (nw fun i => (I 23 i).toNat) i : Nat) := by
      unfold pcL
      rw [fb_ct_cong (fun k _ => ha k), hset_n i (fun i2 hi2 => by have := hlt i2 (by omega); omega)]
    rw [e]
    exact k
  | succ m ih =>
    intro i a hi ha
    have hl := hlt i (by omega)
    refine x102_28 hh ⟨fun q => by omega, fun q => ⟨by omega, ?_⟩⟩
    rw [w32_id (by omega) (by omega), toN]
    refine ih (i + 1) _ (by omega) (fun j => ?_)
    rw [BitVec.getLsbD_or, ha, hset_s, shl1_bit (k := (I 23 i).toNat) (by omega) (by omega)]
    congr 1
    exact decide_eq_decide.2 ⟨fun q => q.symm, fun q => q.symm⟩
theorem s102 {K : Int → MI → MJ → B3 → Prop} {p2 : List Lin} {N : Nat} (hh : 6 ≤ h) (hT : rTown 0 92 I) (hR : rRound 0 92 I) (ht : rTxt 19 92 2 I true p2) (hN : I 22 0 = N) (k : ∀ I2, frK [21, 30] I I2 → K (fb_ct (nw fun i => (I 23 i).toNat) (rdF (rOK p2 I x) N 0) : Nat) I2 J b) : TriM G h 102 119 119 [vr 22, vr 1, vi x] (I, J, PP b) (cIN K) := by
  have hb := rdF_b (ok := rOK p2 I x) N 0
  refine x102_m hh (fun h hh => x102 hh (s100 (by omega) hT hR ht hN fun I2 hf2 => ?_))
  have hz : ∀ j, (0#64).getLsbD j = hset (fun i => (I2 23 i).toNat) 0 j := by
    intro j
    rw [BitVec.getLsbD_zero]
    unfold hset
    exact (decide_eq_false (by rintro ⟨i, h, -⟩; omega)).symm
  have hT2 := hT.k hf2 (by decide)
  have hR2 := hR.k hf2 (by decide)
  have k2 := k I2 hf2
  rw [← hf2 23 (by decide)] at k2
  have e22 : I2 22 0 = N := by rw [hf2 22 (by decide)]; exact hN
  by_cases hc : rdF (rOK p2 I x) N 0 = N
  · rw [if_pos hc]
    rw [hc] at k2
    refine ⟨fun q => absurd rfl q, fun _ => ?_⟩
    rw [e22]
    exact s102_l (by omega) hR2 hT2 (by omega) k2 N 0 0#64 (Nat.zero_add _) hz
  · rw [if_neg hc]
    exact ⟨fun _ => s102_l (by omega) hR2 hT2 (by omega) k2 _ 0 0#64 (Nat.zero_add _) hz, fun q => by omega⟩
theorem s254 {K : Int → MI → MJ → B3 → Prop} {p2 : List Lin} {i : Nat} (hh : 4 ≤ h) (hT : rTown 0 92 I) (hR : rRound 0 92 I) (ht : rTxt 19 92 2 I true p2) (hi : (i : Int) < I 22 0) (k : ∀ I2, frK [97, 98] I I2 → K (if rOK p2 I y i = true then 1 else 0) I2 J b) : TriM G h 254 119 119 [vr 91, vi i, vi y] (I, J, PP b) (cIN K) := by
  have r1 := hR.1
  have r2 := hR.2 i (by omega) (by simp only [Nat.reduceAdd]; exact hi)
  simp only [Nat.reduceAdd, toN] at r1 r2
  refine x254_m hh (fun h hh => x254 hh ?_)
  rw [w32_id (x := 2 * (i : Int)) (by omega) (by omega), w32_id (x := 400 + 2 * (i : Int)) (by omega) (by omega), w32_id (x := 400 + 2 * (i : Int) + 1) (by omega) (by omega), w32_id (x := 400 + 2 * (i : Int) - 1) (by omega) (by omega), w32_id (x := 400 + 2 * (i : Int) - 2) (by omega) (by omega), r2.1.1, r2.2.1]
  refine ⟨by omega, by omega, s229 (by omega) hT ht r2.1.2 fun I2 hf2 => ?_⟩
  have k2 := k I2 hf2
  unfold rOK at k2
  rw [hf2 92 (by decide), minF_k hf2 (by decide), hf2 2 (by decide)]
  cases hb : homeB p2 I (I 23 i) y (I 24 i) with
  | false =>
    rw [hb] at k2
    exact ⟨fun _ => cIN_r fun _ => k2, fun q => absurd rfl q⟩
  | true =>
    rw [hb] at k2
    refine ⟨fun q => absurd q (by decide), fun _ => ⟨fun q2 => cIN_r fun _ => ?_, fun q2 => ?_⟩⟩
    · rw [if_pos (by simp; omega)] at k2; exact k2
    · have r3 := hR.2 ((i : Int) - 1) (by omega) (by simp only [Nat.reduceAdd]; omega)
      simp only [Nat.reduceAdd] at r3
      rw [show 400 + 2 * ((i : Int) - 1) = 400 + 2 * (i : Int) - 2 by omega, show 400 + 2 * (i : Int) - 2 + 1 = 400 + 2 * (i : Int) - 1 by omega] at r3
      have hm := (min_in hT r3.1.2 r2.1.2).2
      rw [show ((i : Int) - 1).toNat = i - 1 by omega] at r3 hm
      rw [r3.1.1, r3.2.1, w32_id (by omega) (by omega)]
      refine ⟨by omega, by omega, ⟨hT.k hf2 (by decide), r3.1.2, r2.1.2⟩, fun q3 => cIN_r fun _ => ?_, fun q3 => cIN_r fun _ => ?_⟩
      · rw [if_neg (by simp; omega)] at k2; exact k2
      · rw [if_pos (by simp; omega)] at k2; exact k2
theorem s255_88 {Q : MP} {i r : Nat} {c : Int} (hi : i < r) (hr : r ≤ 24) {f : Nat → Int} (hf : ∀ t : Nat, t ≤ i → I 92 (400 + 2 * t) = f t) (k : ∀ w, w = (if nw (fun t => (f t).toNat) i = true then 1 else 0) → Tri G h 255 119 119 76 [some (vr 91), none, none, some (vi r), some (vi (w32 (c + w))), some (vi ((i : Int) + 1))] [] (I, J, PP b) Q) (hnn : ∀ t : Nat, t ≤ i → 0 ≤ f t) : ∀ (m j : Nat) (g : Int), j + m = i → (g = 0 ∨ g = 1) → (g = 0 ↔ ∀ t, t < j → f t ≠ f i) → Tri G h 255 119 119 88 [some (vr 91), none, none, some (vi r), some (vi c), some (vi i), some (vi g), some (vi j)] [] (I, J, PP b) Q := by
  intro m
  induction m with
  | zero =>
    intro j g hj hg hgt
    obtain rfl : j = i := hj
    have hnw : nw (fun t => (f t).toNat) j = true ↔ g = 0 := by
      unfold nw
      rw [decide_eq_true_eq, hgt]
      constructor
      · intro q t ht he
        exact q t ht (congrArg Int.toNat he)
      · intro q t ht he
        have h1 := hnn t (by omega)
        have h2 := hnn j (by omega)
        have he : (f t).toNat = (f j).toNat := he
        exact q t ht (by omega)
    refine x255_88 (Nat.zero_le _) ?_
    rw [w32_id (x := (j : Int) + 1) (by omega) (by omega)]
    refine ⟨fun _ => ⟨fun q => k 1 ?_, fun q => k 0 ?_⟩, fun q => by omega⟩
    · rw [if_pos (hnw.2 q)]
    · rw [if_neg (fun q2 => q (hnw.1 q2))]
  | succ m ih =>
    intro j g hj hg hgt
    refine x255_88 (Nat.zero_le _) ?_
    rw [w32_id (x := (j : Int) + 1) (by omega) (by omega), w32_id (x := 2 * (j : Int)) (by omega) (by omega), w32_id (x := 400 + 2 * (j : Int)) (by omega) (by omega), w32_id (x := 2 * (i : Int)) (by omega) (by omega), w32_id (x := 400 + 2 * (i : Int)) (by omega) (by omega), show (400 + 2 * (j : Int)).toNat = 400 + 2 * j by omega, show (400 + 2 * (i : Int)).toNat = 400 + 2 * i by omega, hf j (by omega), hf i (by omega)]
    refine ⟨fun q => by omega, fun _ => ⟨fun q => ?_, fun q => ⟨by omega, by omega, fun q2 => ?_, fun q2 => ?_⟩⟩⟩
    · refine ih (j + 1) 1 (by omega) (Or.inr rfl) ⟨fun q2 => by omega, fun q2 => absurd (hgt.2 fun t ht => q2 t (by omega)) q⟩
    · refine ih (j + 1) 0 (by omega) (Or.inl rfl) ⟨fun _ t ht => ?_, fun _ => rfl⟩
      by_cases h1 : t = j
      · rw [h1]; exact q2
      · exact hgt.1 (by omega) t (by omega)
    · exact ih (j + 1) 1 (by omega) (Or.inr rfl) ⟨fun q3 => by omega, fun q3 => absurd (show f j = f i by omega) (q3 j (by omega))⟩
theorem s255_76 {K : Int → MI → MJ → B3 → Prop} {r : Nat} {f : Nat → Int} (hr : r ≤ 24) (hf : ∀ t : Nat, t < r → I 92 (400 + 2 * t) = f t) (hnn : ∀ t : Nat, t < r → 0 ≤ f t) (k : K (fb_ct (nw fun t => (f t).toNat) r : Nat) I J b) : ∀ (m i : Nat), i + m = r → Tri G h 255 119 119 76 [some (vr 91), none, none, some (vi r), some (vi (fb_ct (nw fun t => (f t).toNat) i : Nat)), some (vi i)] [] (I, J, PP b) (cIN K) := by
  intro m
  induction m with
  | zero =>
    intro i hi
    obtain rfl : i = r := hi
    exact x255_76 (Nat.zero_le _) ⟨fun _ => cIN_r fun _ => k, fun q => by omega⟩
  | succ m ih =>
    intro i hi
    have hc := fb_ct_le (nw fun t => (f t).toNat) i
    refine x255_76 (Nat.zero_le _) ⟨fun q => by omega, fun _ => s255_88 (f := f) (by omega) hr (fun t ht => hf t (by omega)) (fun w hw => ?_) (fun t ht => hnn t (by omega)) i 0 0 (Nat.zero_add _) (Or.inl rfl) ⟨fun _ t ht => by omega, fun _ => rfl⟩⟩
    have := ih (i + 1) (by omega)
    rw [fb_ct_succ] at this
    have e : w32 (((fb_ct (nw fun t => (f t).toNat) i : Nat) : Int) + w) = ((fb_ct (nw fun t => (f t).toNat) i + (if nw (fun t => (f t).toNat) i = true then 1 else 0) : Nat) : Int) := by
      rw [hw]
      split
      · rw [w32_id (by omega) (by omega)]; rfl
      · rw [w32_id (by omega) (by omega)]; rfl
    rw [e]
    exact this
theorem s255_l {K : Int → MI → MJ → B3 → Prop} {p2 : List Lin} {N : Nat} (hh : 4 ≤ h) (hT : rTown 0 92 I) (hR : rRound 0 92 I) (ht : rTxt 19 92 2 I true p2) (hN : I 22 0 = N) (hy : y = 0 ∨ y = 1) (k : ∀ I2, frK [97, 98] I I2 → K (if y = 0 then (if rdF (rOK p2 I x) N 0 = N then -1 else rdF (rOK p2 I x) N 0) else (fb_ct (nw fun i => (I 23 i).toNat) (rdF (rOK p2 I x) N 0) : Nat)) I2 J b) : ∀ (m i : Nat) (I' : MI), i + m = N → frK [97, 98] I I' → rdF (rOK p2 I x) m i = rdF (rOK p2 I x) N 0 → Tri G h 255 119 119 23 [some (vr 91), some (vi x), some (vi y), some (vi i)] [] (I', J, PP b) (cIN K) := by
  have r1 := hR.1
  simp only [Nat.reduceAdd] at r1
  have hlt : ∀ i : Nat, i < N → I 92 (400 + 2 * i) = I 23 i ∧ 0 ≤ I 23 i := by
    intro i hi
    have := (hR.2 i (by omega) (by simp only [Nat.reduceAdd]; omega)).1
    simp only [Nat.reduceAdd, toN] at this
    rw [show (400 + 2 * (i : Int)).toNat = 400 + 2 * i by omega] at this
    exact ⟨this.1, this.2.1⟩
  have fin : ∀ (i : Nat) (I2 : MI), i = rdF (rOK p2 I x) N 0 → i ≤ N → frK [97, 98] I I2 → ((¬ y = 0 → Tri G h 255 119 119 76 [some (vr 91), none, none, some (vi i), some (vi 0), some (vi 0)] [] (I2, J, PP b) (cIN K)) ∧ (¬ (¬ y = 0) → ((¬ (i : Int) = I2 92 7 → cIN K (some (vi i)) (I2, J, PP b)) ∧ (¬ (¬ (i : Int) = I2 92 7) → cIN K (some (vi (-1))) (I2, J, PP b))))) := by
    intro i I2 hi hiN hf2
    have k2 := k I2 hf2
    rw [← hi] at k2
    have e7 : I2 92 7 = N := by rw [hf2 92 (by decide)]; omega
    refine ⟨fun q => ?_, fun q => ?_⟩
    · rw [if_neg q] at k2
      exact s255_76 (f := I 23) (by omega) (fun t ht => by rw [hf2 92 (by decide)]; exact (hlt t (by omega)).1) (fun t ht => (hlt t (by omega)).2) k2 i 0 (Nat.zero_add _)
    · rw [if_pos (by omega)] at k2
      rw [e7]
      refine ⟨fun q2 => cIN_r fun _ => ?_, fun q2 => cIN_r fun _ => ?_⟩
      · rw [if_neg (by omega)] at k2; exact k2
      · rw [if_pos (by omega)] at k2; exact k2
  intro m
  induction m with
  | zero =>
    intro i I' hi hf hr
    have hr2 : i = rdF (rOK p2 I x) N 0 := hr
    exact x255_23 hh ⟨fun _ => fin i I' hr2 (by omega) hf, fun q => by rw [hf 92 (by decide)] at q; omega⟩
  | succ m ih =>
    intro i I' hi hf hr
    have hT' := hT.k hf (by decide)
    have hR' := hR.k hf (by decide)
    have ht' := ht.k hf (by decide) (by decide) (by decide)
    have e : rdF (rOK p2 I x) (m + 1) i = if rOK p2 I x i = true then rdF (rOK p2 I x) m (i + 1) else i := rfl
    have ek : rOK p2 I' x i = rOK p2 I x i := by
      unfold rOK
      rw [homeB_k p2 hf (by decide), minF_k hf (by decide), hf 23 (by decide), hf 24 (by decide)]
    refine x255_23 hh ⟨fun q => by rw [hf 92 (by decide)] at q; omega, fun _ => s254 (by omega) hT' hR' ht' (by rw [hf 22 (by decide)]; omega) fun I2 hf2 => ?_⟩
    rw [ek]
    have hf3 := hf.t hf2
    cases hb : rOK p2 I x i with
    | false =>
      rw [hb, if_neg (by decide)] at e
      exact ⟨fun _ => fin i I2 (by rw [← hr, e]) (by omega) hf3, fun q => absurd rfl q⟩
    | true =>
      rw [hb, if_pos rfl] at e
      refine ⟨fun q => absurd q (by decide), fun _ => ?_⟩
      rw [w32_id (by omega) (by omega)]
      exact ih (i + 1) I2 (by omega) hf3 (by rw [← e]; exact hr)
theorem pub_round (hI : INV n I J) (hn : n < 64) (hh : 40 ≤ h) : PairI G h 162 255 [vi x, vi y] (n + 1) I J b := by
  have hI2 := hI.suc hn
  obtain ⟨p2, hT, hR, ht⟩ : ∃ p2, rTown 0 92 I ∧ rRound 0 92 I ∧ rTxt 19 92 2 I true p2 := by
    obtain ⟨p0, p1, p2, ⟨a1, a2, a3, a4, a5⟩, ⟨t0, t1, t2⟩, -⟩ := hI
    exact ⟨p2, a1, a3, t2⟩
  have r1 := hR.1
  simp only [Nat.reduceAdd] at r1
  obtain ⟨N, hN⟩ : ∃ N : Nat, I 22 0 = N := ⟨(I 22 0).toNat, by omega⟩
  have no : ¬ ((0 ≤ x ∧ x < 100) ∧ (y = 0 ∨ y = 1)) → cIN (fun x_1 I1 J1 b1 => TriM G h 255 119 119 [vr 91, vi x, vi y] (I1, J1, PP b1) (cIN fun y I2 J2 _ => x_1 = y ∧ INV (n + 1) I2 J2)) (some (vi (-1))) (I, J, PP b) := by
    intro hx
    have fin : cIN (fun y I2 J2 _ => -1 = y ∧ INV (n + 1) I2 J2) (some (vi (-1))) (I, J, PP b) := cIN_r fun _ => ⟨rfl, hI2⟩
    exact cIN_r fun _ => x255_m (by omega) fun h2 hh2 => x255 (by omega) ⟨fun q1 => ⟨fun q2 => absurd (show (0 ≤ x ∧ x < 100) ∧ (y = 0 ∨ y = 1) by omega) hx, fun _ => fin⟩, fun _ => fin⟩
  have yes : (0 ≤ x ∧ x < 100) → (y = 0 ∨ y = 1) → ∀ (I2 : MI) (w : Int), frK [21, 30] I I2 → w = (if y = 0 then (if rdF (rOK p2 I x) N 0 = N then -1 else (rdF (rOK p2 I x) N 0 : Int)) else (fb_ct (nw fun i => (I 23 i).toNat) (rdF (rOK p2 I x) N 0) : Nat)) → cIN (fun x_1 I1 J1 b1 => TriM G h 255 119 119 [vr 91, vi x, vi y] (I1, J1, PP b1) (cIN fun y I2 J2 _ => x_1 = y ∧ INV (n + 1) I2 J2)) (some (vi w)) (I2, J, PP b) := by
    intro hx hy I2 w hf2 hw
    have ek : rOK p2 I2 x = rOK p2 I x := by
      funext i
      unfold rOK
      rw [homeB_k p2 hf2 (by decide), minF_k hf2 (by decide), hf2 23 (by decide), hf2 24 (by decide)]
    refine cIN_r fun _ => x255_m (by omega) fun h2 hh2 => x255 (by omega) ⟨fun _ => ⟨fun _ => s255_l hh2 (hT.k hf2 (by decide)) (hR.k hf2 (by decide)) (ht.k hf2 (by decide) (by decide) (by decide)) (N := N) (by rw [hf2 22 (by decide)]; exact hN) hy (fun I3 hf3 => ?_) N 0 I2 (Nat.zero_add _) frK.r rfl, fun q => by omega⟩, fun q => by omega⟩
    rw [ek, hf2 23 (by decide)]
    exact ⟨hw, hI2.sc ((hf2.mo (by decide)).t (hf3.mo (by decide))) (fun _ _ => rfl)⟩
  refine x162_m (by omega) (fun h2 hh2 => x162 hh2 ⟨fun q1 => ⟨⟨fun q2 => s100 (by omega) hT hR ht hN fun I2 hf2 => yes q1 (Or.inl q2) I2 _ hf2 (by rw [if_pos q2]), fun q2 => s102 (by omega) hT hR ht hN fun I2 hf2 => yes q1 (Or.inr q2) I2 _ hf2 (by rw [if_neg (by omega)]), trivial⟩, fun q2 q3 => no (by omega)⟩, fun q1 => no (by omega)⟩)
end ROUND
