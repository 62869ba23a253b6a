/-! evenness -/
theorem si_ge {f : Nat → Int} : ∀ {n : Nat}, (∀ k, k < n → 0 ≤ f k) → 0 ≤ fb_si f n ∧ ∀ k, k < n → f k ≤ fb_si f n
  | 0, _ => ⟨Int.le_refl _, fun k hk => by omega⟩
  | n + 1, h => by
    have ih := si_ge (f := f) (n := n) (fun k hk => h k (by omega))
    have h1 := h n (by omega)
    rw [fb_si_succ]
    refine ⟨by omega, fun k hk => ?_⟩
    by_cases hkn : k = n
    · subst hkn; omega
    · have := ih.2 k (by omega)
      omega
theorem si_sq {f : Nat → Int} : ∀ {n : Nat}, (∀ k, k < n → 0 ≤ f k) → 0 ≤ fb_si (fun d => f d * f d) n ∧ fb_si (fun d => f d * f d) n ≤ fb_si f n * fb_si f n
  | 0, _ => ⟨Int.le_refl _, Int.le_refl _⟩
  | n + 1, h => by
    have ih := si_sq (f := f) (n := n) (fun k hk => h k (by omega))
    have h1 := h n (by omega)
    have h2 := (si_ge (f := f) (n := n) (fun k hk => h k (by omega))).1
    rw [fb_si_succ, fb_si_succ]
    have h3 : 0 ≤ fb_si f n * f n := Int.mul_nonneg h2 h1
    have h4 : 0 ≤ f n * f n := Int.mul_nonneg h1 h1
    have h5 : (fb_si f n + f n) * (fb_si f n + f n) = fb_si f n * fb_si f n + fb_si f n * f n + (fb_si f n * f n + f n * f n) := by
      rw [Int.add_mul, Int.mul_add, Int.mul_add, Int.mul_comm (f n) (fb_si f n)]
    rw [h5]
    show 0 ≤ fb_si (fun d => f d * f d) n + f n * f n ∧ _
    omega
def tlF (I : MI) (c : Int) : Nat → Nat → PS → PS
  | 0, _, s => s
  | m + 1, e, s => tlF I c m (e + 1) (if s.2 < 15 ∧ byE I c 0 e = true then (up1 s.1 (fact I e 5 % 10).toNat (s.1 (fact I e 5 % 10).toNat + 1), s.2 + 1) else s)
def tlOK (s : PS) : Prop := (∀ j : Nat, j < 10 → 0 ≤ s.1 j) ∧ fb_si s.1 10 = s.2 ∧ 0 ≤ s.2 ∧ s.2 ≤ 15
theorem tlF_full {I : MI} {c : Int} : ∀ (m e : Nat) (s : PS), 15 ≤ s.2 → tlF I c m e s = s
  | 0, _, _, _ => rfl
  | m + 1, e, s, h => by
    simp only [tlF]
    rw [if_neg (by omega)]
    exact tlF_full m (e + 1) s h
theorem tl_ok {s : PS} {d : Nat} (hd : d < 10) (h : tlOK s) (h15 : s.2 < 15) : tlOK (up1 s.1 d (s.1 d + 1), s.2 + 1) := by
  obtain ⟨h1, h2, h3, h4⟩ := h
  refine ⟨fun j hj => ?_, ?_, ?_, ?_⟩
  · show 0 ≤ up1 s.1 d _ j
    unfold up1
    split
    · have := h1 d hd; omega
    · exact h1 j hj
  · show fb_si (up1 s.1 d (s.1 d + 1)) 10 = s.2 + 1
    have := fb_si_upd s.1 (s.1 d + 1) hd
    unfold up1
    rw [this]
    omega
  · show 0 ≤ s.2 + 1; omega
  · show s.2 + 1 ≤ 15; omega
theorem tlF_ok {I : MI} (hB : rBook 0 92 I) {c : Int} : ∀ (m e : Nat) (s : PS), ((e + m : Nat) : Int) ≤ I 7 0 → tlOK s → tlOK (tlF I c m e s)
  | 0, _, _, _, h => h
  | m + 1, e, s, he, h => by
    simp only [tlF]
    refine tlF_ok hB m (e + 1) _ (by omega) ?_
    split
    · next hc =>
      have h5 := (ent_f hB (e := e) (by omega)).2.2.2.2.2.2
      exact tl_ok (by omega) h hc.1
    · exact h
/-- the digits of a counter: how often each comes, how many there are -/
def evD (I : MI) (c : Int) : PS := tlF I c (I 7 0).toNat 0 (fun _ => 0, 0)
def evN (I : MI) (c : Int) : Int := fb_si (fun d => (evD I c).1 d * (evD I c).1 d) 10
theorem evD_ok {I : MI} (hB : rBook 0 92 I) (c : Int) : tlOK (evD I c) := by
  have b1 := hB.1
  simp only [Nat.reduceAdd] at b1
  exact tlF_ok hB _ _ _ (by omega) ⟨fun j _ => Int.le_refl _, rfl, Int.le_refl _, by decide⟩
theorem evN_b {I : MI} (hB : rBook 0 92 I) (c : Int) : 0 ≤ evN I c ∧ evN I c ≤ 225 := by
  obtain ⟨h1, h2, h3, h4⟩ := evD_ok hB c
  have hs := si_sq (f := (evD I c).1) (n := 10) h1
  have hm : (evD I c).2 * (evD I c).2 ≤ 15 * 15 := Int.mul_le_mul h4 h4 h3 (by decide)
  rw [h2] at hs
  unfold evN
  omega
section COUNTER
variable {G : Ctx} {h n : Nat} {I : MI} {J : MJ} {b : B3} {x y z u v e : Int} {a : BitVec 64}
theorem s40_l {K : Int → MI → MJ → B3 → Prop} (hh : 3 ≤ h) (hB : rBook 0 92 I) (k : ∀ I2, frK [83] I I2 → (∀ j : Nat, j < 10 → I2 83 j = (evD I x).1 j) → K (evD I x).2 I2 J b) : ∀ (m i : Nat) (I' : MI) (s : PS), (i : Int) + m = I 7 0 → frK [83] I I' → tlOK s → (∀ j : Nat, j < 10 → I' 83 j = s.1 j) → tlF I x m i s = evD I x → Tri G h 40 119 119 12 [some (vr 82), some (vi x), some (vi s.2), some (vi i)] [] (I', J, PP b) (cIN K) := by
  have b1 := hB.1
  simp only [Nat.reduceAdd] at b1
  intro m
  induction m with
  | zero =>
    intro i I' s hi hf hs hr he
    have he2 : s = evD I x := he
    subst he2
    exact x40_12 hh ⟨fun _ => cIN_r fun _ => k I' hf hr, fun q => by rw [hf 7 (by decide)] at q; omega⟩
  | succ m ih =>
    intro i I' s hi hf hs hr he
    have hB' := hB.k hf (by decide)
    have e7 := hf 7 (by decide)
    have h5 := (ent_f hB (e := i) (by omega)).2.2.2.2.2.2
    refine x40_12 hh ⟨fun q => by rw [e7] at q; omega, fun _ => ⟨fun q => cIN_r fun _ => ?_, fun q => ⟨⟨hB', by omega, by rw [e7]; omega⟩, fun q2 => ?_, fun q2 => ?_⟩⟩⟩
    · rw [tlF_full (m + 1) i s q] at he
      subst he
      exact k I' hf hr
    · rw [toN, byE_k hf (by decide)] at q2
      rw [e7]
      have e5 : I' 8 ((i : Int) * 6 + 5).toNat = fact I i 5 := by rw [hf 8 (by decide)]; rfl
      rw [e5]
      refine ⟨by omega, s18 (by omega) (by omega) ⟨by omega, by omega, ?_⟩⟩
      have hd : (fact I i 5 % 10).toNat < 10 := by omega
      have hrd := hr _ hd
      have hb := (si_ge (f := s.1) (n := 10) hs.1).2 _ hd
      have hb0 := hs.1 _ hd
      have hs2 := hs.2
      rw [hrd, w32_id (x := s.2 + 1) (by omega) (by omega), w32_id (x := (i : Int) + 1) (by omega) (by omega), w32_id (by omega) (by omega)]
      simp only [tlF] at he
      rw [if_pos ⟨by omega, q2⟩] at he
      refine ih (i + 1) _ (up1 s.1 (fact I i 5 % 10).toNat (s.1 (fact I i 5 % 10).toNat + 1), s.2 + 1) (by omega) (hf.u (by decide)) (tl_ok hd hs (by omega)) (fun j hj => ?_) he
      show u2 I' 83 _ _ 83 j = up1 s.1 _ _ j
      unfold up1
      by_cases hj2 : j = (fact I i 5 % 10).toNat
      · rw [if_pos hj2, hj2, u2e]
      · rw [if_neg hj2, u2j hj2]; exact hr j hj
    · rw [toN, byE_k hf (by decide)] at q2
      rw [w32_id (by omega) (by omega)]
      simp only [tlF] at he
      rw [if_neg (fun z => q2 z.2)] at he
      exact ih (i + 1) I' s (by omega) hf hs hr he
theorem s40 {K : Int → MI → MJ → B3 → Prop} (hh : 4 ≤ h) (hB : rBook 0 92 I) (k : ∀ I2, frK [83] I I2 → (∀ j : Nat, j < 10 → I2 83 j = (evD I x).1 j) → K (evD I x).2 I2 J b) : TriM G h 40 119 119 [vr 82, vi x] (I, J, PP b) (cIN K) := by
  have b1 := hB.1
  simp only [Nat.reduceAdd] at b1
  refine x40_m hh (fun h hh => x40 (by omega) (s40_l hh hB k (I 7 0).toNat 0 _ (fun _ => 0, 0) (by omega) (frK.r.u1 (by decide)) ⟨fun j _ => Int.le_refl _, rfl, Int.le_refl _, by decide⟩ (fun j hj => ?_) rfl))
  rw [u1e, if_pos hj]
theorem s41_l {K : Int → MI → MJ → B3 → Prop} {f : Nat → Int} (hf : ∀ j : Nat, j < 10 → I 83 j = f j ∧ 0 ≤ f j ∧ f j ≤ 15) (k : K (fb_si (fun d => f d * f d) 10) I J b) : ∀ (m i : Nat), i + m = 10 → 0 ≤ fb_si (fun d => f d * f d) i ∧ fb_si (fun d => f d * f d) i ≤ 225 * i → Tri G h 41 119 119 4 [some (vr 82), some (vi (fb_si (fun d => f d * f d) i)), some (vi i)] [] (I, J, PP b) (cIN K) := by
  intro m
  induction m with
  | zero =>
    intro i hi hb
    obtain rfl : i = 10 := hi
    exact x41_4 (Nat.zero_le _) ⟨fun _ => cIN_r fun _ => k, fun q => by omega⟩
  | succ m ih =>
    intro i hi hb
    obtain ⟨h1, h2, h3⟩ := hf i (by omega)
    have h4 : 0 ≤ f i * f i := Int.mul_nonneg h2 h2
    have h5 : f i * f i ≤ 15 * 15 := Int.mul_le_mul h3 h3 h2 (by decide)
    refine x41_4 (Nat.zero_le _) ?_
    rw [toN, h1, w32_id (x := f i * f i) (by omega) (by omega), w32_id (x := (i : Int) + 1) (by omega) (by omega), w32_id (by omega) (by omega)]
    refine ⟨fun q => by omega, fun _ => ⟨by omega, by omega, ?_⟩⟩
    have := ih (i + 1) (by omega) (by rw [fb_si_succ]; omega)
    rw [fb_si_succ] at this
    exact this
theorem s41 {K : Int → MI → MJ → B3 → Prop} {f : Nat → Int} (hh : 1 ≤ h) (hf : ∀ j : Nat, j < 10 → I 83 j = f j ∧ 0 ≤ f j ∧ f j ≤ 15) (k : K (fb_si (fun d => f d * f d) 10) I J b) : TriM G h 41 119 119 [vr 82] (I, J, PP b) (cIN K) :=
  x41_m hh (fun h hh => x41 hh (s41_l hf k 10 0 rfl ⟨Int.le_refl _, Int.le_refl _⟩))
theorem ev_rows (hB : rBook 0 92 I) {f : Nat → Int} (hf : ∀ j : Nat, j < 10 → f j = (evD I x).1 j) : ∀ j : Nat, j < 10 → f j = (evD I x).1 j ∧ 0 ≤ (evD I x).1 j ∧ (evD I x).1 j ≤ 15 := by
  intro j hj
  obtain ⟨h1, h2, h3, h4⟩ := evD_ok hB x
  have := (si_ge h1).2 j hj
  exact ⟨hf j hj, h1 j hj, by omega⟩
theorem s42 {K : Int → MI → MJ → B3 → Prop} (hh : 5 ≤ h) (hB : rBook 0 92 I) (k : ∀ I2, frK [83] I I2 → K (evN I x) I2 J b) : TriM G h 42 119 119 [vr 82, vi x] (I, J, PP b) (cIN K) :=
  x42_m hh (fun h hh => x42 hh (s40 (by omega) hB fun I2 hf hr => s41 (by omega) (ev_rows hB hr) (cIN_r fun _ => k I2 hf)))
/-! the reference -/
theorem s247_3 {K : Int → MI → MJ → B3 → Prop} {f : Nat → Int} (hf : ∀ j : Nat, j < 10 → I 111 j = f j ∧ 0 ≤ f j ∧ f j ≤ 15) (k : K (fb_si (fun d => f d * f d) 10) I J b) : ∀ (m i : Nat), i + m = 10 → 0 ≤ fb_si (fun d => f d * f d) i ∧ fb_si (fun d => f d * f d) i ≤ 225 * i → Tri G h 247 119 119 115 [some (vr 91), none, some (vi (fb_si (fun d => f d * f d) i)), some (vi i)] [] (I, J, PP b) (cIN K) := by
  intro m
  induction m with
  | zero =>
    intro i hi hb
    obtain rfl : i = 10 := hi
    exact x247_115 (Nat.zero_le _) ⟨fun _ => cIN_r fun _ => k, fun q => by omega⟩
  | succ m ih =>
    intro i hi hb
    obtain ⟨h1, h2, h3⟩ := hf i (by omega)
    have h4 : 0 ≤ f i * f i := Int.mul_nonneg h2 h2
    have h5 : f i * f i ≤ 15 * 15 := Int.mul_le_mul h3 h3 h2 (by decide)
    refine x247_115 (Nat.zero_le _) ?_
    rw [toN, h1, w32_id (x := f i * f i) (by omega) (by omega), w32_id (x := (i : Int) + 1) (by omega) (by omega), w32_id (by omega) (by omega)]
    refine ⟨fun q => by omega, fun _ => ⟨by omega, by omega, ?_⟩⟩
    have := ih (i + 1) (by omega) (by rw [fb_si_succ]; omega)
    rw [fb_si_succ] at this
    exact this
def fr91 (I I' : MI) : Prop := frK [91, 111] I I' ∧ ∀ j, j ≠ 35 → I' 91 j = I 91 j
theorem s247_2 {K : Int → MI → MJ → B3 → Prop} (hh : 2 ≤ h) (hB : rBook 0 92 I) (k : ∀ I2, fr91 I I2 → I2 91 35 = (evD I x).2 → K (evN I x) I2 J b) : ∀ (m i : Nat) (I' : MI) (s : PS), (i : Int) + m = I 7 0 → fr91 I I' → I' 91 35 = s.2 → tlOK s → (∀ j : Nat, j < 10 → I' 111 j = s.1 j) → tlF I x m i s = evD I x → Tri G h 247 119 119 28 [some (vr 91), some (vi x), some (vi i)] [] (I', J, PP b) (cIN K) := by
  have b1 := hB.1
  simp only [Nat.reduceAdd] at b1
  intro m
  induction m with
  | zero =>
    intro i I' s hi hf h35 hs hr he
    have he2 : s = evD I x := he
    subst he2
    exact x247_28 hh ⟨fun _ => s247_3 (ev_rows hB hr) (k I' hf h35) 10 0 rfl ⟨Int.le_refl _, Int.le_refl _⟩, fun q => by rw [hf.1 92 (by decide)] at q; omega⟩
  | succ m ih =>
    intro i I' s hi hf h35 hs hr he
    have hB' := hB.k hf.1 (by decide)
    have e7 := hf.1 7 (by decide)
    have e92 := hf.1 92 (by decide)
    have hen := ent_f hB (e := i) (by omega)
    have h5 := hen.2.2.2.2.2.2
    have no : ¬ byE I x 0 i = true → Tri G h 247 119 119 28 [some (vr 91), some (vi x), some (vi (w32 ((i : Int) + 1)))] [] (I', J, PP b) (cIN K) := by
      intro q2
      rw [w32_id (by omega) (by omega)]
      simp only [tlF] at he
      rw [if_neg (fun z => q2 z.2)] at he
      exact ih (i + 1) I' s (by omega) hf h35 hs hr he
    rw [byE_iff] at no
    refine x247_28 hh ?_
    rw [e92, hen.1.1, hen.1.2.1, hen.1.2.2.2.2.2, toN, knB_c e7 (hf.1 9 (by decide)) (hf.1 10 (by decide)), h35, iRem_pos h5.1 (by omega) (by omega) (by omega)]
    refine ⟨fun q => by omega, fun _ => ⟨fun q => ?_, fun q => ⟨⟨hB', by omega, by rw [e7]; omega⟩, fun q2 => ⟨by omega, fun q3 => no fun z => q3 z.1, fun q3 => ⟨by omega, fun q4 => ⟨by omega, by omega, by omega, ?_⟩, fun q4 => no fun z => q4 z.2.1⟩⟩, fun q2 => no fun z => q2 z.2.2⟩⟩⟩
    · rw [tlF_full (m + 1) i s q] at he
      subst he
      exact s247_3 (ev_rows hB hr) (k I' hf h35) 10 0 rfl ⟨Int.le_refl _, Int.le_refl _⟩
    · have hb : byE I x 0 i = true := byE_iff.2 ⟨by omega, q4, q2⟩
      have hd : (fact I i 5 % 10).toNat < 10 := by omega
      have hrd := hr _ hd
      have hbb := (si_ge (f := s.1) (n := 10) hs.1).2 _ hd
      have hb0 := hs.1 _ hd
      have hs2 := hs.2
      rw [hrd, w32_id (x := s.2 + 1) (by omega) (by omega), w32_id (x := (i : Int) + 1) (by omega) (by omega), w32_id (by omega) (by omega)]
      simp only [tlF] at he
      rw [if_pos ⟨by omega, hb⟩] at he
      refine ih (i + 1) _ (up1 s.1 (fact I i 5 % 10).toNat (s.1 (fact I i 5 % 10).toNat + 1), s.2 + 1) (by omega) ⟨(hf.1.u (by decide)).u (by decide), fun j hj => ?_⟩ u2e (tl_ok hd hs (by omega)) (fun j hj => ?_) he
      · rw [u2j hj, u2n (by decide)]; exact hf.2 j hj
      · rw [u2n (by decide)]
        show u2 I' 111 _ _ 111 j = up1 s.1 _ _ j
        unfold up1
        by_cases hj2 : j = (fact I i 5 % 10).toNat
        · rw [if_pos hj2, hj2, u2e]
        · rw [if_neg hj2, u2j hj2]; exact hr j hj
theorem s247_1 {Q : MP} (k : ∀ I2, fr91 I I2 → I2 91 35 = 0 → (∀ j : Nat, j < 10 → I2 111 j = 0) → Tri G h 247 119 119 28 [some (vr 91), some (vi x), some (vi 0)] [] (I2, J, PP b) Q) : ∀ (m i : Nat) (I' : MI), i + m = 10 → fr91 I I' → I' 91 35 = 0 → (∀ j : Nat, j < i → I' 111 j = 0) → Tri G h 247 119 119 7 [some (vr 91), some (vi x), some (vi i)] [] (I', J, PP b) Q := by
  intro m
  induction m with
  | zero =>
    intro i I' hi hf h35 hr
    exact x247_7 (Nat.zero_le _) ⟨fun _ => k I' hf h35 fun j hj => hr j (by omega), fun q => by omega⟩
  | succ m ih =>
    intro i I' hi hf h35 hr
    refine x247_7 (Nat.zero_le _) ⟨fun q => by omega, fun _ => ⟨by omega, ?_⟩⟩
    rw [w32_id (by omega) (by omega), toN]
    refine ih (i + 1) _ (by omega) ⟨hf.1.u (by decide), fun j hj => ?_⟩ (by rw [u2n (by decide)]; exact h35) (fun j hj => ?_)
    · rw [u2n (by decide)]; exact hf.2 j hj
    · by_cases hj2 : j = i
      · subst hj2; exact u2e
      · rw [u2j hj2]; exact hr j (by omega)
theorem s247 {K : Int → MI → MJ → B3 → Prop} (hh : 3 ≤ h) (hB : rBook 0 92 I) (k : ∀ I2, fr91 I I2 → I2 91 35 = (evD I x).2 → K (evN I x) I2 J b) : TriM G h 247 119 119 [vr 91, vi x] (I, J, PP b) (cIN K) := by
  have b1 := hB.1
  simp only [Nat.reduceAdd] at b1
  refine x247_m hh (fun h hh => x247 (Nat.zero_le _) (s247_1 (I := I) (fun I2 hf h35 hr => s247_2 hh hB k (I 7 0).toNat 0 I2 (fun _ => 0, 0) (by omega) hf h35 ⟨fun j _ => Int.le_refl _, rfl, Int.le_refl _, by decide⟩ hr rfl) 10 0 _ rfl ⟨frK.r.u (by decide), fun j hj => u2j hj⟩ u2e (fun j hj => by omega)))
theorem INV.f91 {c : Nat} {I' : MI} (hI : INV c I J) (hf : fr91 I I') : INV c I' J := hI.sc1 (hf.1.mo (by decide)) (fun j hj => hf.2 j (by revert hj; simp; omega)) (fun _ _ => rfl)
theorem pub_counter (hI : INV n I J) (hn : n < 64) (hh : 40 ≤ h) : PairI G h 158 249 [vi x, vi y] (n + 1) I J b := by
  have hI2 := hI.suc hn
  obtain ⟨p2, hT, hB, ht⟩ : ∃ p2, rTown 0 92 I ∧ rBook 0 92 I ∧ rTxt 19 92 2 I true p2 := by
    obtain ⟨p0, p1, p2, ⟨a1, a2, a3, a4, a5⟩, ⟨t0, t1, t2⟩, -⟩ := hI
    exact ⟨p2, a1, a2, t2⟩
  have no : ¬ ((0 ≤ x ∧ x < 11) ∧ 0 ≤ y ∧ y ≤ 5) → cIN (fun x_1 I1 J1 b1 => TriM G h 249 119 119 [vr 91, vi x, vi y] (I1, J1, PP b1) (cIN fun y I2 J2 _ => x_1 = y ∧ INV (n + 1) I2 J2)) (some (vi (-1))) (I, J, PP b) := by
    intro hx
    have fin : cIN (fun y I2 J2 _ => -1 = y ∧ INV (n + 1) I2 J2) (some (vi (-1))) (I, J, PP b) := cIN_r fun _ => ⟨rfl, hI2⟩
    exact cIN_r fun _ => x249_m (by omega) fun h2 hh2 => x249 (by omega) ⟨fun q1 => ⟨⟨fun q => by omega, fun q => by omega, fun q => by omega, fun q => by omega, fun q => by omega, fun q => by omega, trivial⟩, fun _ => fin⟩, fun _ => fin⟩
  have fin : ∀ w, cIN (fun y I2 J2 _ => w = y ∧ INV (n + 1) I2 J2) (some (vi w)) (I, J, PP b) := fun w => cIN_r fun _ => ⟨rfl, hI2⟩
  have one : (0 ≤ x ∧ x < 11) → (y = 0 ∨ y = 1) → cIN (fun x_1 I1 J1 b1 => TriM G h 249 119 119 [vr 91, vi x, vi y] (I1, J1, PP b1) (cIN fun y I2 J2 _ => x_1 = y ∧ INV (n + 1) I2 J2)) (some (vi (cntE (byE I x y) (I 7 0).toNat))) (I, J, PP b) := by
    intro hx hy
    have m : TriM G h 244 119 119 [vr 91, vi x, vi y] (I, J, PP b) (cIN fun r1 I1 J1 b1 => cIN (fun w I2 J2 _ => cntE (byE I x y) (I 7 0).toNat = w ∧ INV (n + 1) I2 J2) (some (vi r1)) (I1, J1, PP b1)) := s244 (by omega) hB fun I2 B hf hR hr => cIN_r fun _ => ⟨by rw [cnt_len, hR.1.length_eq], hI2.sc (hf.mo (by decide)) (fun _ _ => rfl)⟩
    refine cIN_r fun _ => x249_m (by omega) fun h2 hh2 => x249 (by omega) ⟨fun _ => ⟨⟨fun q => ?_, fun q => ?_, fun q => by omega, fun q => by omega, fun q => by omega, fun q => by omega, trivial⟩, fun q => by omega⟩, fun q => absurd hx q⟩
    · exact s244 (by omega) hB fun I2 B hf hR hr => cIN_r fun _ => ⟨by rw [cnt_len, hR.1.length_eq], hI2.sc (hf.mo (by decide)) (fun _ _ => rfl)⟩
    · exact s244 (by omega) hB fun I2 B hf hR hr => cIN_r fun _ => ⟨by rw [cnt_len, hR.1.length_eq], hI2.sc (hf.mo (by decide)) (fun _ _ => rfl)⟩
  have two : (0 ≤ x ∧ x < 11) → y = 2 → ∀ I2, frK [21, 30] I I2 → cIN (fun x_1 I1 J1 b1 => TriM G h 249 119 119 [vr 91, vi x, vi y] (I1, J1, PP b1) (cIN fun y I2 J2 _ => x_1 = y ∧ INV (n + 1) I2 J2)) (some (vi (cntE (fun e => byE I x 0 e && ghE p2 I e) (I 7 0).toNat))) (I2, J, PP b) := by
    intro hx hy I2 hf2
    refine cIN_r fun _ => x249_m (by omega) fun h2 hh2 => x249 (by omega) ⟨fun _ => ⟨⟨fun q => by omega, fun q => by omega, fun q => ?_, fun q => by omega, fun q => by omega, fun q => by omega, trivial⟩, fun q => by omega⟩, fun q => absurd hx q⟩
    refine s245 (by omega) (hT.k hf2 (by decide)) (hB.k hf2 (by decide)) (ht.k hf2 (by decide) (by decide) (by decide)) fun I3 hf3 => cIN_r fun _ => ⟨?_, hI2.sc ((hf2.mo (by decide)).t (hf3.mo (by decide))) (fun _ _ => rfl)⟩
    rw [byE_k hf2 (by decide), ghE_k p2 hf2 (by decide), hf2 7 (by decide)]
  have thr : (0 ≤ x ∧ x < 11) → (y = 3 ∨ y = 4) → cIN (fun x_1 I1 J1 b1 => TriM G h 249 119 119 [vr 91, vi x, vi y] (I1, J1, PP b1) (cIN fun y I2 J2 _ => x_1 = y ∧ INV (n + 1) I2 J2)) (some (vi (cntE (fun e => byE I x (y - 3) e && qkP I x (y - 3) e) (I 7 0).toNat))) (I, J, PP b) := by
    intro hx hy
    refine cIN_r fun _ => x249_m (by omega) fun h2 hh2 => x249 (by omega) ⟨fun _ => ⟨⟨fun q => by omega, fun q => by omega, fun q => by omega, fun q => ?_, fun q => ?_, fun q => by omega, trivial⟩, fun q => by omega⟩, fun q => absurd hx q⟩
    · rw [w32_id (by omega) (by omega)]
      exact s246 (by omega) hT hB fun I3 hf3 => cIN_r fun _ => ⟨rfl, hI2.sc (hf3.mo (by decide)) (fun _ _ => rfl)⟩
    · rw [w32_id (by omega) (by omega)]
      exact s246 (by omega) hT hB fun I3 hf3 => cIN_r fun _ => ⟨rfl, hI2.sc (hf3.mo (by decide)) (fun _ _ => rfl)⟩
  have evD_k : ∀ I2, frK [83] I I2 → evN I2 x = evN I x := by
    intro I2 hf2
    have e : ∀ m e s, tlF I2 x m e s = tlF I x m e s := by
      intro m
      induction m with
      | zero => intro e s; rfl
      | succ m ih =>
        intro e s
        simp only [tlF]
        rw [byE_k hf2 (by decide)]
        have e5 : fact I2 e 5 = fact I e 5 := by unfold fact; rw [hf2 8 (by decide)]
        rw [e5]
        exact ih _ _
    unfold evN evD
    rw [e, hf2 7 (by decide)]
  have fiv : (0 ≤ x ∧ x < 11) → y = 5 → ∀ I2, frK [83] I I2 → cIN (fun x_1 I1 J1 b1 => TriM G h 249 119 119 [vr 91, vi x, vi y] (I1, J1, PP b1) (cIN fun y I2 J2 _ => x_1 = y ∧ INV (n + 1) I2 J2)) (some (vi (evN I x))) (I2, J, PP b) := by
    intro hx hy I2 hf2
    refine cIN_r fun _ => x249_m (by omega) fun h2 hh2 => x249 (by omega) ⟨fun _ => ⟨⟨fun q => by omega, fun q => by omega, fun q => by omega, fun q => by omega, fun q => by omega, fun q => ?_, trivial⟩, fun q => by omega⟩, fun q => absurd hx q⟩
    refine s247 (by omega) (hB.k hf2 (by decide)) fun I3 hf3 h35 => cIN_r fun _ => ⟨(evD_k I2 hf2).symm, (hI2.sc (hf2.mo (by decide)) (fun _ _ => rfl)).f91 hf3⟩
  refine x158_m (by omega) (fun h2 hh2 => x158 hh2 ⟨fun q1 => ⟨⟨fun q => s34 (by omega) hB (one q1 (Or.inl q)), fun q => s34 (by omega) hB (one q1 (Or.inr q)), fun q => s35 (by omega) hT hB ht (two q1 q), fun q => ?_, fun q => ?_, fun q => s42 (by omega) hB (fiv q1 q), trivial⟩, fun q => no (by omega)⟩, fun q1 => no (by omega)⟩)
  · rw [w32_id (by omega) (by omega)]
    exact s36 (by omega) hT hB (thr q1 (Or.inl q))
  · rw [w32_id (by omega) (by omega)]
    exact s36 (by omega) hT hB (thr q1 (Or.inr q))
/-! who is suspect -/
def susF (g : Nat → Int) : Nat → Nat → Int × Int → Int × Int
  | 0, _, s => s
  | m + 1, c, s => susF g m (c + 1) (if s.2 < g c then ((c : Int), g c) else s)
noncomputable def susG (p2 : List Lin) (I : MI) (c : Nat) : Int := cntE (fun e => byE I c 0 e && ghE p2 I e) (I 7 0).toNat + cntE (fun e => byE I c 0 e && qkP I c 0 e) (I 7 0).toNat
theorem qkP_k {S : List Nat} {I' : MI} (hf : frK S I I') (hS : ∀ k ∈ [2, 3, 4, 6, 7, 8, 9, 10], k ∉ S) : qkP I' = qkP I := by
  funext c k e
  apply Bool.eq_iff_iff.2
  rw [qkP_iff, qkP_iff]
  have e1 : qkE I' = qkE I := by
    funext a c
    unfold qkE fact
    rw [minF_k hf (fun k hk => hS k (by revert hk; simp; omega)), hf 8 (hS 8 (by decide))]
  unfold jaP
  rw [byE_k hf (fun k hk => hS k (by revert hk; simp; omega)), ordE_k hf (hS 8 (by decide)), e1, hf 7 (hS 7 (by decide))]
theorem susG_k {S : List Nat} {I' : MI} (p2 : List Lin) (hf : frK S I I') (hS : ∀ k ∈ [2, 3, 4, 5, 6, 7, 8, 9, 10], k ∉ S) : susG p2 I' = susG p2 I := by
  funext c
  unfold susG
  rw [byE_k hf (fun k hk => hS k (by revert hk; simp; omega)), ghE_k p2 hf (fun k hk => hS k (by revert hk; simp; omega)), qkP_k hf (fun k hk => hS k (by revert hk; simp; omega)), hf 7 (hS 7 (by decide))]
theorem s45_l {K : Int → MI → MJ → B3 → Prop} {p2 : List Lin} (hh : 6 ≤ h) (hT : rTown 0 92 I) (hB : rBook 0 92 I) (ht : rTxt 19 92 2 I true p2) (k : ∀ I2, frK [21, 30] I I2 → K (susF (susG p2 I) 11 0 (-1, 0)).1 I2 J b) : ∀ (m i : Nat) (I' : MI) (s : Int × Int), i + m = 11 → frK [21, 30] I I' → susF (susG p2 I) m i s = susF (susG p2 I) 11 0 (-1, 0) → Tri G h 45 119 119 6 [some (vr 82), some (vi s.1), some (vi s.2), some (vi i)] [] (I', J, PP b) (cIN K) := by
  have b1 := hB.1
  simp only [Nat.reduceAdd] at b1
  intro m
  induction m with
  | zero =>
    intro i I' s hi hf he
    have he2 : s = susF (susG p2 I) 11 0 (-1, 0) := he
    rw [he2]
    exact x45_6 hh ⟨fun _ => cIN_r fun _ => k I' hf, fun q => by omega⟩
  | succ m ih =>
    intro i I' s hi hf he
    have hT' := hT.k hf (by decide)
    have hB' := hB.k hf (by decide)
    have ht' := ht.k hf (by decide) (by decide) (by decide)
    refine x45_6 hh ⟨fun q => by omega, fun _ => s35 (by omega) hT' hB' ht' fun I2 hf2 => s36 (by omega) (hT'.k hf2 (by decide)) (hB'.k hf2 (by decide)) ?_⟩
    have hf3 := hf.t hf2
    have c1 := cntE_b (fun e => byE I i 0 e && ghE p2 I e) (I 7 0).toNat
    have c2 := cntE_b (fun e => byE I i 0 e && qkP I i 0 e) (I 7 0).toNat
    have e1 : w32 (cntE (fun e => byE I' i 0 e && ghE p2 I' e) (I' 7 0).toNat + cntE (fun e => byE I2 i 0 e && qkP I2 i 0 e) (I2 7 0).toNat) = susG p2 I i := by
      unfold susG
      rw [byE_k hf (by decide), ghE_k p2 hf (by decide), hf 7 (by decide), byE_k hf3 (by decide), qkP_k hf3 (by decide), hf3 7 (by decide), w32_id (by omega) (by omega)]
    rw [e1, w32_id (by omega) (by omega)]
    simp only [susF] at he
    refine ⟨fun q => ?_, fun q => ?_⟩
    · rw [if_neg (by omega)] at he
      exact ih (i + 1) I2 s (by omega) hf3 he
    · rw [if_pos (by omega)] at he
      exact ih (i + 1) I2 ((i : Int), susG p2 I i) (by omega) hf3 he
theorem s252_l {K : Int → MI → MJ → B3 → Prop} {p2 : List Lin} (hh : 4 ≤ h) (hT : rTown 0 92 I) (hB : rBook 0 92 I) (ht : rTxt 19 92 2 I true p2) (k : ∀ I2, frK [97, 98, 110] I I2 → K (susF (susG p2 I) 11 0 (-1, 0)).1 I2 J b) : ∀ (m i : Nat) (I' : MI) (s : Int × Int), i + m = 11 → frK [97, 98, 110] I I' → susF (susG p2 I) m i s = susF (susG p2 I) 11 0 (-1, 0) → Tri G h 252 119 119 6 [some (vr 91), some (vi s.1), some (vi s.2), some (vi i)] [] (I', J, PP b) (cIN K) := by
  have b1 := hB.1
  simp only [Nat.reduceAdd] at b1
  intro m
  induction m with
  | zero =>
    intro i I' s hi hf he
    have he2 : s = susF (susG p2 I) 11 0 (-1, 0) := he
    rw [he2]
    exact x252_6 hh ⟨fun _ => cIN_r fun _ => k I' hf, fun q => by omega⟩
  | succ m ih =>
    intro i I' s hi hf he
    have hT' := hT.k hf (by decide)
    have hB' := hB.k hf (by decide)
    have ht' := ht.k hf (by decide) (by decide) (by decide)
    refine x252_6 hh ⟨fun q => by omega, fun _ => s245 (by omega) hT' hB' ht' fun I2 hf2 => s246 (by omega) (hT'.k hf2 (by decide)) (hB'.k hf2 (by decide)) fun I3 hf3 => ?_⟩
    have hf4 := hf.t hf2
    have hf5 := hf4.t (hf3.mo (by decide))
    have c1 := cntE_b (fun e => byE I i 0 e && ghE p2 I e) (I 7 0).toNat
    have c2 := cntE_b (fun e => byE I i 0 e && qkP I i 0 e) (I 7 0).toNat
    have e1 : w32 (cntE (fun e => byE I' i 0 e && ghE p2 I' e) (I' 7 0).toNat + cntE (fun e => byE I2 i 0 e && qkP I2 i 0 e) (I2 7 0).toNat) = susG p2 I i := by
      unfold susG
      rw [byE_k hf (by decide), ghE_k p2 hf (by decide), hf 7 (by decide), byE_k hf4 (by decide), qkP_k hf4 (by decide), hf4 7 (by decide), w32_id (by omega) (by omega)]
    rw [e1, w32_id (by omega) (by omega)]
    simp only [susF] at he
    refine ⟨fun q => ?_, fun q => ?_⟩
    · rw [if_pos q] at he
      exact ih (i + 1) I3 ((i : Int), susG p2 I i) (by omega) hf5 he
    · rw [if_neg q] at he
      exact ih (i + 1) I3 s (by omega) hf5 he
theorem pub_suspect (hI : INV n I J) (hn : n < 64) (hh : 40 ≤ h) : PairI G h 160 252 [] (n + 1) I J b := by
  have hI2 := hI.suc hn
  obtain ⟨p2, hT, hB, ht⟩ : ∃ p2, rTown 0 92 I ∧ rBook 0 92 I ∧ rTxt 19 92 2 I true p2 := by
    obtain ⟨p0, p1, p2, ⟨a1, a2, a3, a4, a5⟩, ⟨t0, t1, t2⟩, -⟩ := hI
    exact ⟨p2, a1, a2, t2⟩
  refine x160_m (by omega) (fun h2 hh2 => x160 hh2 (x45_m (by omega) fun h3 hh3 => x45 (by omega) (s45_l hh3 hT hB ht (fun I2 hf2 => cIN_r fun _ => ?_) 11 0 I (-1, 0) rfl frK.r rfl)))
  refine x252_m (by omega) fun h4 hh4 => x252 (by omega) (s252_l hh4 (hT.k hf2 (by decide)) (hB.k hf2 (by decide)) (ht.k hf2 (by decide) (by decide) (by decide)) (fun I3 hf3 => ?_) 11 0 I2 (-1, 0) rfl frK.r rfl)
  rw [susG_k p2 hf2 (by decide)]
  exact ⟨rfl, hI2.sc ((hf2.mo (by decide)).t (hf3.mo (by decide))) (fun _ _ => rfl)⟩
end COUNTER
