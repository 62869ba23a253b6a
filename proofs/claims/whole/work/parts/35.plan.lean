/-! parts of INV where cells stay -/
theorem rTown.k {S : List Nat} {I I' : MI} (h : rTown 0 92 I) (hf : frK S I I') (hS : ∀ k ∈ [2, 3, 4, 5, 6, 92], k ∉ S) : rTown 0 92 I' := h.fr (hf 2 (hS 2 (by decide))) (hf 3 (hS 3 (by decide))) (hf 4 (hS 4 (by decide))) (hf 5 (hS 5 (by decide))) (hf 6 (hS 6 (by decide))) (fun j _ => by rw [hf 92 (hS 92 (by decide))])
theorem rBook.k {S : List Nat} {I I' : MI} (h : rBook 0 92 I) (hf : frK S I I') (hS : ∀ k ∈ [2, 7, 8, 9, 10, 11, 12, 92], k ∉ S) : rBook 0 92 I' := h.fr (by rw [hf 2 (hS 2 (by decide))]; exact Int.le_refl _) (hf 7 (hS 7 (by decide))) (hf 8 (hS 8 (by decide))) (hf 9 (hS 9 (by decide))) (hf 10 (hS 10 (by decide))) (hf 11 (hS 11 (by decide))) (hf 12 (hS 12 (by decide))) (fun j _ => by rw [hf 92 (hS 92 (by decide))])
theorem rLast.k {S : List Nat} {I I' : MI} (h : rLast 0 92 I) (hf : frK S I I') (hS : ∀ k ∈ [25, 26, 27, 28, 29, 92], k ∉ S) : rLast 0 92 I' := h.fr (hf 25 (hS 25 (by decide))) (hf 26 (hS 26 (by decide))) (hf 27 (hS 27 (by decide))) (hf 28 (hS 28 (by decide))) (hf 29 (hS 29 (by decide))) (fun j _ => by rw [hf 92 (hS 92 (by decide))])
theorem rRound.k {S : List Nat} {I I' : MI} (h : rRound 0 92 I) (hf : frK S I I') (hS : ∀ k ∈ [2, 22, 23, 24, 92], k ∉ S) : rRound 0 92 I' := h.fr (by rw [hf 2 (hS 2 (by decide))]; exact Int.le_refl _) (hf 22 (hS 22 (by decide))) (hf 23 (hS 23 (by decide))) (hf 24 (hS 24 (by decide))) (fun j _ => by rw [hf 92 (hS 92 (by decide))])
theorem misB_k {S : List Nat} {I I' : MI} (hf : frK S I I') (hS : ∀ k ∈ [2, 7, 8, 9, 10], k ∉ S) : misB I' = misB I := by
  funext j
  have e : ∀ n, sn I' n j = sn I n j := by
    intro n
    unfold sn fact
    rw [knB_c (hf 7 (hS 7 (by decide))) (hf 9 (hS 9 (by decide))) (hf 10 (hS 10 (by decide))), hf 8 (hS 8 (by decide))]
  apply Bool.eq_iff_iff.2
  rw [misB_iff, misB_iff, e, hf 2 (hS 2 (by decide)), hf 7 (hS 7 (by decide))]
theorem misN_k {S : List Nat} {I I' : MI} (hf : frK S I I') (hS : ∀ k ∈ [2, 3, 7, 8, 9, 10], k ∉ S) (x : Int) : misN I' x = misN I x := by
  unfold misN
  rw [misB_k hf (fun k hk => hS k (by revert hk; simp; omega)), hf 3 (hS 3 (by decide))]
theorem misN_b (I : MI) (x : Int) : 0 ≤ misN I x ∧ misN I x ≤ 60 := by
  unfold misN
  have := fb_ct_le (fun j => misB I j && (decide (x = -1) || decide (I 3 j = x))) 60
  omega
theorem pc_mis {I : MI} {r r2 : BitVec 64} {x : Int} (hT : rTown 0 92 I) (hx : x ≠ -1) (hr : ∀ j, r.getLsbD j = misB I j) (hr2 : ∀ j : Nat, r2.getLsbD j = (decide ((j : Int) < I 2 0) && decide (I 3 j = x))) : pcL (r &&& r2) = misN I x := by
  unfold misN
  refine pc60 (fun j => ?_) (fun j hj => ?_)
  · rw [BitVec.getLsbD_and, hr, hr2]
    cases hm : misB I j with
    | false => rfl
    | true =>
      rw [misB_iff] at hm
      simp [hm.1, hx]
  · rw [Bool.and_eq_true] at hj
    exact misB_lt hT hj.1
/-- what there is to see in a slot -/
noncomputable def slF (I : MI) (t : Nat) : Int := if I 26 t = -1 then 0 else min 9 (misN I (I 26 t))
theorem slF_b (I : MI) (t : Nat) : 0 ≤ slF I t ∧ slF I t ≤ 9 := by
  unfold slF
  have := misN_b I (I 26 t)
  split <;> omega
section PLAN
variable {G : Ctx} {h n : Nat} {I : MI} {J : MJ} {b : B3} {x y z u v e : Int} {a : BitVec 64}
theorem s135_l {K : MI → MJ → B3 → Prop} {r : BitVec 64} (hh : 1 ≤ h) (hT : rTown 0 92 I) (hr : ∀ j, r.getLsbD j = misB I j) (k : ∀ I', frK [90] I I' → (∀ t : Nat, t < 5 → I' 90 t = slF I t) → K I' J b) : ∀ (m i : Nat) (I' : MI), i + m = 5 → frK [90] I I' → (∀ t : Nat, t < i → I' 90 t = slF I t) → Tri G h 135 119 119 8 [some (vr 1), some (vr 90), some (vl r), none, some (vi i)] [] (I', J, PP b) (cVN K) := by
  intro m
  induction m with
  | zero =>
    intro i I' hi hf ht
    exact x135_8 hh ⟨fun q => cVN_r (k I' hf fun t h1 => ht t (by omega)), fun q => by omega⟩
  | succ m ih =>
    intro i I' hi hf ht
    have hT' := hT.k hf (by decide)
    refine x135_8 hh ⟨fun q => by omega, fun q => ⟨by omega, fun q2 => ?_, fun q2 => ⟨by omega, ?_⟩⟩⟩
    · rw [toN] at q2 ⊢
      refine s127 hh hT' fun r2 hr2 => s17 hh ⟨by omega, ?_⟩
      rw [hf 26 (by decide)] at q2 hr2
      rw [w32_id (by omega) (by omega)]
      rw [hf 2 (by decide), hf 3 (by decide)] at hr2
      rw [pc_mis hT q2 hr hr2]
      refine ih (i + 1) _ (by omega) (hf.u (by decide)) (fun t h1 => ?_)
      by_cases h2 : t = i
      · subst h2
        rw [u2e]
        unfold slF
        rw [if_neg q2]
      · rw [u2j h2]; exact ht t (by omega)
    · rw [toN, hf 26 (by decide)] at q2
      rw [w32_id (by omega) (by omega), toN]
      refine ih (i + 1) _ (by omega) (hf.u (by decide)) (fun t h1 => ?_)
      by_cases h2 : t = i
      · subst h2
        rw [u2e]
        unfold slF
        rw [if_pos (by omega)]
        rfl
      · rw [u2j h2]; exact ht t (by omega)
theorem s135 {K : MI → MJ → B3 → Prop} (hh : 4 ≤ h) (hT : rTown 0 92 I) (hB : rBook 0 92 I) (k : ∀ I', frK [90] I I' → (∀ t : Nat, t < 5 → I' 90 t = slF I t) → K I' J b) : TriM G h 135 119 119 [vr 1, vr 90] (I, J, PP b) (cVN K) :=
  x135_m hh (fun h hh => x135 hh (s133 (by omega) hT hB fun r hr => s135_l (by omega) hT hr k 5 0 I rfl frK.r fun t ht => by omega))
theorem s260_l {K : Int → MI → MJ → B3 → Prop} (hh : 3 ≤ h) (hT : rTown 0 92 I) (hB : rBook 0 92 I) (hL : rLast 0 92 I) (k : ∀ I', frK [114, 115] I I' → (∀ t : Nat, t < 5 → I' 115 t = slF I t) → K (fb_si (slF I) 5) I' J b) : ∀ (m i : Nat) (I' : MI), i + m = 5 → frK [114, 115] I I' → (∀ t : Nat, t < i → I' 115 t = slF I t) → 0 ≤ fb_si (slF I) i ∧ fb_si (slF I) i ≤ 9 * i → Tri G h 260 119 119 4 [some (vr 91), some (vi (fb_si (slF I) i)), some (vi i)] [] (I', J, PP b) (cIN K) := by
  intro m
  induction m with
  | zero =>
    intro i I' hi hf ht hb
    refine x260_4 hh ⟨fun q => cIN_r fun _ => ?_, fun q => by omega⟩
    obtain rfl : i = 5 := by omega
    exact k I' hf ht
  | succ m ih =>
    intro i I' hi hf ht hb
    have hT' := hT.k hf (by decide)
    have hB' := hB.k hf (by decide)
    have h3 := hL.2.2.1 i (by omega) (by omega)
    simp only [Nat.reduceAdd, toN] at h3
    have hs := slF_b I i
    refine x260_4 hh ?_
    rw [w32_id (x := 10 + (i : Int)) (by omega) (by omega), hf 92 (by decide), h3.1, w32_id (x := (i : Int) + 1) (by omega) (by omega), toN]
    have fin : ∀ (I2 : MI) (w : Int), w = slF I i → frK [114, 115] I I2 → (∀ t : Nat, t < i → I2 115 t = slF I t) → Tri G h 260 119 119 4 [some (vr 91), some (vi (w32 (fb_si (slF I) i + (u2 I2 115 i w) 115 i))), some (vi ((i : Int) + 1))] [] (u2 I2 115 i w, J, PP b) (cIN K) := by
      intro I2 w hw hf2 ht2
      rw [u2e, hw, w32_id (by omega) (by omega)]
      have := ih (i + 1) (u2 I2 115 i (slF I i)) (by omega) (hf2.u (by decide)) (fun t h1 => ?_) (by rw [fb_si_succ]; omega)
      · rw [fb_si_succ] at this
        exact this
      · by_cases h2 : t = i
        · subst h2; exact u2e
        · rw [u2j h2]; exact ht2 t (by omega)
    refine ⟨fun q => by omega, fun q => ⟨by omega, fun q2 => ⟨by omega, s256 (by omega) hT' hB' (by omega) fun I2 hs2 => ?_⟩, fun q2 => ⟨by omega, by omega, fin I' 0 ?_ hf ht⟩⟩⟩
    · have hf2 : frK [114, 115] I I2 := hf.t (hs2.1.mo (by decide))
      have ht2 : ∀ t : Nat, t < i → I2 115 t = slF I t := fun t h1 => by rw [hs2.1 115 (by decide)]; exact ht t h1
      rw [misN_k hf (by decide)]
      refine ⟨fun q3 => ⟨by omega, by omega, fin I2 _ ?_ hf2 ht2⟩, fun q3 => ⟨by omega, by omega, fin I2 _ ?_ hf2 ht2⟩⟩
      · unfold slF; rw [if_neg q2]; omega
      · unfold slF; rw [if_neg q2]; omega
    · unfold slF; rw [if_pos (by omega)]
theorem s260 {K : Int → MI → MJ → B3 → Prop} (hh : 4 ≤ h) (hT : rTown 0 92 I) (hB : rBook 0 92 I) (hL : rLast 0 92 I) (k : ∀ I', frK [114, 115] I I' → (∀ t : Nat, t < 5 → I' 115 t = slF I t) → K (fb_si (slF I) 5) I' J b) : TriM G h 260 119 119 [vr 91] (I, J, PP b) (cIN K) :=
  x260_m hh (fun h hh => x260 (Nat.zero_le _) (s260_l hh hT hB hL k 5 0 I rfl frK.r (fun t ht => by omega) ⟨Int.le_refl _, Int.le_refl _⟩))
/-! the plan -/
abbrev PS : Type := (Nat → Int) × Int
def plS (I : MI) (d c : Int) (s : PS) : PS := if I 29 (c * 4 + d).toNat = -1 ∨ ¬ I 28 (I 29 (c * 4 + d).toNat * 4 + d).toNat = 0 then s else (up1 s.1 (I 29 (c * 4 + d).toNat).toNat (s.1 (I 29 (c * 4 + d).toNat).toNat - min (I 27 c.toNat) (s.1 (I 29 (c * 4 + d).toNat).toNat)), s.2 + min (I 27 c.toNat) (s.1 (I 29 (c * 4 + d).toNat).toNat))
def plC (I : MI) (d : Int) : Nat → Int → PS → PS
  | 0, _, s => s
  | m + 1, c, s => plC I d m (c + 1) (plS I d c s)
def plD (I : MI) : Nat → Int → PS → PS
  | 0, _, s => s
  | m + 1, d, s => plD I m (d + 1) (plC I d (I 25 1).toNat 0 s)
def plOK (I : MI) (N : Int) (s : PS) : Prop := (∀ t : Nat, t < 5 → (0 ≤ s.1 t ∧ s.1 t ≤ 9) ∧ (I 26 t = -1 → s.1 t = 0)) ∧ 0 ≤ s.2 ∧ s.2 ≤ 9 * N
theorem plS_ok {N d c : Int} {s : PS} (hL : rLast 0 92 I) (hc : 0 ≤ c ∧ c < 6) (hd : 0 ≤ d ∧ d < 4) (h : plOK I N s) : plOK I (N + 1) (plS I d c s) := by
  have h4 := hL.2.2.2.1 c hc.1 hc.2
  have h6 := hL.2.2.2.2.2 c d hc.1 hc.2 hd.1 hd.2
  simp only [Nat.reduceAdd] at h4 h6
  unfold plS
  split
  · exact ⟨h.1, h.2.1, by have := h.2.2; omega⟩
  · next hc2 =>
    have hs : I 29 (c * 4 + d).toNat ≠ -1 := fun q => hc2 (Or.inl q)
    have ht := h.1 (I 29 (c * 4 + d).toNat).toNat (by omega)
    refine ⟨fun t h1 => ?_, ?_, ?_⟩
    · show (0 ≤ up1 s.1 _ _ t ∧ up1 s.1 _ _ t ≤ 9) ∧ (I 26 t = -1 → up1 s.1 _ _ t = 0)
      unfold up1
      by_cases h2 : t = (I 29 (c * 4 + d).toNat).toNat
      · rw [if_pos h2]
        subst h2
        refine ⟨by omega, fun q => ?_⟩
        have := ht.2 q
        omega
      · rw [if_neg h2]
        exact h.1 t h1
    · show 0 ≤ s.2 + _
      have := h.2.1
      omega
    · show s.2 + _ ≤ _
      have := h.2.2
      omega
theorem plC_ok (hL : rLast 0 92 I) {d : Int} (hd : 0 ≤ d ∧ d < 4) : ∀ (m : Nat) (c N : Int) (s : PS), 0 ≤ c → c + m ≤ 6 → plOK I N s → plOK I (N + m) (plC I d m c s)
  | 0, c, N, s, _, _, h => by simpa [plC] using h
  | m + 1, c, N, s, h0, h1, h => by
    have := plC_ok hL hd m (c + 1) (N + 1) (plS I d c s) (by omega) (by omega) (plS_ok hL ⟨h0, by omega⟩ hd h)
    rw [show N + ((m + 1 : Nat) : Int) = N + 1 + m by omega]
    exact this
theorem u2_u1 {f : MI} {k j : Nat} {g : Nat → Int} {x : Int} : u2 (u1 f k g) k j x = u1 f k (up1 g j x) := by
  funext c d
  by_cases hc : c = k
  · subst hc
    rw [u1e]
    unfold up1
    by_cases hd : d = j
    · subst hd; rw [u2e, if_pos rfl]
    · rw [u2j hd, u1e, if_neg hd]
  · rw [u2n hc, u1n hc, u1n hc]
theorem up1_id {f : Nat → Int} {k : Nat} : up1 f k (f k) = f := by
  funext j
  unfold up1
  split
  · next h => rw [h]
  · rfl
theorem s55_c {Q : MP} {d : Int} (hh : 2 ≤ h) (hL : rLast 0 92 I) (hd : 0 ≤ d ∧ d < 4) : ∀ (m : Nat) (c N : Int) (s : PS), c + m = I 25 1 → 0 ≤ c → 0 ≤ N → N + m ≤ 100 → plOK I N s → Tri G h 55 119 119 4 [some (vr 25), some (vr 90), some (vi (plC I d m c s).2), some (vi (d + 1))] [] (u1 I 90 (plC I d m c s).1, J, PP b) Q → Tri G h 55 119 119 15 [some (vr 25), some (vr 90), some (vi s.2), some (vi d), some (vi c)] [] (u1 I 90 s.1, J, PP b) Q := by
  intro m
  have l2 := hL.2.1
  simp only [Nat.reduceAdd] at l2
  induction m with
  | zero =>
    intro c N s hc h0 hN hN2 hs k
    refine x55_15 hh ?_
    simp (disch := decide) only [u1n, u1e]
    rw [w32_id (x := d + 1) (by omega) (by omega)]
    exact ⟨fun q => k, fun q => by omega⟩
  | succ m ih =>
    intro c N s hc h0 hN hN2 hs k
    have h4 := hL.2.2.2.1 c h0 (by omega)
    have h6 := hL.2.2.2.2.2 c d h0 (by omega) hd.1 hd.2
    simp only [Nat.reduceAdd] at h4 h6
    have nx := ih (c + 1) (N + 1) (plS I d c s) (by omega) (by omega) (by omega) (by omega) (plS_ok hL ⟨h0, by omega⟩ hd hs) k
    refine x55_15 hh ?_
    simp (disch := decide) only [u1n, u1e]
    rw [w32_id (x := c * 4) (by omega) (by omega), w32_id (x := c * 4 + d) (by omega) (by omega), w32_id (x := c + 1) (by omega) (by omega)]
    rw [w32_id (x := I 29 (c * 4 + d).toNat * 4) (by omega) (by omega), w32_id (x := I 29 (c * 4 + d).toNat * 4 + d) (by omega) (by omega)]
    have same : I 29 (c * 4 + d).toNat = -1 ∨ ¬ I 28 (I 29 (c * 4 + d).toNat * 4 + d).toNat = 0 → Tri G h 55 119 119 15 [some (vr 25), some (vr 90), some (vi s.2), some (vi d), some (vi (c + 1))] [] (u1 I 90 s.1, J, PP b) Q := by
      intro q
      have e : plS I d c s = s := by unfold plS; rw [if_pos q]
      rw [e] at nx
      exact nx
    refine ⟨fun q => by omega, fun q => ⟨by omega, fun q2 => ⟨fun q3 => ⟨fun q4 => ⟨by omega, fun q5 => same (Or.inr q5), fun q5 => ⟨by omega, by omega, by omega, by omega, ?_⟩⟩, fun q4 => absurd hd q4⟩, fun q3 => absurd q2 q3⟩, fun q2 => same (Or.inl (by omega))⟩⟩
    have hne : ¬ (I 29 (c * 4 + d).toNat = -1 ∨ ¬ I 28 (I 29 (c * 4 + d).toNat * 4 + d).toNat = 0) := by omega
    have e : plS I d c s = (up1 s.1 (I 29 (c * 4 + d).toNat).toNat (s.1 (I 29 (c * 4 + d).toNat).toNat - min (I 27 c.toNat) (s.1 (I 29 (c * 4 + d).toNat).toNat)), s.2 + min (I 27 c.toNat) (s.1 (I 29 (c * 4 + d).toNat).toNat)) := by
      unfold plS; rw [if_neg hne]
    rw [e] at nx
    have ht := hs.1 (I 29 (c * 4 + d).toNat).toNat (by omega)
    have hs2 := hs.2
    rw [u2_u1, w32_id (x := s.2 + min (I 27 c.toNat) (s.1 (I 29 (c * 4 + d).toNat).toNat)) (by omega) (by omega), w32_id (by omega) (by omega)]
    exact nx
theorem s55_d {K : Int → MI → MJ → B3 → Prop} (hh : 2 ≤ h) (hL : rLast 0 92 I) : ∀ (m : Nat) (d N : Int) (s : PS), d + m = I 25 0 → 0 ≤ d → 0 ≤ N → N + 6 * m ≤ 60 → plOK I N s → K (plD I m d s).2 (u1 I 90 (plD I m d s).1) J b → Tri G h 55 119 119 4 [some (vr 25), some (vr 90), some (vi s.2), some (vi d)] [] (u1 I 90 s.1, J, PP b) (cIN K) := by
  intro m
  have l1 := hL.1
  have l2 := hL.2.1
  simp only [Nat.reduceAdd] at l1 l2
  induction m with
  | zero =>
    intro d N s hd h0 hN hN2 hs k
    refine x55_4 (Nat.zero_le _) ?_
    simp (disch := decide) only [u1n]
    exact ⟨fun q => cIN_r fun _ => k, fun q => by omega⟩
  | succ m ih =>
    intro d N s hd h0 hN hN2 hs k
    refine x55_4 (Nat.zero_le _) ?_
    simp (disch := decide) only [u1n]
    refine ⟨fun q => by omega, fun q => s55_c hh hL ⟨h0, by omega⟩ (I 25 1).toNat 0 N s (by omega) (by omega) hN (by omega) hs ?_⟩
    have ho := plC_ok hL (d := d) ⟨h0, by omega⟩ (I 25 1).toNat 0 N s (by omega) (by omega) hs
    exact ih (d + 1) (N + (I 25 1).toNat) _ (by omega) (by omega) (by omega) (by omega) ho k
theorem s55 {K : Int → MI → MJ → B3 → Prop} {f : Nat → Int} (hh : 3 ≤ h) (hL : rLast 0 92 I) (hf : ∀ t : Nat, t < 5 → (0 ≤ f t ∧ f t ≤ 9) ∧ (I 26 t = -1 → f t = 0)) (k : K (plD I (I 25 0).toNat 0 (f, 0)).2 (u1 I 90 (plD I (I 25 0).toNat 0 (f, 0)).1) J b) : TriM G h 55 119 119 [vr 25, vr 90] (u1 I 90 f, J, PP b) (cIN K) := by
  have l1 := hL.1
  simp only [Nat.reduceAdd] at l1
  exact x55_m hh (fun h hh => x55 (Nat.zero_le _) (s55_d hh hL (I 25 0).toNat 0 0 (f, 0) (by omega) (by omega) (by omega) (by omega) ⟨hf, Int.le_refl _, by omega⟩ k))
theorem s262_c {Q : MP} {d : Int} (hh : 1 ≤ h) (hL : rLast 0 92 I) (hd : 0 ≤ d ∧ d < 4) : ∀ (m : Nat) (c N : Int) (s : PS), c + m = I 25 1 → 0 ≤ c → 0 ≤ N → N + m ≤ 100 → plOK I N s → Tri G h 262 119 119 9 [some (vr 91), some (vi (plC I d m c s).2), some (vi (d + 1))] [] (u1 I 115 (plC I d m c s).1, J, PP b) Q → Tri G h 262 119 119 22 [some (vr 91), some (vi s.2), some (vi d), some (vi c)] [] (u1 I 115 s.1, J, PP b) Q := by
  intro m
  have l2 := hL.2.1
  simp only [Nat.reduceAdd] at l2
  induction m with
  | zero =>
    intro c N s hc h0 hN hN2 hs k
    refine x262_22 hh ?_
    simp (disch := decide) only [u1n, u1e]
    rw [w32_id (x := d + 1) (by omega) (by omega)]
    exact ⟨fun q => k, fun q => by omega⟩
  | succ m ih =>
    intro c N s hc h0 hN hN2 hs k
    have h4 := hL.2.2.2.1 c h0 (by omega)
    have h6 := hL.2.2.2.2.2 c d h0 (by omega) hd.1 hd.2
    simp only [Nat.reduceAdd] at h4 h6
    have nx := ih (c + 1) (N + 1) (plS I d c s) (by omega) (by omega) (by omega) (by omega) (plS_ok hL ⟨h0, by omega⟩ hd hs) k
    refine x262_22 hh ?_
    simp (disch := decide) only [u1n, u1e]
    rw [w32_id (x := 4 * c) (by omega) (by omega), w32_id (x := 41 + 4 * c) (by omega) (by omega), w32_id (x := 41 + 4 * c + d) (by omega) (by omega), w32_id (x := c + 1) (by omega) (by omega), h6.1, w32_id (x := 15 + c) (by omega) (by omega), h4.1]
    rw [w32_id (x := 10 + I 29 (c * 4 + d).toNat) (by omega) (by omega), w32_id (x := 4 * I 29 (c * 4 + d).toNat) (by omega) (by omega), w32_id (x := 21 + 4 * I 29 (c * 4 + d).toNat) (by omega) (by omega), w32_id (x := 21 + 4 * I 29 (c * 4 + d).toNat + d) (by omega) (by omega)]
    have same : plS I d c s = s → Tri G h 262 119 119 22 [some (vr 91), some (vi s.2), some (vi d), some (vi (c + 1))] [] (u1 I 115 s.1, J, PP b) Q := by
      intro e
      rw [e] at nx
      exact nx
    have e0 : (I 29 (c * 4 + d).toNat = -1 ∨ ¬ I 28 (I 29 (c * 4 + d).toNat * 4 + d).toNat = 0) → plS I d c s = s := by
      intro q
      unfold plS; rw [if_pos q]
    refine ⟨fun q => by omega, fun q => ⟨by omega, fun q2 => same (e0 (Or.inl q2)), fun q2 => ?_⟩⟩
    have h3 := hL.2.2.1 (I 29 (c * 4 + d).toNat) (by omega) (by omega)
    have h5 := hL.2.2.2.2.1 (I 29 (c * 4 + d).toNat) d (by omega) (by omega) hd.1 hd.2
    simp only [Nat.reduceAdd] at h3 h5
    have ht := hs.1 (I 29 (c * 4 + d).toNat).toNat (by omega)
    have hs2 := hs.2
    rw [h3.1, h5.1]
    have e : ¬ (I 29 (c * 4 + d).toNat = -1 ∨ ¬ I 28 (I 29 (c * 4 + d).toNat * 4 + d).toNat = 0) → plS I d c s = (up1 s.1 (I 29 (c * 4 + d).toNat).toNat (s.1 (I 29 (c * 4 + d).toNat).toNat - min (I 27 c.toNat) (s.1 (I 29 (c * 4 + d).toNat).toNat)), s.2 + min (I 27 c.toNat) (s.1 (I 29 (c * 4 + d).toNat).toNat)) := by
      intro hne
      unfold plS; rw [if_neg hne]
    have fin : ∀ w, ¬ (I 29 (c * 4 + d).toNat = -1 ∨ ¬ I 28 (I 29 (c * 4 + d).toNat * 4 + d).toNat = 0) → w = min (I 27 c.toNat) (s.1 (I 29 (c * 4 + d).toNat).toNat) → Tri G h 262 119 119 22 [some (vr 91), some (vi (w32 (s.2 + w))), some (vi d), some (vi (c + 1))] [] (u2 (u1 I 115 s.1) 115 (I 29 (c * 4 + d).toNat).toNat (w32 (s.1 (I 29 (c * 4 + d).toNat).toNat - w)), J, PP b) Q := by
      intro w hne hw
      rw [e hne] at nx
      rw [u2_u1, w32_id (x := s.2 + w) (by omega) (by omega), w32_id (by omega) (by omega), hw]
      exact nx
    refine ⟨by omega, fun q3 => same ?_, fun q3 => ⟨by omega, fun q4 => same (e0 (Or.inr q4)), fun q4 => ⟨by omega, by omega, fun q5 => ⟨by omega, by omega, by omega, fin _ (by omega) (by omega)⟩, fun q5 => ⟨by omega, by omega, by omega, fin _ (by omega) (by omega)⟩⟩⟩⟩
    by_cases hcl : I 28 (I 29 (c * 4 + d).toNat * 4 + d).toNat = 0
    · rw [e (by omega)]
      have h0' := ht.2 q3
      rw [h0', show min (I 27 c.toNat) 0 = 0 by omega, Int.sub_zero, Int.add_zero]
      have : up1 s.1 (I 29 (c * 4 + d).toNat).toNat 0 = s.1 := by
        have h1 := up1_id (f := s.1) (k := (I 29 (c * 4 + d).toNat).toNat)
        rw [h0'] at h1
        exact h1
      rw [this]
    · exact e0 (Or.inr hcl)
theorem s262_d {K : Int → MI → MJ → B3 → Prop} (hh : 1 ≤ h) (hL : rLast 0 92 I) : ∀ (m : Nat) (d N : Int) (s : PS), d + m = I 25 0 → 0 ≤ d → 0 ≤ N → N + 6 * m ≤ 60 → plOK I N s → K (plD I m d s).2 (u1 I 115 (plD I m d s).1) J b → Tri G h 262 119 119 9 [some (vr 91), some (vi s.2), some (vi d)] [] (u1 I 115 s.1, J, PP b) (cIN K) := by
  intro m
  have l1 := hL.1
  have l2 := hL.2.1
  simp only [Nat.reduceAdd] at l1 l2
  induction m with
  | zero =>
    intro d N s hd h0 hN hN2 hs k
    refine x262_9 (Nat.zero_le _) ?_
    simp (disch := decide) only [u1n]
    exact ⟨fun q => cIN_r fun _ => k, fun q => by omega⟩
  | succ m ih =>
    intro d N s hd h0 hN hN2 hs k
    refine x262_9 (Nat.zero_le _) ?_
    simp (disch := decide) only [u1n]
    refine ⟨fun q => by omega, fun q => s262_c hh hL ⟨h0, by omega⟩ (I 25 1).toNat 0 N s (by omega) (by omega) hN (by omega) hs ?_⟩
    have ho := plC_ok hL (d := d) ⟨h0, by omega⟩ (I 25 1).toNat 0 N s (by omega) (by omega) hs
    exact ih (d + 1) (N + (I 25 1).toNat) _ (by omega) (by omega) (by omega) (by omega) ho k
theorem plS_k {S : List Nat} {I' : MI} (hf : frK S I I') (hS : ∀ k ∈ [27, 28, 29], k ∉ S) : plS I' = plS I := by
  funext d c s
  unfold plS
  rw [hf 27 (hS 27 (by decide)), hf 28 (hS 28 (by decide)), hf 29 (hS 29 (by decide))]
theorem plC_k {S : List Nat} {I' : MI} (hf : frK S I I') (hS : ∀ k ∈ [27, 28, 29], k ∉ S) (d : Int) : ∀ m c s, plC I' d m c s = plC I d m c s
  | 0, _, _ => rfl
  | m + 1, c, s => by
    simp only [plC]
    rw [plS_k hf hS, plC_k hf hS d m]
theorem plD_k {S : List Nat} {I' : MI} (hf : frK S I I') (hS : ∀ k ∈ [25, 27, 28, 29], k ∉ S) : ∀ m d s, plD I' m d s = plD I m d s
  | 0, _, _ => rfl
  | m + 1, d, s => by
    simp only [plD]
    rw [hf 25 (hS 25 (by decide)), plC_k hf (fun k hk => hS k (by revert hk; simp; omega)), plD_k hf hS m]
theorem pl_row {S : List Nat} {f g : Nat → Int} (hfg : ∀ t : Nat, t < 5 → f t = g t) (hL : rLast 0 92 I) {d c : Int} {v : Int} (hc : 0 ≤ c ∧ c < 6) (hd : 0 ≤ d ∧ d < 4) : (plS I d c (f, v)).2 = (plS I d c (g, v)).2 ∧ ∀ t : Nat, t < 5 → (plS I d c (f, v)).1 t = (plS I d c (g, v)).1 t := by
  have h6 := hL.2.2.2.2.2 c d hc.1 hc.2 hd.1 hd.2
  simp only [Nat.reduceAdd] at h6
  unfold plS
  split
  · exact ⟨rfl, hfg⟩
  · next hne =>
    have hs : I 29 (c * 4 + d).toNat ≠ -1 := fun q => hne (Or.inl q)
    have e := hfg (I 29 (c * 4 + d).toNat).toNat (by omega)
    simp only []
    rw [e]
    refine ⟨rfl, fun t ht => ?_⟩
    unfold up1
    split
    · rfl
    · exact hfg t ht
theorem plC_row (hL : rLast 0 92 I) {d : Int} (hd : 0 ≤ d ∧ d < 4) : ∀ (m : Nat) (c : Int) (s r : PS), 0 ≤ c → c + m ≤ 6 → s.2 = r.2 → (∀ t : Nat, t < 5 → s.1 t = r.1 t) → (plC I d m c s).2 = (plC I d m c r).2 ∧ ∀ t : Nat, t < 5 → (plC I d m c s).1 t = (plC I d m c r).1 t
  | 0, c, s, r, _, _, h2, h3 => ⟨h2, h3⟩
  | m + 1, c, (f, v), (g, w), h0, h1, h2, h3 => by
    have h2 : v = w := h2
    subst h2
    have e := pl_row (S := []) (f := f) (g := g) (v := v) h3 hL ⟨h0, by omega⟩ hd
    exact plC_row hL hd m (c + 1) _ _ (by omega) (by omega) e.1 e.2
theorem plD_row (hL : rLast 0 92 I) : ∀ (m : Nat) (d : Int) (s r : PS), 0 ≤ d → d + m ≤ 4 → s.2 = r.2 → (∀ t : Nat, t < 5 → s.1 t = r.1 t) → (plD I m d s).2 = (plD I m d r).2
  | 0, d, s, r, _, _, h2, h3 => h2
  | m + 1, d, s, r, h0, h1, h2, h3 => by
    have l2 := hL.2.1
    simp only [Nat.reduceAdd] at l2
    have e := plC_row hL (d := d) ⟨h0, by omega⟩ (I 25 1).toNat 0 s r (by omega) (by omega) h2 h3
    exact plD_row hL m (d + 1) _ _ (by omega) (by omega) e.1 e.2
theorem pub_planned (hI : INV n I J) (hn : n < 64) (hh : 40 ≤ h) : PairI G h 166 262 [] (n + 1) I J b := by
  have hI2 := hI.suc hn
  obtain ⟨hT, hB, hL⟩ : rTown 0 92 I ∧ rBook 0 92 I ∧ rLast 0 92 I := by
    obtain ⟨p0, p1, p2, ⟨a1, a2, a3, a4, a5⟩, -⟩ := hI
    exact ⟨a1, a2, a4⟩
  have l1 := hL.1
  simp only [Nat.reduceAdd] at l1
  have hsl : ∀ f : Nat → Int, (∀ t : Nat, t < 5 → f t = slF I t) → ∀ t : Nat, t < 5 → (0 ≤ f t ∧ f t ≤ 9) ∧ (I 26 t = -1 → f t = 0) := by
    intro f hf t ht
    rw [hf t ht]
    refine ⟨slF_b I t, fun q => ?_⟩
    unfold slF
    rw [if_pos q]
  refine x166_m (by omega) (fun h2 hh2 => x166 hh2 (s135 (by omega) hT hB fun I1 hf1 h90 => ?_))
  have e1 : u1 I1 90 (I1 90) = I1 := u1_same
  have hL1 := hL.k hf1 (by decide)
  have hgo := s55 (G := G) (h := h2) (I := I1) (J := J) (b := b) (f := I1 90) (K := fun r2 I2 J2 b2 => cIN (fun x I1 J1 b1 => TriM G h 262 119 119 [vr 91] (I1, J1, PP b1) (cIN fun y I2 J2 _ => x = y ∧ INV (n + 1) I2 J2)) (some (vi r2)) (I2, J2, PP b2)) (by omega) hL1 (fun t ht => by rw [hf1 26 (by decide)]; exact hsl _ h90 t ht) ?_
  · rw [e1] at hgo
    exact hgo
  rw [hf1 25 (by decide), plD_k hf1 (by decide)]
  refine cIN_r fun _ => ?_
  obtain ⟨F, hF⟩ : ∃ F, plD I (I 25 0).toNat 0 (I1 90, 0) = F := ⟨_, rfl⟩
  rw [hF]
  have hfa : frK [90] I (u1 I1 90 F.1) := hf1.u1 (by decide)
  have hT2 := hT.k hfa (by decide)
  have hB2 := hB.k hfa (by decide)
  have hL2 := hL.k hfa (by decide)
  refine x262_m (by omega) (fun h3 hh3 => x262 hh3 (s260 (by omega) hT2 hB2 hL2 fun I3 hf3 h115 => ?_))
  have hfb : frK [90, 114, 115] I I3 := (hfa.mo (by decide)).t (hf3.mo (by decide))
  have hL3 := hL.k hfb (by decide)
  have e2 : u1 I3 115 (I3 115) = I3 := u1_same
  have es : ∀ t : Nat, t < 5 → I3 115 t = slF I t := by
    intro t ht
    rw [h115 t ht]
    unfold slF
    rw [hfa 26 (by decide), misN_k hfa (by decide)]
  have hl3 := hL3.1
  simp only [Nat.reduceAdd] at hl3
  have hgo := s262_d (G := G) (h := h3) (I := I3) (J := J) (b := b) (K := fun y I2 J2 _ => F.2 = y ∧ INV (n + 1) I2 J2) (by omega) hL3 (I3 25 0).toNat 0 0 (I3 115, 0) (by omega) (by omega) (by omega) (by omega) ⟨fun t ht => by rw [hfb 26 (by decide)]; exact hsl _ es t ht, Int.le_refl _, by omega⟩ ?_
  · rw [e2] at hgo
    exact hgo
  rw [hfb 25 (by decide), plD_k hfb (by decide)]
  refine ⟨?_, hI2.sc (hfb.mo (by decide) |>.u1 (by decide)) (fun _ _ => rfl)⟩
  rw [← hF]
  exact plD_row hL (I 25 0).toNat 0 (I1 90, 0) (I3 115, 0) (by omega) (by omega) rfl (fun t ht => by show I1 90 t = I3 115 t; rw [h90 t ht, es t ht])
end PLAN
