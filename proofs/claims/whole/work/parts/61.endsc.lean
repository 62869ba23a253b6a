/-! which may be one: pairs of entries seen so far -/
def mE (p1 : List Lin) (I : MI) (cls : Nat → Int) (told a c p q : Nat) : Prop := ∃ a' c' : Nat, (a' < a ∨ (a' = a ∧ c' < c)) ∧ a' < told ∧ c' < told ∧ cls a' = p ∧ cls c' = q ∧ srt I cls told p = 0 ∧ srt I cls told q = 1 ∧ alN p1 I a' c' = true
theorem mE_all {p1 : List Lin} {I : MI} {cls : Nat → Int} {told : Nat} {p q : Nat} : mayE p1 I cls told p q = true ↔ mE p1 I cls told told 0 p q := by
  unfold mayE
  rw [decide_eq_true_eq]
  constructor
  · rintro ⟨a, h1, h2, c, h3, h4, h5, h6, h7⟩
    exact ⟨a, c, Or.inl h1, h1, h3, h2, h4, h5, h6, h7⟩
  · rintro ⟨a, c, -, h1, h3, h2, h4, h5, h6, h7⟩
    exact ⟨a, h1, h2, c, h3, h4, h5, h6, h7⟩
theorem mE_next {p1 : List Lin} {I : MI} {cls : Nat → Int} {told : Nat} {a p q : Nat} : mE p1 I cls told (a + 1) 0 p q ↔ mE p1 I cls told a told p q := by
  constructor
  · rintro ⟨a', c', h0, h1, h2, h3⟩
    exact ⟨a', c', by omega, h1, h2, h3⟩
  · rintro ⟨a', c', h0, h1, h2, h3⟩
    exact ⟨a', c', by omega, h1, h2, h3⟩
theorem mE_0 {p1 : List Lin} {I : MI} {cls : Nat → Int} {told : Nat} {p q : Nat} : ¬ mE p1 I cls told 0 0 p q := by
  rintro ⟨a', c', h0, -⟩
  omega
theorem mE_s {p1 : List Lin} {I : MI} {cls : Nat → Int} {told : Nat} {a c p q : Nat} (ha : a < told) (hc : c < told) : mE p1 I cls told a (c + 1) p q ↔ mE p1 I cls told a c p q ∨ (cls a = p ∧ cls c = q ∧ srt I cls told p = 0 ∧ srt I cls told q = 1 ∧ alN p1 I a c = true) := by
  constructor
  · rintro ⟨a', c', h0, h1, h2, h3⟩
    by_cases e : a' = a ∧ c' = c
    · rw [e.1, e.2] at h3
      exact Or.inr h3
    · exact Or.inl ⟨a', c', by omega, h1, h2, h3⟩
  · rintro (⟨a', c', h0, h1, h2, h3⟩ | h)
    · exact ⟨a', c', by omega, h1, h2, h3⟩
    · exact ⟨a, c, by omega, ha, hc, h⟩
theorem mE_no {p1 : List Lin} {I : MI} {cls : Nat → Int} {told : Nat} {a p q : Nat} (h : ∀ p : Nat, cls a = p → srt I cls told p ≠ 0) : mE p1 I cls told (a + 1) 0 p q ↔ mE p1 I cls told a 0 p q := by
  constructor
  · rintro ⟨a', c', h0, h1, h2, h3, h4, h5, h6⟩
    by_cases e : a' = a
    · rw [e] at h3
      exact absurd h5 (h p h3)
    · exact ⟨a', c', by omega, h1, h2, h3, h4, h5, h6⟩
  · rintro ⟨a', c', h0, h1, h2, h3⟩
    exact ⟨a', c', by omega, h1, h2, h3⟩
theorem grd_y {E : Nat → Nat → Bool} {p : Nat} {r A : List Nat} (h : feas E (p :: A)) : grd E (p :: r) A = grd E r (p :: A) := by
  show (@ite _ (feas E (p :: A)) (Classical.propDecidable _) (grd E r (p :: A)) (grd E r A)) = _
  exact if_pos h
theorem grd_n {E : Nat → Nat → Bool} {p : Nat} {r A : List Nat} (h : ¬ feas E (p :: A)) : grd E (p :: r) A = grd E r A := by
  show (@ite _ (feas E (p :: A)) (Classical.propDecidable _) (grd E r (p :: A)) (grd E r A)) = _
  exact if_neg h
theorem clsR {cls : Nat → Int} {N : Nat} (hcl : ∀ o, -1 ≤ cls o ∧ cls o < N) (e : Nat) : cls e = -1 ∨ ∃ q : Nat, cls e = q ∧ q < N := by
  have := hcl e
  by_cases h : cls e = -1
  · exact Or.inl h
  · exact Or.inr ⟨(cls e).toNat, by omega, by omega⟩
def CPs (p0 p1 : List Lin) (I : MI) (J : MJ) (cls : Nat → Int) (told N a c : Nat) (I' : MI) (J' : MJ) : Prop := (frK [18, 68, 69] I I' ∧ frJ [70, 71, 79] J J' ∧ likI p0 p1 I' J') ∧ ∀ p q : Nat, p < N → q < N → (bitJ J' 79 (p * 128 + q) = true ↔ mE p1 I cls told a c p q)
theorem ix128 {p q p' q' : Nat} (hq : q < 128) (hq' : q' < 128) (h : p' * 128 + q' = p * 128 + q) : p' = p ∧ q' = q := by omega
theorem ixb {p q N : Nat} (hp : p < N) (hq : q < N) (hN : N ≤ 120) : (0 : Int) ≤ ((p * 128 + q : Nat) : Int) ∧ ((p * 128 + q : Nat) : Int) < 15360 := by omega
section ENDSC
variable {G : Ctx} {h n : Nat} {I : MI} {J : MJ} {b : B3}
theorem s94_i {Q : MP} {p0 p1 : List Lin} {cls : Nat → Int} {told N a p : Nat} (hh : 5 ≤ h) (hT : rTown 0 92 I) (hB : rBook 0 92 I) (ht : rTxt 16 92 1 I false p1) (hto : I 7 0 = told) (hN : N ≤ 120) (c0 : I 72 0 = N) (c1 : ∀ e : Nat, e < told → I 73 e = cls e) (c2 : ∀ p : Nat, p < N → I 76 p = srt I cls told p + 1) (hcl : ∀ o, -1 ≤ cls o ∧ cls o < N) (ha : a < told) (hp : cls a = p) (hs : srt I cls told p = 0) : ∀ (m c : Nat) (I' : MI) (J' : MJ), c + m = told → CPs p0 p1 I J cls told N a c I' J' → (∀ I2 J2, CPs p0 p1 I J cls told N (a + 1) 0 I2 J2 → Tri G h 94 119 119 10 [some (vr 72), some (vi ((a : Int) + 1))] [] (I2, J2, PP b) Q) → Tri G h 94 119 119 41 [some (vr 72), some (vi (a : Int)), some (vi (p : Int)), some (vi (c : Int))] [] (I', J', PP b) Q := by
  have b1 := hB.1
  simp only [Nat.reduceAdd] at b1
  have hpa := hcl a
  intro m
  induction m with
  | zero =>
    intro c I' J' hc hC k
    obtain rfl : c = told := by omega
    refine x94_41 hh ?_
    rw [hC.1.1 7 (by decide), hto]
    refine ⟨fun _ => ?_, fun q => by omega⟩
    rw [w32_id (by omega) (by omega)]
    exact k I' J' ⟨hC.1, fun p' q' h1 h2 => by rw [hC.2 p' q' h1 h2, mE_next]⟩
  | succ m ih =>
    intro c I' J' hc hC k
    obtain ⟨⟨hf, hj, hl⟩, hb⟩ := hC
    have hcc := hcl c
    have e73 : I' 73 c = cls c := by rw [hf 73 (by decide)]; exact c1 c (by omega)
    have skip : ∀ I2 J2, frK [18, 68, 69] I I2 → frJ [70, 71, 79] J J2 → likI p0 p1 I2 J2 → (∀ j, bitJ J2 79 j = bitJ J' 79 j) → (∀ q : Nat, cls c = q → srt I cls told q = 1 → alN p1 I a c = true → False) → Tri G h 94 119 119 41 [some (vr 72), some (vi (a : Int)), some (vi (p : Int)), some (vi ((c : Int) + 1))] [] (I2, J2, PP b) Q := by
      intro I2 J2 g1 g2 g3 g4 hn
      refine ih (c + 1) I2 J2 (by omega) ⟨⟨g1, g2, g3⟩, fun p' q' h1 h2 => ?_⟩ k
      rw [g4, hb p' q' h1 h2, mE_s ha (by omega)]
      exact ⟨Or.inl, fun z => z.elim id fun z => (hn q' z.2.1 z.2.2.2.1 z.2.2.2.2).elim⟩
    refine x94_41 hh ?_
    rw [hf 7 (by decide), hto, toN, e73, hf 72 (by decide), c0, w32_id (x := (c : Int) + 1) (by omega) (by omega)]
    rcases clsR hcl c with e | ⟨q, e, hqN⟩
    · rw [e]
      exact ⟨fun z => by omega, fun _ => ⟨by omega, fun z => by omega, fun _ => skip I' J' hf hj hl (fun _ => rfl) (fun q h1 => by omega)⟩⟩
    · have hr := srt_r hB hto (x := c) (by omega) e
      have hr2 := srt_r hB hto ha hp
      rw [e, toN, hf 76 (by decide), c2 q hqN, show srt I cls told q + 1 - 1 = srt I cls told q by omega, w32_id (x := srt I cls told q) (by omega) (by omega)]
      refine ⟨fun z => by omega, fun _ => ⟨by omega, fun _ => ⟨by omega, fun q1 => skip I' J' hf hj hl (fun _ => rfl) (fun q' h1 h2 => ?_), fun q1 => ?_⟩, fun z => by omega⟩⟩
      · have : q' = q := by omega
        rw [this] at h2
        exact absurd h2 q1
      · have q2 := Decidable.of_not_not q1
        have hne : a ≠ c := by
          intro z
          rw [z, e] at hp
          have : q = p := by omega
          rw [this] at q2
          omega
        refine s58_1 hh (hT.k hf (by decide)) (hB.k hf (by decide)) (ht.k hf (by decide) (by decide) (by decide)) hl (by rw [hf 7 (by decide), hto]; omega) (by rw [hf 7 (by decide), hto]; omega) hne fun I2 J2 hf2 hj2 hl2 => ?_
        rw [alN_k p1 hf (by decide)]
        have g1 : frK [18, 68, 69] I I2 := hf.t hf2
        have g2 : frJ [70, 71, 79] J J2 := hj.t (hj2.mo (by decide))
        have g4 : ∀ j, bitJ J2 79 j = bitJ J' 79 j := fun j => by
          unfold bitJ
          rw [hj2 79 (by decide)]
        cases hal : alN p1 I a c with
        | false =>
          refine ⟨fun _ => skip I2 J2 g1 g2 hl2 g4 (fun q' _ _ h3 => ?_), fun z => absurd rfl z⟩
          rw [hal] at h3
          exact absurd h3 (by decide)
        | true =>
          refine ⟨fun z => absurd z (by decide), fun _ => ?_⟩
          have ew : w32 (w32 ((p : Int) * 128) + (q : Int)) = ((p * 128 + q : Nat) : Int) := by
            rw [w32_id (x := (p : Int) * 128) (by omega) (by omega), w32_id (by omega) (by omega)]
            omega
          rw [ew, toN]
          clear ew
          have hpN : p < N := by omega
          refine ⟨ixb hpN hqN hN, ih (c + 1) _ _ (by omega) ⟨⟨g1, g2.u (by decide), hl2.k (S := []) frK.r (by decide) (u2_ne (by decide)) (u2_ne (by decide))⟩, fun p' q' h1 h2 => ?_⟩ k⟩
          rw [bitJ_set, g4, Bool.or_eq_true, hb p' q' h1 h2, mE_s ha (by omega), decide_eq_true_eq]
          refine or_congr Iff.rfl ⟨fun z => ?_, fun z => ?_⟩
          · obtain ⟨z1, z2⟩ := ix128 (by omega) (by omega) z
            rw [z1, z2]
            exact ⟨hp, e, hs, q2, hal⟩
          · obtain ⟨z1, z2, -⟩ := z
            rw [Int.ofNat_inj.1 (z1.symm.trans hp), Int.ofNat_inj.1 (z2.symm.trans e)]
theorem s94_o {Q : MP} {p0 p1 : List Lin} {cls : Nat → Int} {told N : Nat} (hh : 5 ≤ h) (hT : rTown 0 92 I) (hB : rBook 0 92 I) (ht : rTxt 16 92 1 I false p1) (hto : I 7 0 = told) (hN : N ≤ 120) (c0 : I 72 0 = N) (c1 : ∀ e : Nat, e < told → I 73 e = cls e) (c2 : ∀ p : Nat, p < N → I 76 p = srt I cls told p + 1) (hcl : ∀ o, -1 ≤ cls o ∧ cls o < N) (k : ∀ I2 J2, CPs p0 p1 I J cls told N told 0 I2 J2 → Q none (I2, J2, PP b)) : ∀ (m a : Nat) (I' : MI) (J' : MJ), a + m = told → CPs p0 p1 I J cls told N a 0 I' J' → Tri G h 94 119 119 10 [some (vr 72), some (vi (a : Int))] [] (I', J', PP b) Q := by
  have b1 := hB.1
  simp only [Nat.reduceAdd] at b1
  intro m
  induction m with
  | zero =>
    intro a I' J' ha hC
    obtain rfl : a = told := by omega
    refine x94_10 (by omega) ?_
    rw [hC.1.1 7 (by decide), hto]
    exact ⟨fun _ => k I' J' hC, fun q => by omega⟩
  | succ m ih =>
    intro a I' J' ha hC
    have hf := hC.1.1
    have e73 : I' 73 a = cls a := by rw [hf 73 (by decide)]; exact c1 a (by omega)
    have skip : (∀ p : Nat, cls a = p → srt I cls told p ≠ 0) → Tri G h 94 119 119 10 [some (vr 72), some (vi ((a : Int) + 1))] [] (I', J', PP b) Q := fun hn => ih (a + 1) I' J' (by omega) ⟨hC.1, fun p' q' h1 h2 => by rw [hC.2 p' q' h1 h2, mE_no hn]⟩
    refine x94_10 (by omega) ?_
    rw [hf 7 (by decide), hto, toN, e73, hf 72 (by decide), c0, w32_id (x := (a : Int) + 1) (by omega) (by omega)]
    rcases clsR hcl a with e | ⟨p, e, hpN⟩
    · rw [e]
      exact ⟨fun z => by omega, fun _ => ⟨by omega, fun z => by omega, fun _ => skip (fun q h1 => by omega)⟩⟩
    · have hr := srt_r hB hto (x := a) (by omega) e
      rw [e, toN, hf 76 (by decide), c2 p hpN, show srt I cls told p + 1 - 1 = srt I cls told p by omega, w32_id (x := srt I cls told p) (by omega) (by omega)]
      refine ⟨fun z => by omega, fun _ => ⟨by omega, fun _ => ⟨by omega, fun q1 => skip (fun q' h1 => ?_), fun q1 => ?_⟩, fun z => by omega⟩⟩
      · have : q' = p := by omega
        rw [this]
        exact q1
      · exact s94_i hh hT hB ht hto hN c0 c1 c2 hcl (by omega) e (Decidable.of_not_not q1) told 0 I' J' (by omega) hC fun I2 J2 hC2 => ih (a + 1) I2 J2 (by omega) hC2
theorem s94 {K : MI → MJ → B3 → Prop} {p0 p1 : List Lin} {cls : Nat → Int} {told N : Nat} (hh : 6 ≤ h) (hT : rTown 0 92 I) (hB : rBook 0 92 I) (ht : rTxt 16 92 1 I false p1) (hl : likI p0 p1 I J) (hto : I 7 0 = told) (hN : N ≤ 120) (c0 : I 72 0 = N) (c1 : ∀ e : Nat, e < told → I 73 e = cls e) (c2 : ∀ p : Nat, p < N → I 76 p = srt I cls told p + 1) (hcl : ∀ o, -1 ≤ cls o ∧ cls o < N) (k : ∀ I2 J2, CPs p0 p1 I J cls told N told 0 I2 J2 → K I2 J2 b) : TriM G h 94 119 119 [vr 72] (I, J, PP b) (cVN K) := by
  refine x94_m hh (fun h hh => x94 (by omega) (s94_o (J := J) (by omega) hT hB ht hto hN c0 c1 c2 hcl (fun I2 J2 hC => cVN_r (k I2 J2 hC)) told 0 _ _ (by omega) ⟨⟨frK.r, fun k2 hk => u1_ne (fun e => hk (by rw [e]; decide)), hl.k (S := []) frK.r (by decide) (u1_ne (by decide)) (u1_ne (by decide))⟩, fun p q hp hq => ?_⟩))
  have : bitJ (u1 J 79 (fun j => if j < 240 then (0#64) else J 79 j)) 79 (p * 128 + q) = false := by
    unfold bitJ
    rw [u1_at, if_pos (by omega)]
    simp
  rw [this]
  exact ⟨fun z => absurd z (by decide), fun z => absurd z mE_0⟩
theorem s93_l {Q : MP} {E : Nat → Nat → Bool} {so : Nat → Int} {N : Nat} (hh : 3 ≤ h) (hES : ∀ p q, E p q = true → p < N ∧ q < N ∧ so p = 0 ∧ so q = 1) (hN : N ≤ 120) (c0 : I 72 0 = N) (c2 : ∀ p : Nat, p < N → I 76 p = so p + 1) (hso : ∀ p : Nat, p < N → 0 ≤ so p ∧ so p ≤ 2) (hE : ∀ p q : Nat, p < N → q < N → bitJ J 79 (p * 128 + q) = E p q) : ∀ (m p : Nat) (I' : MI) (A : List Nat), p + m = N → frK [72, 78, 80, 81] I I' → (∀ j, j ≠ 10 → I' 72 j = I 72 j) → I' 72 10 = A.length → CR E so N A (I' 80) N → A.Nodup → (∀ q ∈ A, q < p) → (∀ I2, frK [72, 78, 80, 81] I I2 → (∀ j, j ≠ 10 → I2 72 j = I 72 j) → I2 72 10 = (grd E ((List.range' p m).filter (fun p => decide (so p = 0))) A).length → Q (some (vi (I2 72 10))) (I2, J, PP b)) → Tri G h 93 119 119 32 [some (vr 72), some (vi (p : Int))] [] (I', J, PP b) Q := by
  intro m
  induction m with
  | zero =>
    intro p I' A hp hf h72 h10 hC hA hAp k
    refine x93_32 hh ?_
    rw [h72 0 (by decide), c0]
    exact ⟨fun _ => k I' hf h72 h10, fun q => by omega⟩
  | succ m ih =>
    intro p I' A hp hf h72 h10 hC hA hAp k
    have hpA : p ∉ A := fun z => by have := hAp p z; omega
    have hso2 := hso p (by omega)
    have hAl := nd_le hA (fun q hq => (hC.2.2.2 q hq).1)
    have er : (List.range' p (m + 1)).filter (fun p => decide (so p = 0)) = if so p = 0 then p :: (List.range' (p + 1) m).filter (fun p => decide (so p = 0)) else (List.range' (p + 1) m).filter (fun p => decide (so p = 0)) := by
      rw [List.range'_succ, List.filter_cons]
      by_cases z : so p = 0
      · rw [if_pos z, if_pos (decide_eq_true z)]
      · rw [if_neg z, if_neg (by simpa using z)]
    refine x93_32 hh ?_
    rw [h72 0 (by decide), c0, toN, hf 76 (by decide), c2 p (by omega), show so p + 1 - 1 = so p by omega, w32_id (x := so p) (by omega) (by omega), w32_id (x := (p : Int) + 1) (by omega) (by omega)]
    refine ⟨fun q => by omega, fun _ => ⟨fun _ => ⟨by omega, fun q1 => ?_, fun q1 => ?_⟩, fun q => by omega⟩⟩
    · rw [er, if_neg q1] at k
      exact ih (p + 1) I' A (by omega) hf h72 h10 hC hA (fun q hq => by have := hAp q hq; omega) k
    · have q2 := Decidable.of_not_not q1
      rw [er, if_pos q2] at k
      refine s95 (by omega) hES hN (by rw [h72 0 (by decide)]; exact c0) hpA hA ⟨by omega, q2⟩ hC hE (fun I2 hf2 hC2 => ?_) (fun I2 hf2 hC2 hno => ?_)
      · have hfe := (hC2.mv hES).fe
        refine ⟨fun q => absurd q (by decide), fun _ => ?_⟩
        rw [hf2 72 (by decide), h10, w32_id (by omega) (by omega)]
        refine ih (p + 1) _ (p :: A) (by omega) ((hf.t (hf2.mo (by decide))).u (by decide)) (fun j hj => ?_) ?_ ?_ (List.nodup_cons.2 ⟨hpA, hA⟩) (fun q hq => ?_) (fun I3 g1 g2 g3 => k I3 g1 g2 (by rw [grd_y hfe]; exact g3))
        · rw [u2j hj, hf2 72 (by decide)]
          exact h72 j hj
        · rw [u2e, List.length_cons]
          omega
        · rw [u2_ne (by decide)]
          exact hC2
        · rcases List.mem_cons.1 hq with rfl | hq
          · omega
          · have := hAp q hq
            omega
      · refine ⟨fun _ => ?_, fun q => absurd rfl q⟩
        exact ih (p + 1) I2 A (by omega) (hf.t (hf2.mo (by decide))) (fun j hj => by rw [hf2 72 (by decide)]; exact h72 j hj) (by rw [hf2 72 (by decide)]; exact h10) hC2 hA (fun q hq => by have := hAp q hq; omega) (fun I3 g1 g2 g3 => k I3 g1 g2 (by rw [grd_n hno]; exact g3))
/-- what there is of the persons, once gathered -/
def PF (p0 : List Lin) (I : MI) (cls : Nat → Int) (told N : Nat) : Prop := I 7 0 = told ∧ cls = (prs p0 I).1 ∧ N = (prs p0 I).2.length ∧ N ≤ 120 ∧ (∀ o, -1 ≤ cls o ∧ cls o < N) ∧ (∀ p : Nat, p < N → ∃ x : Nat, (prs p0 I).2[p]? = some x ∧ x < told ∧ cls x = p) ∧ ∀ p : Nat, p < N → 0 ≤ srt I cls told p ∧ srt I cls told p ≤ 2
theorem PF.ex (p0 : List Lin) (hB : rBook 0 92 I) : ∃ cls told N, PF p0 I cls told N := by
  have b1 := hB.1
  simp only [Nat.reduceAdd] at b1
  have hl := prs_len p0 I
  obtain ⟨x1, x2, x3⟩ := prs_x p0 I
  have hto : I 7 0 = ((I 7 0).toNat : Nat) := by omega
  have h5 : ∀ p : Nat, p < (prs p0 I).2.length → ∃ x : Nat, (prs p0 I).2[p]? = some x ∧ x < (I 7 0).toNat ∧ (prs p0 I).1 x = p := fun p hp => ⟨(prs p0 I).2[p], List.getElem?_eq_getElem hp, x3 p _ (List.getElem?_eq_getElem hp)⟩
  refine ⟨(prs p0 I).1, (I 7 0).toNat, (prs p0 I).2.length, hto, rfl, rfl, by omega, x2, h5, fun p hp => ?_⟩
  obtain ⟨x, -, g2, g3⟩ := h5 p hp
  exact srt_r hB hto g2 g3
theorem PF.es {p0 : List Lin} {cls : Nat → Int} {told N : Nat} (p1 : List Lin) (h : PF p0 I cls told N) : ∀ p q, mayE p1 I cls told p q = true → p < N ∧ q < N ∧ srt I cls told p = 0 ∧ srt I cls told q = 1 := by
  intro p q hm
  obtain ⟨-, -, -, -, hcl, -⟩ := h
  unfold mayE at hm
  rw [decide_eq_true_eq] at hm
  obtain ⟨a, h1, h2, c, h3, h4, h5, h6, h7⟩ := hm
  have g1 := hcl a
  have g2 := hcl c
  exact ⟨by omega, by omega, h5, h6⟩
theorem PF.co {p0 : List Lin} {cls : Nat → Int} {told N : Nat} (p1 : List Lin) (h : PF p0 I cls told N) : coup p0 p1 I = ((grd (mayE p1 I cls told) ((List.range' 0 N).filter (fun p => decide (srt I cls told p = 0))) []).length : Nat) := by
  obtain ⟨h1, h2, h3, -⟩ := h
  unfold coup
  rw [h1, toN, ← h2, ← h3, List.range_eq_range']
theorem s93 {K : Int → MI → MJ → B3 → Prop} {p0 p1 p2 : List Lin} {c : Nat} (hh : 7 ≤ h) (hI : INVp p0 p1 p2 c I J) (h3 : I 72 3 = 0) (k : ∀ I2 J2, INVp p0 p1 p2 c I2 J2 → frK [18, 68, 69, 72, 78, 80, 81] I I2 → K (coup p0 p1 I) I2 J2 b) : TriM G h 93 119 119 [vr 72] (I, J, PP b) (cIN K) := by
  have hp := hI.2.2.2 h3
  obtain ⟨d0, d1, d2, d3⟩ := hp
  have hT := hI.1.1.1
  have hB := hI.1.1.2.1
  obtain ⟨cls, told, N, hP⟩ := PF.ex p0 hB
  obtain ⟨hto, e1, e2, hN, hcl, hrow, hso⟩ := id hP
  have b1 := hB.1
  simp only [Nat.reduceAdd] at b1
  have c0 : I 72 0 = N := by rw [d0, e2]
  have c1 : ∀ e : Nat, e < told → I 73 e = cls e := fun e he => by rw [d1 e (by omega), if_pos (by omega), e1]
  have c2 : ∀ p : Nat, p < N → I 76 p = srt I cls told p + 1 := by
    intro p hp
    obtain ⟨x, hx, -⟩ := hrow p hp
    rw [(d2 p x hx).2.2.1, e1, hto, toN]
  refine x93_m hh (fun h hh => x93 (by omega) ⟨fun q1 => s94 (by omega) hT hB hI.1.2.1.2.1 hI.2.1 hto hN c0 c1 c2 hcl fun I1 J1 hC => ?_, fun q1 => cIN_r fun _ => ?_⟩)
  · obtain ⟨⟨hf, hj, hl⟩, hb⟩ := hC
    have hfb : frK [18, 68, 69, 72, 78, 80, 81] I (u2 (u1 I1 80 (fun j => if j < 120 then (-1) else I1 80 j)) 72 10 0) := ((hf.mo (by decide)).u1 (by decide)).u (by decide)
    have a72 : ∀ j, j ≠ 10 → (u2 (u1 I1 80 (fun j => if j < 120 then (-1) else I1 80 j)) 72 10 0) 72 j = I 72 j := fun j hj => by rw [u2j hj, u1_ne (by decide), hf 72 (by decide)]
    have a80 : ∀ q, q < 120 → (u2 (u1 I1 80 (fun j => if j < 120 then (-1) else I1 80 j)) 72 10 0) 80 q = -1 := fun q hq => by rw [u2_ne (by decide), u1_at, if_pos hq]
    have a10 : (u2 (u1 I1 80 (fun j => if j < 120 then (-1) else I1 80 j)) 72 10 0) 72 10 = 0 := u2e
    have alik : likI p0 p1 (u2 (u1 I1 80 (fun j => if j < 120 then (-1) else I1 80 j)) 72 10 0) J1 := hl.k (S := [72, 80]) (((frK.r (I := I1)).u1 (by decide)).u (by decide)) (by decide) rfl rfl
    generalize (u2 (u1 I1 80 (fun j => if j < 120 then (-1) else I1 80 j)) 72 10 0) = I2 at hfb a72 a80 a10 alik
    refine s93_l (I := I2) (E := mayE p1 I cls told) (so := fun p => srt I cls told p) (N := N) (by omega) (hP.es p1) hN (by rw [a72 0 (by decide)]; exact c0) (fun p hp => by rw [hfb 76 (by decide)]; exact c2 p hp) hso (fun p q hp hq => ?_) N 0 I2 [] (by omega) frK.r (fun _ _ => rfl) (by rw [a10]; rfl) ⟨fun p hp => by simp at hp, fun q hq _ _ => Or.inl (a80 q (by omega)), fun p hp _ _ => a80 p (by omega), fun p hp => by simp at hp⟩ List.nodup_nil (fun q hq => by simp at hq) (fun I3 g1 g2 g3 => cIN_r fun _ => ?_)
    · have := hb p q hp hq
      rw [← mE_all] at this
      rw [Bool.eq_iff_iff]
      exact this
    · have hf3 : frK [18, 68, 69, 72, 78, 80, 81] I I3 := hfb.t (g1.mo (by decide))
      have g4 : ∀ j, j ≠ 10 → I3 72 j = I 72 j := fun j hj => by rw [g2 j hj]; exact a72 j hj
      have hco : I3 72 10 = coup p0 p1 I := by rw [g3, hP.co p1]
      have kk := k I3 J1 ⟨hI.1.k (hf3.mo (by decide)) (fun j _ => by rw [hf3 91 (by decide)]) (hj 109 (by decide)), alik.k g1 (by decide) rfl rfl, ?_⟩ hf3
      · rw [hco]
        exact kk
      · refine ⟨Or.inl (by rw [g4 3 (by decide)]; exact h3), fun _ => ?_⟩
        rw [prs_k p0 hf3 (by decide), srt_c (hf3 8 (by decide)), inHs_c (hf3 8 (by decide)), hf3 7 (by decide), hf3 73 (by decide), hf3 74 (by decide), hf3 75 (by decide), hf3 76 (by decide), hj 77 (by decide), g4 0 (by decide), hco, coup_c p0 p1 (hf3 3 (by decide)) (hf3 4 (by decide)) (hf3 6 (by decide)) (hf3 7 (by decide)) (hf3 8 (by decide)) (hf3 9 (by decide)) (hf3 10 (by decide)) (hf3 11 (by decide)) (hf3 12 (by decide))]
        exact ⟨d0, d1, d2, Or.inr rfl⟩
  · rcases d3 with d3 | d3
    · exact absurd d3 q1
    · rw [d3]
      exact k I J hI frK.r
end ENDSC
